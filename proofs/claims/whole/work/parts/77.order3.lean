/-! order -/
section Order
variable {ma : Nat → Int32} {pa pb : Nat → Nat} {c : Nat}
def lft (pa : Nat → Nat) (c s : Nat) : Nat := cn (fun k => !tb s (pa k)) c
def ntf (pa : Nat → Nat) (c d : Nat) : Nat := cn (fun k => decide (pa k = d)) c
theorem ntf_s (d s : Nat) : ntf pa c d = qv pa pb c d s + gnn pa pb d s c := by
  refine cn_add c (fun k _ => ?_)
  cases tb s (pb k) <;> cases decide (pa k = d) <;> rfl
theorem lft_s (hn : nts ma pa pb c) {s d : Nat} (hs : s < 256) (hd : d < 8) (h : tb s d = false) : lft pa c s = ntf pa c d + lft pa c (s + 2 ^ d) := by
  refine cn_add c (fun k hk => ?_)
  rw [y_oth s hs d hd h (pa k) (hn k hk).2.1]
  by_cases q : pa k = d
  · rw [q, h, decide_eq_true rfl]; rfl
  · rw [decide_eq_false q, Bool.or_false]
    cases tb s (pa k) <;> rfl
theorem lft_0 (hn : nts ma pa pb c) : lft pa c 0 = c := cn_1 c (fun k hk => by rw [y_0 _ (hn k hk).2.1]; rfl)
theorem lft_255 (hn : nts ma pa pb c) : lft pa c 255 = 0 := cn_0 c (fun k hk => by rw [y_255 _ (hn k hk).2.1]; rfl)
theorem a_le {ag : Nat → Nat} (h : aok pa pb c ag 0) {s d : Nat} (hs : s < 256) (hd : d < 8) (ht : tb s d = false) : gnn pa pb d s c + ag (s + 2 ^ d) ≤ ag s := by
  by_cases q : s = 255
  · subst q; rw [y_255 d hd] at ht; cases ht
  · rw [(h.2 s (Nat.zero_le _) (by omega)).1, ← agf_f ht]
    exact fx_ge 8 d hd
theorem a_at {ag : Nat → Nat} (h : aok pa pb c ag 0) {s : Nat} (hs : s < 256) (hp : pcn s < 8) : ∃ d, d < 8 ∧ tb s d = false ∧ ag s = gnn pa pb d s c + ag (s + 2 ^ d) := by
  have h5 : s ≠ 255 := by
    intro q
    subst q
    exact absurd hp (by decide)
  have e := (h.2 s (Nat.zero_le _) (by omega)).1
  rcases fx_at (agf pa pb c ag s) 8 with h1 | ⟨d, hd, h1⟩
  · obtain ⟨d, hd, ht⟩ := y_free s hs hp
    have q := a_le h hs hd ht
    exact ⟨d, hd, ht, by omega⟩
  · cases ht : tb s d with
    | false => exact ⟨d, hd, ht, by rw [e, ← h1, agf_f ht]⟩
    | true =>
      rw [agf_t ht] at h1
      obtain ⟨d', hd', ht'⟩ := y_free s hs hp
      have q := a_le h hs hd' ht'
      exact ⟨d', hd', ht', by omega⟩
theorem a_lft (hn : nts ma pa pb c) {ag : Nat → Nat} (h : aok pa pb c ag 0) : ∀ n s, s < 256 → 8 - pcn s = n → ag s ≤ lft pa c s := by
  intro n
  induction n with
  | zero =>
    intro s hs hp
    have h8 := y_pc 8 (by decide) s hs
    have : s = 255 := y_pc8 s hs (by omega)
    subst this
    rw [h.1]; exact Nat.zero_le _
  | succ n ih =>
    intro s hs hp
    obtain ⟨d, hd, ht, e⟩ := a_at h hs (by omega)
    obtain ⟨y1, y2, y3⟩ := y_add s hs d hd ht
    have q := ih (s + 2 ^ d) y1 (by omega)
    have q2 := lft_s hn hs hd ht
    have q3 := ntf_s (pa := pa) (pb := pb) (c := c) d s
    omega
def admO (_i s d : Nat) : Prop := d < 8 ∧ tb s d = false
abbrev wtO (pa pb : Nat → Nat) (c _i s d : Nat) : Nat := qv pa pb c d s
def nxO (s d : Nat) : Nat := s + 2 ^ d
abbrev GO (pa : Nat → Nat) (c : Nat) (ag : Nat → Nat) (_i s : Nat) : Nat := lft pa c s - ag s
theorem bestO (hn : nts ma pa pb c) (hc : c ≤ 100) {ag kf : Nat → Nat} (h : aok pa pb c ag 0) (hk : kok pa pb c kf 255) :
    ∃ gr : Nat → Nat → Nat, (∀ i s, i < 8 → s < 256 ∧ pcn s = i → isG admO (wtO pa pb c) nxO (GO pa c ag) i s (gr i s)) ∧ kf 255 = GO pa c ag 0 0 * 8 ^ 8 + Rw 8 gr nxO 8 0 0 := by
  have al := a_lft hn h
  have g1 : ∀ s d, s < 256 → d < 8 → tb s d = false → lft pa c s - ag s ≤ qv pa pb c d s + (lft pa c (s + 2 ^ d) - ag (s + 2 ^ d)) := by
    intro s d hs hd ht
    obtain ⟨y1, y2, y3⟩ := y_add s hs d hd ht
    have q1 := a_le h hs hd ht
    have q2 := lft_s hn hs hd ht
    have q3 := ntf_s (pa := pa) (pb := pb) (c := c) d s
    have q4 := al _ s hs rfl
    have q5 := al _ _ y1 rfl
    omega
  refine ways (B := 8) (N := 8) (by decide) (by decide) (V := fun i s => s < 256 ∧ pcn s = i) (adm := admO) (wt := wtO pa pb c) (nx := nxO) (G := GO pa c ag) (K := fun _ s => kf s) (rc := fun i s => s < 256 ∧ pcn s = i) (s0 := 0) (best := kf 255) ⟨by decide, by decide⟩ ?_ ?_ ?_ ?_ ?_ ⟨by decide, by decide⟩ ?_ ?_ ?_ ?_
  · rintro i s d hi ⟨hs, hp⟩ ⟨hd, ht⟩
    obtain ⟨y1, y2, y3⟩ := y_add s hs d hd ht
    exact ⟨y1, by unfold nxO; omega⟩
  · rintro i s d ⟨hd, ht⟩
    exact hd
  · rintro i s d hi ⟨hs, hp⟩ ⟨hd, ht⟩
    exact g1 s d hs hd ht
  · rintro i s hi ⟨hs, hp⟩
    obtain ⟨d, hd, ht, e⟩ := a_at h hs (by omega)
    refine ⟨d, ⟨hd, ht⟩, ?_⟩
    obtain ⟨y1, y2, y3⟩ := y_add s hs d hd ht
    have q2 := lft_s hn hs hd ht
    have q3 := ntf_s (pa := pa) (pb := pb) (c := c) d s
    have q5 := al _ _ y1 rfl
    show lft pa c s - ag s = qv pa pb c d s + (lft pa c (s + 2 ^ d) - ag (s + 2 ^ d))
    omega
  · rintro s ⟨hs, hp⟩
    have := y_pc0 s hs hp
    subst this
    exact ⟨rfl, hk.1⟩
  · rintro i t hi ⟨ht, hp⟩
    have h0 : 0 < t := by
      rcases Nat.eq_zero_or_pos t with q | q
      · subst q; rw [show pcn 0 = 0 from by decide] at hp; omega
      · exact q
    obtain ⟨e1, e2⟩ := hk.2 t h0 (by omega)
    rcases fm_at (bof (qq pa pb c) (qq pa pb c) kf t) uU 8 with q | ⟨d, hd, q⟩
    · exfalso
      rw [← e1] at q
      have h8 := y_pc 8 (by decide) t ht
      unfold uU at q
      omega
    · cases hb : tb t d with
      | false => rw [bof_n hb] at q; cases q
      | true =>
        obtain ⟨y1, y2, y3⟩ := y_sub t ht d hd hb
        refine ⟨t - 2 ^ d, d, ⟨Nat.lt_of_le_of_lt (Nat.sub_le _ _) ht, by omega⟩, ⟨hd, y2⟩, ?_, ?_⟩
        · unfold nxO; omega
        · rw [bof_s hb, ← e1] at q
          have q2 := (Option.some.inj q).symm
          show kf t = _
          rw [show 7 - i = 8 - pcn t by omega]
          exact q2
  · rintro i s d hi ⟨hs, hp⟩ ⟨hd, ht⟩
    obtain ⟨y1, y2, y3⟩ := y_add s hs d hd ht
    have hpw := (y_pw d hd).1
    refine ⟨⟨y1, by unfold nxO; omega⟩, ?_⟩
    obtain ⟨e1, e2⟩ := hk.2 (s + 2 ^ d) (by omega) (by omega)
    show kf (s + 2 ^ d) ≤ _
    have q := fm_le (f := bof (qq pa pb c) (qq pa pb c) kf (s + 2 ^ d)) (v := uU) 8 d _ hd (bof_s y2)
    rw [e1]
    rw [show s + 2 ^ d - 2 ^ d = s from Nat.add_sub_cancel _ _, show 8 - pcn (s + 2 ^ d) = 7 - i by omega] at q
    exact q
  · rintro t ⟨ht, hp⟩
    rw [y_pc8 t ht hp]
    exact Nat.le_add_right _ _
  · refine ⟨255, ⟨by decide, by decide⟩, ?_⟩
    show kf 255 = kf 255 + (lft pa c 255 - ag 255) * 8 ^ 8
    rw [lft_255 hn, Nat.zero_sub, Nat.zero_mul, Nat.add_zero]
def tlO (gr : Nat → Nat → Nat) : Nat → Int32
  | 0 => 0
  | k + 1 => nI (gr k (ph gr nxO 0 k))
theorem tellO (hn : nts ma pa pb c) (hc : c ≤ 100) {ag : Nat → Nat} (h : aok pa pb c ag 0) {w : Nat → Int32} (hw : ∀ t, t < 256 → w t = nI (ag t)) {gr : Nat → Nat → Nat} (hg : ∀ i s, i < 8 → s < 256 ∧ pcn s = i → isG admO (wtO pa pb c) nxO (GO pa c ag) i s (gr i s)) (hv : ∀ k, k < 8 → ph gr nxO 0 k < 256 ∧ pcn (ph gr nxO 0 k) = k) {e : Nat} (he : e < 8) :
    it (fX10_order_L3 (nI e) (nI c) ma w) 100000 (0, 0, 0) = some (nI (gr e (ph gr nxO 0 e))) := by
  have al := a_lft hn h
  have ab : ∀ t, t < 256 → ag t ≤ 800 := by
    intro t ht
    have := aok_b h (Nat.zero_le t) ht
    omega
  refine it_loop (st := fun k => (nI (ph gr nxO 0 k), tlO gr k, nI k)) (e + 1) (by omega) (fun k hk => ?_) ?_
  · have hkc : k < 8 := by omega
    have hs := hv k hkc
    have hG := hg k _ hkc hs
    have eph : ph gr nxO 0 (k + 1) = nxO (ph gr nxO 0 k) (gr k (ph gr nxO 0 k)) := rfl
    have etl : tlO gr (k + 1) = nI (gr k (ph gr nxO 0 k)) := rfl
    rw [eph, etl]
    generalize ph gr nxO 0 k = s at hs hG ⊢
    generalize gr k s = d at hG ⊢
    obtain ⟨⟨⟨hd, ht⟩, hq⟩, hl⟩ := hG
    obtain ⟨hs, hp⟩ := hs
    have iff_ : ∀ m, m < 8 → tb s m = false → (GO pa c ag k s = wtO pa pb c k s m + GO pa c ag (k + 1) (nxO s m) ↔ gnn pa pb m s c + ag (s + 2 ^ m) = ag s) := by
      intro m hm hb
      obtain ⟨y1, y2, y3⟩ := y_add s hs m hm hb
      have q1 := a_le h hs hm hb
      have q2 := lft_s hn hs hm hb
      have q3 := ntf_s (pa := pa) (pb := pb) (c := c) m s
      have q4 := al _ s hs rfl
      have q5 := al _ _ y1 rfl
      show (lft pa c s - ag s = qv pa pb c m s + (lft pa c (s + 2 ^ m) - ag (s + 2 ^ m)) ↔ _)
      omega
    have inner : it (fX10_order_L4 (nI s) (nI c) ma w) 100000 0 = some (nI d) := by
      refine it_loop (st := fun m => nI m) d (by omega) (fun m hm => ?_) ?_
      · unfold fX10_order_L4
        cases h3 : tb s m with
        | true => rw [if_pos (z_shr1 hs (by omega) h3), bv_d, nI_1]
        | false =>
          obtain ⟨y1, y2, y3⟩ := y_add s hs m (by omega) h3
          have a1 := ab _ y1
          have a2 := ab _ hs
          have hgl : gnn pa pb m s c ≤ c := cn_le _ _
          have hne : ¬ nI (gnn pa pb m s c + ag (s + 2 ^ m)) = nI (ag s) := by
            intro q2
            exact hl m hm ⟨⟨by omega, h3⟩, (iff_ m (by omega) h3).mpr ((nI_eq (by omega) (by omega)).mp q2)⟩
          rw [if_neg (show ¬ (nI s >>> (nI m &&& 31)) &&& 1 = 1 from by rw [z_shr0 hs (by omega) h3]; decide), gainM hn hc (by omega) hs, ob_s, z_or s hs m (by omega) h3, in_bnd (vp_in_nI y1 (by decide)), in_bnd (vp_in_nI hs (by decide)), gd_t, gd_t, nI_clamp (by omega), nI_clamp (by omega), hw _ y1, hw _ hs, nI_add, if_neg hne, bv_d, nI_1]
      · unfold fX10_order_L4
        obtain ⟨y1, y2, y3⟩ := y_add s hs d hd ht
        have he2 : nI (gnn pa pb d s c + ag (s + 2 ^ d)) = nI (ag s) := congrArg nI ((iff_ d hd ht).mp hq)
        rw [if_neg (show ¬ (nI s >>> (nI d &&& 31)) &&& 1 = 1 from by rw [z_shr0 hs hd ht]; decide), gainM hn hc hd hs, ob_s, z_or s hs d hd ht, in_bnd (vp_in_nI y1 (by decide)), in_bnd (vp_in_nI hs (by decide)), gd_t, gd_t, nI_clamp (by omega), nI_clamp (by omega), hw _ y1, hw _ hs, nI_add, if_pos he2]
    unfold fX10_order_L3
    dsimp only [un3]
    rw [if_neg (nI_nlt (show k ≤ e by omega) (by omega)), inner, ob_s, bv_d, bv_d, nI_1, z_or s hs d hd ht]
    rfl
  · unfold fX10_order_L3
    dsimp only [un3]
    rw [if_pos (nI_lt (show e < e + 1 by omega) (by omega))]
    rfl
end Order
theorem order_ok (x1 : Int32) {l : Int32} {a : Nat → Int32} {ml : Int32} {ma : Nat → Int32} (h : R_notes l a ml ma) (vo : Nat → Int32) (ke : Nat → Int64) (ag : Nat → Int32) : ∃ r vo' ke' ag', fX9_order x1 2 l 200 a vo ke = some (r, vo', ke') ∧ fX10_order x1 ml ma ag = some (r, ag') := by
  obtain ⟨c, hc, rfl, rfl, ha, hr⟩ := h
  obtain ⟨pa, pb, hn⟩ : ∃ pa pb : Nat → Nat, nts ma pa pb c := by
    refine ⟨fun k => (ma (2 * k)).toInt.toNat, fun k => (ma (2 * k + 1)).toInt.toNat, ?_⟩
    intro k hk
    obtain ⟨r1, r2, -⟩ := hr k hk
    have f : ∀ x : Int32, rg x 0 7 → x = nI x.toInt.toNat ∧ x.toInt.toNat < 8 := by
      intro x hx
      refine ⟨?_, ?_⟩
      · rw [← iI_nat hx.1, iI_of]
      · have q1 := hx.1
        have q2 := hx.2
        omega
    exact ⟨(f _ r1).1, (f _ r1).2, (f _ r2).1, (f _ r2).2⟩
  unfold fX9_order fX10_order
  rw [isWithin_eq, in_eq, ob_s, ob_s]
  cases hx : wi x1 0 8 with
  | false =>
    rw [ite_bf, ite_bf]
    exact ⟨_, _, _, _, rfl, rfl⟩
  | true =>
    obtain ⟨kf, vo', ke', hk, eX⟩ := keysX hn hc ha vo ke
    obtain ⟨agn, w, hag, eM, hw⟩ := agreeM hn hc ag
    obtain ⟨gr, hg, hbest⟩ := bestO hn hc hag hk
    have hgl : ∀ i s, i < 8 → s < 256 ∧ pcn s = i → gr i s < 8 ∧ (nxO s (gr i s) < 256 ∧ pcn (nxO s (gr i s)) = i + 1) := by
      intro i s hi hs
      obtain ⟨hd, ht⟩ := (hg i s hi hs).1.1
      obtain ⟨y1, y2, y3⟩ := y_add s hs.1 _ hd ht
      exact ⟨hd, y1, by unfold nxO; omega⟩
    obtain ⟨g1, g2⟩ := digs (B := 8) (N := 8) (V := fun i s => s < 256 ∧ pcn s = i) (by decide) (by decide) ⟨by decide, by decide⟩ hgl hbest
    have kb := kok_b hk (by decide) (Nat.le_refl 255)
    rw [show pcn 255 = 8 from by decide] at kb
    generalize kf 255 = best at *
    have bl2 : best < 2 ^ 63 := by omega
    rw [ite_b, ite_b, eX, ob3_s, show bnd 255 256 = true from by decide, gd_t, bv_d, show Int32.toNatClampNeg 255 = 255 from by decide, eM, ob_s]
    obtain ⟨e, -, he, rfl⟩ := rg_n (hi := 8) (wi_lit hx (a := 0) (b := 8) (by decide) (by decide)) (by decide)
    by_cases q : e = 8
    · subst q
      rw [if_pos (show nI 8 = 8 from rfl), if_pos (show nI 8 = 8 from rfl), show bnd 0 256 = true from by decide, gd_t, show Int32.toNatClampNeg 0 = 0 from by decide, hw 0 (by decide)]
      unfold fX5_quarrelOf
      have q4 := a_lft hn hag _ 0 (by decide) rfl
      rw [lft_0 hn] at q4
      rw [l_shr bl2 _ 24 s_24, lN_i, ob_s, e248, g1, pk_sub q4]
      refine ⟨_, _, _, w, rfl, ?_⟩
      show some (nI (c - agn 0), w) = some (nI (lft pa c 0 - agn 0), w)
      rw [lft_0 hn]
    · have he8 : e < 8 := by omega
      rw [if_neg (show ¬ nI e = 8 from nI_ne (b := 8) q (by omega) (by decide)), if_neg (show ¬ nI e = 8 from nI_ne (b := 8) q (by omega) (by decide)), tellO hn hc hag hw hg (fun k hk => (g2 k hk).2) he8, ob_s]
      unfold fX5_formAt
      have dl : best / 2 ^ (3 * (7 - e)) ≤ best := Nat.div_le_self _ _
      rw [l_shr bl2 _ _ (s_3 e he8), l_and (by omega) 3 (by decide), lN_i, ob_s, (p_8 e he8).1, show (2 : Nat) ^ 3 = 8 from by decide, (g2 e he8).1]
      exact ⟨_, _, _, _, rfl, rfl⟩
