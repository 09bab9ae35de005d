/-! THE LAW, PURE: it answers 1. -/
section LA
variable {N j : Nat} {T : yT}
/-- rolled back to the end -/
theorem k_l356 (xc : Int32 → Option Int32) (hj : j ≤ 512) (w3 : Int32) : ∀ (l f : Nat) (T : yT), yI j T → T.2.length = l → l < f → ∃ T', T'.2 = [] ∧ yI j T' ∧ f_L_law_356 N xc f 1 w3 (nI l) T = f_L_law_388 N xc 1 w3 T'
  | l, 0, T, _, _, hf => absurd hf (Nat.not_lt_zero l)
  | 0, f + 1, T, g, hl, _ => by
    refine ⟨T, List.length_eq_zero_iff.mp hl, g, ?_⟩
    rw [f_L_law_356, if_pos (show nI 0 ≤ 0 by decide +kernel)]
  | l + 1, f + 1, T, g, hl, hf => by
    have g5 := g.k hj
    have h20 := g.1.2.2.1
    cases hH : T.2 with
    | nil => rw [hH] at hl; cases hl
    | cons e H =>
      have hl2 : H.length = l := by
        rw [hH, List.length_cons] at hl
        omega
      have g2 := o_roll g hH
      obtain ⟨T', t1, t2, t3⟩ := k_l356 xc hj w3 l f (yV_w T.1 e.1 e.2.1 e.2.2.1, H) g2 hl2 (by omega)
      refine ⟨T', t1, t2, ?_⟩
      rw [f_L_law_356, if_neg (nI_nle (by omega) (by omega)), if_neg i1_ne0, zbpS (b_roll g5 hH), zxR, if_pos (show nI H.length = nI (l + 1) - (1 : Int32) from by rw [← nI_1, Int32.add_sub_cancel, hl2])]
      unfold f_L_law_381
      rw [show nI (l + 1) + (-1) = nI l from nI_dec l (l + 1) rfl]
      exact t3
theorem k_l388 (xc : Int32 → Option Int32) (g : yOk 512 T) (h : T.2 = []) {w3 : Int32} (hw : ¬ (20 : Int32) ≤ w3) : f_L_law_388 N xc 1 w3 T = some (1, T) := by
  unfold f_L_law_388
  rw [if_neg i1_ne0, if_neg hw, zbpS ((kc_6 0 0 0 0 (b_roll_no g h)).trans yC3), if_pos rfl]
  rfl
theorem k_l342 (xc : Int32 → Option Int32) (g : yI j T) (hj : j ≤ 512) : ∃ T', f_L_law_342 N xc 1 T = some (1, T') := by
  have g5 := g.k hj
  have h20 := g.1.2.2.1
  unfold f_L_law_342
  cases hH : T.2 with
  | nil =>
    refine ⟨T, ?_⟩
    rw [zbpS ((kc_6 0 0 0 0 (b_roll_no g5 hH)).trans yC3), f_L_law_356, if_pos (show ((-8003) : Int32) ≤ 0 by decide)]
    exact k_l388 xc g5 hH (by decide)
  | cons e H =>
    have g2 := o_roll g hH
    have hl : H.length ≤ 19 := by
      rw [hH, List.length_cons] at h20
      omega
    obtain ⟨T', t1, t2, t3⟩ := k_l356 (N := N) xc hj (nI H.length) H.length 22 (yV_w T.1 e.1 e.2.1 e.2.2.1, H) g2 rfl (by omega)
    refine ⟨T', ?_⟩
    rw [zbpS ((kc_6 0 0 0 0 (b_roll g5 hH)).trans yCr), t3]
    exact k_l388 xc (t2.k hj) t1 (nI_ge (b := 20) (by omega) (by decide))
/-- the end of a round -/
theorem k_l206 (xc : Int32 → Option Int32) (kh : Int32 → Int32 → yT → Option (Int32 × yT)) (w3 w4 w5 : Int32) (g : yI j T) (hj : j ≤ 512) (hk : 1 ≤ yk T.1) : ∃ T', f_L_law_206 N xc kh w3 w4 w5 1 T = kh 1 (w3 + 1) T' ∧ yI j T' ∧ 1 ≤ yk T'.1 := by
  obtain ⟨T1, e1, g1, k1⟩ := k_grows (N := N) g hj hk (w4 >>> ((4 : Int32) &&& 31)) 0
  obtain ⟨T2, e2, g2, k2⟩ := k_weighs (N := N) g1 hj k1 (w4 >>> ((3 : Int32) &&& 31)) 0
  have g5 := g2.k hj
  have hk5 := yk5 g5
  obtain ⟨s, hs, e3⟩ := k_some N (w5 >>> ((5 : Int32) &&& 31)) (n := yk T2.1) k2 (by omega)
  have e4 := k_bests (N := N) g5 hs (w4 >>> ((2 : Int32) &&& 31))
  refine ⟨T2, ?_, g2, k2⟩
  have k330 : f_L_law_330 N xc kh w3 T2 = kh 1 (w3 + 1) T2 := rfl
  unfold f_L_law_206
  rw [if_neg i1_ne0, zbpS e1, if_neg i1_ne0, zbpS e2, if_neg i1_ne0, zbpS (a_sentences g5), zxR, zbindS e3, zbpS e4, if_neg i1_ne0]
  by_cases q : (0 : Int32) < w3 - w3 / (5 : Int32) * (5 : Int32)
  · rw [if_pos q]; exact k330
  · have c9 : f_L_call N T2 (9 : Int32) (-1 : Int32) (0 : Int32) (0 : Int32) (0 : Int32) = some (-8001, T2) := kc_9f (-1) 0 0 (a_trees_noF g5 (p := -1) (Or.inl (by decide)))
    have c13 : f_L_call N T2 (13 : Int32) (nI (yk T2.1)) (0 : Int32) (0 : Int32) (0 : Int32) = some (-8001, T2) := kc_13 (nI (yk T2.1)) 0 0 0 (a_crossings_out g5 (p := nI (yk T2.1)) (Or.inr (show nI (yk T2.1) ≤ nI (yk T2.1) from nI_le (Nat.le_refl _) (by omega))))
    have c12 : f_L_call N T2 (12 : Int32) (0 : Int32) (1 : Int32) (0 : Int32) (0 : Int32) = some (-8001, T2) := kc_12t 0 0 0 (a_head_wordT g5 (s := 0) (p := 0) k2 (Or.inl (by decide)))
    have c15 : f_L_call N T2 (15 : Int32) (0 : Int32) (1 : Int32) (0 : Int32) (0 : Int32) = some (-8001, T2) := kc_15t 0 0 0 (a_rankedHead_wordT g5 (s := 0) (p := 0) (r := 0) k2 (Or.inl (by decide)))
    rw [if_neg q, zbpS c9, if_pos rfl, zbpS (a_sentences g5), zxR, zbpS c13, if_pos rfl, zbpS c12, if_pos rfl, zbpS c15, if_pos rfl]
    exact k330
theorem k_l103 (xc : Int32 → Option Int32) (kh : Int32 → Int32 → yT → Option (Int32 × yT)) (w3 w4 w5 odd : Int32) (g : yI j T) (hj : j + 4 ≤ 512) (hk : 1 ≤ yk T.1) : ∃ T', f_L_law_103 N xc kh w3 w4 w5 odd T = kh 1 (w3 + 1) T' ∧ yI (j + 4) T' ∧ 1 ≤ yk T'.1 := by
  have g5 := g.k (by omega)
  have hk5 := yk5 g5
  obtain ⟨z, hz, e⟩ := k_some N w4 (n := 16) (by decide) (by decide)
  unfold f_L_law_103
  rw [zbindS (show f_L_some N w4 (16 : Int32) = _ from e)]
  have fin : ∀ T1, yI (j + 4) T1 → 1 ≤ yk T1.1 → ∃ T', f_L_law_206 N xc kh w3 w4 w5 1 T1 = kh 1 (w3 + 1) T' ∧ yI (j + 4) T' ∧ 1 ≤ yk T'.1 := fun T1 g1 k1 => k_l206 xc kh w3 w4 w5 g1 hj k1
  by_cases c5 : (5 : Int32) ≤ nI z
  · rw [if_pos c5]
    by_cases c9 : (9 : Int32) ≤ nI z
    · rw [if_pos c9]
      by_cases c12 : (12 : Int32) ≤ nI z
      · rw [if_pos c12]
        by_cases c15 : (15 : Int32) ≤ nI z
        · have c5 : f_L_call N T (5 : Int32) (nI (yk T.1)) (0 : Int32) (0 : Int32) (0 : Int32) = some (-8001, T) := kc_5 (nI (yk T.1)) 0 0 0 (b_mend_out g5 (p := nI (yk T.1)) (Or.inr (show nI (yk T.1) ≤ nI (yk T.1) from nI_le (Nat.le_refl _) (by omega))))
          rw [if_pos c15, zbpS (a_sentences g5), zxR, zbpS c5, if_pos rfl]
          exact fin T (yI_mono g (by omega)) hk
        · obtain ⟨T1, e1, g1, k1⟩ := k_mends (N := N) g hj hk w5
          rw [if_neg c15, zbpS e1]
          exact fin T1 g1 k1
      · obtain ⟨T1, e1, g1, k1⟩ := k_weighs (N := N) g (by omega) hk w5 odd
        rw [if_neg c12, zbpS e1]
        exact fin T1 (yI_mono g1 (by omega)) k1
    · obtain ⟨T1, e1, g1, k1⟩ := k_marks (N := N) g (by omega) hk w5 odd
      rw [if_neg c9, zbpS e1]
      exact fin T1 (yI_mono g1 (by omega)) k1
  · obtain ⟨T1, e1, g1, k1⟩ := k_grows (N := N) g (by omega) hk w5 odd
    rw [if_neg c5, zbpS e1]
    exact fin T1 (yI_mono g1 (by omega)) k1
theorem k_l55 (xc : Int32 → Option Int32) (hxc : ∀ n, n < 60 → ∃ v, xc (nI n) = some v) : ∀ (d f k : Nat) (T : yT), k + d = 30 → d < f → yI (4 * k) T → 1 ≤ yk T.1 → ∃ T', f_L_law_55 N xc f 1 (nI k) T = some (1, T')
  | d, 0, k, T, _, hf, _, _ => absurd hf (Nat.not_lt_zero d)
  | 0, f + 1, k, T, hd, _, g, _ => by
    rw [f_L_law_55, if_pos (show (30 : Int32) ≤ nI k from nI_le (a := 30) (by omega) (by omega))]
    exact k_l342 xc g (by omega)
  | d + 1, f + 1, k, T, hd, hf, g, hk => by
    obtain ⟨v1, e1⟩ := hxc (2 * k) (by omega)
    obtain ⟨v2, e2⟩ := hxc (2 * k + 1) (by omega)
    obtain ⟨r, hr, er⟩ := k_some N (v1 >>> ((9 : Int32) &&& 31)) (n := 10) (by decide) (by decide)
    have m1 : (2 : Int32) * nI k = nI (2 * k) := (Int32.ofNat_mul 2 k).symm
    have m2 : nI (2 * k) + (1 : Int32) = nI (2 * k + 1) := nI_1 _
    have key : ∀ odd : Int32, ∃ T', f_L_law_103 N xc (fun y2 y3 T => f_L_law_55 N xc f y2 y3 T) (nI k) v1 v2 odd T = some (1, T') := fun odd => by
      obtain ⟨T1, t1, t2, t3⟩ := k_l103 (N := N) xc (fun y2 y3 T => f_L_law_55 N xc f y2 y3 T) (nI k) v1 v2 odd g (by omega) hk
      rw [t1, nI_1]
      exact k_l55 xc hxc d f (k + 1) T1 (by omega) (by omega) (by rw [show 4 * (k + 1) = 4 * k + 4 by omega]; exact t2) t3
    rw [f_L_law_55, if_neg (show ¬ (30 : Int32) ≤ nI k from nI_ge (b := 30) (by omega) (by decide)), if_neg i1_ne0, m1, zbindS e1, m2, zbindS e2, zbindS (show f_L_some N (v1 >>> ((9 : Int32) &&& 31)) (10 : Int32) = _ from er)]
    by_cases z : nI r = 0
    · rw [if_pos z]; exact key 1
    · rw [if_neg z]; exact key 0
theorem yI_0 : yI 0 yT0 := ⟨yOk_0, fun s hs => absurd hs (Nat.not_lt_zero s)⟩
/-- THE LAW HOLDS -/
theorem k_law (xc : Int32 → Option Int32) (hxc : ∀ n, n < 60 → ∃ v, xc (nI n) = some v) : ∃ T', f_L_law_8 N xc yT0 = some (1, T') := by
  have g0 := yI_0
  have g05 := g0.k (by omega)
  have g1 := o_addS g0 (by decide)
  have g15 := g1.k (by omega)
  have hs1 : 0 < yk ((yV_s yT0.1, yT0.2) : yT).1 := by decide
  have n1 : yn ((yV_s yT0.1, yT0.2) : yT).1 0 = 0 := rfl
  have g2 := o_addW g1 hs1 (q := 1) (by decide) (by rw [n1]; decide)
  have g25 := g2.k (by omega)
  have n2 : yn (y_addW (yV_s yT0.1, yT0.2) 0 1).1 0 = 1 := rfl
  have hs2 : 0 < yk (y_addW (yV_s yT0.1, yT0.2) 0 1).1 := hs1
  have g3 := o_addW g2 hs2 (q := 2) (by decide) (by rw [n2]; decide)
  have c1 : y_X6_addSentence yT0 = some (.inr 0, (yV_s yT0.1, yT0.2)) := b_addS g05 (by decide)
  have c2 : y_X6_addWord (yV_s yT0.1, yT0.2) (0 : Int32) (1 : Int32) = some (.inr 1, y_addW (yV_s yT0.1, yT0.2) 0 1) := b_addW g15 hs1 (q := 1) (by decide) (by rw [n1]; decide)
  have c3 : y_X6_addWord (y_addW (yV_s yT0.1, yT0.2) 0 1) (0 : Int32) (2 : Int32) = some (.inr 2, y_addW (y_addW (yV_s yT0.1, yT0.2) 0 1) 0 2) := b_addW g25 hs2 (q := 2) (by decide) (by rw [n2]; decide)
  obtain ⟨T', e⟩ := k_l55 (N := N) xc hxc 30 31 0 _ (by decide) (by decide) g3 hs2
  refine ⟨T', ?_⟩
  unfold f_L_law_8
  rw [zbpS (k_all g05), zbpS (k_all g05), if_pos rfl, zbpS c1, zxR, if_pos rfl, zbpS c2, zxR, if_pos rfl, zbpS c3, zxR, if_pos rfl]
  exact e
end LA
