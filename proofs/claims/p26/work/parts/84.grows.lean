/-! GROWS, WEIGHS: they answer 1. -/
section GR
variable {N j : Nat} {T : yT}
theorem k_g274 (g : yOk 512 T) (x : Int32) : f_L_grows_274 N (y_ah T.1) x x T = some (1, T) := by
  unfold f_L_grows_274
  rw [if_pos rfl, zbpS (k_all g), if_pos rfl]
  rfl
theorem k_g251 (g : yOk 512 T) {p : Int32} (hp : p < 0 ∨ nI (yk T.1) ≤ p) : f_L_grows_251 N (y_ah T.1) (nI (yk T.1)) p (-8001) T = some (1, T) := by
  unfold f_L_grows_251 f_L_grows_265
  by_cases q : p < 0
  · rw [if_pos q]; exact k_g274 g _
  · have h : ¬ p < nI (yk T.1) := fun z => by
      rcases hp with y | y
      · exact q y
      · rw [Int32.le_iff_toInt_le] at y
        rw [Int32.lt_iff_toInt_lt] at z
        omega
    rw [if_neg q, if_neg h]; exact k_g274 g _
theorem k_g160 (g : yI j T) (hj : j ≤ 512) (hk : 1 ≤ yk T.1) (p q : Int32) : ∃ T', f_L_grows_160 N (y_ah T.1) (nI (yk T.1)) p q T = some (1, T') ∧ yI j T' ∧ 1 ≤ yk T'.1 := by
  have g5 := g.k hj
  have hk5 := yk5 g5
  unfold f_L_grows_160
  rcases zix1 p hk5 with hp | ⟨s, hs, rfl⟩
  · have key : f_L_grows_215 N (y_ah T.1) (nI (yk T.1)) p q T = some (1, T) := by
      unfold f_L_grows_215
      rw [zbpS ((kc_1 p q 0 0 (b_addW_out g5 q hp)).trans yC1)]
      by_cases y : p < 0
      · rw [if_pos y]; exact k_g251 g5 hp
      · rw [if_neg y, if_pos (hp.resolve_left y)]; exact k_g251 g5 hp
    refine ⟨T, ?_, g, hk⟩
    by_cases y : p < 0
    · rw [if_pos y]; exact key
    · rw [if_neg y, if_pos (hp.resolve_left y)]; exact key
  · have h6 := y_n6 g5 hs
    rw [if_neg (nI_pos (by omega)), if_neg (nI_ge hs (by omega)), zbpS (a_words g5 hs), zxR]
    by_cases h3 : yn T.1 s ≤ 3
    · rw [if_pos (show nI (yn T.1 s) ≤ (3 : Int32) from nI_le (b := 3) h3 (by decide))]
      unfold f_L_grows_215
      rcases zix3 q (n := 3) (by decide) with hq | ⟨q, hq, rfl⟩
      · refine ⟨T, ?_, g, hk⟩
        have k251 : f_L_grows_251 N (y_ah T.1) (nI (yk T.1)) (nI s) (-8002) T = some (1, T) := by
          unfold f_L_grows_251
          rw [if_neg (nI_pos (by omega)), if_pos (nI_lt hs (by omega))]
          exact k_g274 g5 _
        rw [zbpS ((kc_1 (nI s) q 0 0 (b_addW_bad g5 hs hq)).trans yC2), if_neg (nI_pos (by omega)), if_neg (nI_ge hs (by omega))]
        by_cases y : q < 0
        · rw [if_pos y]; exact k251
        · have h : ¬ q ≤ (3 : Int32) := fun z => by
            have y2 : nI 3 < q := hq.resolve_left y
            have y2 : (3 : Int32) < q := y2
            rw [Int32.lt_iff_toInt_lt] at y2
            rw [Int32.le_iff_toInt_le] at z
            omega
          rw [if_neg y, if_neg h]; exact k251
      · have g1 := o_addW g hs hq (by omega)
        have g15 := g1.k hj
        have hs1 : s < yk (y_addW T s q).1 := hs
        have en : yn (y_addW T s q).1 s = yn T.1 s + 1 := zuf_s _ _ _
        have ek : ykd (y_addW T s q).1 s (yn T.1 s + 1) = q := by
          show zuf (ykd T.1) s (zuf (ykd T.1 s) (yn T.1 s + 1) q) s (yn T.1 s + 1) = q
          rw [zuf_s, zuf_s]
        have er : yrh (y_addW T s q).1 s (yn T.1 s + 1) = -1 := by
          show yrh T.1 s (yn T.1 s + 1) = -1
          rcases (g.1.2.1.2 s hs).1 (yn T.1 s + 1) (by omega) with z | ⟨-, z, -⟩
          · exact z
          · omega
        have g2 := o_corr g1 hs1 (h := 0) (w := yn T.1 s + 1) (by omega) (by omega) (by omega) (by omega)
        have g25 := g2.k hj
        have er2 : yrh (y_corr (y_addW T s q) s 0 (yn T.1 s + 1)).1 s (yn T.1 s + 1) = nI 0 := by
          show zuf (yrh (y_addW T s q).1) s (zuf (yrh (y_addW T s q).1 s) (yn T.1 s + 1) (nI 0)) s (yn T.1 s + 1) = nI 0
          rw [zuf_s, zuf_s]
        have en2 : yn (y_corr (y_addW T s q) s 0 (yn T.1 s + 1)).1 s = yn T.1 s + 1 := en
        have g3 := o_corr g2 hs1 (h := yn T.1 s) (w := yn T.1 s + 1) (by omega) (by omega) (by omega) (by omega)
        refine ⟨_, ?_, g3, hk⟩
        have c1 : y_X6_correct (y_addW T s q) (nI s) (0 : Int32) (nI (yn T.1 s + 1)) = some (.inr (-1), y_corr (y_addW T s q) s 0 (yn T.1 s + 1)) := by
          rw [← er]
          exact b_corr g15 hs1 (h := 0) (w := yn T.1 s + 1) (by omega) (by omega) (by omega) (by omega)
        have c2 : y_X6_correct (y_corr (y_addW T s q) s 0 (yn T.1 s + 1)) (nI s) (nI (yn T.1 s)) (nI (yn T.1 s + 1)) = some (.inr 0, y_corr (y_corr (y_addW T s q) s 0 (yn T.1 s + 1)) s (yn T.1 s) (yn T.1 s + 1)) := by
          rw [show (0 : Int32) = nI 0 from rfl, ← er2]
          exact b_corr g25 hs1 (h := yn T.1 s) (w := yn T.1 s + 1) (by omega) (by omega) (by omega) (by omega)
        have aw := a_words g15 hs1
        rw [en] at aw
        have ak := a_kind g15 hs1 (w := yn T.1 s + 1) (by omega) (by omega)
        rw [ek] at ak
        rw [zbpS ((kc_1 (nI s) (nI q) 0 0 (b_addW g5 hs hq (by omega))).trans yCr), if_neg (nI_pos (by omega)), if_neg (nI_ge hs (by omega)), if_neg (nI_pos (by omega)), if_pos (show nI q ≤ (3 : Int32) from nI_le (b := 3) hq (by decide)), zbpS aw, zxR, if_pos rfl, zbpS ak, zxR, if_pos rfl, zbpS ((kc_17 (nI (yk T.1)) 0 0 0 (a_words_no g15 (p := nI (yk T.1)) (Or.inr (show nI (yk T.1) ≤ nI (yk T.1) from nI_le (Nat.le_refl _) (by omega))))).trans yC1), if_pos rfl, zbpS c1, zxR, if_pos rfl, show nI (yn T.1 s + 1) - (1 : Int32) = nI (yn T.1 s) from by rw [← nI_1, Int32.add_sub_cancel], zbpS c2, zxR, if_pos rfl]
        rfl
    · refine ⟨T, ?_, g, hk⟩
      rw [if_neg (show ¬ nI (yn T.1 s) ≤ (3 : Int32) from nI_ge (a := 3) (by omega) (by omega)), zbpS ((kc_1 (nI s) (-1) 0 0 (b_addW_bad g5 hs (Or.inl (by decide)))).trans yC2), if_pos rfl, zbpS (k_all g5), if_pos rfl]
      rfl
theorem k_g132 (g : yI j T) (hj : j ≤ 512) (hk : 1 ≤ yk T.1) (x odd p : Int32) : ∃ T', f_L_grows_132 N x odd (y_ah T.1) (nI (yk T.1)) p T = some (1, T') ∧ yI j T' ∧ 1 ≤ yk T'.1 := by
  unfold f_L_grows_132
  by_cases q : odd = 0
  · obtain ⟨r, -, e⟩ := k_some N (x >>> ((6 : Int32) &&& 31)) (n := 4) (by decide) (by decide)
    rw [if_pos q, zbindS (show f_L_some N (x >>> ((6 : Int32) &&& 31)) (4 : Int32) = _ from e)]
    exact k_g160 g hj hk p (nI r)
  · obtain ⟨r, -, e⟩ := k_some N (x >>> ((6 : Int32) &&& 31)) (n := 6) (by decide) (by decide)
    rw [if_neg q, zbindS (show f_L_some N (x >>> ((6 : Int32) &&& 31)) (6 : Int32) = _ from e)]
    exact k_g160 g hj hk p (nI r - 1)
theorem k_grows (g : yI j T) (hj : j ≤ 512) (hk : 1 ≤ yk T.1) (x odd : Int32) : ∃ T', f_L_grows N T x odd = some (1, T') ∧ yI j T' ∧ 1 ≤ yk T'.1 := by
  have g5 := g.k hj
  have hk5 := yk5 g5
  obtain ⟨r, hr, e⟩ := k_some N x (n := 5) (by decide) (by decide)
  unfold f_L_grows f_L_grows_0
  rw [zbpS (k_all g5), zbpS (a_sentences g5), zxR, zbindS (show f_L_some N x (5 : Int32) = _ from e)]
  by_cases q : r = 0
  · rw [if_pos (show nI r = 0 by rw [q]; rfl)]
    by_cases h5 : yk T.1 = 5
    · refine ⟨T, ?_, g, hk⟩
      rw [zbpS ((kc_0 0 0 0 0 (b_addS_no g5 h5)).trans yC3), if_pos (show nI (yk T.1) = (5 : Int32) by rw [h5]; rfl), if_pos rfl, zbpS (k_all g5), if_pos rfl]
      rfl
    · have g1 := o_addS g (by omega)
      have g15 := g1.k hj
      refine ⟨_, ?_, g1, show 1 ≤ yk T.1 + 1 by omega⟩
      have hs1 : yk T.1 < yk ((yV_s T.1, T.2) : yT).1 := Nat.lt_succ_self _
      have en : yn ((yV_s T.1, T.2) : yT).1 (yk T.1) = 0 := zuf_s _ _ _
      have aw := a_words g15 hs1
      rw [en] at aw
      have et : yTs ((yV_s T.1, T.2) : yT).1 (yk T.1) true = [[]] := by
        unfold yTs
        rw [en]
        rfl
      have at1 := a_treesT g15 hs1
      rw [et] at at1
      have as := a_sentences g15
      rw [zbpS ((kc_0 0 0 0 0 (b_addS g5 h5)).trans yCr), if_neg (show ¬ nI (yk T.1) = (5 : Int32) from nI_ne (b := 5) (by omega) (by decide) h5), if_pos rfl, zbpS as, zxR, if_pos (show nI (yk ((yV_s T.1, T.2) : yT).1) = nI (yk T.1) + (1 : Int32) from (nI_1 _).symm), zbpS aw, zxR, if_pos (show nI 0 = 0 from rfl), zbpS at1, zxR, if_pos (show nI ([[]] : List (List Nat)).length = (1 : Int32) from rfl)]
      rfl
  · rw [if_neg (nI_nz (by omega) q)]
    by_cases o : odd = 0
    · obtain ⟨z, -, e⟩ := k_some N (x >>> ((3 : Int32) &&& 31)) (n := yk T.1) hk (by omega)
      rw [if_pos o, zbindS e]
      exact k_g132 g hj hk x odd (nI z)
    · obtain ⟨z, -, e⟩ := k_some N (x >>> ((3 : Int32) &&& 31)) (n := yk T.1 + 2) (by omega) (by omega)
      rw [if_neg o, show nI (yk T.1) + (2 : Int32) = nI (yk T.1 + 2) from nI_add _ 2, zbindS e]
      exact k_g132 g hj hk x odd (nI z - 1)
/-! weighs -/
theorem k_w172 (g : yOk 512 T) : f_L_weighs_172 N (y_ah T.1) T = some (1, T) := by
  unfold f_L_weighs_172
  rw [zbpS (k_all g), if_pos rfl]
  rfl
theorem k_w112 (g : yOk 512 T) {p : Int32} (hp : p < 0 ∨ (28 : Int32) ≤ p) : f_L_weighs_112 N (y_ah T.1) p (-8001) (-8001) T = some (1, T) := by
  have k150 : f_L_weighs_150 N (y_ah T.1) (-8001) T = some (1, T) := by
    unfold f_L_weighs_150
    rw [if_pos rfl]
    exact k_w172 g
  have h27 : ¬ p < 0 → ¬ p ≤ (27 : Int32) := fun q z => by
    have y := hp.resolve_left q
    rw [Int32.le_iff_toInt_le] at y z
    have e1 : (28 : Int32).toInt = 28 := by decide
    have e2 : (27 : Int32).toInt = 27 := by decide
    omega
  have k126 : f_L_weighs_126 N (y_ah T.1) p (-8001) (-8001) T = some (1, T) := by
    unfold f_L_weighs_126 f_L_weighs_135
    rw [if_pos rfl]
    by_cases q : p < 0
    · rw [if_pos q]; exact k150
    · rw [if_neg q, if_neg (h27 q)]; exact k150
  unfold f_L_weighs_112
  by_cases q : p < 0
  · rw [if_pos q]; exact k126
  · rw [if_neg q, if_neg (h27 q)]; exact k126
theorem b_setW_back (g : yOk 512 T) {f : Nat} {q : Int32} (g1 : yOk 512 (y_setW T f q)) : y_X6_rollBack (y_setW T f q) = some (.inr (nI (T.2.take 19).length), (T.1, T.2.take 19)) := b_roll g1 (e := (ywt T.1, ysm T.1, yst T.1, false)) (H := T.2.take 19) rfl
theorem k_w58 (g : yI j T) (hj : j ≤ 512) (hk : 1 ≤ yk T.1) (x p q : Int32) : ∃ T', f_L_weighs_58 N x (y_ah T.1) p q T = some (1, T') ∧ yI j T' ∧ 1 ≤ yk T'.1 := by
  have g5 := g.k hj
  unfold f_L_weighs_58
  rcases zixF p with hp | ⟨f, hf, rfl⟩
  · refine ⟨T, ?_, g, hk⟩
    rw [zbpS ((kc_18 p 0 0 0 (a_weight_no g5 hp)).trans yC1), zbpS ((kc_2 p q 0 0 (b_setW_out g5 q hp)).trans yC1)]
    by_cases y : p < 0
    · rw [if_pos y]; exact k_w112 g5 hp
    · have h : (27 : Int32) < p := by
        have y := hp.resolve_left y
        rw [Int32.le_iff_toInt_le] at y
        rw [Int32.lt_iff_toInt_lt]
        have e1 : (28 : Int32).toInt = 28 := by decide
        have e2 : (27 : Int32).toInt = 27 := by decide
        omega
      rw [if_neg y, if_pos h]; exact k_w112 g5 hp
  · have i0 : ¬ nI f < 0 := nI_pos (by omega)
    have i27 : ¬ (27 : Int32) < nI f := nI_nlt (a := 27) (b := f) (by omega) (by decide)
    have i27' : nI f ≤ (27 : Int32) := nI_le (b := 27) (by omega) (by decide)
    by_cases hq : q < (-100 : Int32) ∨ ¬ q ≤ (100 : Int32)
    · refine ⟨T, ?_, g, hk⟩
      have k112 : f_L_weighs_112 N (y_ah T.1) (nI f) (iI (ywt T.1 f)) (-8002) T = some (1, T) := by
        unfold f_L_weighs_112
        rw [if_neg i0, if_pos i27']
        unfold f_L_weighs_135
        rw [if_pos rfl, if_neg i0, if_pos i27', zbpS (a_weight g5 hf), zxR, if_pos rfl]
        exact k_w172 g5
      rw [zbpS ((kc_18 (nI f) 0 0 0 (a_weight g5 hf)).trans yCr), zbpS ((kc_2 (nI f) q 0 0 (b_setW_bad g5 hf hq)).trans yC2), if_neg i0, if_neg i27]
      by_cases y : q < (-100 : Int32)
      · rw [if_pos y]; exact k112
      · rw [if_neg y, if_neg (hq.resolve_left y)]; exact k112
    · have hq1 : ¬ q < (-100 : Int32) := fun z => hq (Or.inl z)
      have hq2 : q ≤ (100 : Int32) := Decidable.byContradiction fun z => hq (Or.inr z)
      have g1 := o_setW g hf hq1 hq2
      have g15 := g1.k hj
      have ew : ywt (y_setW T f q).1 f = q.toInt := zuf_s _ _ _
      have aw := a_weight g15 hf
      rw [ew] at aw
      have eq : iI q.toInt = q := Int32.ofInt_toInt q
      rw [eq] at aw
      have g2 := o_take g 19
      have g25 := g2.k hj
      have hl : (T.2.take 19).length ≤ 19 := by rw [List.length_take]; omega
      have g3 := o_setW g2 hf hq1 hq2
      have g35 := g3.k hj
      have g4 := o_take g2 19
      have g45 := g4.k hj
      have hl2 : ((T.2.take 19).take 19).length ≤ 19 := by rw [List.length_take]; omega
      obtain ⟨r, hr, er⟩ := k_some N (x >>> ((11 : Int32) &&& 31)) (n := 4) (by decide) (by decide)
      have ka2 : f_L_all N ((T.1, T.2.take 19) : yT) = some (y_ah T.1, (T.1, T.2.take 19)) := k_all g25
      have ka4 : f_L_all N ((T.1, (T.2.take 19).take 19) : yT) = some (y_ah T.1, (T.1, (T.2.take 19).take 19)) := k_all g45
      have main : f_L_weighs_58 N x (y_ah T.1) (nI f) q T = f_L_weighs_262 N x (y_ah T.1) 1 (y_setW (T.1, T.2.take 19) f q) := by
        unfold f_L_weighs_58
        rw [zbpS ((kc_18 (nI f) 0 0 0 (a_weight g5 hf)).trans yCr), zbpS ((kc_2 (nI f) q 0 0 (b_setW g5 hf hq1 hq2)).trans yCr), if_neg i0, if_neg i27, if_neg hq1, if_pos hq2, if_pos rfl, zbpS aw, zxR, if_pos rfl]
        unfold f_L_weighs_210
        rw [zbpS (b_setW_back g5 g15), zxR, if_neg i1_ne0, if_neg (nI_pos (by omega)), if_neg (show ¬ (20 : Int32) ≤ nI (T.2.take 19).length from nI_ge (b := 20) (by omega) (by decide)), zbpS ka2, if_pos rfl, zbpS (b_setW g25 hf hq1 hq2), zxR, if_pos (show iI (ywt ((T.1, T.2.take 19) : yT).1 f) = iI (ywt T.1 f) from rfl)]
      unfold f_L_weighs_58 at main
      rw [main]
      unfold f_L_weighs_262
      rw [if_neg i1_ne0, zbindS (show f_L_some N (x >>> ((11 : Int32) &&& 31)) (4 : Int32) = _ from er)]
      rcases Nat.eq_zero_or_pos r with z | z
      · refine ⟨_, ?_, g4, hk⟩
        rw [if_neg (show ¬ (0 : Int32) < nI r by rw [z]; decide +kernel), zbpS (b_setW_back g25 g35), zxR, if_neg (nI_pos (show ((T.2.take 19).take 19).length < 2 ^ 31 by omega)), zbpS ka4, if_pos rfl]
        rfl
      · refine ⟨_, ?_, g3, hk⟩
        rw [if_pos (show (0 : Int32) < nI r from nI_lt (a := 0) z (by omega))]
        rfl
theorem k_w26 (g : yI j T) (hj : j ≤ 512) (hk : 1 ≤ yk T.1) (x odd p : Int32) : ∃ T', f_L_weighs_26 N x odd (y_ah T.1) p T = some (1, T') ∧ yI j T' ∧ 1 ≤ yk T'.1 := by
  unfold f_L_weighs_26
  by_cases o : odd = 0
  · obtain ⟨z, -, e⟩ := k_some N (x >>> ((5 : Int32) &&& 31)) (n := 41) (by decide) (by decide)
    rw [if_pos o, zbindS (show f_L_some N (x >>> ((5 : Int32) &&& 31)) (41 : Int32) = _ from e)]
    exact k_w58 g hj hk x p _
  · obtain ⟨z, -, e⟩ := k_some N (x >>> ((5 : Int32) &&& 31)) (n := 210) (by decide) (by decide)
    rw [if_neg o, zbindS (show f_L_some N (x >>> ((5 : Int32) &&& 31)) (210 : Int32) = _ from e)]
    exact k_w58 g hj hk x p _
theorem k_weighs (g : yI j T) (hj : j ≤ 512) (hk : 1 ≤ yk T.1) (x odd : Int32) : ∃ T', f_L_weighs N T x odd = some (1, T') ∧ yI j T' ∧ 1 ≤ yk T'.1 := by
  unfold f_L_weighs f_L_weighs_0
  rw [zbpS (k_all (g.k hj))]
  by_cases o : odd = 0
  · obtain ⟨z, -, e⟩ := k_some N x (n := 28) (by decide) (by decide)
    rw [if_pos o, zbindS (show f_L_some N x (28 : Int32) = _ from e)]
    exact k_w26 g hj hk x odd _
  · obtain ⟨z, -, e⟩ := k_some N x (n := 32) (by decide) (by decide)
    rw [if_neg o, zbindS (show f_L_some N x (32 : Int32) = _ from e)]
    exact k_w26 g hj hk x odd _
end GR
