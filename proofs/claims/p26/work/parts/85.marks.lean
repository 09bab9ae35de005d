/-! MARKS: it answers 1. -/
section MK
variable {N j : Nat} {T : yT} {s : Nat}
theorem a_score_out (g : yOk 512 T) {p : Int32} (q r : Int32) (hp : p < 0 ∨ nI (yk T.1) ≤ p) : y_X6_score T p q r = some (.inl 1, T) := by
  unfold y_X6_score e_score
  rw [yg_t g, eS_no hp]
theorem a_score_arc (g : yOk 512 T) (hs : s < yk T.1) {q r : Int32} (h : (q < 0 ∨ nI (yn T.1 s) < q) ∨ (r ≤ 0 ∨ nI (yn T.1 s) < r)) : y_X6_score T (nI s) q r = some (.inl 1, T) := by
  unfold y_X6_score e_score
  rw [yg_t g, eS_ok (yk5 g) hs, eA_no h]
theorem yfc_mark {h w : Nat} (m : Int32) : yfc (y_mark T s h w m).1 s h w = yfc T.1 s h w := by
  show (List.range (yn T.1 s + 1)).any (fun o => decide (o ≠ h ∧ zuf (ymk T.1) s (zms2 (ymk T.1 s) h w m) s o w = 1)) = (List.range (yn T.1 s + 1)).any (fun o => decide (o ≠ h ∧ ymk T.1 s o w = 1))
  congr 1
  funext o
  refine decide_eq_decide.mpr ⟨fun z => ⟨z.1, ?_⟩, fun z => ⟨z.1, ?_⟩⟩
  · have := z.2
    rw [zuf_s, zms2_o _ _ (fun y => z.1 y.1)] at this
    exact this
  · rw [zuf_s, zms2_o _ _ (fun y => z.1 y.1)]
    exact z.2
theorem yfc_one (g : yOk 512 T) (hs : s < yk T.1) {h w : Nat} (hh : h ≤ yn T.1 s) (hw : w < 7) (h1 : ymk T.1 s h w = 1) : yfc T.1 s h w = false := by
  unfold yfc
  rw [List.any_eq_false]
  intro o ho q
  have q := of_decide_eq_true q
  rw [List.mem_range] at ho
  exact q.1 ((g.1 s hs).2.2.2.1 w o h hw (by omega) hh q.2 h1)
theorem y_mark_two {h w : Nat} (a b : Int32) : y_mark (y_mark T s h w a) s h w b = y_mark T s h w b := by
  have e : zuf (zuf (ymk T.1) s (zms2 (ymk T.1 s) h w a)) s (zms2 (zuf (ymk T.1) s (zms2 (ymk T.1 s) h w a) s) h w b) = zuf (ymk T.1) s (zms2 (ymk T.1 s) h w b) := by
    funext t
    by_cases q : t = s
    · subst q
      rw [zuf_s, zuf_s, zuf_s]
      funext a x
      by_cases z : a = h ∧ x = w
      · rw [z.1, z.2, zms2_at, zms2_at]
      · rw [zms2_o _ _ z, zms2_o _ _ z, zms2_o _ _ z]
    · rw [zuf_o _ _ q, zuf_o _ _ q, zuf_o _ _ q]
  show (yV_mk (y_mark T s h w a).1 (zuf (zuf (ymk T.1) s (zms2 (ymk T.1 s) h w a)) s (zms2 (zuf (ymk T.1) s (zms2 (ymk T.1 s) h w a) s) h w b)), T.2) = (yV_mk T.1 (zuf (ymk T.1) s (zms2 (ymk T.1 s) h w b)), T.2)
  rw [e]
  rfl
/-- refused: out of the words, or the same, or no mark -/
theorem k_m256 (g : yOk 512 T) (p q r out x : Int32) (h1 : ¬ out = 0 → y_X6_correct T p q r = some (.inl 1, T) ∧ y_X6_score T p q r = some (.inl 1, T)) (h2 : out = 0 → q = r → y_X6_correct T p q r = some (.inl 2, T)) : f_L_marks_256 N (y_ah T.1) p r q out x x T = some (1, T) := by
  unfold f_L_marks_256
  rw [if_pos rfl, zbpS (k_all g), if_pos rfl]
  by_cases o : out = 0
  · rw [if_pos o]
    by_cases e : q = r
    · rw [if_pos e, zbpS ((kc_4 p q r 0 (h2 o e)).trans yC2), if_pos rfl]
      rfl
    · rw [if_neg e]
      rfl
  · obtain ⟨c1, c2⟩ := h1 o
    rw [if_neg o, zbpS ((kc_4 p q r 0 c1).trans yC1), if_pos rfl, zbpS ((kc_8 p q r 0 c2).trans yC1), if_pos rfl]
    rfl
theorem k_m195 (g : yOk 512 T) (y p q r m : Int32) (h0 : y_X6_mark T p q r m = some (.inl 1, T)) (h1 : y_X6_correct T p q r = some (.inl 1, T)) (h2 : y_X6_score T p q r = some (.inl 1, T)) : f_L_marks_195 N y (y_ah T.1) p r q m T = some (1, T) := by
  unfold f_L_marks_195 f_L_marks_200
  rw [zbpS ((kc_3 p q r m h0).trans yC1), if_neg i1_ne0]
  unfold f_L_marks_240
  rw [if_neg i1_ne0]
  exact k_m256 g p q r 1 (-8001) (fun _ => ⟨h1, h2⟩) (fun z => absurd z i1_ne0)
/-- within the words -/
theorem k_m200 (g : yI j T) (hj : j ≤ 512) (hk : 1 ≤ yk T.1) (hs : s < yk T.1) {h w : Nat} (hh : h ≤ yn T.1 s) (h1 : 1 ≤ w) (h2 : w ≤ yn T.1 s) (y m : Int32) : ∃ T', f_L_marks_200 N y (y_ah T.1) (nI s) (nI w) (nI h) m 0 T = some (1, T') ∧ yI j T' ∧ 1 ≤ yk T'.1 := by
  have g5 := g.k hj
  have h6 := y_n6 g5 hs
  by_cases e : h = w
  · subst e
    refine ⟨T, ?_, g, hk⟩
    unfold f_L_marks_200
    rw [zbpS ((kc_3 (nI s) (nI h) (nI h) m (b_mark_same g5 hs h1 h2 m)).trans yC2), if_pos rfl, if_pos rfl]
    unfold f_L_marks_240
    rw [if_pos rfl]
    exact k_m256 g5 _ _ _ 0 (-8002) (fun z => absurd rfl z) (fun _ _ => b_corr_bad g5 hs h1 h2)
  have ne : ¬ nI h = nI w := nI_ne (by omega) (by omega) e
  by_cases hm : m < 0 ∨ nI 2 < m
  · have k240 : f_L_marks_240 N (y_ah T.1) (nI s) (nI w) (nI h) 0 (-8002) T = some (1, T) := by
      unfold f_L_marks_240
      rw [if_pos rfl]
      exact k_m256 g5 _ _ _ 0 (-8002) (fun z => absurd rfl z) (fun _ z => absurd z ne)
    refine ⟨T, ?_, g, hk⟩
    unfold f_L_marks_200
    rw [zbpS ((kc_3 (nI s) (nI h) (nI w) m (b_mark_bad g5 hs hh h1 h2 e hm)).trans yC2), if_pos rfl, if_neg ne]
    by_cases q : m < 0
    · rw [if_pos q]; exact k240
    · have hm2 : ¬ m ≤ (2 : Int32) := fun z => by
        have y2 : nI 2 < m := hm.resolve_left q
        have y2 : (2 : Int32) < m := y2
        rw [Int32.lt_iff_toInt_lt] at y2
        rw [Int32.le_iff_toInt_le] at z
        omega
      rw [if_neg q, if_neg hm2]; exact k240
  have hm0 : ¬ m < 0 := fun z => hm (Or.inl z)
  have hm3 : m ≤ (2 : Int32) := by
    rcases y_m012 hm with rfl | rfl | rfl <;> decide
  by_cases hf : m = 1 ∧ yfc T.1 s h w = true
  · obtain ⟨rfl, hf⟩ := hf
    refine ⟨T, ?_, g, hk⟩
    unfold f_L_marks_200
    rw [zbpS ((kc_3 (nI s) (nI h) (nI w) 1 (b_mark_not g5 hs hh h1 h2 e hf)).trans yC3), if_pos rfl, if_neg ne, if_neg hm0, if_pos hm3, if_pos rfl, if_pos rfl, zbpS (k_all g5), if_pos rfl]
    rfl
  have hf : m = 1 → yfc T.1 s h w = false := fun z => by
    cases q : yfc T.1 s h w with
    | false => rfl
    | true => exact absurd ⟨z, q⟩ hf
  have told := (g5.1 s hs).2.2.2.2 h w
  have t1 : ¬ ymk T.1 s h w = (-8003 : Int32) := by rcases told with q | q | q <;> rw [q] <;> decide
  have t2 : ¬ ymk T.1 s h w < 0 := by rcases told with q | q | q <;> rw [q] <;> decide
  have t3 : ¬ (3 : Int32) ≤ ymk T.1 s h w := by rcases told with q | q | q <;> rw [q] <;> decide
  have t4 : ¬ (ymk T.1 s h w < 0 ∨ nI 2 < ymk T.1 s h w) := by rcases told with q | q | q <;> rw [q] <;> decide +kernel
  have g1 := o_mark g hs hh h1 h2 hm hf
  have g15 := g1.k hj
  have hs1 : s < yk (y_mark T s h w m).1 := hs
  -- the same mark once more
  have c1 : y_X6_mark (y_mark T s h w m) (nI s) (nI h) (nI w) m = some (.inr m, y_mark T s h w m) := by
    have := b_mark g15 hs1 (h := h) (w := w) hh h1 h2 e hm (fun z => (yfc_mark m).trans (hf z))
    rw [y_mark_two, y_mark_get] at this
    exact this
  -- back
  have c2 : y_X6_mark (y_mark T s h w m) (nI s) (nI h) (nI w) (ymk T.1 s h w) = some (.inr m, T) := by
    have := b_mark g15 hs1 (h := h) (w := w) hh h1 h2 e t4 (fun z => (yfc_mark m).trans (yfc_one g5 hs hh (by omega) z))
    rw [y_mark_back, y_mark_get] at this
    exact this
  have c3 : y_X6_mark T (nI s) (nI h) (nI w) m = some (.inr (ymk T.1 s h w), y_mark T s h w m) := b_mark g5 hs hh h1 h2 e hm hf
  have k467 : ∃ T', f_L_marks_467 N y (y_ah T.1) (nI s) (nI w) (nI h) m (ymk T.1 s h w) (y_ah (y_mark T s h w m).1) (y_mark T s h w m) = some (1, T') ∧ yI j T' ∧ 1 ≤ yk T'.1 := by
    obtain ⟨r, hr, er⟩ := k_some N (y >>> ((11 : Int32) &&& 31)) (n := 3) (by decide) (by decide)
    unfold f_L_marks_467
    rw [zbpS c2, zxR, if_pos rfl, zbpS (k_all g5), if_pos rfl]
    unfold f_L_marks_498
    rw [if_neg i1_ne0, zbindS (show f_L_some N (y >>> ((11 : Int32) &&& 31)) (3 : Int32) = _ from er)]
    by_cases z : r = 0
    · refine ⟨T, ?_, g, hk⟩
      rw [if_pos (show nI r = 0 by rw [z]; rfl)]
      rfl
    · refine ⟨_, ?_, g1, hk⟩
      rw [if_neg (nI_nz (by omega) z), zbpS c3, zxR, if_pos rfl, zbpS (k_all g15), if_pos rfl]
      rfl
  -- what the best tree says of the mark
  have hal : ∀ v, zBt (yTs (y_mark T s h w m).1 s true) (ywt (y_mark T s h w m).1) (ykd (y_mark T s h w m).1 s) v → (m = 1 → zhd v w = h) ∧ (m = 2 → zhd v w ≠ h) := fun v hv => by
    have ha := zal_iff.mp (t_al hv.1 (w := w) h1 h2)
    have hg := y_mark_get (T := T) (s := s) (h := h) (w := w) m
    refine ⟨fun z => Decidable.byContradiction fun q => ?_, fun z q => ?_⟩
    · rw [z] at ha hg
      exact ha.2.2 h hh (fun y => q y.symm) hg
    · rw [z] at ha hg
      rw [q] at ha
      exact ha.2.1 hg
  have k437 : ∃ T', f_L_marks_437 N y (y_ah T.1) (nI s) (nI w) (nI h) m (ymk T.1 s h w) (y_ah (y_mark T s h w m).1) (y_mark T s h w m) = some (1, T') ∧ yI j T' ∧ 1 ≤ yk T'.1 := by
    unfold f_L_marks_437
    by_cases z : m = (2 : Int32)
    · rw [if_pos z, zbpS (a_treesT g15 hs1), zxR]
      rcases yb_case g15 hs1 true with ⟨q, -⟩ | ⟨v, hp, hv, ev⟩
      · rw [if_pos (show nI (yTs (y_mark T s h w m).1 s true).length = 0 by rw [q]; rfl)]
        exact k467
      · have hl := yTs_len (V := (y_mark T s h w m).1) (s := s) h6 true
        have hd := t_hd_le hv.1 (w := w) h1 h2
        have hd : zhd v w ≤ yn T.1 s := hd
        rw [if_neg (nI_nz (show (yTs (y_mark T s h w m).1 s true).length < 2 ^ 31 by omega) (by omega)), zbpS (a_headT g15 hs1 ev (w := w) h1 h2), zxR, if_neg (nI_ne (by omega) (by omega) ((hal v hv).2 z))]
        exact k467
    · rw [if_neg z]
      exact k467
  unfold f_L_marks_200
  rw [zbpS ((kc_3 (nI s) (nI h) (nI w) m c3).trans yCr), if_pos rfl, if_neg ne, if_neg hm0, if_pos hm3, if_neg t1, zbpS (k_all g15), if_neg t2, if_neg t3, zbpS c1, zxR, if_pos rfl]
  by_cases z : m = (1 : Int32)
  · rw [if_pos z, zbpS (a_treesT g15 hs1), zxR]
    rcases yb_case g15 hs1 true with ⟨q, -⟩ | ⟨v, hp, hv, ev⟩
    · rw [if_pos (show nI (yTs (y_mark T s h w m).1 s true).length = 0 by rw [q]; rfl)]
      exact k437
    · have hl := yTs_len (V := (y_mark T s h w m).1) (s := s) h6 true
      rw [if_neg (nI_nz (show (yTs (y_mark T s h w m).1 s true).length < 2 ^ 31 by omega) (by omega)), zbpS (a_headT g15 hs1 ev (w := w) h1 h2), zxR, if_pos (show nI (zhd v w) = nI h by rw [(hal v hv).1 z])]
      exact k437
  · rw [if_neg z]
    exact k437
theorem k_m156 (g : yI j T) (hj : j ≤ 512) (hk : 1 ≤ yk T.1) (y p q r m : Int32) {n : Nat} (hn : ∀ s, s < yk T.1 → p = nI s → n = yn T.1 s) : ∃ T', f_L_marks_156 N y (y_ah T.1) (nI (yk T.1)) p (nI n) r q m T = some (1, T') ∧ yI j T' ∧ 1 ≤ yk T'.1 := by
  have g5 := g.k hj
  have hk5 := yk5 g5
  unfold f_L_marks_156
  rcases zix1 p hk5 with hp | ⟨s, hs, rfl⟩
  · have key : f_L_marks_195 N y (y_ah T.1) p r q m T = some (1, T) := k_m195 g5 y p q r m (b_mark_out g5 q r m hp) (b_corr_out g5 q r hp) (a_score_out g5 q r hp)
    refine ⟨T, ?_, g, hk⟩
    by_cases z : p < 0
    · rw [if_pos z]; exact key
    · rw [if_neg z, if_pos (hp.resolve_left z)]; exact key
  · have hn := hn s hs rfl
    subst hn
    have h6 := y_n6 g5 hs
    rw [if_neg (nI_pos (by omega)), if_neg (nI_ge hs (by omega))]
    have e1 : (1 : Int32).toInt = 1 := by decide
    have e0 : (0 : Int32).toInt = 0 := by decide
    by_cases hO : (q < 0 ∨ nI (yn T.1 s) < q) ∨ (r ≤ 0 ∨ nI (yn T.1 s) < r)
    · have key : f_L_marks_195 N y (y_ah T.1) (nI s) r q m T = some (1, T) := k_m195 g5 y (nI s) q r m (b_mark_arc g5 hs m hO) (b_corr_arc g5 hs hO) (a_score_arc g5 hs hO)
      refine ⟨T, ?_, g, hk⟩
      by_cases z1 : r < (1 : Int32)
      · rw [if_pos z1]; exact key
      by_cases z2 : nI (yn T.1 s) < r
      · rw [if_neg z1, if_pos z2]; exact key
      by_cases z3 : q < 0
      · rw [if_neg z1, if_neg z2, if_pos z3]; exact key
      have z4 : ¬ q ≤ nI (yn T.1 s) := fun z => by
        rcases hO with (y | y) | (y | y)
        · exact z3 y
        · rw [Int32.lt_iff_toInt_lt] at y; rw [Int32.le_iff_toInt_le] at z; omega
        · rw [Int32.le_iff_toInt_le] at y; rw [Int32.lt_iff_toInt_lt] at z1; omega
        · exact z2 y
      rw [if_neg z1, if_neg z2, if_neg z3, if_neg z4]; exact key
    · rcases zix3 q h6 with z | ⟨h, hh, rfl⟩
      · exact absurd (Or.inl z) hO
      rcases zix2 r h6 with z | ⟨w, h1, h2, rfl⟩
      · exact absurd (Or.inr z) hO
      rw [if_neg (nI_lt1 h1 (by omega)), if_neg (nI_nlt h2 (by omega)), if_neg (nI_pos (by omega)), if_pos (nI_le hh (by omega))]
      exact k_m200 g hj hk hs hh h1 h2 y m
theorem k_m128 (g : yI j T) (hj : j ≤ 512) (hk : 1 ≤ yk T.1) (y odd p q r : Int32) {n : Nat} (hn : ∀ s, s < yk T.1 → p = nI s → n = yn T.1 s) : ∃ T', f_L_marks_128 N y odd (y_ah T.1) (nI (yk T.1)) p (nI n) r q T = some (1, T') ∧ yI j T' ∧ 1 ≤ yk T'.1 := by
  unfold f_L_marks_128
  by_cases o : odd = 0
  · obtain ⟨z, -, e⟩ := k_some N (y >>> ((9 : Int32) &&& 31)) (n := 3) (by decide) (by decide)
    rw [if_pos o, zbindS (show f_L_some N (y >>> ((9 : Int32) &&& 31)) (3 : Int32) = _ from e)]
    exact k_m156 g hj hk y p q r _ hn
  · obtain ⟨z, -, e⟩ := k_some N (y >>> ((9 : Int32) &&& 31)) (n := 6) (by decide) (by decide)
    rw [if_neg o, zbindS (show f_L_some N (y >>> ((9 : Int32) &&& 31)) (6 : Int32) = _ from e)]
    exact k_m156 g hj hk y p q r _ hn
theorem k_m97 (g : yI j T) (hj : j ≤ 512) (hk : 1 ≤ yk T.1) (y odd p r : Int32) {n : Nat} (h6 : n ≤ 6) (hn : ∀ s, s < yk T.1 → p = nI s → n = yn T.1 s) : ∃ T', f_L_marks_97 N y odd (y_ah T.1) (nI (yk T.1)) p (nI n) r T = some (1, T') ∧ yI j T' ∧ 1 ≤ yk T'.1 := by
  unfold f_L_marks_97
  by_cases o : odd = 0
  · obtain ⟨z, -, e⟩ := k_some N (y >>> ((6 : Int32) &&& 31)) (n := n + 1) (by omega) (by omega)
    rw [if_pos o, show nI n + (1 : Int32) = nI (n + 1) from nI_1 n, zbindS e]
    exact k_m128 g hj hk y odd p _ r hn
  · obtain ⟨z, -, e⟩ := k_some N (y >>> ((6 : Int32) &&& 31)) (n := 9) (by decide) (by decide)
    rw [if_neg o, zbindS (show f_L_some N (y >>> ((6 : Int32) &&& 31)) (9 : Int32) = _ from e)]
    exact k_m128 g hj hk y odd p _ r hn
theorem k_m58 (g : yI j T) (hj : j ≤ 512) (hk : 1 ≤ yk T.1) (y odd p : Int32) {n : Nat} (h6 : n ≤ 6) (hn : ∀ s, s < yk T.1 → p = nI s → n = yn T.1 s) : ∃ T', f_L_marks_58 N y odd (y_ah T.1) (nI (yk T.1)) p (nI n) T = some (1, T') ∧ yI j T' ∧ 1 ≤ yk T'.1 := by
  unfold f_L_marks_58
  by_cases o : odd = 0
  · rw [if_pos o]
    by_cases h1 : 1 ≤ n
    · obtain ⟨z, -, e⟩ := k_some N (y >>> ((3 : Int32) &&& 31)) (n := n) h1 (by omega)
      rw [if_pos (show (1 : Int32) ≤ nI n from nI_le (a := 1) h1 (by omega))]
      unfold f_L_marks_93
      rw [zbindS e]
      exact k_m97 g hj hk y odd p _ h6 hn
    · obtain ⟨z, -, e⟩ := k_some N (y >>> ((3 : Int32) &&& 31)) (n := 1) (by decide) (by decide)
      rw [if_neg (show ¬ (1 : Int32) ≤ nI n from nI_ge (b := 1) (by omega) (by decide))]
      unfold f_L_marks_93
      rw [zbindS (show f_L_some N (y >>> ((3 : Int32) &&& 31)) (1 : Int32) = _ from e)]
      exact k_m97 g hj hk y odd p _ h6 hn
  · obtain ⟨z, -, e⟩ := k_some N (y >>> ((3 : Int32) &&& 31)) (n := 9) (by decide) (by decide)
    rw [if_neg o, zbindS (show f_L_some N (y >>> ((3 : Int32) &&& 31)) (9 : Int32) = _ from e)]
    exact k_m97 g hj hk y odd p _ h6 hn
theorem k_m34 (g : yI j T) (hj : j ≤ 512) (hk : 1 ≤ yk T.1) (y odd p : Int32) : ∃ T', f_L_marks_34 N y odd (y_ah T.1) (nI (yk T.1)) p T = some (1, T') ∧ yI j T' ∧ 1 ≤ yk T'.1 := by
  have g5 := g.k hj
  have hk5 := yk5 g5
  unfold f_L_marks_34
  rcases zix1 p hk5 with hp | ⟨s, hs, rfl⟩
  · have key : ∃ T', f_L_marks_48 N y odd (y_ah T.1) (nI (yk T.1)) p T = some (1, T') ∧ yI j T' ∧ 1 ≤ yk T'.1 := k_m58 g hj hk y odd p (n := 2) (by decide) (fun s hs e => by
      rw [e] at hp
      exact hp.elim (fun z => absurd z (nI_pos (by omega))) (fun z => absurd z (nI_ge hs (by omega))))
    by_cases z : p < 0
    · rw [if_pos z]; exact key
    · have h : ¬ p < nI (yk T.1) := fun y => by
        have := hp.resolve_left z
        rw [Int32.le_iff_toInt_le] at this
        rw [Int32.lt_iff_toInt_lt] at y
        omega
      rw [if_neg z, if_neg h]; exact key
  · have h6 := y_n6 g5 hs
    rw [if_neg (nI_pos (by omega)), if_pos (nI_lt hs (by omega)), zbpS (a_words g5 hs), zxR]
    refine k_m58 g hj hk y odd (nI s) h6 (fun t ht e => ?_)
    rw [(nI_eq (by omega) (by omega)).mp e]
theorem k_marks (g : yI j T) (hj : j ≤ 512) (hk : 1 ≤ yk T.1) (y odd : Int32) : ∃ T', f_L_marks N T y odd = some (1, T') ∧ yI j T' ∧ 1 ≤ yk T'.1 := by
  have g5 := g.k hj
  have hk5 := yk5 g5
  unfold f_L_marks f_L_marks_0
  rw [zbpS (k_all g5), zbpS (a_sentences g5), zxR]
  by_cases o : odd = 0
  · obtain ⟨z, -, e⟩ := k_some N y (n := yk T.1) hk (by omega)
    rw [if_pos o, zbindS e]
    exact k_m34 g hj hk y odd _
  · obtain ⟨z, -, e⟩ := k_some N y (n := yk T.1 + 2) (by omega) (by omega)
    rw [if_neg o, show nI (yk T.1) + (2 : Int32) = nI (yk T.1 + 2) from nI_add _ 2, zbindS e]
    exact k_m34 g hj hk y odd _
end MK
