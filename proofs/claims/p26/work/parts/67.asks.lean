/-! CALLS THAT ASK: what the class answers, in words of the state. -/
section RA
variable {N : Nat} {T : yT} {sw : Bool} {nx : Nat} {M M' : ZM}
theorem yk5 {j : Nat} (g : yOk j T) : yk T.1 ≤ 5 := g.2.1.1
theorem yRl_n (h : yRl T sw nx M) {s : Nat} (hs : s < yk T.1) : zI M (112 + 11 * s) 3 = nI (yn T.1 s) ∧ yn T.1 s ≤ 6 := ⟨(h.2.1.2 s hs).1.2.1, (h.2.1.2 s hs).1.1⟩
theorem yWts (h : yRl T sw nx M) (g : yOk 512 T) : zWts (ywt T.1) (zI M) := fun f hf => ⟨(h.2.2.1 f hf).1, by have := g.2.2.2.2.1 f hf; omega, by have := g.2.2.2.2.1 f hf; omega⟩
theorem yCl (h : yRl T sw nx M) (g : yOk 512 T) {s : Nat} (hs : s < yk T.1) : zCl sw (yk T.1) s (yn T.1 s) (ykd T.1 s) (ymk T.1 s) (ywt T.1) M := ⟨h.1, hs, (h.2.1.2 s hs).1, yWts h g⟩
theorem yRl_scr (h : yRl T sw nx M) (q : zScr (yk T.1) M M') : ∃ sw', yRl T sw' nx M' := by
  obtain ⟨-, q1, q2, sw', q3⟩ := q
  exact ⟨sw', q3, zA1_c (fun a i z => q1 a i (by omega)) h.2.1, zW1_c (fun a i z => q1 a i (Or.inl z)) (fun a i z => q2 a i (Or.inl z)) h.2.2⟩
theorem ysc_b (h : yRl T sw nx M) (g : yOk 512 T) {s : Nat} (hs : s < yk T.1) : ∀ a w, a ≤ yn T.1 s → 1 ≤ w → w ≤ yn T.1 s → -8000 ≤ zsc (ywt T.1) (ykd T.1 s) a w ∧ zsc (ywt T.1) (ykd T.1 s) a w ≤ 8000 := zsc_b (h.2.1.2 s hs).1 (yWts h g)
theorem yb_no {V : yV} {s : Nat} {cr : Bool} (h : yTs V s cr = []) : yb V s cr = none := dif_neg (fun ⟨_, hv⟩ => zBt_mem hv h)
theorem yb_ok {V : yV} {s : Nat} {cr : Bool} {v : List Nat} (h6 : yn V s ≤ 6) (hv : zBt (yTs V s cr) (ywt V) (ykd V s) v) : yb V s cr = some v := by
  have hx : ∃ v, zBt (yTs V s cr) (ywt V) (ykd V s) v := ⟨v, hv⟩
  unfold yb
  rw [dif_pos hx]
  exact congrArg some (zBt_eq h6 hx.choose_spec hv)
theorem r_sentences (h : yRl T sw nx M) : f_X6_sentences N (zKs (yk T.1)) (zln (yk T.1)) 0 M = some (nI (yk T.1)) := by
  unfold f_X6_sentences f_X6_sentences_0
  rw [zgK (k0 _), h.2.1.1]
theorem r_steps (h : yRl T sw nx M) : f_X6_steps N (zKs (yk T.1)) (zln (yk T.1)) 0 M = some (nI (yst T.1)) := by
  unfold f_X6_steps f_X6_steps_0
  rw [zgK (k0 _), zbindS (h.1.at 0 2 2 (zrm 1 rfl))]
  unfold f_X5_stepCount f_X5_stepCount_0
  rw [zgK (k2 _), h.2.2.2.1]
  show zg (zKs (yk T.1) 2 == 6) (some (nI (yst T.1))) = _
  rw [zgK (k2 _)]
theorem r_words (h : yRl T sw nx M) (g : yOk 512 T) (p : Int32) : f_X6_words N (zKs (yk T.1)) (zln (yk T.1)) 0 p M = some (e_words T.1 p) := by
  have hk5 := yk5 g
  unfold e_words f_X6_words f_X6_words_0
  rcases zix1 p hk5 with hp | ⟨s, hs, rfl⟩
  · rw [zgK (k0 _), zbindS (s_find_no h.1 hk5 hp), zxL, eS_no hp]
  · rw [zgK (k0 _), zbindS (s_find_ok h.1 hk5 hs), zxR, zbindS (s_size hs (yRl_n h hs).1), zgK (ks0 hs), eS_ok hk5 hs]
theorem r_kind (h : yRl T sw nx M) (g : yOk 512 T) (p q : Int32) : f_X6_kind N (zKs (yk T.1)) (zln (yk T.1)) 0 p q M = some (e_kind T.1 p q) := by
  have hk5 := yk5 g
  unfold e_kind f_X6_kind f_X6_kind_0
  rcases zix1 p hk5 with hp | ⟨s, hs, rfl⟩
  · rw [zgK (k0 _), zbindS (s_find_no h.1 hk5 hp), zxL, eS_no hp]
  · obtain ⟨hn1, hn6⟩ := yRl_n h hs
    rw [eS_ok hk5 hs]
    rcases zix2 q hn6 with hp | ⟨w, h1, h2, rfl⟩
    · rw [zgK (k0 _), zbindS (s_find_ok h.1 hk5 hs), zxR, zbindS (s_word_no hs hn1 hp), zxL, eW_no hp]
    · rw [zgK (k0 _), zbindS (s_find_ok h.1 hk5 hs), zxR, zbindS (s_word_ok hs hn1 hn6 h1 h2), zxR, zbindS (s_kindAt h.1 hs (show w < 7 by omega)), zgK (ks0 hs), (h.2.1.2 s hs).1.2.2.2.2.1 w h2, eW_ok hn6 h1 h2]
theorem r_weight (h : yRl T sw nx M) (p : Int32) : f_X6_weight N (zKs (yk T.1)) (zln (yk T.1)) 0 p M = some (e_weight T.1 p) := by
  unfold e_weight f_X6_weight f_X6_weight_0
  rcases zixF p with hp | ⟨f, hf, rfl⟩
  · rw [zbindS (s_feat_no N hp), zxL, eF_no hp]
  · rw [zbindS (s_feat_ok N hf), zxR, zgK (k0 _), zbindS (h.1.at 0 2 2 (zrm 1 rfl)), zbindS (s_get h.1 hf), zgK (k2 _), (h.2.2.1 f hf).1, eF_ok hf]
theorem r_feature (h : yRl T sw nx M) (g : yOk 512 T) (p q r : Int32) {b : Int32} (hb : b = 0 ∨ b = 1) : f_X6_feature N (zKs (yk T.1)) (zln (yk T.1)) 0 p q r b M = some (e_feature T.1 p q r b) := by
  have hk5 := yk5 g
  unfold e_feature f_X6_feature f_X6_feature_0
  rcases zix1 p hk5 with hp | ⟨s, hs, rfl⟩
  · rw [zgK (k0 _), zbindS (s_find_no h.1 hk5 hp), zxL, eS_no hp]
  · obtain ⟨hn1, hn6⟩ := yRl_n h hs
    rw [eS_ok hk5 hs]
    rcases zix4 q r hn6 with hp | ⟨a, w, ha, h1, h2, rfl, rfl⟩
    · rw [zgK (k0 _), zbindS (s_find_ok h.1 hk5 hs), zxR, zbindS (s_arc_no hs hn1 hn6 hp), zxL, eA_no4 hp]
    · rw [eA_in hn6 ha h1 h2]
      by_cases e : a = w
      · rw [zgK (k0 _), zbindS (s_find_ok h.1 hk5 hs), zxR, zbindS ((s_arc_ok hs hn1 hn6 ha h1 h2).trans (if_pos e)), zxL, if_pos e]
      · rw [if_neg e]
        rcases hb with rfl | rfl
        · rw [zgK (k0 _), zbindS (s_find_ok h.1 hk5 hs), zxR, zbindS ((s_arc_ok hs hn1 hn6 ha h1 h2).trans (if_neg e)), zxR, if_pos rfl, zbindS (s_byK h.1 hs (h.2.1.2 s hs).1 ha h2), zgK (ks0 hs), if_pos rfl]
        · rw [zgK (k0 _), zbindS (s_find_ok h.1 hk5 hs), zxR, zbindS ((s_arc_ok hs hn1 hn6 ha h1 h2).trans (if_neg e)), zxR, if_neg one_ne0, zbindS (s_byDistance N (show a < 7 by omega) (show w < 7 by omega)), if_neg one_ne0]
theorem r_score (h : yRl T sw nx M) (g : yOk 512 T) (p q r : Int32) : f_X6_score N (zKs (yk T.1)) (zln (yk T.1)) 0 p q r M = some (e_score T.1 p q r) := by
  have hk5 := yk5 g
  unfold e_score f_X6_score f_X6_score_0
  rcases zix1 p hk5 with hp | ⟨s, hs, rfl⟩
  · rw [zgK (k0 _), zbindS (s_find_no h.1 hk5 hp), zxL, eS_no hp]
  · obtain ⟨hn1, hn6⟩ := yRl_n h hs
    rw [eS_ok hk5 hs]
    rcases zix4 q r hn6 with hp | ⟨a, w, ha, h1, h2, rfl, rfl⟩
    · rw [zgK (k0 _), zbindS (s_find_ok h.1 hk5 hs), zxR, zbindS (s_arc_no hs hn1 hn6 hp), zxL, eA_no4 hp]
    · rw [eA_in hn6 ha h1 h2]
      by_cases e : a = w
      · rw [zgK (k0 _), zbindS (s_find_ok h.1 hk5 hs), zxR, zbindS ((s_arc_ok hs hn1 hn6 ha h1 h2).trans (if_pos e)), zxL, if_pos e]
      · rw [if_neg e, zgK (k0 _), zbindS (s_find_ok h.1 hk5 hs), zxR, zbindS ((s_arc_ok hs hn1 hn6 ha h1 h2).trans (if_neg e)), zxR, zbindS (h.1.at 0 2 2 (zrm 1 rfl)), zbindS (s_ofArc h.1 hs (h.2.1.2 s hs).1 (yWts h g) ha h1 h2), zgK (k2 _)]
theorem r_average (h : yRl T sw nx M) (p : Int32) : f_X6_average N (zKs (yk T.1)) (zln (yk T.1)) 0 p M = some (e_average T.1 p) := by
  unfold e_average f_X6_average f_X6_average_0
  rcases zixF p with hp | ⟨f, hf, rfl⟩
  · rw [zbindS (s_feat_no N hp), zxL, eF_no hp]
  · have key : f_X5_averageOf N (zKs (yk T.1)) (zln (yk T.1)) 2 (nI f) M = some (yavg (ysm T.1 f) (yst T.1)) := by
      unfold f_X5_averageOf f_X5_averageOf_0 yavg
      by_cases hz : nI (yst T.1) = 0
      · rw [zgK (k2 _), h.2.2.2.1, if_pos hz, if_pos hz]
        rfl
      · have hb : (!(nI (yst T.1) == 0)) = true := by rw [beq_eq_false_iff_ne.mpr hz]; rfl
        rw [zgK (k2 _), h.2.2.2.1, if_neg hz, zbindS (s_isFeature N hf), if_neg one_ne0, zbindS (h.1.at 2 1 4 (zrm 7 rfl)), zgok (k4 _) (l4 _) hf (by decide), hb, zg_true, nI_clamp (by omega), (h.2.2.1 f hf).2, if_neg hz]
    rw [zbindS (s_feat_ok N hf), zxR, zgK (k0 _), zbindS (h.1.at 0 2 2 (zrm 1 rfl)), zbindS key, zgK (k2 _), eF_ok hf]
theorem r_trees (hN : 10000000 ≤ N) (h : yRl T sw nx M) (g : yOk 512 T) (p : Int32) (cr : Bool) : ∃ M' sw', f_X6_trees N (zKs (yk T.1)) (zln (yk T.1)) 0 p (bif cr then 1 else 0) M = some (e_trees T.1 p cr, M') ∧ yRl T sw' nx M' := by
  have hk5 := yk5 g
  unfold e_trees f_X6_trees f_X6_trees_0
  rcases zix1 p hk5 with hp | ⟨s, hs, rfl⟩
  · refine ⟨M, sw, ?_, h⟩
    rw [zgK (k0 _), zbindS (s_find_no h.1 hk5 hp), zxL, eS_no hp]
  · obtain ⟨Mc, ec, gc, rc, cc, jc⟩ := s_tryAll hN (yCl h g hs) cr
    obtain ⟨sw', h'⟩ := yRl_scr h gc
    refine ⟨Mc, sw', ?_, h'⟩
    rw [zgK (k0 _), zbindS (s_find_ok h.1 hk5 hs), zxR, zbpS ec, zbindS s_tsize, zgK (k109 _), cc, eS_ok hk5 hs]
    rfl
theorem r_best (hN : 10000000 ≤ N) (h : yRl T sw nx M) (g : yOk 512 T) (p : Int32) (cr : Bool) : ∃ M' sw', f_X6_best N (zKs (yk T.1)) (zln (yk T.1)) 0 p (bif cr then 1 else 0) M = some (e_best T.1 p cr, M') ∧ yRl T sw' nx M' := by
  have hk5 := yk5 g
  unfold e_best f_X6_best f_X6_best_0
  rcases zix1 p hk5 with hp | ⟨s, hs, rfl⟩
  · refine ⟨M, sw, ?_, h⟩
    rw [zgK (k0 _), zbindS (s_find_no h.1 hk5 hp), zxL, eS_no hp]
  · have h6 := (yRl_n h hs).2
    obtain ⟨Mc, gc, q⟩ := s_bestKey hN (yCl h g hs) cr
    obtain ⟨sw', h'⟩ := yRl_scr h gc
    refine ⟨Mc, sw', ?_, h'⟩
    rw [eS_ok hk5 hs]
    rcases q with ⟨hT, ec⟩ | ⟨v, hv, ec⟩
    · rw [zgK (k0 _), zbindS (s_find_ok h.1 hk5 hs), zxR, zbpS ec, zxL, yb_no hT]
      rfl
    · rw [zgK (k0 _), zbindS (s_find_ok h.1 hk5 hs), zxR, zbpS ec, zxR, zbindS (s_scoreKey h6 (ysc_b h g hs) hv.1), yb_ok h6 hv]
      rfl
theorem r_bestByTrying (hN : 10000000 ≤ N) (h : yRl T sw nx M) (g : yOk 512 T) (p : Int32) (cr : Bool) : ∃ M' sw', f_X6_bestByTrying N (zKs (yk T.1)) (zln (yk T.1)) 0 p (bif cr then 1 else 0) M = some (e_best T.1 p cr, M') ∧ yRl T sw' nx M' := by
  have hk5 := yk5 g
  unfold e_best f_X6_bestByTrying f_X6_bestByTrying_0
  rcases zix1 p hk5 with hp | ⟨s, hs, rfl⟩
  · refine ⟨M, sw, ?_, h⟩
    rw [zgK (k0 _), zbindS (s_find_no h.1 hk5 hp), zxL, eS_no hp]
  · have h6 := (yRl_n h hs).2
    obtain ⟨Mc, gc, ec, r, er, q⟩ := s_byTrying hN (yCl h g hs) cr
    obtain ⟨sw', h'⟩ := yRl_scr h gc
    refine ⟨Mc, sw', ?_, h'⟩
    rw [eS_ok hk5 hs]
    rcases q with ⟨hT, rfl⟩ | ⟨v, hv, rfl⟩
    · rw [zgK (k0 _), zbindS (s_find_ok h.1 hk5 hs), zxR, zbpS ec, zbindS er, zgK (k109 _), zbindS (show f_X6_checkTree N zNK = some (Sum.inl 3) from by unfold f_X6_checkTree f_X6_checkTree_0; exact if_pos rfl), zxL, yb_no hT]
      rfl
    · have hb := zkc_b (wt := ywt T.1) (kd := ykd T.1 s) h6 (ysc_b h g hs) hv.1
      rw [zgK (k0 _), zbindS (s_find_ok h.1 hk5 hs), zxR, zbpS ec, zbindS er, zgK (k109 _), zbindS (show f_X6_checkTree N (lI (zkc (zsc (ywt T.1) (ykd T.1 s)) v)) = some (Sum.inr ()) from if_neg (zoI_ne (by omega) (by omega))), zxR, zbindS (s_scoreKey h6 (ysc_b h g hs) hv.1), yb_ok h6 hv]
      rfl
theorem r_head (hN : 10000000 ≤ N) (h : yRl T sw nx M) (g : yOk 512 T) (p : Int32) (cr : Bool) (q : Int32) : ∃ M' sw', f_X6_head N (zKs (yk T.1)) (zln (yk T.1)) 0 p (bif cr then 1 else 0) q M = some (e_head T.1 p cr q, M') ∧ yRl T sw' nx M' := by
  have hk5 := yk5 g
  unfold e_head f_X6_head f_X6_head_0
  rcases zix1 p hk5 with hp | ⟨s, hs, rfl⟩
  · refine ⟨M, sw, ?_, h⟩
    rw [zgK (k0 _), zbindS (s_find_no h.1 hk5 hp), zxL, eS_no hp]
  · obtain ⟨hn1, h6⟩ := yRl_n h hs
    rw [eS_ok hk5 hs]
    rcases zix2 q h6 with hp | ⟨w, hw1, hw2, rfl⟩
    · refine ⟨M, sw, ?_, h⟩
      rw [zgK (k0 _), zbindS (s_find_ok h.1 hk5 hs), zxR, zbindS (s_word_no hs hn1 hp), zxL, eW_no hp]
    · obtain ⟨Mc, gc, q⟩ := s_bestKey hN (yCl h g hs) cr
      obtain ⟨sw', h'⟩ := yRl_scr h gc
      refine ⟨Mc, sw', ?_, h'⟩
      rw [eW_ok h6 hw1 hw2]
      rcases q with ⟨hT, ec⟩ | ⟨v, hv, ec⟩
      · rw [zgK (k0 _), zbindS (s_find_ok h.1 hk5 hs), zxR, zbindS (s_word_ok hs hn1 h6 hw1 hw2), zxR, zbpS ec, zxL, yb_no hT]
        rfl
      · rw [zgK (k0 _), zbindS (s_find_ok h.1 hk5 hs), zxR, zbindS (s_word_ok hs hn1 h6 hw1 hw2), zxR, zbpS ec, zxR, zbindS (s_headKey hN h6 (ysc_b h g hs) hv.1 hw1 hw2), yb_ok h6 hv]
        rfl
theorem r_crossings (hN : 10000000 ≤ N) (h : yRl T sw nx M) (g : yOk 512 T) (p : Int32) : ∃ M' sw', f_X6_crossings N (zKs (yk T.1)) (zln (yk T.1)) 0 p M = some (e_crossings T.1 p, M') ∧ yRl T sw' nx M' := by
  have hk5 := yk5 g
  unfold e_crossings f_X6_crossings f_X6_crossings_0
  rcases zix1 p hk5 with hp | ⟨s, hs, rfl⟩
  · refine ⟨M, sw, ?_, h⟩
    rw [zgK (k0 _), zbindS (s_find_no h.1 hk5 hp), zxL, eS_no hp]
  · obtain ⟨hn1, h6⟩ := yRl_n h hs
    obtain ⟨Mc, gc, q⟩ := s_bestKey hN (yCl h g hs) true
    obtain ⟨sw', h'⟩ := yRl_scr h gc
    refine ⟨Mc, sw', ?_, h'⟩
    rw [eS_ok hk5 hs]
    rw [cond_true] at q
    rcases q with ⟨hT, ec⟩ | ⟨v, hv, ec⟩
    · rw [zgK (k0 _), zbindS (s_find_ok h.1 hk5 hs), zxR, zbpS ec, zxL, yb_no hT]
      rfl
    · have hx := (zt_all hv.1).2
      have hl := (zt_all hv.1).1
      have h7 : ∀ w, 1 ≤ w → w ≤ yn T.1 s → zhd v w < 7 := fun w h1 h2 => by
        have := hx _ (zhd_mem h1 (by omega))
        omega
      have hnc : zI Mc (112 + 11 * s) 3 = nI (yn T.1 s) := (yRl_n h' hs).1
      have hkey : ∀ w, 1 ≤ w → w ≤ yn T.1 s → f_X6_headIn N (lI (zkc (zsc (ywt T.1) (ykd T.1 s)) v)) (nI w) = some (nI (zhd v w)) ∧ zhd v w < 7 := fun w a b => ⟨s_headKey hN h6 (ysc_b h g hs) hv.1 a b, h7 w a b⟩
      rw [zgK (k0 _), zbindS (s_find_ok h.1 hk5 hs), zxR, zbpS ec, zxR, yb_ok h6 hv]
      rcases Nat.eq_zero_or_pos (yn T.1 s) with q | q
      · obtain ⟨f, ef⟩ : ∃ f, N = f + 1 := ⟨N - 1, by omega⟩
        rw [show f_X6_crossings_19 N (zKs (yk T.1)) (zln (yk T.1)) N (112 + 11 * s) (lI (zkc (zsc (ywt T.1) (ykd T.1 s)) v)) (0 : Int32) (2 : Int32) Mc = f_X6_crossings_19 N (zKs (yk T.1)) (zln (yk T.1)) (f + 1) (112 + 11 * s) (lI (zkc (zsc (ywt T.1) (ykd T.1 s)) v)) (0 : Int32) (2 : Int32) Mc by rw [← ef]]
        rw [f_X6_crossings_19, zbindS (s_size hs hnc), zgK (ks0 hs), q, if_pos (show nI 0 < (2 : Int32) by decide +kernel)]
        rfl
      · exact s_cx19 (N := N) hN hs hnc h6 hkey (yn T.1 s - 1) N 1 (by omega) (by omega)
theorem r_matched (hN : 10000000 ≤ N) (h : yRl T sw nx M) (g : yOk 512 T) (p : Int32) : ∃ M' sw', f_X6_matched N (zKs (yk T.1)) (zln (yk T.1)) 0 p M = some (e_matched T.1 p, M') ∧ yRl T sw' nx M' := by
  have hk5 := yk5 g
  unfold e_matched f_X6_matched f_X6_matched_0
  rcases zix1 p hk5 with hp | ⟨s, hs, rfl⟩
  · refine ⟨M, sw, ?_, h⟩
    rw [zgK (k0 _), zbindS (s_find_no h.1 hk5 hp), zxL, eS_no hp]
  · obtain ⟨hn1, h6⟩ := yRl_n h hs
    obtain ⟨Mc, gc, q⟩ := s_bestKey hN (yCl h g hs) true
    obtain ⟨sw', h'⟩ := yRl_scr h gc
    refine ⟨Mc, sw', ?_, h'⟩
    rw [eS_ok hk5 hs]
    rw [cond_true] at q
    rcases q with ⟨hT, ec⟩ | ⟨v, hv, ec⟩
    · rw [zgK (k0 _), zbindS (s_find_ok h.1 hk5 hs), zxR, zbpS ec, zxL, yb_no hT]
      rfl
    · rw [zgK (k0 _), zbindS (s_find_ok h.1 hk5 hs), zxR, zbpS ec, zxR, yb_ok h6 hv]
      exact s_mt19 (N := N) h'.1 hs (yRl_n h' hs).1 h6 (rh := yrh T.1 s) (h'.2.1.2 s hs).2 (fun w a b => s_headKey hN h6 (ysc_b h g hs) hv.1 a b) (yn T.1 s) N 0 (by omega) (by omega)
theorem zcq_le {q : Int → Bool} {f : Nat → Int} : ∀ c, zcq q f c ≤ c
  | 0 => Nat.le_refl 0
  | c + 1 => by
    show zcq q f c + (if q (f c) = true then 1 else 0) ≤ c + 1
    have := zcq_le (q := q) (f := f) c
    split <;> omega
/-- a tree of each rank -/
theorem zrank_ex (f : Nat → Int) (c : Nat) (hf : ∀ i j, i < c → j < c → f i = f j → i = j) : ∀ r, r < c → ∃ i, i < c ∧ zcq (fun x => decide (x < f i)) f c = r := by
  have least : ∀ (b : Nat) (P : Nat → Prop), (∃ i, i < b ∧ P i) → ∃ i, i < b ∧ P i ∧ ∀ j, j < b → P j → f i ≤ f j := by
    intro b P
    induction b with
    | zero => rintro ⟨i, hi, -⟩; exact absurd hi (Nat.not_lt_zero i)
    | succ b ih =>
      rintro ⟨i, hi, pi⟩
      by_cases hb : ∃ i, i < b ∧ P i
      · obtain ⟨m, m1, m2, m3⟩ := ih hb
        by_cases pb : P b
        · by_cases q : f m ≤ f b
          · refine ⟨m, by omega, m2, fun j hj pj => ?_⟩
            by_cases e : j = b
            · rw [e]; exact q
            · exact m3 j (by omega) pj
          · refine ⟨b, by omega, pb, fun j hj pj => ?_⟩
            by_cases e : j = b
            · rw [e]; exact Int.le_refl _
            · have := m3 j (by omega) pj
              omega
        · refine ⟨m, by omega, m2, fun j hj pj => ?_⟩
          by_cases e : j = b
          · rw [e] at pj; exact absurd pj pb
          · exact m3 j (by omega) pj
      · have e : i = b := Decidable.byContradiction fun q => hb ⟨i, by omega, pi⟩
        subst e
        refine ⟨i, hi, pi, fun j hj pj => ?_⟩
        by_cases e : j = i
        · rw [e]; exact Int.le_refl _
        · exact absurd ⟨j, by omega, pj⟩ hb
  intro r
  induction r with
  | zero =>
    intro hr
    obtain ⟨i, h1, -, h3⟩ := least c (fun _ => True) ⟨0, hr, trivial⟩
    exact ⟨i, h1, zcq_0 c (fun j hj => decide_eq_false (by have := h3 j hj trivial; omega))⟩
  | succ r ih =>
    intro hr
    obtain ⟨i, h1, h2⟩ := ih (by omega)
    have hsplit : ∀ (m : Nat), m ≤ c → zcq (fun x => decide (x ≤ f i)) f m = zcq (fun x => decide (x < f i)) f m + (if i < m then 1 else 0) := by
      intro m
      induction m with
      | zero => intro _; rfl
      | succ m ihm =>
        intro hm
        show zcq _ f m + (if decide (f m ≤ f i) = true then 1 else 0) = zcq _ f m + (if decide (f m < f i) = true then 1 else 0) + _
        rw [ihm (by omega)]
        by_cases e : m = i
        · subst e
          rw [if_neg (Nat.lt_irrefl m), if_pos (decide_eq_true (Int.le_refl _)), if_neg (by simp), if_pos (Nat.lt_succ_self m)]
        · have hne : f m ≠ f i := fun q => e (hf m i (by omega) h1 q)
          by_cases q : f m < f i
          · rw [if_pos (decide_eq_true (show f m ≤ f i by omega)), if_pos (decide_eq_true q)]
            by_cases z : i < m
            · rw [if_pos z, if_pos (by omega)]
            · rw [if_neg z, if_neg (by omega)]
          · rw [if_neg (show ¬ decide (f m ≤ f i) = true by simp; omega), if_neg (show ¬ decide (f m < f i) = true by simp; omega)]
            by_cases z : i < m
            · rw [if_pos z, if_pos (by omega)]
            · rw [if_neg z, if_neg (by omega)]
    have hle := hsplit c (Nat.le_refl c)
    rw [if_pos h1, h2] at hle
    have hex : ∃ j, j < c ∧ f i < f j := Decidable.byContradiction fun q => by
      have hall : ∀ m, m ≤ c → zcq (fun x => decide (x ≤ f i)) f m = m := by
        intro m
        induction m with
        | zero => intro _; rfl
        | succ m ihm =>
          intro hm
          show zcq _ f m + (if decide (f m ≤ f i) = true then 1 else 0) = m + 1
          rw [ihm (by omega), if_pos (decide_eq_true (by
            have : ¬ f i < f m := fun z => q ⟨m, by omega, z⟩
            omega))]
      have := hall c (Nat.le_refl c)
      omega
    obtain ⟨m, m1, m2, m3⟩ := least c (fun j => f i < f j) hex
    refine ⟨m, m1, ?_⟩
    rw [← hle]
    exact zcq_pr (fun j hj => by
      have hq : f j < f m ↔ f j ≤ f i := ⟨fun z => by
        have : ¬ f i < f j := fun y => by have := m3 j hj y; omega
        omega, fun z => by omega⟩
      exact decide_eq_decide.mpr hq) c (Nat.le_refl c)
where
  zcq_pr {p q : Int → Bool} {f : Nat → Int} {c : Nat} (h : ∀ j, j < c → p (f j) = q (f j)) : ∀ m, m ≤ c → zcq p f m = zcq q f m
    | 0, _ => rfl
    | m + 1, hm => by
      show zcq p f m + _ = zcq q f m + _
      rw [zcq_pr h m (by omega), h m (by omega)]
end RA
