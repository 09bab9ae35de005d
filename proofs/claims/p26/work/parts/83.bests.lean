/-! BESTS: it answers 1 and leaves the state. -/
theorem yC1 {T : yT} : yC (.inl 1) T = some (-8001, T) := rfl
theorem yC2 {T : yT} : yC (.inl 2) T = some (-8002, T) := rfl
theorem yC3 {T : yT} : yC (.inl 3) T = some (-8003, T) := rfl
theorem yCr {T : yT} {r : Int32} : yC (.inr r) T = some (r, T) := rfl
theorem nI_lt1 {n : Nat} (h1 : 1 ≤ n) (h : n < 2 ^ 31) : ¬ nI n < (1 : Int32) := nI_nlt (b := 1) (a := n) h1 h
theorem nI_ne {a b : Nat} (ha : a < 2 ^ 31) (hb : b < 2 ^ 31) (h : a ≠ b) : ¬ nI a = nI b := fun q => h ((nI_eq ha hb).mp q)
theorem nI_nz {a : Nat} (ha : a < 2 ^ 31) (h : a ≠ 0) : ¬ nI a = 0 := nI_ne (b := 0) ha (by decide) h
section BE
variable {N : Nat} {T : yT} {s : Nat}
theorem iI_nlt {a b : Int} (ha : -48000 ≤ a) (ha2 : a ≤ 48000) (hb : -48000 ≤ b) (hb2 : b ≤ 48000) (h : b ≤ a) : ¬ iI a < iI b := fun q => by
  have := (iI_lt (by omega) (by omega) (by omega) (by omega)).mp q
  omega
theorem k_b303_no (g : yOk 512 T) (hs : s < yk T.1) (kh : Int32 → Int32 → Int32 → Int32 → Int32 → yT → Option (Int32 × yT)) (x w4 w5 w7 w8 : Int32) {l : Nat} (hl : l = 0) : f_L_bests_303 N kh (nI s) x 1 w4 w5 (nI l) w7 w8 T = kh (nI s) x 1 w4 (w5 + 1) T := by
  subst hl
  have h0 : nI 0 = 0 := rfl
  unfold f_L_bests_303
  rw [if_neg i1_ne0, if_pos h0]
  unfold f_L_bests_319
  rw [if_pos h0]
  unfold f_L_bests_341 f_L_bests_346
  rw [if_pos h0]
  unfold f_L_bests_362
  rw [if_neg i1_ne0, if_pos h0]
  rfl
theorem k_b190_no (g : yOk 512 T) (hs : s < yk T.1) (kh : Int32 → Int32 → Int32 → Int32 → Int32 → yT → Option (Int32 × yT)) (x w4 w5 w7 w8 w9 : Int32) (f : Nat) {l : Nat} (hl : l = 0) : f_L_bests_190 N kh (f + 1) (nI s) x 1 w4 w5 (nI l) w7 w8 w9 T = kh (nI s) x 1 w4 (w5 + 1) T := by
  rw [f_L_bests_190]
  by_cases q : w4 < w9
  · rw [if_pos q]; exact k_b303_no g hs kh x w4 w5 w7 w8 hl
  · rw [if_neg q, if_neg i1_ne0, if_pos (show nI l ≤ 0 by rw [hl]; decide +kernel)]; exact k_b303_no g hs kh x w4 w5 w7 w8 hl
/-- ranked trees -/
theorem k_b386 (g : yOk 512 T) (hs : s < yk T.1) (kh : Int32 → Int32 → Int32 → Int32 → Int32 → yT → Option (Int32 × yT)) (x w4 : Int32) (cr : Bool) {v : List Nat} (hv : zBt (yTs T.1 s cr) (ywt T.1) (ykd T.1 s) v) {r : Nat} (hr : r < (yTs T.1 s cr).length) : f_L_bests_386 N kh (nI s) x w4 (bif cr then 1 else 0) (iI (ysc T.1 s v)) (nI r) (bif cr then 1 else 0) (nI s) T = kh (nI s) x 1 w4 ((bif cr then 1 else 0) + 1) T := by
  have h6 := y_n6 g hs
  have hl := yTs_len (V := T.1) (s := s) h6 cr
  obtain ⟨u, eu, hu⟩ := yr_ok (V := T.1) h6 hr
  have bv := y_scb g hs hv.1
  have bu := y_scb g hs (yRk_mem hu)
  have hvu : ysc T.1 s u ≤ ysc T.1 s v := t_sc h6 hv.1 (yRk_mem hu) (hv.2 u (yRk_mem hu))
  unfold f_L_bests_386
  rw [zbpS (a_ranked g cr hs eu), zxR, if_neg (iI_nlt bv.1 bv.2 bu.1 bu.2 hvu)]
  by_cases q : r = 0
  · subst q
    rw [if_pos (show nI 0 = 0 from rfl)]
    rfl
  · obtain ⟨r, rfl⟩ : ∃ a, r = a + 1 := ⟨r - 1, by omega⟩
    rw [if_neg (nI_nz (by omega) q)]
    refine (ycr cr (fun b => f_L_bests_414 N kh (nI s) x w4 (bif cr then 1 else 0) (nI (r + 1)) b (nI s) T)).trans ?_
    show f_L_bests_414 N kh (nI s) x w4 (bif cr then 1 else 0) (nI (r + 1)) (bif cr then 1 else 0) (nI s) T = _
    unfold f_L_bests_414
    obtain ⟨z, ez, hz⟩ := yr_ok (V := T.1) (s := s) (cr := cr) (r := r) h6 (by omega)
    have bz := y_scb g hs (yRk_mem hz)
    have hzu : ysc T.1 s u ≤ ysc T.1 s z := t_sc h6 (yRk_mem hz) (yRk_mem hu) (yRk_le hz hu)
    rw [show nI (r + 1) - (1 : Int32) = nI r from by rw [← nI_1, Int32.add_sub_cancel], zbpS (a_ranked g cr hs ez), zxR]
    refine (ycr cr (fun b => f_L_bests_434 N kh (nI s) x w4 (bif cr then 1 else 0) (nI (r + 1)) b (nI s) (iI (ysc T.1 s z)) T)).trans ?_
    show f_L_bests_434 N kh (nI s) x w4 (bif cr then 1 else 0) (nI (r + 1)) (bif cr then 1 else 0) (nI s) (iI (ysc T.1 s z)) T = _
    unfold f_L_bests_434
    rw [zbpS (a_ranked g cr hs eu), zxR, if_neg (iI_nlt bz.1 bz.2 bu.1 bu.2 hzu)]
    rfl
theorem k_b303 (g : yOk 512 T) (hs : s < yk T.1) (kh : Int32 → Int32 → Int32 → Int32 → Int32 → yT → Option (Int32 × yT)) (x w4 : Int32) (cr : Bool) {v : List Nat} (hp : 0 < (yTs T.1 s cr).length) (hv : zBt (yTs T.1 s cr) (ywt T.1) (ykd T.1 s) v) : f_L_bests_303 N kh (nI s) x 1 w4 (bif cr then 1 else 0) (nI (yTs T.1 s cr).length) (iI (ysc T.1 s v)) (iI (ysc T.1 s v)) T = kh (nI s) x 1 w4 ((bif cr then 1 else 0) + 1) T := by
  have h6 := y_n6 g hs
  have hl := yTs_len (V := T.1) (s := s) h6 cr
  have hne : ¬ nI (yTs T.1 s cr).length = 0 := nI_nz (by omega) (by omega)
  have bv := y_scb g hs hv.1
  obtain ⟨r, hr, er⟩ := k_some N x hp (by omega)
  have k341 : f_L_bests_341 N kh (nI s) x w4 (bif cr then 1 else 0) (nI (yTs T.1 s cr).length) (iI (ysc T.1 s v)) T = kh (nI s) x 1 w4 ((bif cr then 1 else 0) + 1) T := by
    unfold f_L_bests_341 f_L_bests_346
    rw [if_neg hne, zbindS er]
    unfold f_L_bests_362
    rw [if_neg i1_ne0, if_neg hne]
    refine (ycr cr (fun b => f_L_bests_386 N kh (nI s) x w4 (bif cr then 1 else 0) (iI (ysc T.1 s v)) (nI r) b (nI s) T)).trans ?_
    exact k_b386 g hs kh x w4 cr hv hr
  unfold f_L_bests_303
  rw [if_neg i1_ne0, if_neg hne, if_pos rfl]
  unfold f_L_bests_319
  rw [if_neg hne]
  cases cr with
  | true =>
    rw [if_pos (show (bif true then (1 : Int32) else 0) = 1 from rfl)]
    exact k341
  | false =>
    rw [if_neg (show ¬ (bif false then (1 : Int32) else 0) = 1 by decide)]
    have hvt : v ∈ yTs T.1 s true := t_sub hv.1
    rcases yb_case g hs true with ⟨q, -⟩ | ⟨z, -, hz, ez⟩
    · rw [List.length_eq_zero_iff.mp q] at hvt
      cases hvt
    · have bz := y_scb g hs hz.1
      rw [zbpS (a_bestT g hs ez), zxR, if_neg (iI_nlt bz.1 bz.2 bv.1 bv.2 (t_sc h6 hz.1 hv.1 (hz.2 v hvt)))]
      exact k341
theorem k_b190 (g : yOk 512 T) (hs : s < yk T.1) (kh : Int32 → Int32 → Int32 → Int32 → Int32 → yT → Option (Int32 × yT)) (x : Int32) (cr : Bool) {v : List Nat} (hp : 0 < (yTs T.1 s cr).length) (hv : zBt (yTs T.1 s cr) (ywt T.1) (ykd T.1 s) v) (ev : yb T.1 s cr = some v) : ∀ (d f w : Nat), w + d = yn T.1 s → d < f → f_L_bests_190 N kh f (nI s) x 1 (nI (yn T.1 s)) (bif cr then 1 else 0) (nI (yTs T.1 s cr).length) (iI (ysc T.1 s v)) (iI (zsum (zsc (ywt T.1) (ykd T.1 s)) 1 (v.take w))) (nI (w + 1)) T = kh (nI s) x 1 (nI (yn T.1 s)) ((bif cr then 1 else 0) + 1) T
  | d, 0, w, _, hf => absurd hf (Nat.not_lt_zero d)
  | 0, f + 1, w, hw, _ => by
    have h6 := y_n6 g hs
    have hlv := (zt_all hv.1).1
    rw [f_L_bests_190, if_pos (nI_lt (by omega) (by omega)), List.take_of_length_le (by omega)]
    exact k_b303 g hs kh x _ cr hp hv
  | d + 1, f + 1, w, hw, hf => by
    have h6 := y_n6 g hs
    have hl := yTs_len (V := T.1) (s := s) h6 cr
    have hlv := (zt_all hv.1).1
    have hh := t_hd_le hv.1 (w := w + 1) (by omega) (by omega)
    have ha := (zal_iff.mp (t_al hv.1 (w := w + 1) (by omega) (by omega))).1
    rw [f_L_bests_190, if_neg (nI_nlt (by omega) (by omega)), if_neg i1_ne0, if_neg (nI_nle hp (by omega))]
    refine (ycr cr (fun b => f_L_bests_219 N (fun y1 y2 y3 y4 y5 y6 y7 y8 y9 T => f_L_bests_190 N kh f y1 y2 y3 y4 y5 y6 y7 y8 y9 T) (nI s) x (nI (yn T.1 s)) (bif cr then 1 else 0) (nI (yTs T.1 s cr).length) (iI (ysc T.1 s v)) (iI (zsum (zsc (ywt T.1) (ykd T.1 s)) 1 (v.take w))) (nI (w + 1)) b (nI s) T)).trans ?_
    show f_L_bests_219 N (fun y1 y2 y3 y4 y5 y6 y7 y8 y9 T => f_L_bests_190 N kh f y1 y2 y3 y4 y5 y6 y7 y8 y9 T) (nI s) x (nI (yn T.1 s)) (bif cr then 1 else 0) (nI (yTs T.1 s cr).length) (iI (ysc T.1 s v)) (iI (zsum (zsc (ywt T.1) (ykd T.1 s)) 1 (v.take w))) (nI (w + 1)) (bif cr then 1 else 0) (nI s) T = _
    unfold f_L_bests_219
    rw [zbpS (a_head g cr hs ev (w := w + 1) (by omega) (by omega)), zxR]
    refine (ycr cr (fun b => f_L_bests_239 N (fun y1 y2 y3 y4 y5 y6 y7 y8 y9 T => f_L_bests_190 N kh f y1 y2 y3 y4 y5 y6 y7 y8 y9 T) (nI s) x (nI (yn T.1 s)) (bif cr then 1 else 0) (nI (yTs T.1 s cr).length) (iI (ysc T.1 s v)) (iI (zsum (zsc (ywt T.1) (ykd T.1 s)) 1 (v.take w))) (nI (w + 1)) (nI (zhd v (w + 1))) b (nI s) T)).trans ?_
    show f_L_bests_239 N (fun y1 y2 y3 y4 y5 y6 y7 y8 y9 T => f_L_bests_190 N kh f y1 y2 y3 y4 y5 y6 y7 y8 y9 T) (nI s) x (nI (yn T.1 s)) (bif cr then 1 else 0) (nI (yTs T.1 s cr).length) (iI (ysc T.1 s v)) (iI (zsum (zsc (ywt T.1) (ykd T.1 s)) 1 (v.take w))) (nI (w + 1)) (nI (zhd v (w + 1))) (bif cr then 1 else 0) (nI s) T = _
    unfold f_L_bests_239
    rw [zbpS (a_rankedHead g cr hs (yr_0 g hs hp hv) (w := w + 1) (by omega) (by omega)), zxR, if_pos rfl, if_neg (nI_ne (by omega) (by omega) ha), if_neg (nI_pos (by omega)), if_neg (nI_nlt hh (by omega))]
    unfold f_L_bests_274
    rw [if_neg i1_ne0, zbpS (a_score g hs hh (w := w + 1) (by omega) (by omega) ha), zxR]
    unfold f_L_bests_294
    rw [iI_add, ← t_sumS _ (by omega), nI_1]
    exact k_b190 g hs kh x cr hp hv ev d f (w + 1) (by omega) (by omega)
/-- a round: the best tree one way -/
theorem k_b54 (g : yOk 512 T) (hs : s < yk T.1) (kh : Int32 → Int32 → Int32 → Int32 → Int32 → yT → Option (Int32 × yT)) (x : Int32) (cr : Bool) : f_L_bests_54 N kh (nI s) x (nI (yn T.1 s)) (bif cr then 1 else 0) (bif cr then 1 else 0) (nI s) T = kh (nI s) x 1 (nI (yn T.1 s)) ((bif cr then 1 else 0) + 1) T := by
  have h6 := y_n6 g hs
  have hl := yTs_len (V := T.1) (s := s) h6 cr
  have hno := yr_no (V := T.1) (s := s) (cr := cr) (q := nI (yTs T.1 s cr).length) (Or.inr (nI_le (Nat.le_refl _) (by omega)))
  have hn1 := yr_no (V := T.1) (s := s) (cr := cr) (q := -1) (Or.inl (by decide))
  unfold f_L_bests_54
  rcases yb_case g hs cr with ⟨q, ev⟩ | ⟨v, hp, hv, ev⟩
  · rw [zbpS (a_trees g cr hs), zxR, zbpS ((kc_10 (nI s) cr 0 0 (a_best_no g cr hs ev)).trans yC3), zbpS ((kc_11 (nI s) cr 0 0 (a_bestByTrying_no g cr hs ev)).trans yC3), if_pos rfl, zbpS ((kc_14 (nI s) cr (nI (yTs T.1 s cr).length) 0 (a_ranked_no g cr hs hno)).trans yC1), if_pos rfl, zbpS ((kc_14 (nI s) cr (-1) 0 (a_ranked_no g cr hs hn1)).trans yC1), if_pos rfl, if_pos (show nI (yTs T.1 s cr).length ≤ 0 by rw [q]; decide +kernel), if_pos rfl, zbpS ((kc_14 (nI s) cr 0 0 (a_ranked_no g cr hs (yr_no (Or.inr (show nI (yTs T.1 s cr).length ≤ 0 by rw [q]; decide +kernel))))).trans yC1), if_pos rfl]
    unfold f_L_bests_178 f_L_bests_183
    exact k_b190_no g hs kh x _ _ _ _ _ 7 q
  · rw [zbpS (a_trees g cr hs), zxR, zbpS ((kc_10 (nI s) cr 0 0 (a_best g cr hs ev)).trans yCr), zbpS ((kc_11 (nI s) cr 0 0 (a_bestByTrying g cr hs ev)).trans yCr), if_pos rfl, zbpS ((kc_14 (nI s) cr (nI (yTs T.1 s cr).length) 0 (a_ranked_no g cr hs hno)).trans yC1), if_pos rfl, zbpS ((kc_14 (nI s) cr (-1) 0 (a_ranked_no g cr hs hn1)).trans yC1), if_pos rfl, if_neg (nI_nle hp (by omega))]
    refine (ycr cr (fun b => f_L_bests_141 N kh (nI s) x (nI (yn T.1 s)) (bif cr then 1 else 0) (nI (yTs T.1 s cr).length) (iI (ysc T.1 s v)) b (nI s) T)).trans ?_
    show f_L_bests_141 N kh (nI s) x (nI (yn T.1 s)) (bif cr then 1 else 0) (nI (yTs T.1 s cr).length) (iI (ysc T.1 s v)) (bif cr then 1 else 0) (nI s) T = _
    unfold f_L_bests_141
    rw [zbpS (a_ranked g cr hs (yr_0 g hs hp hv)), zxR, if_pos rfl]
    unfold f_L_bests_178 f_L_bests_183
    exact k_b190 g hs kh x cr hp hv ev (yn T.1 s) 8 0 (by omega) (by omega)
theorem k_b454 (g : yOk 512 T) (hs : s < yk T.1) : f_L_bests_454 N (nI s) 1 (nI (yn T.1 s)) T = some (1, T) := by
  have h6 := y_n6 g hs
  have hl := yTs_len (V := T.1) (s := s) h6 true
  have k541 : f_L_bests_541 N T = some (1, T) := rfl
  unfold f_L_bests_454
  rcases yb_case g hs true with ⟨q, ev⟩ | ⟨v, hp, hv, ev⟩
  · rw [zbpS ((kc_13 (nI s) 0 0 0 (a_crossings_no g hs ev)).trans yC3), if_neg i1_ne0, zbpS (a_treesT g hs), zxR, if_pos (show nI (yTs T.1 s true).length = 0 by rw [q]; rfl), if_pos rfl, zbpS ((kc_16 (nI s) 0 0 0 (a_matched_no g hs ev)).trans yC3), if_pos rfl]
    exact k541
  · have hx := zxs_le v (yn T.1 s)
    have hx2 : yn T.1 s * yn T.1 s ≤ 6 * 6 := Nat.mul_le_mul h6 h6
    have k531 : f_L_bests_531 N (nI s) (nI (yn T.1 s)) T = some (1, T) := by
      unfold f_L_bests_531
      rw [zbpS (a_matched g hs ev), zxR, if_neg (nI_nlt (zms_le _ _ _) (by omega))]
      exact k541
    rw [zbpS ((kc_13 (nI s) 0 0 0 (a_crossings g hs ev)).trans yCr), if_neg i1_ne0, zbpS (a_treesT g hs), zxR, if_neg (nI_nz (by omega) (by omega)), if_neg (nI_pos (by omega))]
    rcases Nat.eq_zero_or_pos (zxs v (yn T.1 s)) with q | q
    · have hvf : v ∈ yTs T.1 s false := t_nocross hv.1 q
      have ef : yb T.1 s false = some v := yb_ok h6 ⟨hvf, fun u hu => hv.2 u (t_sub hu)⟩
      rw [if_neg (show ¬ (0 : Int32) < nI (zxs v (yn T.1 s)) by rw [q]; decide +kernel), zbpS (a_bestF g hs ef), zxR, zbpS (a_bestT g hs ev), zxR, if_pos rfl]
      exact k531
    · rw [if_pos (show (0 : Int32) < nI (zxs v (yn T.1 s)) from nI_lt (a := 0) q (by omega))]
      exact k531
theorem k_bests (g : yOk 512 T) (hs : s < yk T.1) (x : Int32) : f_L_bests N T (nI s) x = some (1, T) := by
  have h6 := y_n6 g hs
  have hl := yTs_len (V := T.1) (s := s) h6 true
  have hlf := yTs_len (V := T.1) (s := s) h6 false
  have i01 : (0 : Int32) + 1 = 1 := by decide
  have k3 : f_L_bests_31 N 1 (nI s) x 1 (nI (yn T.1 s)) (1 + 1) T = some (1, T) := by
    rw [f_L_bests_31, if_pos (show (2 : Int32) ≤ 1 + 1 by decide)]
    exact k_b454 g hs
  have k2 : f_L_bests_31 N 2 (nI s) x 1 (nI (yn T.1 s)) 1 T = some (1, T) := by
    rw [f_L_bests_31, if_neg (show ¬ (2 : Int32) ≤ 1 by decide), if_neg i1_ne0, if_pos rfl]
    exact (k_b54 g hs _ x true).trans k3
  unfold f_L_bests f_L_bests_0
  rw [zbpS (a_treesF g hs), zxR, zbpS (a_treesT g hs), zxR, if_neg (show ¬ nI (yTs T.1 s true).length < nI (yTs T.1 s false).length from nI_nlt t_len (by omega))]
  unfold f_L_bests_20
  rw [zbpS (a_words g hs), zxR, f_L_bests_31, if_neg (show ¬ (2 : Int32) ≤ 0 by decide), if_neg i1_ne0, if_neg (show ¬ (0 : Int32) = 1 by decide)]
  refine (k_b54 g hs _ x false).trans ?_
  show f_L_bests_31 N 2 (nI s) x 1 (nI (yn T.1 s)) (0 + 1) T = _
  rw [i01]
  exact k2
end BE
