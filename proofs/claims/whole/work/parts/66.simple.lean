/-! CALLS THAT READ: sentences, words, kind, weight, feature, score, steps, average. -/
theorem zxR {ρ β : Type} (r : ρ) (f : Nat → β) (g : ρ → β) : zx (Sum.inr r) f g = g r := rfl
theorem zxL {ρ β : Type} (a : Nat) (f : Nat → β) (g : ρ → β) : zx (Sum.inl a) f g = f a := rfl
theorem i1_ne0 : ¬ (1 : Int32) = 0 := by decide
theorem i2_ne0 : ¬ (2 : Int32) = 0 := by decide
theorem i3_ne0 : ¬ (3 : Int32) = 0 := by decide
section CQ
variable {N j k : Nat} {sw : Bool} {n : Nat → Nat} {kd : Nat → Nat → Nat} {mk : Nat → Nat → Nat → Int32} {rh : Nat → Nat → Int32} {wt sm : Nat → Int} {st : Nat} {H : List zE} {nx fs : Nat} {M : ZM}
theorem zfin_thr (h : zCo j k sw n kd mk rh wt sm st H nx fs M) (hc : zChk k n kd mk wt M) {fL : Option (Int32 × ZM)} {fX : ZM → Option (Int32 × ZM)} {c : Int32} (hc0 : ¬ c = 0) (e1 : fL = some (c, M)) (e2 : fX M = some (0, zsI M 112 19 c)) : ∃ k1 M1 bv M2, fL = some (k1, M1) ∧ fX M1 = some (bv, M2) ∧ f_X7_thrown N (zKs k) (zln k) 112 M2 = some k1 ∧ (k1 = 0 → zJ M2 126 0 = bv.toInt64) ∧ zInv (j + 1) k M2 :=
  zfin_q h hc e1 (zCf1_refl h.1) (fun _ _ c1 => ⟨0, zsI M 112 19 c, e2, zMf_thr M c, zChk_thr c1 c, rfl, fun q => absurd q hc0⟩)
theorem zfin_val (h : zCo j k sw n kd mk rh wt sm st H nx fs M) (hc : zChk k n kd mk wt M) {fL : Option (Int32 × ZM)} {fX : ZM → Option (Int32 × ZM)} {v : Int32} (e1 : fL = some (0, zsJ M 126 0 v.toInt64)) (e2 : ∀ sw M1, zCo j k sw n kd mk rh wt sm st H nx fs M1 → fX M1 = some (v, zsI M1 112 19 0)) : ∃ k1 M1 bv M2, fL = some (k1, M1) ∧ fX M1 = some (bv, M2) ∧ f_X7_thrown N (zKs k) (zln k) 112 M2 = some k1 ∧ (k1 = 0 → zJ M2 126 0 = bv.toInt64) ∧ zInv (j + 1) k M2 :=
  zfin_q h hc e1 (zCf1_out (zCf1_refl h.1) _) (fun sw h1 c1 => ⟨v, _, e2 sw _ h1, zMf_thr _ 0, zChk_thr c1 0, rfl, fun _ => rfl⟩)
theorem zCo_n (h : zCo j k sw n kd mk rh wt sm st H nx fs M) {s : Nat} (hs : s < k) : zI M (128 + 11 * s) 3 = nI (n s) ∧ zI M 113 s = nI (n s) ∧ n s ≤ 6 := ⟨(h.2.1.2 s hs).1.2.1, (h.2.2.1.2.1 s hs).1.2.1, (h.2.1.2 s hs).1.1⟩
theorem zCo_k (h : zCo j k sw n kd mk rh wt sm st H nx fs M) : zI M 112 0 = nI k ∧ k ≤ 5 := ⟨h.2.2.1.1, h.2.2.2.1.1⟩
theorem s_byK {s m : Nat} {kd : Nat → Nat} {mk : Nat → Nat → Int32} (hR : zRf sw k (zR M)) (hk : s < k) (hS : zSen s m kd mk (zI M)) {h w : Nat} (hh : h ≤ m) (hw : w ≤ m) : f_X2_byKinds N (zKs k) (zln k) (128 + 11 * s) (nI h) (nI w) M = some (nI (zbk kd h w)) := by
  obtain ⟨h6, -, k0, k1, hkd, -⟩ := hS
  rw [s_byKinds hR hk (show h < 7 by omega) (show w < 7 by omega), hkd h hh, hkd w hw]
  congr 1
  unfold zbk
  rw [← nI_add, show nI (4 * kd h) = nI 4 * nI (kd h) from Int32.ofNat_mul 4 (kd h)]
  rfl
theorem c_sentences (h : zInv j k M) : zC2 N (zInv (j + 1)) k M := by
  obtain ⟨sw, n, kd, mk, rh, wt, sm, st, H, nx, fs, h, hc⟩ := h
  refine ⟨nI k, nI k, zsI M 112 19 0, ?_, ?_, rfl, sw, n, kd, mk, rh, wt, sm, st, H, nx, fs, zCo_up (zCo_mf h (zMf_thr M 0)), zChk_thr hc 0⟩
  · unfold f_X6_sentences f_X6_sentences_0
    rw [zgK (k0 k), h.2.1.1]
  · unfold f_X7_sentences f_X7_sentences_0
    rw [zgK (k112 k), zlS, zI_sI, if_neg (by decide), h.2.2.1.1]
theorem c_steps (h : zInv j k M) : zC20 N (zInv (j + 1)) k M := by
  obtain ⟨sw, n, kd, mk, rh, wt, sm, st, H, nx, fs, h, hc⟩ := h
  refine ⟨nI st, nI st, zsI M 112 19 0, ?_, ?_, rfl, sw, n, kd, mk, rh, wt, sm, st, H, nx, fs, zCo_up (zCo_mf h (zMf_thr M 0)), zChk_thr hc 0⟩
  · unfold f_X6_steps f_X6_steps_0
    rw [zgK (k0 k), zbindS (h.1.at 0 2 2 (zrm 1 rfl))]
    unfold f_X5_stepCount f_X5_stepCount_0
    rw [zgK (k2 k), h.2.2.2.2.1.2.1]
    show zg (zKs k 2 == 6) (some (nI st)) = _
    rw [zgK (k2 k)]
  · unfold f_X7_steps f_X7_steps_0
    rw [zgK (k112 k), zlS, zI_sI, if_neg (by decide), h.2.2.2.2.2.1.2.1]
theorem c_words (p1 : Int32) (h : zInv j k M) : zC3 N (zInv (j + 1)) k M p1 := by
  obtain ⟨sw, n, kd, mk, rh, wt, sm, st, H, nx, fs, h, hc⟩ := h
  obtain ⟨hk0, hk5⟩ := zCo_k h
  rcases zix1 p1 hk5 with hp | ⟨s, hs, rfl⟩
  · refine zfin_thr (fX := fun M => f_X7_words N (zKs k) (zln k) 112 p1 M) h hc i1_ne0 (L_words_1 ?_) ?_
    · unfold f_X6_words f_X6_words_0
      rw [zgK (k0 k), zbindS (s_find_no h.1 hk5 hp), zxL]
    · show f_X7_words N (zKs k) (zln k) 112 p1 M = _
      unfold f_X7_words f_X7_words_0
      rw [zbindS (q_sen_no hk0 hp), zgK (k112 k), zbpS q_asks0, if_pos rfl]
  · refine zfin_val (fX := fun M => f_X7_words N (zKs k) (zln k) 112 (nI s) M) (v := nI (n s)) h hc (L_words_ok ?_) (fun sw1 M1 h1 => ?_)
    · unfold f_X6_words f_X6_words_0
      rw [zgK (k0 k), zbindS (s_find_ok h.1 hk5 hs), zxR, zbindS (s_size hs (zCo_n h hs).1), zgK (ks0 hs)]
    · show f_X7_words N (zKs k) (zln k) 112 (nI s) M1 = _
      unfold f_X7_words f_X7_words_0
      rw [zbindS (q_sen_ok (zCo_k h1).1 hk5 hs), zgK (k112 k), zbpS q_asks1, if_neg one_ne0, zR_sI, zbindS (h1.1.at 112 1 113 (zrm 22 rfl)), zgok (k113 k) (l113 k) (show s < 5 by omega) (by decide), nI_clamp (by omega), zI_sI, if_neg (by omega), (zCo_n h1 hs).2.1]
theorem c_kind (p1 p2 : Int32) (h : zInv j k M) : zC4 N (zInv (j + 1)) k M p1 p2 := by
  obtain ⟨sw, n, kd, mk, rh, wt, sm, st, H, nx, fs, h, hc⟩ := h
  obtain ⟨hk0, hk5⟩ := zCo_k h
  rcases zix1 p1 hk5 with hp | ⟨s, hs, rfl⟩
  · refine zfin_thr (fX := fun M => f_X7_kind N (zKs k) (zln k) 112 p1 p2 M) h hc i1_ne0 (L_kind_1 ?_) ?_
    · unfold f_X6_kind f_X6_kind_0
      rw [zgK (k0 k), zbindS (s_find_no h.1 hk5 hp), zxL]
    · show f_X7_kind N (zKs k) (zln k) 112 p1 p2 M = _
      unfold f_X7_kind f_X7_kind_0
      rw [zbindS (q_word_nos hk0 hp), zgK (k112 k), zbpS q_asks0, if_pos rfl]
  · obtain ⟨hn1, hn2, hn6⟩ := zCo_n h hs
    rcases zix2 p2 hn6 with hp | ⟨w, h1, h2, rfl⟩
    · refine zfin_thr (fX := fun M => f_X7_kind N (zKs k) (zln k) 112 (nI s) p2 M) h hc i1_ne0 (L_kind_1 ?_) ?_
      · unfold f_X6_kind f_X6_kind_0
        rw [zgK (k0 k), zbindS (s_find_ok h.1 hk5 hs), zxR, zbindS (s_word_no hs hn1 hp), zxL]
      · show f_X7_kind N (zKs k) (zln k) 112 (nI s) p2 M = _
        unfold f_X7_kind f_X7_kind_0
        rw [zbindS (q_word_no h.1 hk0 hk5 hs hn2 hp), zgK (k112 k), zbpS q_asks0, if_pos rfl]
    · refine zfin_val (fX := fun M => f_X7_kind N (zKs k) (zln k) 112 (nI s) (nI w) M) (v := nI (kd s w)) h hc (L_kind_ok ?_) (fun sw1 M1 g1 => ?_)
      · unfold f_X6_kind f_X6_kind_0
        rw [zgK (k0 k), zbindS (s_find_ok h.1 hk5 hs), zxR, zbindS (s_word_ok hs hn1 hn6 h1 h2), zxR, zbindS (s_kindAt h.1 hs (show w < 7 by omega)), zgK (ks0 hs), (h.2.1.2 s hs).1.2.2.2.2.1 w h2]
      · show f_X7_kind N (zKs k) (zln k) 112 (nI s) (nI w) M1 = _
        unfold f_X7_kind f_X7_kind_0
        rw [zbindS (q_word_ok g1.1 (zCo_k g1).1 hk5 hs (zCo_n g1 hs).2.1 hn6 h1 h2), zgK (k112 k), zbpS q_asks1, if_neg one_ne0, zR_sI, zbindS (g1.1.at 112 2 114 (zrm 23 rfl)), q_at, zgok (k114 k) (l114 k) (show 7 * s + w < 35 by omega) (by decide), nI_clamp (by omega), zI_sI, if_neg (by omega), (g1.2.2.1.2.1 s hs).1.2.2.2.2.1 w h1 h2]
theorem c_weight (p1 : Int32) (h : zInv j k M) : zC6 N (zInv (j + 1)) k M p1 := by
  obtain ⟨sw, n, kd, mk, rh, wt, sm, st, H, nx, fs, h, hc⟩ := h
  have q15 : ∀ p, f_X7_weight_15 N (zKs k) (zln k) 112 p 112 M = some (0, zsI M 112 19 1) := fun p => by
    unfold f_X7_weight_15 f_X7_weight_16
    rw [zbpS q_asks0, zgK (k112 k), if_pos rfl]
  rcases zixF p1 with hp | ⟨f, hf, rfl⟩
  · refine zfin_thr (fX := fun M => f_X7_weight N (zKs k) (zln k) 112 p1 M) h hc i1_ne0 (L_weight_1 ?_) ?_
    · unfold f_X6_weight f_X6_weight_0
      rw [zbindS (s_feat_no N hp), zxL]
    · show f_X7_weight N (zKs k) (zln k) 112 p1 M = _
      unfold f_X7_weight f_X7_weight_0
      by_cases q : p1 < 0
      · rw [if_pos q, q15]
      · rw [if_neg q, if_pos (hp.resolve_left q), q15]
  · refine zfin_val (fX := fun M => f_X7_weight N (zKs k) (zln k) 112 (nI f) M) (v := iI (wt f)) h hc (L_weight_ok ?_) (fun sw1 M1 g1 => ?_)
    · unfold f_X6_weight f_X6_weight_0
      rw [zbindS (s_feat_ok N hf), zxR, zgK (k0 k), zbindS (h.1.at 0 2 2 (zrm 1 rfl)), zbindS (s_get h.1 hf), zgK (k2 k), (h.2.2.2.2.1.1 f hf).1]
    · show f_X7_weight N (zKs k) (zln k) 112 (nI f) M1 = _
      unfold f_X7_weight f_X7_weight_0
      rw [if_neg (nI_pos (by omega)), if_neg (show ¬ (28 : Int32) ≤ nI f from nI_ge (b := 28) hf (by omega))]
      unfold f_X7_weight_16
      rw [zbpS q_asks1, zgK (k112 k), if_neg one_ne0, zgK (k112 k), zR_sI, zbindS (g1.1.at 112 5 117 (zrm 26 rfl)), zgok (k117 k) (l117 k) hf (by decide), nI_clamp (by omega), zI_sI, if_neg (by omega), (g1.2.2.2.2.2.1.1 f hf).1]
theorem c_feature (p1 p2 p3 p4 : Int32) (h : zInv j k M) : zC7 N (zInv (j + 1)) k M p1 p2 p3 p4 := by
  obtain ⟨sw, n, kd, mk, rh, wt, sm, st, H, nx, fs, h, hc⟩ := h
  obtain ⟨hk0, hk5⟩ := zCo_k h
  unfold zC7
  generalize hb : zb01 p4 = b
  have hb : b = 0 ∨ b = 1 := by
    rw [← hb]
    unfold zb01
    by_cases q : p4 = 0
    · rw [if_pos q]; exact Or.inl rfl
    · rw [if_neg q]; exact Or.inr rfl
  rcases zix1 p1 hk5 with hp | ⟨s, hs, rfl⟩
  · refine zfin_thr (fX := fun M => f_X7_feature N (zKs k) (zln k) 112 p1 p2 p3 b M) h hc i1_ne0 (L_feature_1 ?_) ?_
    · unfold f_X6_feature f_X6_feature_0
      rw [zgK (k0 k), zbindS (s_find_no h.1 hk5 hp), zxL]
    · show f_X7_feature N (zKs k) (zln k) 112 p1 p2 p3 b M = _
      unfold f_X7_feature f_X7_feature_0
      rw [zbpS (q_arc_nos hk0 hp), zgK (k112 k), if_pos rfl]
  · obtain ⟨hn1, hn2, hn6⟩ := zCo_n h hs
    rcases zix4 p2 p3 hn6 with hp | ⟨a, w, ha, h1, h2, rfl, rfl⟩
    · refine zfin_thr (fX := fun M => f_X7_feature N (zKs k) (zln k) 112 (nI s) p2 p3 b M) h hc i1_ne0 (L_feature_1 ?_) ?_
      · unfold f_X6_feature f_X6_feature_0
        rw [zgK (k0 k), zbindS (s_find_ok h.1 hk5 hs), zxR, zbindS (s_arc_no hs hn1 hn6 hp), zxL]
      · show f_X7_feature N (zKs k) (zln k) 112 (nI s) p2 p3 b M = _
        unfold f_X7_feature f_X7_feature_0
        rw [zbpS (q_arc_no h.1 hk0 hk5 hs hn2 hn6 hp), zgK (k112 k), if_pos rfl]
    · by_cases e : a = w
      · refine zfin_thr (fX := fun M => f_X7_feature N (zKs k) (zln k) 112 (nI s) (nI a) (nI w) b M) h hc i2_ne0 (L_feature_2 ?_) ?_
        · unfold f_X6_feature f_X6_feature_0
          rw [zgK (k0 k), zbindS (s_find_ok h.1 hk5 hs), zxR, zbindS ((s_arc_ok hs hn1 hn6 ha h1 h2).trans (if_pos e)), zxL]
        · show f_X7_feature N (zKs k) (zln k) 112 (nI s) (nI a) (nI w) b M = _
          unfold f_X7_feature f_X7_feature_0
          rw [zbpS ((q_arc_ok h.1 hk0 hk5 hs hn2 hn6 ha h1 h2).trans (if_pos e)), zgK (k112 k), if_pos rfl]
      · rcases hb with rfl | rfl
        · refine zfin_val (fX := fun M => f_X7_feature N (zKs k) (zln k) 112 (nI s) (nI a) (nI w) 0 M) (v := nI (zbk (kd s) a w)) h hc (L_feature_ok ?_) (fun sw1 M1 g1 => ?_)
          · unfold f_X6_feature f_X6_feature_0
            rw [zgK (k0 k), zbindS (s_find_ok h.1 hk5 hs), zxR, zbindS ((s_arc_ok hs hn1 hn6 ha h1 h2).trans (if_neg e)), zxR, if_pos rfl, zbindS (s_byK h.1 hs (h.2.1.2 s hs).1 ha h2), zgK (ks0 hs)]
          · show f_X7_feature N (zKs k) (zln k) 112 (nI s) (nI a) (nI w) 0 M1 = _
            unfold f_X7_feature f_X7_feature_0
            rw [zbpS ((q_arc_ok g1.1 (zCo_k g1).1 hk5 hs (zCo_n g1 hs).2.1 hn6 ha h1 h2).trans (if_neg e)), zgK (k112 k), if_neg one_ne0, if_pos rfl, zbindS (q_byKind (M := zsI M1 112 19 0) g1.1 (show s < 5 by omega) (zSenM_congr (fun a i q => by rw [zI_sI, if_neg (by omega)]) (g1.2.2.1.2.1 s hs).1) ha h1 h2)]
        · refine zfin_val (fX := fun M => f_X7_feature N (zKs k) (zln k) 112 (nI s) (nI a) (nI w) 1 M) (v := nI (zbd a w)) h hc (L_feature_ok ?_) (fun sw1 M1 g1 => ?_)
          · unfold f_X6_feature f_X6_feature_0
            rw [zgK (k0 k), zbindS (s_find_ok h.1 hk5 hs), zxR, zbindS ((s_arc_ok hs hn1 hn6 ha h1 h2).trans (if_neg e)), zxR, if_neg one_ne0, zbindS (s_byDistance N (show a < 7 by omega) (show w < 7 by omega))]
          · show f_X7_feature N (zKs k) (zln k) 112 (nI s) (nI a) (nI w) 1 M1 = _
            unfold f_X7_feature f_X7_feature_0
            rw [zbpS ((q_arc_ok g1.1 (zCo_k g1).1 hk5 hs (zCo_n g1 hs).2.1 hn6 ha h1 h2).trans (if_neg e)), zgK (k112 k), if_neg one_ne0, if_neg one_ne0, zbindS (q_byDistance N (show a < 7 by omega) (show w < 7 by omega))]
theorem c_score (hj : j ≤ 512) (p1 p2 p3 : Int32) (h : zInv j k M) : zC8 N (zInv (j + 1)) k M p1 p2 p3 := by
  obtain ⟨sw, n, kd, mk, rh, wt, sm, st, H, nx, fs, h, hc⟩ := h
  obtain ⟨hk0, hk5⟩ := zCo_k h
  rcases zix1 p1 hk5 with hp | ⟨s, hs, rfl⟩
  · refine zfin_thr (fX := fun M => f_X7_score N (zKs k) (zln k) 112 p1 p2 p3 M) h hc i1_ne0 (L_score_1 ?_) ?_
    · unfold f_X6_score f_X6_score_0
      rw [zgK (k0 k), zbindS (s_find_no h.1 hk5 hp), zxL]
    · show f_X7_score N (zKs k) (zln k) 112 p1 p2 p3 M = _
      unfold f_X7_score f_X7_score_0
      rw [zbpS (q_arc_nos hk0 hp), zgK (k112 k), if_pos rfl]
  · obtain ⟨hn1, hn2, hn6⟩ := zCo_n h hs
    rcases zix4 p2 p3 hn6 with hp | ⟨a, w, ha, h1, h2, rfl, rfl⟩
    · refine zfin_thr (fX := fun M => f_X7_score N (zKs k) (zln k) 112 (nI s) p2 p3 M) h hc i1_ne0 (L_score_1 ?_) ?_
      · unfold f_X6_score f_X6_score_0
        rw [zgK (k0 k), zbindS (s_find_ok h.1 hk5 hs), zxR, zbindS (s_arc_no hs hn1 hn6 hp), zxL]
      · show f_X7_score N (zKs k) (zln k) 112 (nI s) p2 p3 M = _
        unfold f_X7_score f_X7_score_0
        rw [zbpS (q_arc_no h.1 hk0 hk5 hs hn2 hn6 hp), zgK (k112 k), if_pos rfl]
    · by_cases e : a = w
      · refine zfin_thr (fX := fun M => f_X7_score N (zKs k) (zln k) 112 (nI s) (nI a) (nI w) M) h hc i2_ne0 (L_score_2 ?_) ?_
        · unfold f_X6_score f_X6_score_0
          rw [zgK (k0 k), zbindS (s_find_ok h.1 hk5 hs), zxR, zbindS ((s_arc_ok hs hn1 hn6 ha h1 h2).trans (if_pos e)), zxL]
        · show f_X7_score N (zKs k) (zln k) 112 (nI s) (nI a) (nI w) M = _
          unfold f_X7_score f_X7_score_0
          rw [zbpS ((q_arc_ok h.1 hk0 hk5 hs hn2 hn6 ha h1 h2).trans (if_pos e)), zgK (k112 k), if_pos rfl]
      · refine zfin_val (fX := fun M => f_X7_score N (zKs k) (zln k) 112 (nI s) (nI a) (nI w) M) (v := iI (zsc wt (kd s) a w)) h hc (L_score_ok ?_) (fun sw1 M1 g1 => ?_)
        · unfold f_X6_score f_X6_score_0
          rw [zgK (k0 k), zbindS (s_find_ok h.1 hk5 hs), zxR, zbindS ((s_arc_ok hs hn1 hn6 ha h1 h2).trans (if_neg e)), zxR, zbindS (h.1.at 0 2 2 (zrm 1 rfl)), zbindS (s_ofArc h.1 hs (h.2.1.2 s hs).1 (zCo_wts hj h).1 ha h1 h2), zgK (k2 k)]
        · show f_X7_score N (zKs k) (zln k) 112 (nI s) (nI a) (nI w) M1 = _
          unfold f_X7_score f_X7_score_0
          rw [zbpS ((q_arc_ok g1.1 (zCo_k g1).1 hk5 hs (zCo_n g1 hs).2.1 hn6 ha h1 h2).trans (if_neg e)), zgK (k112 k), if_neg one_ne0, zbindS (q_scoreOf (M := zsI M1 112 19 0) g1.1 (show s < 5 by omega) (zSenM_congr (fun a i q => by rw [zI_sI, if_neg (by omega)]) (g1.2.2.1.2.1 s hs).1) (zWtsM_congr (fun i => by rw [zI_sI, if_neg (by omega)]) (zCo_wts hj g1).2) ha h1 h2)]
theorem c_average (hj : j ≤ 512) (p1 : Int32) (h : zInv j k M) : zC21 N (zInv (j + 1)) k M p1 := by
  obtain ⟨sw, n, kd, mk, rh, wt, sm, st, H, nx, fs, h, hc⟩ := h
  have q15 : ∀ p, f_X7_average_15 N (zKs k) (zln k) 112 p 112 M = some (FP.dconst0, zsI M 112 19 1) := fun p => by
    unfold f_X7_average_15 f_X7_average_16
    rw [zbpS q_asks0, zgK (k112 k), if_pos rfl]
    rfl
  have hst := h.2.2.2.2.2.2.2.2.1
  rcases zixF p1 with hp | ⟨f, hf, rfl⟩
  · refine ⟨1, M, FP.dconst0, zsI M 112 19 1, L_average_1 ?_, ?_, q_thrown, fun q => absurd q i1_ne0, sw, n, kd, mk, rh, wt, sm, st, H, nx, fs, zCo_up (zCo_mf h (zMf_thr M 1)), zChk_thr hc 1⟩
    · unfold f_X6_average f_X6_average_0
      rw [zbindS (s_feat_no N hp), zxL]
    · unfold f_X7_average f_X7_average_0
      by_cases q : p1 < 0
      · rw [if_pos q, q15]
      · rw [if_neg q, if_pos (hp.resolve_left q), q15]
  · have key : ∃ v, f_X5_averageOf N (zKs k) (zln k) 2 (nI f) M = some v ∧ ∀ M1 : ZM, zRf sw k (zR M1) → zI M1 112 7 = nI st → zJ M1 118 f = lI (sm f) → f_X7_average N (zKs k) (zln k) 112 (nI f) M1 = some (v, zsI M1 112 19 0) := by
      have hpre : ∀ M1 : ZM, f_X7_average N (zKs k) (zln k) 112 (nI f) M1 = f_X7_average_16 N (zKs k) (zln k) 112 (nI f) 1 112 M1 := fun M1 => by
        unfold f_X7_average f_X7_average_0
        rw [if_neg (nI_pos (by omega)), if_neg (show ¬ (28 : Int32) ≤ nI f from nI_ge (b := 28) hf (by omega))]
      by_cases hz : nI st = 0
      · refine ⟨FP.dconst0, ?_, fun M1 r1 s1 j1 => ?_⟩
        · unfold f_X5_averageOf f_X5_averageOf_0
          rw [zgK (k2 k), h.2.2.2.2.1.2.1, if_pos hz]
          rfl
        · rw [hpre]
          unfold f_X7_average_16
          rw [zbpS q_asks1, zgK (k112 k), if_neg one_ne0, zgK (k112 k), show zI (zsI M1 112 19 0) 112 7 = nI st from s1, if_pos hz]
          rfl
      · have hb : (!(nI st == 0)) = true := by rw [beq_eq_false_iff_ne.mpr hz]; rfl
        refine ⟨FP.ddiv (FP.l2d (lI (sm f))) (FP.i2d (nI st)), ?_, fun M1 r1 s1 j1 => ?_⟩
        · unfold f_X5_averageOf f_X5_averageOf_0
          rw [zgK (k2 k), h.2.2.2.2.1.2.1, if_neg hz, zbindS (s_isFeature N hf), if_neg one_ne0, zbindS (h.1.at 2 1 4 (zrm 7 rfl)), zgok (k4 k) (l4 k) hf (by decide), hb, zg_true, nI_clamp (by omega), (h.2.2.2.2.1.1 f hf).2]
        · rw [hpre]
          unfold f_X7_average_16
          rw [zbpS q_asks1, zgK (k112 k), if_neg one_ne0, zgK (k112 k), show zI (zsI M1 112 19 0) 112 7 = nI st from s1, if_neg hz, zR_sI, zbindS (r1.at 112 6 118 (zrm 27 rfl)), zgok (k118 k) (l118 k) hf (by decide), hb, zg_true, nI_clamp (by omega), zJ_sI, j1]
          rfl
    obtain ⟨v, e1, e2⟩ := key
    obtain ⟨M1, eM1⟩ : ∃ M1, M1 = zsD M 127 0 v := ⟨_, rfl⟩
    have g1 : zCf1 k M M1 := by rw [eM1]; exact ⟨⟨sw, h.1⟩, fun _ _ _ => rfl, fun _ _ _ _ => rfl⟩
    have c1 := zChk_cf hc g1
    have h1 : zCo j k sw n kd mk rh wt sm st H nx fs M1 := by rw [eM1]; exact h
    refine ⟨0, M1, v, zsI M1 112 19 0, (L_average_ok ?_).trans (by rw [eM1]), e2 M1 h1.1 h1.2.2.2.2.2.1.2.1 (h1.2.2.2.2.2.1.1 f hf).2, q_thrown, fun _ => ?_, sw, n, kd, mk, rh, wt, sm, st, H, nx, fs, zCo_up (zCo_mf h1 (zMf_thr M1 0)), zChk_thr c1 0⟩
    · unfold f_X6_average f_X6_average_0
      rw [zbindS (s_feat_ok N hf), zxR, zgK (k0 k), zbindS (h.1.at 0 2 2 (zrm 1 rfl)), zbindS e1, zgK (k2 k)]
    · rw [eM1]
      rfl
end CQ
