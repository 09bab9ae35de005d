/-! CALLS THAT ASK FOR TREES: trees, best, bestByTrying, head, ranked, rankedHead. -/
section CU
variable {N j k : Nat} {M : ZM}
theorem zfin_ok {sw : Bool} {n : Nat → Nat} {kd : Nat → Nat → Nat} {mk : Nat → Nat → Nat → Int32} {rh : Nat → Nat → Int32} {wt sm : Nat → Int} {st : Nat} {H : List zE} {nx fs : Nat} (h : zCo j k sw n kd mk rh wt sm st H nx fs M) (hc : zChk k n kd mk wt M) {fL : Option (Int32 × ZM)} {fX : ZM → Option (Int32 × ZM)} {v : Int32} {Mc : ZM} (g : zCf1 k M Mc) (e1 : fL = some (0, zsJ Mc 126 0 v.toInt64)) (e2 : ∀ sw M1, zCo j k sw n kd mk rh wt sm st H nx fs M1 → zChk k n kd mk wt M1 → ∃ M2, fX M1 = some (v, M2) ∧ zMf M1 M2 ∧ zChk k n kd mk wt M2 ∧ zI M2 112 19 = 0) : ∃ k1 M1 bv M2, fL = some (k1, M1) ∧ fX M1 = some (bv, M2) ∧ f_X7_thrown N (zKs k) (zln k) 112 M2 = some k1 ∧ (k1 = 0 → zJ M2 126 0 = bv.toInt64) ∧ zInv (j + 1) k M2 :=
  zfin_q h hc e1 (zCf1_out g _) (fun sw1 h1 c1 => by
    obtain ⟨M2, q1, q2, q3, q4⟩ := e2 sw1 _ h1 c1
    exact ⟨v, M2, q1, q2, q3, q4, fun _ => rfl⟩)
theorem zfin_no {sw : Bool} {n : Nat → Nat} {kd : Nat → Nat → Nat} {mk : Nat → Nat → Nat → Int32} {rh : Nat → Nat → Int32} {wt sm : Nat → Int} {st : Nat} {H : List zE} {nx fs : Nat} (h : zCo j k sw n kd mk rh wt sm st H nx fs M) (hc : zChk k n kd mk wt M) {fL : Option (Int32 × ZM)} {fX : ZM → Option (Int32 × ZM)} {c : Int32} (hc0 : ¬ c = 0) {Mc : ZM} (g : zCf1 k M Mc) (e1 : fL = some (c, Mc)) (e2 : ∀ sw M1, zCo j k sw n kd mk rh wt sm st H nx fs M1 → zChk k n kd mk wt M1 → ∃ M2, fX M1 = some (0, M2) ∧ zMf M1 M2 ∧ zChk k n kd mk wt M2 ∧ zI M2 112 19 = c) : ∃ k1 M1 bv M2, fL = some (k1, M1) ∧ fX M1 = some (bv, M2) ∧ f_X7_thrown N (zKs k) (zln k) 112 M2 = some k1 ∧ (k1 = 0 → zJ M2 126 0 = bv.toInt64) ∧ zInv (j + 1) k M2 :=
  zfin_q h hc e1 g (fun sw1 h1 c1 => by
    obtain ⟨M2, q1, q2, q3, q4⟩ := e2 sw1 _ h1 c1
    exact ⟨0, M2, q1, q2, q3, q4, fun q => absurd q hc0⟩)
theorem c_trees (hN : 10000000 ≤ N) (hj : j ≤ 512) (p1 p2 : Int32) (h : zInv j k M) : zC10 N (zInv (j + 1)) k M p1 p2 := by
  obtain ⟨sw, n, kd, mk, rh, wt, sm, st, H, nx, fs, h, hc⟩ := h
  obtain ⟨hk0, hk5⟩ := zCo_k h
  unfold zC10
  obtain ⟨cr, ecr⟩ := zb01_cr p2
  rw [ecr]
  rcases zix1 p1 hk5 with hp | ⟨s, hs, rfl⟩
  · refine zfin_thr (fX := fun M => f_X7_trees N (zKs k) (zln k) 112 p1 (bif cr then 1 else 0) M) h hc i1_ne0 (L_trees_1 ?_) ?_
    · unfold f_X6_trees f_X6_trees_0
      rw [zgK (k0 k), zbindS (s_find_no h.1 hk5 hp), zxL]
    · show f_X7_trees N (zKs k) (zln k) 112 p1 (bif cr then 1 else 0) M = _
      unfold f_X7_trees f_X7_trees_0
      rw [zbindS (q_sen_no hk0 hp), zgK (k112 k), zbpS q_asks0, if_pos rfl]
  · obtain ⟨Mc, ec, gc, rc, cc, jc⟩ := s_tryAll hN (zCo_cl hj h hs) cr
    refine zfin_ok (fX := fun M => f_X7_trees N (zKs k) (zln k) 112 (nI s) (bif cr then 1 else 0) M) (v := nI (zT (n s) (zal (mk s) (n s)) cr).length) (Mc := Mc) h hc (zCf1_scr gc) (L_trees_ok ?_) (fun sw1 M1 h1 c1 => ?_)
    · unfold f_X6_trees f_X6_trees_0
      rw [zgK (k0 k), zbindS (s_find_ok h.1 hk5 hs), zxR, zbpS ec, zbindS s_tsize, zgK (k109 k), cc]
    · obtain ⟨M2, e2, g2, c2, f2, t2⟩ := q_findsI hN hj (zCo_mf h1 (zMf_thr M1 0)) (zChk_thr c1 0) hs cr
      refine ⟨M2, ?_, zMf_trans (zMf_thr M1 0) g2, c2, t2.trans rfl⟩
      show f_X7_trees N (zKs k) (zln k) 112 (nI s) (bif cr then 1 else 0) M1 = _
      unfold f_X7_trees f_X7_trees_0
      rw [zbindS (q_sen_ok (zCo_k h1).1 hk5 hs), zgK (k112 k), zbpS q_asks1, if_neg one_ne0, zR_sI, zbindS (h1.1.at 112 16 123 (zrm 32 rfl)), zbpS e2, zgok (k123 k) (l123 k) (zwh_lt (by omega) cr) (by decide), nI_clamp (by have := zwh_lt (show s < 5 by omega) cr; omega), f2.2.1]
/-- the model's best, whatever the class did -/
theorem q_best (hN : 10000000 ≤ N) (hj : j ≤ 512) {sw : Bool} {n : Nat → Nat} {kd : Nat → Nat → Nat} {mk : Nat → Nat → Nat → Int32} {rh : Nat → Nat → Int32} {wt sm : Nat → Int} {st : Nat} {H : List zE} {nx fs : Nat} (h : zCo j k sw n kd mk rh wt sm st H nx fs M) (hc : zChk k n kd mk wt M) {s : Nat} (hs : s < k) (cr : Bool) : ∃ M', zMf M M' ∧ zChk k n kd mk wt M' ∧ ((zT (n s) (zal (mk s) (n s)) cr = [] ∧ f_X7_best N (zKs k) (zln k) 112 (nI s) (bif cr then 1 else 0) M = some (0, M') ∧ f_X7_bestByTrying N (zKs k) (zln k) 112 (nI s) (bif cr then 1 else 0) M = some (0, M') ∧ zI M' 112 19 = 2) ∨ ∃ v, zBt (zT (n s) (zal (mk s) (n s)) cr) wt (kd s) v ∧ f_X7_best N (zKs k) (zln k) 112 (nI s) (bif cr then 1 else 0) M = some (iI (zsum (zsc wt (kd s)) 1 v), M') ∧ f_X7_bestByTrying N (zKs k) (zln k) 112 (nI s) (bif cr then 1 else 0) M = some (iI (zsum (zsc wt (kd s)) 1 v), M') ∧ zI M' 112 19 = 0) := by
  obtain ⟨hcap, hsc⟩ := zT_cap hj h hs cr
  have h6 := (zCo_n h hs).2.2
  have hs5 := (zCo_M hj h hs).1
  have hwh := zwh_lt hs5 cr
  obtain ⟨M', g, c, q⟩ := q_asksTree hN hj h hc hs cr
  refine ⟨M', g, c, ?_⟩
  have hR' : zRf sw k (zR M') := by rw [g.1]; exact h.1
  rcases q with ⟨h1, h2, h3⟩ | ⟨v, h1, h2, h3, h4, h5⟩
  · refine Or.inl ⟨h1, ?_, ?_, h3⟩
    · unfold f_X7_best f_X7_best_0
      rw [zbpS h2, zgK (k112 k), if_pos rfl]
    · unfold f_X7_bestByTrying f_X7_bestByTrying_0
      rw [zbpS h2, zgK (k112 k), if_pos rfl]
  · refine Or.inr ⟨v, h1, ?_, ?_, h3⟩
    · unfold f_X7_best f_X7_best_0
      rw [zbpS h2, zgK (k112 k), if_neg one_ne0, zbindS (hR'.at 112 15 122 (zrm 31 rfl)), zbpS h5, zgok (k122 k) (l122 k) hwh (by decide), nI_clamp (by omega), h4, zbindS (q_scoreKey h6 hsc h1.1 112)]
    · unfold f_X7_bestByTrying f_X7_bestByTrying_0
      rw [zbpS h2, zgK (k112 k), if_neg one_ne0, zbindS (hR'.at 112 15 122 (zrm 31 rfl)), zbpS h5, zgok (k122 k) (l122 k) hwh (by decide), nI_clamp (by omega), h4, zbindS (q_scoreKey h6 hsc h1.1 112)]
theorem zBt_mem {T : List (List Nat)} {wt : Nat → Int} {kd : Nat → Nat} {v : List Nat} (h : zBt T wt kd v) : T ≠ [] := fun e => by
  have := h.1
  rw [e] at this
  cases this
theorem c_best (hN : 10000000 ≤ N) (hj : j ≤ 512) (p1 p2 : Int32) (h : zInv j k M) : zC11 N (zInv (j + 1)) k M p1 p2 := by
  obtain ⟨sw, n, kd, mk, rh, wt, sm, st, H, nx, fs, h, hc⟩ := h
  obtain ⟨hk0, hk5⟩ := zCo_k h
  unfold zC11
  obtain ⟨cr, ecr⟩ := zb01_cr p2
  rw [ecr]
  rcases zix1 p1 hk5 with hp | ⟨s, hs, rfl⟩
  · refine zfin_thr (fX := fun M => f_X7_best N (zKs k) (zln k) 112 p1 (bif cr then 1 else 0) M) h hc i1_ne0 (L_best_1 ?_) ?_
    · unfold f_X6_best f_X6_best_0
      rw [zgK (k0 k), zbindS (s_find_no h.1 hk5 hp), zxL]
    · show f_X7_best N (zKs k) (zln k) 112 p1 (bif cr then 1 else 0) M = _
      unfold f_X7_best f_X7_best_0
      rw [zbpS (q_asksTree_no hk0 hp), zgK (k112 k), if_pos rfl]
  · have h6 := (zCo_n h hs).2.2
    obtain ⟨Mc, gc, q⟩ := s_bestKey hN (zCo_cl hj h hs) cr
    rcases q with ⟨hT, ec⟩ | ⟨v, hv, ec⟩
    · refine zfin_no (fX := fun M => f_X7_best N (zKs k) (zln k) 112 (nI s) (bif cr then 1 else 0) M) (Mc := Mc) h hc i2_ne0 (zCf1_scr gc) (L_best_3 ?_) (fun sw1 M1 h1 c1 => ?_)
      · unfold f_X6_best f_X6_best_0
        rw [zgK (k0 k), zbindS (s_find_ok h.1 hk5 hs), zxR, zbpS ec, zxL]
      · obtain ⟨M2, g2, c2, q⟩ := q_best hN hj h1 c1 hs cr
        rcases q with ⟨-, q1, -, q2⟩ | ⟨v, hv, -⟩
        · exact ⟨M2, q1, g2, c2, q2⟩
        · exact absurd hT (zBt_mem hv)
    · refine zfin_ok (fX := fun M => f_X7_best N (zKs k) (zln k) 112 (nI s) (bif cr then 1 else 0) M) (v := iI (zsum (zsc wt (kd s)) 1 v)) (Mc := Mc) h hc (zCf1_scr gc) (L_best_ok ?_) (fun sw1 M1 h1 c1 => ?_)
      · unfold f_X6_best f_X6_best_0
        rw [zgK (k0 k), zbindS (s_find_ok h.1 hk5 hs), zxR, zbpS ec, zxR, zbindS (s_scoreKey h6 (zT_cap hj h hs cr).2 hv.1)]
      · obtain ⟨M2, g2, c2, q⟩ := q_best hN hj h1 c1 hs cr
        rcases q with ⟨q0, -⟩ | ⟨u, hu, q1, -, q2⟩
        · exact absurd q0 (zBt_mem hv)
        · rw [zBt_eq h6 hu hv] at q1
          exact ⟨M2, q1, g2, c2, q2⟩
theorem c_bestByTrying (hN : 10000000 ≤ N) (hj : j ≤ 512) (p1 p2 : Int32) (h : zInv j k M) : zC12 N (zInv (j + 1)) k M p1 p2 := by
  obtain ⟨sw, n, kd, mk, rh, wt, sm, st, H, nx, fs, h, hc⟩ := h
  obtain ⟨hk0, hk5⟩ := zCo_k h
  unfold zC12
  obtain ⟨cr, ecr⟩ := zb01_cr p2
  rw [ecr]
  rcases zix1 p1 hk5 with hp | ⟨s, hs, rfl⟩
  · refine zfin_thr (fX := fun M => f_X7_bestByTrying N (zKs k) (zln k) 112 p1 (bif cr then 1 else 0) M) h hc i1_ne0 (L_bestByTrying_1 ?_) ?_
    · unfold f_X6_bestByTrying f_X6_bestByTrying_0
      rw [zgK (k0 k), zbindS (s_find_no h.1 hk5 hp), zxL]
    · show f_X7_bestByTrying N (zKs k) (zln k) 112 p1 (bif cr then 1 else 0) M = _
      unfold f_X7_bestByTrying f_X7_bestByTrying_0
      rw [zbpS (q_asksTree_no hk0 hp), zgK (k112 k), if_pos rfl]
  · have h6 := (zCo_n h hs).2.2
    obtain ⟨Mc, gc, ec, r, er, q⟩ := s_byTrying hN (zCo_cl hj h hs) cr
    rcases q with ⟨hT, rfl⟩ | ⟨v, hv, rfl⟩
    · refine zfin_no (fX := fun M => f_X7_bestByTrying N (zKs k) (zln k) 112 (nI s) (bif cr then 1 else 0) M) (Mc := Mc) h hc i2_ne0 (zCf1_scr gc) (L_bestByTrying_3 ?_) (fun sw1 M1 h1 c1 => ?_)
      · unfold f_X6_bestByTrying f_X6_bestByTrying_0
        rw [zgK (k0 k), zbindS (s_find_ok h.1 hk5 hs), zxR, zbpS ec, zbindS er, zgK (k109 k), zbindS (show f_X6_checkTree N zNK = some (Sum.inl 3) from by unfold f_X6_checkTree f_X6_checkTree_0; exact if_pos rfl), zxL]
      · obtain ⟨M2, g2, c2, q⟩ := q_best hN hj h1 c1 hs cr
        rcases q with ⟨-, -, q1, q2⟩ | ⟨v, hv, -⟩
        · exact ⟨M2, q1, g2, c2, q2⟩
        · exact absurd hT (zBt_mem hv)
    · have hb := zkc_b (wt := wt) (kd := kd s) h6 (zT_cap hj h hs cr).2 hv.1
      refine zfin_ok (fX := fun M => f_X7_bestByTrying N (zKs k) (zln k) 112 (nI s) (bif cr then 1 else 0) M) (v := iI (zsum (zsc wt (kd s)) 1 v)) (Mc := Mc) h hc (zCf1_scr gc) (L_bestByTrying_ok ?_) (fun sw1 M1 h1 c1 => ?_)
      · unfold f_X6_bestByTrying f_X6_bestByTrying_0
        rw [zgK (k0 k), zbindS (s_find_ok h.1 hk5 hs), zxR, zbpS ec, zbindS er, zgK (k109 k), zbindS (show f_X6_checkTree N (lI (zkc (zsc wt (kd s)) v)) = some (Sum.inr ()) from if_neg (zoI_ne (by omega) (by omega))), zxR, zbindS (s_scoreKey h6 (zT_cap hj h hs cr).2 hv.1)]
      · obtain ⟨M2, g2, c2, q⟩ := q_best hN hj h1 c1 hs cr
        rcases q with ⟨q0, -⟩ | ⟨u, hu, -, q1, q2⟩
        · exact absurd q0 (zBt_mem hv)
        · rw [zBt_eq h6 hu hv] at q1
          exact ⟨M2, q1, g2, c2, q2⟩
theorem c_head (hN : 10000000 ≤ N) (hj : j ≤ 512) (p1 p2 p3 : Int32) (h : zInv j k M) : zC13 N (zInv (j + 1)) k M p1 p2 p3 := by
  obtain ⟨sw, n, kd, mk, rh, wt, sm, st, H, nx, fs, h, hc⟩ := h
  obtain ⟨hk0, hk5⟩ := zCo_k h
  unfold zC13
  obtain ⟨cr, ecr⟩ := zb01_cr p2
  rw [ecr]
  rcases zix1 p1 hk5 with hp | ⟨s, hs, rfl⟩
  · refine zfin_thr (fX := fun M => f_X7_head N (zKs k) (zln k) 112 p1 (bif cr then 1 else 0) p3 M) h hc i1_ne0 (L_head_1 ?_) ?_
    · unfold f_X6_head f_X6_head_0
      rw [zgK (k0 k), zbindS (s_find_no h.1 hk5 hp), zxL]
    · show f_X7_head N (zKs k) (zln k) 112 p1 (bif cr then 1 else 0) p3 M = _
      unfold f_X7_head f_X7_head_0
      rw [zbindS (q_word_nos hk0 hp), zgK (k112 k), zbpS q_asks0, if_pos rfl]
  · obtain ⟨hn1, hn2, h6⟩ := zCo_n h hs
    rcases zix2 p3 h6 with hp | ⟨w, hw1, hw2, rfl⟩
    · refine zfin_thr (fX := fun M => f_X7_head N (zKs k) (zln k) 112 (nI s) (bif cr then 1 else 0) p3 M) h hc i1_ne0 (L_head_1 ?_) ?_
      · unfold f_X6_head f_X6_head_0
        rw [zgK (k0 k), zbindS (s_find_ok h.1 hk5 hs), zxR, zbindS (s_word_no hs hn1 hp), zxL]
      · show f_X7_head N (zKs k) (zln k) 112 (nI s) (bif cr then 1 else 0) p3 M = _
        unfold f_X7_head f_X7_head_0
        rw [zbindS (q_word_no h.1 hk0 hk5 hs hn2 hp), zgK (k112 k), zbpS q_asks0, if_pos rfl]
    · have pre : ∀ sw M1, zCo j k sw n kd mk rh wt sm st H nx fs M1 → zChk k n kd mk wt M1 → ∃ M2, zMf M1 M2 ∧ zChk k n kd mk wt M2 ∧ ((zT (n s) (zal (mk s) (n s)) cr = [] ∧ f_X7_head N (zKs k) (zln k) 112 (nI s) (bif cr then 1 else 0) (nI w) M1 = some (0, M2) ∧ zI M2 112 19 = 2) ∨ ∃ v, zBt (zT (n s) (zal (mk s) (n s)) cr) wt (kd s) v ∧ f_X7_head N (zKs k) (zln k) 112 (nI s) (bif cr then 1 else 0) (nI w) M1 = some (nI (zhd v w), M2) ∧ zI M2 112 19 = 0) := by
        intro sw1 M1 h1 c1
        obtain ⟨M2, g2, c2, q⟩ := q_asksTree hN hj (zCo_mf h1 (zMf_thr M1 0)) (zChk_thr c1 0) hs cr
        have hs5 := (zCo_M hj h1 hs).1
        have hwh := zwh_lt hs5 cr
        have hR2 : zRf sw1 k (zR M2) := by rw [g2.1]; exact h1.1
        refine ⟨M2, zMf_trans (zMf_thr M1 0) g2, c2, ?_⟩
        rcases q with ⟨q1, q2, q3⟩ | ⟨v, q1, q2, q3, q4, q5⟩
        · refine Or.inl ⟨q1, ?_, q3⟩
          unfold f_X7_head f_X7_head_0
          rw [zbindS (q_word_ok h1.1 (zCo_k h1).1 hk5 hs (zCo_n h1 hs).2.1 h6 hw1 hw2), zgK (k112 k), zbpS q_asks1, if_neg one_ne0, zbpS q2, if_pos rfl]
        · refine Or.inr ⟨v, q1, ?_, q3⟩
          have hn3 : zI M2 113 s = nI (n s) := by rw [g2.2.1 113 s (by omega) (by omega), zI_sI, if_neg (by omega)]; exact (zCo_n h1 hs).2.1
          unfold f_X7_head f_X7_head_0
          rw [zbindS (q_word_ok h1.1 (zCo_k h1).1 hk5 hs (zCo_n h1 hs).2.1 h6 hw1 hw2), zgK (k112 k), zbpS q_asks1, if_neg one_ne0, zbpS q2, if_neg one_ne0, zbindS (hR2.at 112 15 122 (zrm 31 rfl)), zbpS q5, zgok (k122 k) (l122 k) hwh (by decide), nI_clamp (by omega), q4, zbindS (q_headKey hR2 hs5 hn3 h6 (zT_cap hj h hs cr).2 q1.1 hw1 hw2)]
      obtain ⟨Mc, gc, q⟩ := s_bestKey hN (zCo_cl hj h hs) cr
      rcases q with ⟨hT, ec⟩ | ⟨v, hv, ec⟩
      · refine zfin_no (fX := fun M => f_X7_head N (zKs k) (zln k) 112 (nI s) (bif cr then 1 else 0) (nI w) M) (Mc := Mc) h hc i2_ne0 (zCf1_scr gc) (L_head_3 ?_) (fun sw1 M1 h1 c1 => ?_)
        · unfold f_X6_head f_X6_head_0
          rw [zgK (k0 k), zbindS (s_find_ok h.1 hk5 hs), zxR, zbindS (s_word_ok hs hn1 h6 hw1 hw2), zxR, zbpS ec, zxL]
        · obtain ⟨M2, g2, c2, q⟩ := pre sw1 M1 h1 c1
          rcases q with ⟨-, q1, q2⟩ | ⟨v, hv, -⟩
          · exact ⟨M2, q1, g2, c2, q2⟩
          · exact absurd hT (zBt_mem hv)
      · refine zfin_ok (fX := fun M => f_X7_head N (zKs k) (zln k) 112 (nI s) (bif cr then 1 else 0) (nI w) M) (v := nI (zhd v w)) (Mc := Mc) h hc (zCf1_scr gc) (L_head_ok ?_) (fun sw1 M1 h1 c1 => ?_)
        · unfold f_X6_head f_X6_head_0
          rw [zgK (k0 k), zbindS (s_find_ok h.1 hk5 hs), zxR, zbindS (s_word_ok hs hn1 h6 hw1 hw2), zxR, zbpS ec, zxR, zbindS (s_headKey hN h6 (zT_cap hj h hs cr).2 hv.1 hw1 hw2)]
        · obtain ⟨M2, g2, c2, q⟩ := pre sw1 M1 h1 c1
          rcases q with ⟨q0, -⟩ | ⟨u, hu, q1, q2⟩
          · exact absurd q0 (zBt_mem hv)
          · rw [zBt_eq h6 hu hv] at q1
            exact ⟨M2, q1, g2, c2, q2⟩
/-- asksRank of a sentence -/
theorem q_asksRank (hN : 10000000 ≤ N) (hj : j ≤ 512) {sw : Bool} {n : Nat → Nat} {kd : Nat → Nat → Nat} {mk : Nat → Nat → Nat → Int32} {rh : Nat → Nat → Int32} {wt sm : Nat → Int} {st : Nat} {H : List zE} {nx fs : Nat} (h : zCo j k sw n kd mk rh wt sm st H nx fs M) (hc : zChk k n kd mk wt M) {s : Nat} (hs : s < k) (cr : Bool) (p : Int32) : ∃ M', zMf M M' ∧ zChk k n kd mk wt M' ∧ (((p < 0 ∨ nI (zT (n s) (zal (mk s) (n s)) cr).length ≤ p) → f_X7_asksRank N (zKs k) (zln k) 112 (nI s) (bif cr then 1 else 0) p 1 M = some (0, M') ∧ zI M' 112 19 = 1) ∧ (∀ r, r < (zT (n s) (zal (mk s) (n s)) cr).length → p = nI r → f_X7_asksRank N (zKs k) (zln k) 112 (nI s) (bif cr then 1 else 0) p 1 M = some (1, M') ∧ zI M' 112 19 = 0 ∧ zSrt wt (kd s) (zT (n s) (zal (mk s) (n s)) cr) M')) := by
  obtain ⟨hk0, hk5⟩ := zCo_k h
  obtain ⟨hcap, hsc⟩ := zT_cap hj h hs cr
  have hs5 := (zCo_M hj h hs).1
  have hwh := zwh_lt hs5 cr
  by_cases hneg : p < 0
  · refine ⟨zsI M 112 19 1, zMf_thr M 1, zChk_thr hc 1, fun _ => ⟨?_, rfl⟩, fun r hr e => ?_⟩
    · unfold f_X7_asksRank f_X7_asksRank_0
      rw [zbindS (q_sen_ok hk0 hk5 hs), zgK (k112 k), if_neg one_ne0, if_neg one_ne0, if_pos hneg]
      exact q_rank50_0 _ _
    · rw [e] at hneg
      exact absurd hneg (nI_pos (by omega))
  · obtain ⟨M1, e1, g1, c1, f1, t1⟩ := q_findsI hN hj h hc hs cr
    have pre : f_X7_asksRank N (zKs k) (zln k) 112 (nI s) (bif cr then 1 else 0) p 1 M = if nI (zT (n s) (zal (mk s) (n s)) cr).length ≤ p then some (0, zsI M1 112 19 1) else f_X7_asksRank_37 N (zKs k) (zln k) 112 (nI s) (bif cr then 1 else 0) 1 M1 := by
      unfold f_X7_asksRank f_X7_asksRank_0
      rw [zbindS (q_sen_ok hk0 hk5 hs), zgK (k112 k), if_neg one_ne0, if_neg one_ne0, if_neg hneg, zbindS (h.1.at 112 16 123 (zrm 32 rfl)), zbpS e1, zgok (k123 k) (l123 k) hwh (by decide), nI_clamp (by omega), f1.2.1]
      by_cases q : nI (zT (n s) (zal (mk s) (n s)) cr).length ≤ p
      · rw [if_pos q, if_pos q]
        exact q_rank50_0 _ _
      · rw [if_neg q, if_neg q]
    by_cases hle : nI (zT (n s) (zal (mk s) (n s)) cr).length ≤ p
    · refine ⟨zsI M1 112 19 1, zMf_trans g1 (zMf_thr M1 1), zChk_thr c1 1, fun _ => ⟨by rw [pre, if_pos hle], rfl⟩, fun r hr e => ?_⟩
      rw [e] at hle
      exact absurd hle (nI_ge hr (by omega))
    · obtain ⟨M2, e2, g2, c2, t2, s2⟩ := q_listsI hN hj (zCo_mf h g1) c1 hs cr f1
      refine ⟨zsI M2 112 19 0, zMf_trans (zMf_trans g1 g2) (zMf_thr M2 0), zChk_thr c2 0, fun q => absurd q (by
        rintro (q | q)
        · exact hneg q
        · exact hle q), fun r hr e => ⟨?_, rfl, zSrt_congr (fun _ => rfl) s2⟩⟩
      rw [pre, if_neg hle]
      unfold f_X7_asksRank_37
      rw [if_neg one_ne0, zbindS e2, zgK (k112 k)]
      unfold f_X7_asksRank_50
      rw [zbpS q_asks1, zgK (k112 k)]
      rfl
theorem q_asksRank_no (h0 : zI M 112 0 = nI k) {p b r c : Int32} (hp : p < 0 ∨ nI k ≤ p) : f_X7_asksRank N (zKs k) (zln k) 112 p b r c M = some (0, zsI M 112 19 1) := by
  unfold f_X7_asksRank f_X7_asksRank_0
  rw [zbindS (q_sen_no h0 hp), zgK (k112 k), if_pos rfl]
  exact q_rank50_0 _ _
theorem c_ranked (hN : 10000000 ≤ N) (hj : j ≤ 512) (p1 p2 p3 : Int32) (h : zInv j k M) : zC15 N (zInv (j + 1)) k M p1 p2 p3 := by
  obtain ⟨sw, n, kd, mk, rh, wt, sm, st, H, nx, fs, h, hc⟩ := h
  obtain ⟨hk0, hk5⟩ := zCo_k h
  unfold zC15
  obtain ⟨cr, ecr⟩ := zb01_cr p2
  rw [ecr]
  rcases zix1 p1 hk5 with hp | ⟨s, hs, rfl⟩
  · refine zfin_thr (fX := fun M => f_X7_ranked N (zKs k) (zln k) 112 p1 (bif cr then 1 else 0) p3 M) h hc i1_ne0 (L_ranked_1 ?_) ?_
    · unfold f_X6_ranked f_X6_ranked_0
      rw [zgK (k0 k), zbindS (s_find_no h.1 hk5 hp), zxL]
    · show f_X7_ranked N (zKs k) (zln k) 112 p1 (bif cr then 1 else 0) p3 M = _
      unfold f_X7_ranked f_X7_ranked_0
      rw [zbpS (q_asksRank_no hk0 hp), zgK (k112 k), if_pos rfl]
  · have h6 := (zCo_n h hs).2.2
    obtain ⟨hcap, hsc⟩ := zT_cap hj h hs cr
    obtain ⟨Mc, gc, q⟩ := s_rankedKey hN (zCo_cl hj h hs) cr p3
    rcases q with ⟨hb, ec⟩ | ⟨r, z, hr, rfl, ec, hz⟩
    · refine zfin_no (fX := fun M => f_X7_ranked N (zKs k) (zln k) 112 (nI s) (bif cr then 1 else 0) p3 M) (Mc := Mc) h hc i1_ne0 (zCf1_scr gc) (L_ranked_1 ?_) (fun sw1 M1 h1 c1 => ?_)
      · unfold f_X6_ranked f_X6_ranked_0
        rw [zgK (k0 k), zbindS (s_find_ok h.1 hk5 hs), zxR, zbpS ec, zxL]
      · obtain ⟨M2, g2, c2, q1, -⟩ := q_asksRank hN hj h1 c1 hs cr p3
        obtain ⟨q2, q3⟩ := q1 hb
        refine ⟨M2, ?_, g2, c2, q3⟩
        show f_X7_ranked N (zKs k) (zln k) 112 (nI s) (bif cr then 1 else 0) p3 M1 = _
        unfold f_X7_ranked f_X7_ranked_0
        rw [zbpS q2, zgK (k112 k), if_pos rfl]
    · -- the tree of this rank
      obtain ⟨M0, g0, c0, -, q0⟩ := q_asksRank hN hj h hc hs cr (nI r)
      obtain ⟨i, hi, -, hcnt⟩ := (q0 r hr rfl).2.2 r hr
      have ez := hz i hi hcnt
      refine zfin_ok (fX := fun M => f_X7_ranked N (zKs k) (zln k) 112 (nI s) (bif cr then 1 else 0) (nI r) M) (v := iI (zsum (zsc wt (kd s)) 1 ((zT (n s) (zal (mk s) (n s)) cr).getD i []))) (Mc := Mc) h hc (zCf1_scr gc) (L_ranked_ok ?_) (fun sw1 M1 h1 c1 => ?_)
      · unfold f_X6_ranked f_X6_ranked_0
        rw [zgK (k0 k), zbindS (s_find_ok h.1 hk5 hs), zxR, zbpS ec, zxR, ez, zbindS (s_scoreKey h6 hsc (zT_at hi))]
      · obtain ⟨M2, g2, c2, -, q1⟩ := q_asksRank hN hj h1 c1 hs cr (nI r)
        obtain ⟨q2, q3, q4⟩ := q1 r hr rfl
        have hR2 : zRf sw1 k (zR M2) := by rw [g2.1]; exact h1.1
        obtain ⟨i', hi', q5, hcnt'⟩ := q4 r hr
        have ei : i' = i := by
          have := hz i' hi' hcnt'
          rw [ez] at this
          have h7 := zkc_mk (wt := wt) (kd := kd s) h6 (zT_at hi) (zT_at hi')
          have h8 := zkc_mk (wt := wt) (kd := kd s) h6 (zT_at hi') (zT_at hi)
          exact zT_getD_inj hi' hi (zmk_inj (wt := wt) (kd := kd s) h6 (zT_at hi') (zT_at hi) (by omega))
        subst ei
        refine ⟨M2, ?_, g2, c2, q3⟩
        show f_X7_ranked N (zKs k) (zln k) 112 (nI s) (bif cr then 1 else 0) (nI r) M1 = _
        unfold f_X7_ranked f_X7_ranked_0
        rw [zbpS q2, zgK (k112 k), if_neg one_ne0, zbindS (hR2.at 112 12 121 (zrm 30 rfl)), zgok (k121 k) (l121 k) (show r < 16807 by omega) (by decide), nI_clamp (by omega), q5, zbindS (q_scoreKey h6 hsc (zT_at hi) 112)]
theorem c_rankedHead (hN : 10000000 ≤ N) (hj : j ≤ 512) (p1 p2 p3 p4 : Int32) (h : zInv j k M) : zC16 N (zInv (j + 1)) k M p1 p2 p3 p4 := by
  obtain ⟨sw, n, kd, mk, rh, wt, sm, st, H, nx, fs, h, hc⟩ := h
  obtain ⟨hk0, hk5⟩ := zCo_k h
  unfold zC16
  obtain ⟨cr, ecr⟩ := zb01_cr p2
  rw [ecr]
  rcases zix1 p1 hk5 with hp | ⟨s, hs, rfl⟩
  · refine zfin_thr (fX := fun M => f_X7_rankedHead N (zKs k) (zln k) 112 p1 (bif cr then 1 else 0) p3 p4 M) h hc i1_ne0 (L_rankedHead_1 ?_) ?_
    · unfold f_X6_rankedHead f_X6_rankedHead_0
      rw [zgK (k0 k), zbindS (s_find_no h.1 hk5 hp), zxL]
    · show f_X7_rankedHead N (zKs k) (zln k) 112 p1 (bif cr then 1 else 0) p3 p4 M = _
      unfold f_X7_rankedHead f_X7_rankedHead_0
      rw [zbindS (q_word_nos hk0 hp), zgK (k112 k), zbpS (q_asksRank_no hk0 hp), if_pos rfl]
  · obtain ⟨hn1, hn2, h6⟩ := zCo_n h hs
    obtain ⟨hcap, hsc⟩ := zT_cap hj h hs cr
    rcases zix2 p4 h6 with hp | ⟨w, hw1, hw2, rfl⟩
    · refine zfin_thr (fX := fun M => f_X7_rankedHead N (zKs k) (zln k) 112 (nI s) (bif cr then 1 else 0) p3 p4 M) h hc i1_ne0 (L_rankedHead_1 ?_) ?_
      · unfold f_X6_rankedHead f_X6_rankedHead_0
        rw [zgK (k0 k), zbindS (s_find_ok h.1 hk5 hs), zxR, zbindS (s_word_no hs hn1 hp), zxL]
      · show f_X7_rankedHead N (zKs k) (zln k) 112 (nI s) (bif cr then 1 else 0) p3 p4 M = _
        have er : f_X7_asksRank N (zKs k) (zln k) 112 (nI s) (bif cr then 1 else 0) p3 0 M = some (0, zsI M 112 19 1) := by
          unfold f_X7_asksRank f_X7_asksRank_0
          rw [zbindS (q_sen_ok hk0 hk5 hs), zgK (k112 k), if_neg one_ne0, if_pos rfl]
          exact q_rank50_0 _ _
        unfold f_X7_rankedHead f_X7_rankedHead_0
        rw [zbindS (q_word_no h.1 hk0 hk5 hs hn2 hp), zgK (k112 k), zbpS er, if_pos rfl]
    · obtain ⟨Mc, gc, q⟩ := s_rankedKey hN (zCo_cl hj h hs) cr p3
      rcases q with ⟨hb, ec⟩ | ⟨r, z, hr, rfl, ec, hz⟩
      · refine zfin_no (fX := fun M => f_X7_rankedHead N (zKs k) (zln k) 112 (nI s) (bif cr then 1 else 0) p3 (nI w) M) (Mc := Mc) h hc i1_ne0 (zCf1_scr gc) (L_rankedHead_1 ?_) (fun sw1 M1 h1 c1 => ?_)
        · unfold f_X6_rankedHead f_X6_rankedHead_0
          rw [zgK (k0 k), zbindS (s_find_ok h.1 hk5 hs), zxR, zbindS (s_word_ok hs hn1 h6 hw1 hw2), zxR, zbpS ec, zxL]
        · obtain ⟨M2, g2, c2, q1, -⟩ := q_asksRank hN hj h1 c1 hs cr p3
          obtain ⟨q2, q3⟩ := q1 hb
          refine ⟨M2, ?_, g2, c2, q3⟩
          show f_X7_rankedHead N (zKs k) (zln k) 112 (nI s) (bif cr then 1 else 0) p3 (nI w) M1 = _
          unfold f_X7_rankedHead f_X7_rankedHead_0
          rw [zbindS (q_word_ok h1.1 (zCo_k h1).1 hk5 hs (zCo_n h1 hs).2.1 h6 hw1 hw2), zgK (k112 k), zbpS q2, if_pos rfl]
      · obtain ⟨M0, g0, c0, -, q0⟩ := q_asksRank hN hj h hc hs cr (nI r)
        obtain ⟨i, hi, -, hcnt⟩ := (q0 r hr rfl).2.2 r hr
        have ez := hz i hi hcnt
        refine zfin_ok (fX := fun M => f_X7_rankedHead N (zKs k) (zln k) 112 (nI s) (bif cr then 1 else 0) (nI r) (nI w) M) (v := nI (zhd ((zT (n s) (zal (mk s) (n s)) cr).getD i []) w)) (Mc := Mc) h hc (zCf1_scr gc) (L_rankedHead_ok ?_) (fun sw1 M1 h1 c1 => ?_)
        · unfold f_X6_rankedHead f_X6_rankedHead_0
          rw [zgK (k0 k), zbindS (s_find_ok h.1 hk5 hs), zxR, zbindS (s_word_ok hs hn1 h6 hw1 hw2), zxR, zbpS ec, zxR, ez, zbindS (s_headKey hN h6 hsc (zT_at hi) hw1 hw2)]
        · obtain ⟨M2, g2, c2, -, q1⟩ := q_asksRank hN hj h1 c1 hs cr (nI r)
          obtain ⟨q2, q3, q4⟩ := q1 r hr rfl
          have hR2 : zRf sw1 k (zR M2) := by rw [g2.1]; exact h1.1
          have hs5 := (zCo_M hj h1 hs).1
          have hn3 : zI M2 113 s = nI (n s) := by rw [g2.2.1 113 s (by omega) (by omega)]; exact (zCo_n h1 hs).2.1
          obtain ⟨i', hi', q5, hcnt'⟩ := q4 r hr
          have ei : i' = i := by
            have := hz i' hi' hcnt'
            rw [ez] at this
            have h7 := zkc_mk (wt := wt) (kd := kd s) h6 (zT_at hi) (zT_at hi')
            have h8 := zkc_mk (wt := wt) (kd := kd s) h6 (zT_at hi') (zT_at hi)
            exact zT_getD_inj hi' hi (zmk_inj (wt := wt) (kd := kd s) h6 (zT_at hi') (zT_at hi) (by omega))
          subst ei
          refine ⟨M2, ?_, g2, c2, q3⟩
          show f_X7_rankedHead N (zKs k) (zln k) 112 (nI s) (bif cr then 1 else 0) (nI r) (nI w) M1 = _
          unfold f_X7_rankedHead f_X7_rankedHead_0
          rw [zbindS (q_word_ok h1.1 (zCo_k h1).1 hk5 hs (zCo_n h1 hs).2.1 h6 hw1 hw2), zgK (k112 k), zbpS q2, if_neg one_ne0, zbindS (hR2.at 112 12 121 (zrm 30 rfl)), zgok (k121 k) (l121 k) (show r < 16807 by omega) (by decide), nI_clamp (by omega), q5, zbindS (q_headKey hR2 hs5 hn3 h6 hsc (zT_at hi) hw1 hw2)]
end CU
