/-! MEND. -/
section ME
variable {N j k : Nat} {M : ZM}
theorem c_mend (hN : 10000000 ≤ N) (hj : j < 512) (p1 : Int32) (h : zInv j k M) : zC19 N (zInv (j + 1)) k M p1 := by
  obtain ⟨sw, n, kd, mk, rh, wt, sm, st, H, nx, fs, h, hc⟩ := h
  obtain ⟨hk0, hk5⟩ := zCo_k h
  rcases zix1 p1 hk5 with hp | ⟨s, hs, rfl⟩
  · refine zfin_thr (fX := fun M => f_X7_mend N (zKs k) (zln k) 112 p1 M) h hc i1_ne0 (L_mend_1 ?_) ?_
    · unfold f_X6_mend f_X6_mend_0
      rw [zgK (k0 k), zbindS (s_find_no h.1 hk5 hp), zxL]
    · show f_X7_mend N (zKs k) (zln k) 112 p1 M = _
      unfold f_X7_mend f_X7_mend_0
      rw [zbindS (q_sen_no hk0 hp), zgK (k112 k), zbpS q_asks0, if_pos rfl]
  · obtain ⟨hn1, hn2, h6⟩ := zCo_n h hs
    have hj2 : j ≤ 512 := by omega
    obtain ⟨hs5, -, -⟩ := zCo_M hj2 h hs
    have hr := (h.2.2.2.1.2 s hs).1
    obtain ⟨r, er, hrr⟩ := s_right2 (N := N) hN h.1 hs hn1 h6 hr (h.2.1.2 s hs).2 (n s) N 1 (by omega) (Nat.le_refl 1) (by omega)
    have er : f_X2_hasRightTree N (zKs k) (zln k) (128 + 11 * s) M = some r := er
    -- the model's, from any memory with the same right heads
    have hqr : ∀ (M6 : ZM) (sw : Bool), zRf sw k (zR M6) → zI M6 113 s = nI (n s) → (∀ w, 1 ≤ w → w ≤ n s → zI M6 116 (7 * s + w) = rh s w) → ∃ c : Bool, f_X7_isRight N (zKs k) (zln k) 112 (nI s) M6 = some (bif c then 1 else 0) ∧ (c = true ↔ ∀ x, 1 ≤ x → x ≤ n s → zits (zrg (rh s)) 6 x = 0) := fun M6 sw hR hn hm => by
      obtain ⟨c, e, q⟩ := q_right4 (N := N) hN hR hs5 hn h6 hr hm (n s) N 1 true (by omega) (Nat.le_refl 1) (by omega)
      exact ⟨c, e, q.trans ⟨fun z => z.2, fun z => ⟨rfl, z⟩⟩⟩
    rcases hrr with ⟨rfl, hall⟩ | ⟨rfl, x, hx1, hx2, hx3⟩
    · have hall6 : ∀ x, 1 ≤ x → x ≤ n s → zits (zrg (rh s)) 6 x = 0 := fun x a b => (zright h6 hr a b).mp (hall x a b)
      obtain ⟨hcap, hsc⟩ := zT_cap hj2 h hs true
      have hwh := zwh_lt hs5 true
      obtain ⟨Mc, gc, q⟩ := s_bestKey hN (zCo_cl hj2 h hs) true
      rw [cond_true] at q
      rcases q with ⟨hT, ec⟩ | ⟨v, hv, ec⟩
      · -- no tree
        refine zfin_no (fX := fun M => f_X7_mend N (zKs k) (zln k) 112 (nI s) M) (Mc := Mc) h hc i2_ne0 (zCf1_scr gc) (L_mend_3 ?_) (fun sw1 M1 h1 c1 => ?_)
        · unfold f_X6_mend f_X6_mend_0
          rw [zgK (k0 k), zbindS (s_find_ok h.1 hk5 hs), zxR, zbindS er, zgK (ks0 hs), if_neg one_ne0, zbpS ec, zxL]
        · have h1' := zCo_mf h1 (zMf_thr M1 0)
          obtain ⟨M2, e2, g2, c2, f2, t2⟩ := q_findsI hN hj2 h1' (zChk_thr c1 0) hs true
          rw [cond_true] at e2
          obtain ⟨c, ecr, hcr⟩ := hqr (zsI M1 112 19 0) sw1 h1'.1 (zCo_n h1' hs).2.1 (h1'.2.2.1.2.1 s hs).2
          rw [hcr.mpr hall6, cond_true] at ecr
          refine ⟨zsI M2 112 19 2, ?_, zMf_trans (zMf_trans (zMf_thr M1 0) g2) (zMf_thr M2 2), zChk_thr c2 2, rfl⟩
          show f_X7_mend N (zKs k) (zln k) 112 (nI s) M1 = _
          have q36 : f_X7_mend_36 N (zKs k) (zln k) 112 M2 = some (0, zsI M2 112 19 2) := by
            unfold f_X7_mend_36
            rw [zbpS (q_fails 2), zgK (k112 k)]
          unfold f_X7_mend f_X7_mend_0
          rw [zbindS (q_sen_ok (zCo_k h1).1 hk5 hs), zgK (k112 k), zbpS q_asks1, if_neg one_ne0, zbindS ecr, if_neg one_ne0, zbindS (h1'.1.at 112 16 123 (zrm 32 rfl)), zbpS e2, zgok (k123 k) (l123 k) hwh (by decide), nI_clamp (by omega), f2.2.1, hT, if_pos (show nI ([] : List (List Nat)).length = 0 from rfl), q36]
      · -- mending
        have hxv := (zt_all hv.1).2
        have hlv := (zt_all hv.1).1
        obtain ⟨-, -, -, rk, hrk⟩ := (zT_rk h6).mp hv.1
        have hv1 : ∀ w, 1 ≤ w → w ≤ n s → zhd v w ≤ n s ∧ zhd v w ≠ w := fun w a b => ⟨hxv _ (zhd_mem a (by omega)), fun z => by
          have := hrk w a (by omega)
          rw [z] at this
          omega⟩
        have hrn : ∀ w, 1 ≤ w → w ≤ n s → rh s w = nI (zrg (rh s) w) ∧ zrg (rh s) w ≤ n s := fun w a b => ⟨(zright_at h6 hr a b (hall w a b)).1, (zright_at h6 hr a b (hall w a b)).2.1⟩
        obtain ⟨swc, hcc⟩ := zCo_fr h (zCf1_fr (zCf1_scr gc))
        have hW1 := h.2.2.2.2.1
        have hW2 := h.2.2.2.2.2.1
        have hW3 := h.2.2.2.2.2.2
        have hW1c := hcc.2.2.2.2.1
        have hnx := hW1.2.2.2.2.1
        have hfs := hW2.2.2.2.2.1
        obtain ⟨M17, e17, r17, d17, a6, a7, a47, aw, aj, ao, ajo⟩ := s_keep (N := N) (st := st) hcc.1 hnx hW3.1 hW1c.2.2.2.1 hW1c.2.2.1
        have hR17 : zRf swc k (zR M17) := by rw [r17]; exact hcc.1
        have hS17 : zSen s (n s) (kd s) (mk s) (zI M17) := zSen_congr (fun a i ha => ao a i (by omega) (by omega) (by omega)) (hcc.2.1.2 s hs).1
        obtain ⟨Mw, ew, rw_, jw, dw, ww, ow⟩ := s_mend43 (N := N) (k := k) (sw := swc) (kd := kd s) (mk := mk s) (rh := rh s) (rn := zrg (rh s)) (v := zhd v) (key := lI (zkc (zsc wt (kd s)) v)) (wt := wt) hs h6 hrn (fun w a b => ⟨s_headKey hN h6 hsc hv.1 a b, (hv1 w a b).1⟩) (n s) N 0 M17 (by omega) (by omega) hR17 hS17 (fun w hw => (ao _ _ (by omega) (by omega) (by omega)).trans ((hcc.2.1.2 s hs).2 w hw)) (fun g hg => (ao _ _ (by omega) (by omega) (by omega)).trans (hW1c.1 g hg).1)
        have hRw : zRf swc k (zR Mw) := by rw [rw_]; exact hR17
        obtain ⟨Me, ee, re, de, ie, je⟩ := s_endStep (N := N) (k := k) (sw := swc) hN 28 N 0 Mw (by omega) (by omega) hRw
        have ee : f_X5_endStep N (zKs k) (zln k) 2 Mw = some Me := ee
        obtain ⟨cnt, ecnt⟩ : ∃ cnt, cnt = zmn (zrg (rh s)) (zhd v) (n s) := ⟨_, rfl⟩
        obtain ⟨wt', ewt⟩ : ∃ wt', wt' = zmd (kd s) (zrg (rh s)) (zhd v) wt (n s) := ⟨_, rfl⟩
        rw [← ecnt, zbindS ee] at ew
        rw [← ewt] at ww
        obtain ⟨M1, eM1⟩ : ∃ M1, M1 = zsJ Me 126 0 (nI cnt).toInt64 := ⟨_, rfl⟩
        have hR1 : zRf swc k (zR M1) := by rw [eM1, zR_sJ, re]; exact hRw
        -- what the class has changed
        have cI0 : ∀ b i, ¬ (b = 2 ∧ i = 2) → b ≠ 3 → zI M1 b i = zI M17 b i := fun b i q1 q2 => by rw [eM1, zI_sJ, ie, zI_sI, if_neg q1]; exact ow b i q2
        have cI : ∀ b i, (b < 48 ∨ 111 < b) → b ≠ 2 → b ≠ 3 → b ≠ 6 + nx → ¬ (b = 47 ∧ i = nx) → zI M1 b i = zI M b i := fun b i q0 q1 q2 q3 q4 => by rw [cI0 b i (by omega) q2, ao b i (by omega) q4 q3]; exact gc.2.1 b i q0
        have cJ : ∀ b i, (b < 48 ∨ 111 < b) → b ≠ 4 → b ≠ 27 + nx → b ≠ 126 → zJ M1 b i = zJ M b i := fun b i q0 q1 q2 q3 => by rw [eM1, zJ_sJ, if_neg (fun z => q3 z.1), je, if_neg (fun z => q1 z.1), jw, ajo b i q2]; exact gc.2.2.1 b i q0
        have hbw : ∀ g, g < 28 → -4000 ≤ wt' g ∧ wt' g ≤ 4000 ∧ -(100 + 6 * ((j + 1 : Nat) : Int)) ≤ wt' g ∧ wt' g ≤ 100 + 6 * ((j + 1 : Nat) : Int) := fun g hg => by
          have hb0 := hW3.2.2.2.1 g hg
          have hb1 := zmd_b (wt := wt) (kd := kd s) (rn := zrg (rh s)) (v := zhd v) (n := n s) (fun i i1 i2 => ⟨zbk_lt (h.2.1.2 s hs).1 (hrn i i1 i2).2 i1 i2, zbk_lt (h.2.1.2 s hs).1 (hv1 i i1 i2).1 i1 i2, (zright_at h6 hr i1 i2 (hall i i1 i2)).2.2, (hv1 i i1 i2).2⟩) (n s) (Nat.le_refl _) g
          rw [← ewt] at hb1
          omega
        -- the model
        obtain ⟨M6, eM6⟩ : ∃ M6, M6 = zsI M1 112 19 0 := ⟨_, rfl⟩
        have mI6 : ∀ b i, 112 ≤ b → ¬ (b = 112 ∧ i = 19) → zI M6 b i = zI M b i := fun b i q1 q2 => by rw [eM6, zI_sI, if_neg q2]; exact cI b i (by omega) (by omega) (by omega) (by omega) (by omega)
        have hR6 : zRf swc k (zR M6) := by rw [eM6]; exact hR1
        have hS6 : zSenM s (n s) (kd s) (mk s) (zI M6) := zSenM_congr (fun a i ha => mI6 a i (by omega) (by omega)) (zCo_M hj2 h hs).2.1
        have hW6 : zWtsM wt (zI M6) := zWtsM_congr (fun i => mI6 117 i (by omega) (by omega)) (zCo_M hj2 h hs).2.2
        obtain ⟨M15, e15, ⟨f1, f2, f3, f4, f5⟩, hF⟩ := q_finds hN hR6 hs5 hS6 hW6 true ((hc.1 s true hs5).imp (fun z => (mI6 _ _ (by omega) (by omega)).trans z) (fun z => zFil_congr (mI6 _ _ (by omega) (by omega)) (mI6 _ _ (by omega) (by omega)) (by rw [eM6, zJ_sI]; exact cJ _ _ (by omega) (by omega) (by omega) (by omega)) z.2))
        rw [cond_true] at e15
        have hR15 : zRf swc k (zR M15) := by rw [f1]; exact hR6
        have mI15 : ∀ b i, 112 ≤ b → ¬ (123 ≤ b ∧ b ≤ 125) → ¬ (b = 112 ∧ (i = 13 ∨ i = 14 ∨ i = 19)) → zI M15 b i = zI M b i := fun b i q1 q2 q3 => (f3 b i (by omega) (by omega) (by omega) (by omega)).trans (mI6 b i q1 (by omega))
        have hTne := zBt_mem hv
        have hlen : 0 < (zT (n s) (zal (mk s) (n s)) true).length := List.length_pos_iff.mpr hTne
        obtain ⟨u, hu, eu⟩ := q_top (wt := wt) (kd := kd s) (mk := mk s) (cr := true) h6 hsc hTne
        rw [zBt_eq h6 hu hv] at eu
        have hkey15 : zJ M15 122 (zwh s true) = zkm wt (kd s) v := hF.2.2.trans eu
        obtain ⟨M26, e26, r26, j26, d26, b8, b9, b119, b120, bo⟩ := q_remembers (N := N) (M := M15) hN hR15 (l := H.length) (fs := fs) hW3.1 hfs (by rw [mI15 _ _ (by omega) (by omega) (by omega)]; exact hW2.2.2.1) (by rw [mI15 _ _ (by omega) (by omega) (by omega)]; exact hW2.2.2.2.1) (-1)
        have hat : (fs + H.length) % 20 < 20 := Nat.mod_lt _ (by decide)
        have hR26 : zRf swc k (zR M26) := by rw [r26]; exact hR15
        have mI26 : ∀ b i, 113 ≤ b → b ≠ 119 → b ≠ 120 → ¬ (123 ≤ b ∧ b ≤ 125) → zI M26 b i = zI M b i := fun b i q1 q2 q3 q4 => (bo b i (by omega) (by omega) (by omega)).trans (mI15 b i (by omega) q4 (by omega))
        obtain ⟨Mq, eq, rq, jq, dq, wq, oq⟩ := q_mend65 (N := N) (k := k) (sw := swc) (s := s) (kd := kd s) (mk := mk s) (rh := rh s) (rn := zrg (rh s)) (v := zhd v) (key := zkm wt (kd s) v) (wt := wt) hs5 h6 hrn (fun w a b => (hv1 w a b).1) (fun M hR hn w a b => q_headKey hR hs5 hn h6 hsc hv.1 a b) (n s) N 0 M26 (by omega) (by omega) hR26 (zSenM_congr (fun a i ha => mI26 a i (by omega) (by omega) (by omega) (by omega)) (zCo_M hj2 h hs).2.1) (fun w a b => (mI26 _ _ (by omega) (by omega) (by omega) (by omega)).trans ((h.2.2.1.2.1 s hs).2 w a b)) (fun g hg => (mI26 _ _ (by omega) (by omega) (by omega) (by omega)).trans (hW2.1 g hg).1)
        rw [← ewt] at wq
        rw [← ecnt] at eq
        have hRq : zRf swc k (zR Mq) := by rw [rq]; exact hR26
        have hst7 : zI Mq 112 7 = nI st := by rw [oq _ _ (by omega), bo _ _ (by omega) (by omega) (by omega), mI15 _ _ (by omega) (by omega) (by omega)]; exact hW2.2.1
        rw [hst7, show nI st + 1 = nI (st + 1) from nI_1 st] at eq
        obtain ⟨Ms, es, rs, ds, is, js⟩ := q_mend149 (N := N) (k := k) (sw := swc) hN (nI cnt) 28 N 0 (zsI Mq 112 7 (nI (st + 1))) (by omega) (by omega) hRq
        have hRs : zRf swc k (zR Ms) := by rw [rs]; exact hRq
        obtain ⟨M2, e2, r2, j2, d2, i2, l2, f2'⟩ := q_changed (N := N) (M := Ms) hN hRs
        -- what the memory holds then
        have hE : ∀ b i, b ≠ 117 → b ≠ 124 → ¬ (b = 112 ∧ (i = 7 ∨ i = 13)) → zI M2 b i = zI M26 b i := fun b i q1 q2 q3 => by rw [i2 b i (by omega) q2, is, zI_sI, if_neg (by omega)]; exact oq b i q1
        have hE15 : ∀ b i, b ≠ 117 → b ≠ 119 → b ≠ 120 → b ≠ 124 → ¬ (b = 112 ∧ (i = 7 ∨ i = 8 ∨ i = 9 ∨ i = 13)) → zI M2 b i = zI M15 b i := fun b i q1 q2 q3 q4 q5 => (hE b i q1 q4 (by omega)).trans (bo b i (by omega) (by omega) (by omega))
        have hE1 : ∀ b i, b < 112 ∨ 128 ≤ b → zI M2 b i = zI M1 b i := fun b i q => by rw [hE15 b i (by omega) (by omega) (by omega) (by omega) (by omega), f3 b i (by omega) (by omega) (by omega) (by omega), eM6, zI_sI, if_neg (by omega)]
        have hEJ : ∀ b i, b ≠ 118 → b ≠ 122 → zJ M2 b i = zJ M1 b i := fun b i q1 q2 => by rw [j2, js, if_neg (fun z => q1 z.1), zJ_sI, jq, j26, f4 b i (by omega), eM6, zJ_sI]
        refine zfin_u (fX := fun M => f_X7_mend N (zKs k) (zln k) 112 (nI s) M) (v := nI cnt) (Mc := Me) (M2 := M2) (L_mend_ok ?_) ?_ ?_ ?_ ⟨swc, n, kd, mk, rh, wt', fun g => sm g + wt' g, st + 1, (wt, sm, st, true) :: H.take 19, (nx + 1) % 20, (if H.length = 20 then (fs + 1) % 20 else fs), ⟨by rw [r2]; exact hRs, ?_, ?_, h.2.2.2.1, ?_, ?_, ?_⟩, zChk_new l2 f2'⟩
        · unfold f_X6_mend f_X6_mend_0
          rw [zgK (k0 k), zbindS (s_find_ok h.1 hk5 hs), zxR, zbindS er, zgK (ks0 hs), if_neg one_ne0, zbpS ec, zxR, zbindS (hcc.1.at 0 2 2 (zrm 1 rfl)), zbindS e17, zgK (k2 k)]
          exact ew
        · show f_X7_mend N (zKs k) (zln k) 112 (nI s) (zsJ Me 126 0 (nI cnt).toInt64) = _
          rw [← eM1]
          obtain ⟨c, ecr, hcr⟩ := hqr M6 swc hR6 hS6.2.1 (fun w a b => (mI6 _ _ (by omega) (by omega)).trans ((h.2.2.1.2.1 s hs).2 w a b))
          rw [hcr.mpr hall6, cond_true] at ecr
          have efF : f_X7_finds N (zKs k) (zln k) 112 (nI s) 1 M15 = some (nI (zwh s true), M15) := q_findsF hR15 hs5 true hF
          unfold f_X7_mend f_X7_mend_0
          rw [zbindS (q_sen_ok (by rw [cI _ _ (by omega) (by omega) (by omega) (by omega) (by omega)]; exact hk0) hk5 hs), zgK (k112 k), zbpS q_asks1, if_neg one_ne0, ← eM6, zbindS ecr, if_neg one_ne0, zbindS (hR6.at 112 16 123 (zrm 32 rfl)), zbpS e15, zgok (k123 k) (l123 k) hwh (by decide), nI_clamp (by omega), hF.2.1, if_neg (nI_ne0 hlen (by omega)), zbindS (hR15.at 112 15 122 (zrm 31 rfl)), zbpS efF, zgok (k122 k) (l122 k) hwh (by decide), zbindS e26, nI_clamp (by omega), hkey15]
          refine (eq.trans es).trans ?_
          rw [zbindS e2]
        · rw [hE15 _ _ (by decide) (by decide) (by decide) (by decide) (by decide), f3 _ _ (by decide) (by decide) (by omega) (by omega), eM6, zI_sI, if_pos ⟨rfl, rfl⟩]
        · rw [hEJ _ _ (by decide) (by decide), eM1, zJ_sJ, if_pos ⟨rfl, rfl⟩]
        · exact zA1_c (fun b i q => (hE1 b i (by omega)).trans (cI b i (by omega) (by omega) (by omega) (by omega) (by omega))) h.2.1
        · exact zA2_c (fun b i q => (hE15 b i (by omega) (by omega) (by omega) (by omega) (by omega)).trans (mI15 b i (by omega) (by omega) (by omega))) h.2.2.1
        · refine zW1_keep hW1 ?_ ?_ ?_ (fun g hg => ⟨?_, ?_⟩) (fun b i q1 q2 q3 q4 => (hE1 b i (by omega)).trans (cI b i (by omega) (by omega) (by omega) q3 q4)) (fun b i q1 q2 q3 => (hEJ b i (by omega) (by omega)).trans (cJ b i (by omega) (by omega) q3 (by omega))) (fun g hg => ⟨?_, ?_⟩) ?_
          · rw [hE1 _ _ (by omega), cI0 _ _ (by omega) (by omega)]; exact a6
          · rw [hE1 _ _ (by omega), cI0 _ _ (by omega) (by omega)]; exact a7
          · rw [hE1 _ _ (by omega), cI0 _ _ (by omega) (by omega), a47]; exact gc.2.1 _ _ (by omega)
          · rw [hE1 _ _ (by omega), cI0 _ _ (by omega) (by omega), aw g hg]; exact gc.2.1 _ _ (by omega)
          · rw [hEJ _ _ (by omega) (by omega), eM1, zJ_sJ, if_neg (by omega), je, if_neg (by omega), jw, aj g hg]; exact gc.2.2.1 _ _ (by omega)
          · rw [hE1 _ _ (by omega), eM1, zI_sJ, ie, zI_sI, if_neg (by omega)]; exact ww g hg
          · have hbg := hbw g hg
            rw [hEJ _ _ (by omega) (by omega), eM1, zJ_sJ, if_neg (by omega), je, if_pos ⟨rfl, by omega, hg⟩, ww g hg, jw, ajo _ _ (by omega), gc.2.2.1 _ _ (by omega), (hW1.1 g hg).2, iI_long (by omega) (by omega), lI_add]
          · rw [hE1 _ _ (by omega), eM1, zI_sJ, ie, zI_sI, if_pos ⟨rfl, rfl⟩, ow _ _ (by omega), ao _ _ (by omega) (by omega) (by omega), gc.2.1 _ _ (by omega), hW1.2.1]
            exact nI_1 st
        · refine zW2_keep hW3.1 hW2 ?_ ?_ ?_ (fun g hg => ?_) (fun i q => ?_) (fun i q => ?_) (fun g hg => ⟨?_, ?_⟩) ?_
          · rw [hE _ _ (by omega) (by omega) (by omega)]; exact b8
          · rw [hE _ _ (by omega) (by omega) (by omega)]; exact b9
          · rw [hE _ _ (by omega) (by omega) (by omega), b119]
            exact ⟨fun _ => rfl, fun _ => rfl⟩
          · rw [hE _ _ (by omega) (by omega) (by omega), b120 g hg]; exact mI15 _ _ (by omega) (by omega) (by omega)
          · rw [hE _ _ (by omega) (by omega) (by omega), bo _ _ (by omega) (by omega) (by omega)]; exact mI15 _ _ (by omega) (by omega) (by omega)
          · rw [hE _ _ (by omega) (by omega) (by omega), bo _ _ (by omega) (by omega) (by omega)]; exact mI15 _ _ (by omega) (by omega) (by omega)
          · rw [i2 _ _ (by omega) (by omega), is, zI_sI, if_neg (by omega)]; exact wq g hg
          · have hbg := hbw g hg
            rw [j2, js, if_pos ⟨rfl, by omega, hg⟩, zJ_sI, zI_sI, if_neg (by omega), wq g hg, jq, j26, f4 _ _ (by omega), eM6, zJ_sI, cJ _ _ (by omega) (by omega) (by omega) (by omega), (hW2.1 g hg).2, iI_long (by omega) (by omega), lI_add]
          · rw [i2 _ _ (by omega) (by omega), is, zI_sI, if_pos ⟨rfl, rfl⟩]
        · obtain ⟨w1, w2, w3, w4, w5⟩ := hW3
          refine ⟨by rw [zlen19]; omega, ⟨fun g hg => by show sm g + wt' g = sm g + (if true = true then wt' g else 0); rw [if_pos rfl], rfl, zlk_take 19 wt sm st H w2⟩, by omega, fun g hg => (hbw g hg).2.2, fun x hx => ?_⟩
          rcases List.mem_cons.mp hx with q | q
          · rw [q]
            exact ⟨by show st ≤ j + 1; omega, fun g hg => by
              have := w4 g hg
              show -(100 + 6 * ((j + 1 : Nat) : Int)) ≤ wt g ∧ wt g ≤ 100 + 6 * ((j + 1 : Nat) : Int)
              omega⟩
          · have h5 := w5 x (List.mem_of_mem_take q)
            exact ⟨by omega, fun g hg => by have := h5.2 g hg; omega⟩
    · -- the right heads make no tree
      refine zfin_thr (fX := fun M => f_X7_mend N (zKs k) (zln k) 112 (nI s) M) h hc i2_ne0 (L_mend_3 ?_) ?_
      · unfold f_X6_mend f_X6_mend_0
        rw [zgK (k0 k), zbindS (s_find_ok h.1 hk5 hs), zxR, zbindS er, zgK (ks0 hs), if_pos rfl]
      · show f_X7_mend N (zKs k) (zln k) 112 (nI s) M = _
        have h1' := zCo_mf h (zMf_thr M 0)
        obtain ⟨c, ecr, hcr⟩ := hqr (zsI M 112 19 0) sw h1'.1 (zCo_n h1' hs).2.1 (h1'.2.2.1.2.1 s hs).2
        have ecf : c = false := Bool.eq_false_iff.mpr (fun z => hx3 ((zright h6 hr hx1 hx2).mpr (hcr.mp z x hx1 hx2)))
        rw [ecf, cond_false] at ecr
        have q36 : f_X7_mend_36 N (zKs k) (zln k) 112 (zsI M 112 19 0) = some (0, zsI M 112 19 2) := by
          unfold f_X7_mend_36
          rw [zbpS (q_fails 2), zgK (k112 k), zsI_thr]
        unfold f_X7_mend f_X7_mend_0
        rw [zbindS (q_sen_ok hk0 hk5 hs), zgK (k112 k), zbpS q_asks1, if_neg one_ne0, zbindS ecr, if_pos rfl, q36]
end ME
