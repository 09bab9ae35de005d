/-! MARK AND ADDWORD. -/
def zms2 (mk : Nat → Nat → Int32) (a w : Nat) (v : Int32) : Nat → Nat → Int32 := fun y x => if y = a ∧ x = w then v else mk y x
theorem zms2_at (mk : Nat → Nat → Int32) (a w : Nat) (v : Int32) : zms2 mk a w v a w = v := if_pos ⟨rfl, rfl⟩
theorem zms2_o (mk : Nat → Nat → Int32) {a w : Nat} (v : Int32) {y x : Nat} (h : ¬ (y = a ∧ x = w)) : zms2 mk a w v y x = mk y x := if_neg h
section MA
variable {N j k : Nat} {M : ZM}
theorem q_mark35 {s n : Nat} {sw : Bool} {mk : Nat → Nat → Int32} (hR : zRf sw k (zR M)) (hs5 : s < 5) (hmk : ∀ h w, h < 7 → w < 7 → zI M 115 (49 * s + 7 * w + h) = mk h w) {h w : Nat} (hh : h < 7) (hw : w < 7) (x : Int32) : ∀ (d f o : Nat) (b : Bool), o + d = 7 → d < f → f_X7_mark_35 N (zKs k) (zln k) f 112 (nI s) (nI h) (nI w) x (bif b then 1 else 0) (nI o) M = if x = 1 ∧ (b || (List.range' o d).any (fun o => decide (o ≠ h ∧ mk o w = 1))) = true then some (0, zsI M 112 19 3) else f_X7_mark_100 N (zKs k) (zln k) 112 (nI s) (nI h) (nI w) x M
  | d, 0, o, b, _, hf => absurd hf (Nat.not_lt_zero d)
  | 0, f + 1, o, b, hd, _ => by
    rw [f_X7_mark_35, if_pos (show (6 : Int32) < nI o from nI_lt (a := 6) (by omega) (by omega))]
    by_cases hx : x = 1
    · rw [if_pos hx]
      cases b with
      | false =>
        rw [cond_false, if_pos rfl, if_neg (show ¬ (x = 1 ∧ (false || (List.range' o 0).any _) = true) from fun q => by have := q.2; cases this)]
      | true =>
        rw [cond_true, if_neg one_ne0, zbpS (q_fails 3), zgK (k112 k), if_pos ⟨hx, rfl⟩]
    · rw [if_neg hx, if_neg (fun q => hx q.1)]
  | d + 1, f + 1, o, b, hd, hf => by
    have yes := q_mark35 (n := n) hR hs5 hmk hh hw x d f (o + 1) true (by omega) (by omega)
    have no := q_mark35 (n := n) hR hs5 hmk hh hw x d f (o + 1) false (by omega) (by omega)
    rw [cond_true, Bool.true_or] at yes
    rw [cond_false, Bool.false_or] at no
    rw [f_X7_mark_35, if_neg (show ¬ (6 : Int32) < nI o from nI_nlt (a := 6) (by omega) (by omega)), List.range'_succ, List.any_cons]
    cases b with
    | true =>
      rw [cond_true, if_neg one_ne0, Bool.true_or]
      unfold f_X7_mark_70 f_X7_mark_75
      rw [show nI o + 1 = nI (o + 1) from nI_1 o]
      exact yes
    | false =>
      rw [cond_false, if_pos rfl, Bool.false_or]
      by_cases e : o = h
      · subst e
        rw [if_pos rfl, decide_eq_false (show ¬ (o ≠ o ∧ mk o w = 1) from fun q => q.1 rfl), Bool.false_or]
        unfold f_X7_mark_74 f_X7_mark_75
        rw [show nI o + 1 = nI (o + 1) from nI_1 o]
        exact no
      · rw [if_neg (fun q => e ((nI_eq (by omega) (by omega)).mp q)), zgK (k112 k), zbindS (hR.at 112 3 115 (zrm 24 rfl)), zbindS (q_arc N s o w), zgok (k115 k) (l115 k) (show 49 * s + 7 * w + o < 245 by omega) (by decide), nI_clamp (by omega), hmk o w (by omega) hw]
        by_cases e1 : mk o w = 1
        · rw [if_pos e1, decide_eq_true (show o ≠ h ∧ mk o w = 1 from ⟨e, e1⟩), Bool.true_or]
          unfold f_X7_mark_70 f_X7_mark_75
          rw [show nI o + 1 = nI (o + 1) from nI_1 o]
          exact yes
        · rw [if_neg e1, decide_eq_false (show ¬ (o ≠ h ∧ mk o w = 1) from fun q => e1 q.2), Bool.false_or]
          unfold f_X7_mark_74 f_X7_mark_75
          rw [show nI o + 1 = nI (o + 1) from nI_1 o]
          exact no
theorem c_mark (hN : 10000000 ≤ N) (p1 p2 p3 p4 : Int32) (h : zInv j k M) : zC9 N (zInv (j + 1)) k M p1 p2 p3 p4 := by
  obtain ⟨sw, n, kd, mk, rh, wt, sm, st, H, nx, fs, h, hc⟩ := h
  obtain ⟨hk0, hk5⟩ := zCo_k h
  rcases zix1 p1 hk5 with hp | ⟨s, hs, rfl⟩
  · refine zfin_thr (fX := fun M => f_X7_mark N (zKs k) (zln k) 112 p1 p2 p3 p4 M) h hc i1_ne0 (L_mark_1 ?_) ?_
    · unfold f_X6_mark f_X6_mark_0
      rw [zgK (k0 k), zbindS (s_find_no h.1 hk5 hp), zxL]
    · show f_X7_mark N (zKs k) (zln k) 112 p1 p2 p3 p4 M = _
      unfold f_X7_mark f_X7_mark_0
      rw [zbpS (q_arc_nos hk0 hp), zgK (k112 k), if_pos rfl]
  · obtain ⟨hn1, hn2, hn6⟩ := zCo_n h hs
    rcases zix4 p2 p3 hn6 with hp | ⟨a, w, ha, h1, h2, rfl, rfl⟩
    · refine zfin_thr (fX := fun M => f_X7_mark N (zKs k) (zln k) 112 (nI s) p2 p3 p4 M) h hc i1_ne0 (L_mark_1 ?_) ?_
      · unfold f_X6_mark f_X6_mark_0
        rw [zgK (k0 k), zbindS (s_find_ok h.1 hk5 hs), zxR, zbindS (s_arc_no hs hn1 hn6 hp), zxL]
      · show f_X7_mark N (zKs k) (zln k) 112 (nI s) p2 p3 p4 M = _
        unfold f_X7_mark f_X7_mark_0
        rw [zbpS (q_arc_no h.1 hk0 hk5 hs hn2 hn6 hp), zgK (k112 k), if_pos rfl]
    · by_cases e : a = w
      · refine zfin_thr (fX := fun M => f_X7_mark N (zKs k) (zln k) 112 (nI s) (nI a) (nI w) p4 M) h hc i2_ne0 (L_mark_2 ?_) ?_
        · unfold f_X6_mark f_X6_mark_0
          rw [zgK (k0 k), zbindS (s_find_ok h.1 hk5 hs), zxR, zbindS ((s_arc_ok hs hn1 hn6 ha h1 h2).trans (if_pos e)), zxL]
        · show f_X7_mark N (zKs k) (zln k) 112 (nI s) (nI a) (nI w) p4 M = _
          unfold f_X7_mark f_X7_mark_0
          rw [zbpS ((q_arc_ok h.1 hk0 hk5 hs hn2 hn6 ha h1 h2).trans (if_pos e)), zgK (k112 k), if_pos rfl]
      · have hs5 : s < 5 := by omega
        have hthr : ∀ v : Int32, zsI (zsI M 112 19 0) 112 19 v = zsI M 112 19 v := fun v => by
          unfold zsI zup
          congr 1
          funext b i
          by_cases q : b = 112 ∧ i = 19
          · simp only [if_pos q]
          · simp only [if_neg q]
        rcases zix3 p4 (n := 2) (by decide) with hp | ⟨m, hm, rfl⟩
        · have hcls : f_X6_mark N (zKs k) (zln k) 0 (nI s) (nI a) (nI w) p4 M = some (Sum.inl 2, M) := by
            have hne : ∀ v : Nat, v ≤ 2 → ¬ p4 = nI v := fun v hv q => by
              subst q
              rcases hp with q | q
              · exact nI_pos (by omega) q
              · exact nI_nlt hv (by omega) q
            unfold f_X6_mark f_X6_mark_0
            rw [zgK (k0 k), zbindS (s_find_ok h.1 hk5 hs), zxR, zbindS ((s_arc_ok hs hn1 hn6 ha h1 h2).trans (if_neg e)), zxR, if_neg (show ¬ p4 = 0 from hne 0 (by decide)), if_neg (show ¬ p4 = 1 from hne 1 (by decide)), if_neg (show ¬ p4 = 2 from hne 2 (by decide))]
          refine zfin_thr (fX := fun M => f_X7_mark N (zKs k) (zln k) 112 (nI s) (nI a) (nI w) p4 M) h hc i2_ne0 (L_mark_2 hcls) ?_
          show f_X7_mark N (zKs k) (zln k) 112 (nI s) (nI a) (nI w) p4 M = _
          have q23 : f_X7_mark_23 N (zKs k) (zln k) 112 (zsI M 112 19 0) = some (0, zsI M 112 19 2) := by
            unfold f_X7_mark_23
            rw [zbpS (q_fails 2), zgK (k112 k), hthr]
          unfold f_X7_mark f_X7_mark_0
          rw [zbpS ((q_arc_ok h.1 hk0 hk5 hs hn2 hn6 ha h1 h2).trans (if_neg e)), zgK (k112 k), if_neg one_ne0]
          by_cases q : p4 < 0
          · rw [if_pos q, q23]
          · rw [if_neg q, if_neg (show ¬ p4 ≤ (2 : Int32) from zn_le (hp.resolve_left q)), q23]
        · -- a mark in range
          have hS := (h.2.1.2 s hs).1
          have hSM := (h.2.2.1.2.1 s hs).1
          obtain ⟨r, er, hr⟩ := s_forcedHead hN h.1 hs hS.2.1 hn6 (show w < 7 by omega)
          have hA3 := h.2.2.2.1.2 s hs
          -- whether another arc to the word is forced
          by_cases hbad : nI m = 1 ∧ ∃ o, o ≤ n s ∧ o ≠ a ∧ mk s o w = 1
          · obtain ⟨hm1, o, ho, hoa, hom⟩ := hbad
            have hrne : ¬ r = -1 ∧ ¬ r = nI a := by
              rcases hr with ⟨q1, q2⟩ | ⟨o', q1, q2, q3⟩
              · exfalso
                have := q2 o ho
                rw [hS.2.2.2.2.2.1 o w (by omega) (by omega)] at this
                exact this hom
              · rw [hS.2.2.2.2.2.1 o' w (by omega) (by omega)] at q3
                have eo := hS.2.2.2.2.2.2 w o o' (by omega) ho q1 hom q3
                subst eo
                rw [q2]
                exact ⟨nI_nem1 (by omega), fun z => hoa ((nI_eq (by omega) (by omega)).mp z)⟩
            have hcls : f_X6_mark N (zKs k) (zln k) 0 (nI s) (nI a) (nI w) (nI m) M = some (Sum.inl 3, M) := by
              have h41 : f_X6_mark_41 N (zKs k) (zln k) (nI a) (nI w) (nI m) (128 + 11 * s) M = some (Sum.inl 3, M) := by
                unfold f_X6_mark_41
                rw [zbindS er, zgK (ks0 hs), if_pos hm1, if_neg hrne.1, if_neg hrne.2]
              unfold f_X6_mark f_X6_mark_0
              rw [zgK (k0 k), zbindS (s_find_ok h.1 hk5 hs), zxR, zbindS ((s_arc_ok hs hn1 hn6 ha h1 h2).trans (if_neg e)), zxR, h41]
              by_cases z0 : nI m = 0
              · rw [if_pos z0]
              · rw [if_neg z0, if_pos hm1]
            refine zfin_thr (fX := fun M => f_X7_mark N (zKs k) (zln k) 112 (nI s) (nI a) (nI w) (nI m) M) h hc i3_ne0 (L_mark_3 hcls) ?_
            show f_X7_mark N (zKs k) (zln k) 112 (nI s) (nI a) (nI w) (nI m) M = _
            have h35 := q_mark35 (N := N) (n := 0) (M := zsI M 112 19 0) (sw := sw) (mk := mk s) h.1 hs5 (fun y x hy hx => by rw [zI_sI, if_neg (by omega)]; exact hSM.2.2.2.2.2 y x hy hx) (show a < 7 by omega) (show w < 7 by omega) (nI m) 7 N 0 false (by omega) (by omega)
            rw [if_pos ⟨hm1, by
              rw [Bool.false_or, List.any_eq_true]
              exact ⟨o, by rw [List.mem_range'_1]; omega, decide_eq_true ⟨hoa, hom⟩⟩⟩] at h35
            unfold f_X7_mark f_X7_mark_0
            rw [zbpS ((q_arc_ok h.1 hk0 hk5 hs hn2 hn6 ha h1 h2).trans (if_neg e)), zgK (k112 k), if_neg one_ne0, if_neg (nI_pos (by omega)), if_pos (show nI m ≤ (2 : Int32) from nI_le (b := 2) hm (by decide))]
            exact h35.trans (by rw [hthr])
          · -- it is marked
            have hnone : nI m = 1 → ∀ o, o ≤ n s → o ≠ a → mk s o w ≠ 1 := fun q o q1 q2 q3 => hbad ⟨q, o, q1, q2, q3⟩
            have hold := hS.2.2.2.2.2.1 a w (by omega) (by omega)
            have holdM := hSM.2.2.2.2.2 a w (by omega) (by omega)
            obtain ⟨Mc, eMc⟩ : ∃ Mc, Mc = zsI M (128 + 11 * s + (4 + a)) w (nI m) := ⟨_, rfl⟩
            obtain ⟨M1, eM1⟩ : ∃ M1, M1 = zsJ Mc 126 0 (mk s a w).toInt64 := ⟨_, rfl⟩
            obtain ⟨M3, eM3⟩ : ∃ M3, M3 = zsI (zsI M1 112 19 0) 115 (49 * s + 7 * w + a) (nI m) := ⟨_, rfl⟩
            have hR1 : zRf sw k (zR M1) := by rw [eM1, eMc]; exact h.1
            have hR3 : zRf sw k (zR M3) := by rw [eM3]; exact hR1
            obtain ⟨M2, e2, r2, j2, d2, i2, l2, f2⟩ := q_changed (N := N) (M := M3) hN hR3
            have hI1 : ∀ b i, ¬ (b = 128 + 11 * s + (4 + a) ∧ i = w) → zI M1 b i = zI M b i := fun b i q => by rw [eM1, zI_sJ, eMc, zI_sI, if_neg q]
            have hI2 : ∀ b i, ¬ (b = 128 + 11 * s + (4 + a) ∧ i = w) → ¬ (b = 112 ∧ (i = 13 ∨ i = 19)) → ¬ (b = 115 ∧ i = 49 * s + 7 * w + a) → b ≠ 124 → zI M2 b i = zI M b i := fun b i q q2 q3 q4 => by rw [i2 b i (by omega) q4, eM3, zI_sI, if_neg q3, zI_sI, if_neg (by omega)]; exact hI1 b i q
            have hJ2 : ∀ b i, b ≠ 126 → zJ M2 b i = zJ M b i := fun b i q => by rw [j2, eM3, zJ_sI, zJ_sI, eM1, zJ_sJ, if_neg (fun z => q z.1), eMc]; rfl
            have hw2 : zI M2 (128 + 11 * s + (4 + a)) w = nI m := by rw [i2 _ _ (by omega) (by omega), eM3, zI_sI, if_neg (by omega), zI_sI, if_neg (by omega), eM1, zI_sJ, eMc, zI_sI, if_pos ⟨rfl, rfl⟩]
            have hw3 : zI M2 115 (49 * s + 7 * w + a) = nI m := by rw [i2 _ _ (by omega) (by omega), eM3, zI_sI, if_pos ⟨rfl, rfl⟩]
            refine zfin_u (fX := fun M => f_X7_mark N (zKs k) (zln k) 112 (nI s) (nI a) (nI w) (nI m) M) (v := mk s a w) (Mc := Mc) (M2 := M2) (L_mark_ok ?_) ?_ (by rw [i2 _ _ (by decide) (by decide), eM3, zI_sI, if_neg (by omega), zI_sI, if_pos ⟨rfl, rfl⟩]) (by rw [j2, eM3, zJ_sI, zJ_sI, eM1, zJ_sJ, if_pos ⟨rfl, rfl⟩]) ⟨sw, n, kd, zuf mk s (zms2 (mk s) a w (nI m)), rh, wt, sm, st, H, nx, fs, zCo_up ⟨by rw [r2]; exact hR3, ?_, ?_, ?_, zW1_c (fun b i q => hI2 b i (by omega) (by omega) (by omega) (by omega)) (fun b i q => hJ2 b i (by omega)) h.2.2.2.2.1, zW2_c (fun b i q => hI2 b i (by omega) (by omega) (by omega) (by omega)) (fun i => hJ2 118 i (by decide)) h.2.2.2.2.2.1, h.2.2.2.2.2.2⟩, zChk_new l2 f2⟩
            · have hch : f_X2_changeMark N (zKs k) (zln k) (128 + 11 * s) (nI a) (nI w) (nI m) M = some (mk s a w, Mc) := by
                unfold f_X2_changeMark f_X2_changeMark_0
                rw [zbindS (s_markOf h.1 hs (show a < 7 by omega) (show w < 7 by omega)), hold, zgK (ks0 hs), zbindS (s_isPlace N (show a < 7 by omega)), if_neg one_ne0, zbindS (s_isPlace N (show w < 7 by omega)), if_neg one_ne0, zbindS ((h.1.2.2.1 s hs).2.2.2.1), zgok (ks3 hs) (zln_sen k s 3 hs (by decide) (by decide)) (show a < 7 by omega) (by decide), nI_clamp (show a < 2 ^ 31 by omega), zbindS ((h.1.2.2.1 s hs).2.2.2.2 a (by omega)), zgok (ks4 hs (show a < 7 by omega)) (zln_sen k s (4 + a) hs (by omega) (by omega)) (show w < 7 by omega) (by decide), zlS, nI_clamp (show w < 2 ^ 31 by omega), ← eMc]
              have h77 : f_X6_mark_77 N (zKs k) (zln k) (nI a) (nI w) (nI m) (128 + 11 * s) M = some (Sum.inr (mk s a w), Mc) := by
                unfold f_X6_mark_77
                rw [zbpS hch, zgK (ks0 hs)]
              have h41 : f_X6_mark_41 N (zKs k) (zln k) (nI a) (nI w) (nI m) (128 + 11 * s) M = some (Sum.inr (mk s a w), Mc) := by
                unfold f_X6_mark_41
                rw [zbindS er, zgK (ks0 hs), h77]
                by_cases z1 : nI m = 1
                · rw [if_pos z1]
                  by_cases z2 : r = -1
                  · rw [if_pos z2]
                  · rw [if_neg z2]
                    rcases hr with ⟨q1, -⟩ | ⟨o', q1, q2, q3⟩
                    · exact absurd q1 z2
                    · rw [hS.2.2.2.2.2.1 o' w (by omega) (by omega)] at q3
                      have : o' = a := Decidable.byContradiction fun z => hnone z1 o' q1 z q3
                      rw [if_pos (by rw [q2, this])]
                · rw [if_neg z1]
              unfold f_X6_mark f_X6_mark_0
              rw [zgK (k0 k), zbindS (s_find_ok h.1 hk5 hs), zxR, zbindS ((s_arc_ok hs hn1 hn6 ha h1 h2).trans (if_neg e)), zxR, h41]
              rcases (show m = 0 ∨ m = 1 ∨ m = 2 by omega) with q | q | q
              · rw [if_pos (show nI m = 0 by rw [q]; rfl)]
              · rw [if_neg (show ¬ nI m = 0 by rw [q]; decide +kernel), if_pos (show nI m = 1 by rw [q]; rfl)]
              · rw [if_neg (show ¬ nI m = 0 by rw [q]; decide +kernel), if_neg (show ¬ nI m = 1 by rw [q]; decide +kernel), if_pos (show nI m = 2 by rw [q]; rfl)]
            · show f_X7_mark N (zKs k) (zln k) 112 (nI s) (nI a) (nI w) (nI m) (zsJ Mc 126 0 (mk s a w).toInt64) = _
              rw [← eM1]
              have h35 := q_mark35 (N := N) (n := 0) (M := zsI M1 112 19 0) (sw := sw) (mk := mk s) hR1 hs5 (fun y x hy hx => by rw [zI_sI, if_neg (by omega), hI1 _ _ (by omega)]; exact hSM.2.2.2.2.2 y x hy hx) (show a < 7 by omega) (show w < 7 by omega) (nI m) 7 N 0 false (by omega) (by omega)
              rw [if_neg (fun q => by
                obtain ⟨q1, q2⟩ := q
                rw [Bool.false_or, List.any_eq_true] at q2
                obtain ⟨o, ho, q3⟩ := q2
                rw [List.mem_range'_1] at ho
                have q3 := of_decide_eq_true q3
                by_cases z : o ≤ n s
                · exact hnone q1 o z q3.1 q3.2
                · have := hA3.2 o w (by omega) (by omega) (Or.inl (by omega))
                  rw [this] at q3
                  exact absurd q3.2 (by decide))] at h35
              unfold f_X7_mark f_X7_mark_0
              rw [zbpS ((q_arc_ok hR1 (by rw [hI1 _ _ (by omega)]; exact hk0) hk5 hs (by rw [hI1 _ _ (by omega)]; exact hn2) hn6 ha h1 h2).trans (if_neg e)), zgK (k112 k), if_neg one_ne0, if_neg (nI_pos (by omega)), if_pos (show nI m ≤ (2 : Int32) from nI_le (b := 2) hm (by decide))]
              refine h35.trans ?_
              unfold f_X7_mark_100
              rw [zgK (k112 k), zR_sI, zbindS (hR1.at 112 3 115 (zrm 24 rfl)), zbindS (q_arc N s a w), zgok (k115 k) (l115 k) (show 49 * s + 7 * w + a < 245 by omega) (by decide), zbindS (q_arc N s a w), zgok (k115 k) (l115 k) (show 49 * s + 7 * w + a < 245 by omega) (by decide), zlS, nI_clamp (by omega), ← eM3, zbindS e2, show zI (zsI M1 112 19 0) 115 (49 * s + 7 * w + a) = mk s a w from by rw [zI_sI, if_neg (by omega), hI1 _ _ (by omega)]; exact holdM]
            · refine zA1_at (s := s) h.2.1 (fun b i q1 q2 => hI2 b i (by omega) (by omega) (by omega) (by omega)) (fun t ht => ⟨rfl, rfl, zuf_o _ _ ht, rfl⟩) ⟨?_, fun x hx => (hI2 _ _ (by omega) (by omega) (by omega) (by omega)).trans ((h.2.1.2 s hs).2 x hx)⟩
              rw [zuf_s]
              obtain ⟨s1, s2, s3, s4, s5, s6, s7⟩ := hS
              refine ⟨s1, (hI2 _ _ (by omega) (by omega) (by omega) (by omega)).trans s2, s3, s4, fun x hx => (hI2 _ _ (by omega) (by omega) (by omega) (by omega)).trans (s5 x hx), fun y x hy hx => ?_, fun x o o' hx ho ho' q1 q2 => ?_⟩
              · by_cases q : y = a ∧ x = w
                · rw [q.1, q.2, zms2_at]; exact hw2
                · rw [zms2_o _ _ q, hI2 _ _ (by omega) (by omega) (by omega) (by omega)]; exact s6 y x hy hx
              · by_cases z : x = w
                · subst z
                  by_cases z1 : o = a <;> by_cases z2 : o' = a
                  · omega
                  · rw [z1, zms2_at] at q1
                    rw [zms2_o _ _ (fun z => z2 z.1)] at q2
                    exact absurd q2 (hnone q1 o' ho' z2)
                  · rw [zms2_o _ _ (fun z => z1 z.1)] at q1
                    rw [z2, zms2_at] at q2
                    exact absurd q1 (hnone q2 o ho z1)
                  · rw [zms2_o _ _ (fun z => z1 z.1)] at q1
                    rw [zms2_o _ _ (fun z => z2 z.1)] at q2
                    exact s7 x o o' hx ho ho' q1 q2
                · rw [zms2_o _ _ (fun y => z y.2)] at q1 q2
                  exact s7 x o o' hx ho ho' q1 q2
            · obtain ⟨a1, a2, a3⟩ := h.2.2.1
              refine ⟨(hI2 _ _ (by omega) (by omega) (by omega) (by omega)).trans a1, fun t ht => ⟨?_, fun x x1 x2 => ?_⟩, fun t t1 t2 => ⟨(hI2 _ _ (by omega) (by omega) (by omega) (by omega)).trans (a3 t t1 t2).1, fun i hi => (hI2 _ _ (by omega) (by omega) (by omega) (by omega)).trans ((a3 t t1 t2).2 i hi)⟩⟩
              · have hnt := (zCo_n h ht).2.2
                obtain ⟨s1, s2, s3, s4, s5, s6⟩ := (a2 t ht).1
                refine ⟨s1, (hI2 _ _ (by omega) (by omega) (by omega) (by omega)).trans s2, s3, s4, fun x x1 x2 => (hI2 _ _ (by omega) (by omega) (by omega) (by omega)).trans (s5 x x1 x2), fun y x hy hx => ?_⟩
                by_cases q : t = s
                · subst q
                  rw [zuf_s]
                  by_cases q : y = a ∧ x = w
                  · rw [q.1, q.2, zms2_at]; exact hw3
                  · rw [zms2_o _ _ q, hI2 _ _ (by omega) (by omega) (by omega) (by omega)]; exact s6 y x hy hx
                · rw [zuf_o _ _ q, hI2 _ _ (by omega) (by omega) (by omega) (by omega)]; exact s6 y x hy hx
              · exact (hI2 _ _ (by omega) (by omega) (by omega) (by omega)).trans ((a2 t ht).2 x x1 x2)
            · obtain ⟨b1, b2⟩ := h.2.2.2.1
              refine ⟨b1, fun t ht => ⟨(b2 t ht).1, fun y x hy hx q => ?_⟩⟩
              by_cases z : t = s
              · subst z
                rw [zuf_s, zms2_o _ _ (by omega)]
                exact (b2 t ht).2 y x hy hx q
              · rw [zuf_o _ _ z]; exact (b2 t ht).2 y x hy hx q
end MA
