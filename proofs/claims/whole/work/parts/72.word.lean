/-! ADDWORD. -/
section AW
variable {N j k : Nat} {M : ZM}
theorem zsI_thr (M : ZM) (v u : Int32) : zsI (zsI M 112 19 u) 112 19 v = zsI M 112 19 v := by
  unfold zsI zup
  congr 1
  funext b i
  by_cases q : b = 112 ∧ i = 19
  · simp only [if_pos q]
  · simp only [if_neg q]
theorem c_addWord (hN : 10000000 ≤ N) (p1 p2 : Int32) (h : zInv j k M) : zC1 N (zInv (j + 1)) k M p1 p2 := by
  obtain ⟨sw, n, kd, mk, rh, wt, sm, st, H, nx, fs, h, hc⟩ := h
  obtain ⟨hk0, hk5⟩ := zCo_k h
  rcases zix1 p1 hk5 with hp | ⟨s, hs, rfl⟩
  · refine zfin_thr (fX := fun M => f_X7_addWord N (zKs k) (zln k) 112 p1 p2 M) h hc i1_ne0 (L_addWord_1 ?_) ?_
    · unfold f_X6_addWord f_X6_addWord_0
      rw [zgK (k0 k), zbindS (s_find_no h.1 hk5 hp), zxL]
    · show f_X7_addWord N (zKs k) (zln k) 112 p1 p2 M = _
      unfold f_X7_addWord f_X7_addWord_0
      rw [zbindS (q_sen_no hk0 hp), zgK (k112 k), zbpS q_asks0, if_pos rfl]
  · obtain ⟨hn1, hn2, hn6⟩ := zCo_n h hs
    have hs5 : s < 5 := by omega
    rcases zix3 p2 (n := 3) (by decide) with hp | ⟨c, hcc, rfl⟩
    · refine zfin_thr (fX := fun M => f_X7_addWord N (zKs k) (zln k) 112 (nI s) p2 M) h hc i2_ne0 (L_addWord_2 ?_) ?_
      · unfold f_X6_addWord f_X6_addWord_0
        rw [zgK (k0 k), zbindS (s_find_ok h.1 hk5 hs), zxR]
        by_cases q : p2 < 0
        · rw [if_pos q]; rfl
        · rw [if_neg q, if_neg (show ¬ p2 < (4 : Int32) from fun z => by
            have hp := hp.resolve_left q
            rw [Int32.lt_iff_toInt_lt, show (4 : Int32).toInt = 4 by decide] at z
            rw [Int32.lt_iff_toInt_lt, nI_toInt (by decide)] at hp
            omega)]; rfl
      · show f_X7_addWord N (zKs k) (zln k) 112 (nI s) p2 M = _
        have q23 : f_X7_addWord_23 N (zKs k) (zln k) 112 (zsI M 112 19 0) = some (0, zsI M 112 19 2) := by
          unfold f_X7_addWord_23
          rw [zbpS (q_fails 2), zgK (k112 k), zsI_thr]
        unfold f_X7_addWord f_X7_addWord_0
        rw [zbindS (q_sen_ok hk0 hk5 hs), zgK (k112 k), zbpS q_asks1, if_neg one_ne0]
        by_cases q : p2 < 0
        · rw [if_pos q, q23]
        · rw [if_neg q, if_neg (show ¬ p2 ≤ (3 : Int32) from zn_le (hp.resolve_left q)), q23]
    · have hpre1 : ¬ nI c < 0 := nI_pos (by omega)
      have hpre2 : nI c < (4 : Int32) := nI_lt (b := 4) (by omega) (by decide)
      have hpre3 : nI c ≤ (3 : Int32) := nI_le (b := 3) hcc (by decide)
      by_cases hfull : n s = 6
      · refine zfin_thr (fX := fun M => f_X7_addWord N (zKs k) (zln k) 112 (nI s) (nI c) M) h hc i3_ne0 (L_addWord_3 ?_) ?_
        · unfold f_X6_addWord f_X6_addWord_0
          rw [zgK (k0 k), zbindS (s_find_ok h.1 hk5 hs), zxR, if_neg hpre1, if_pos hpre2, zbindS (s_size hs hn1), zgK (ks0 hs), hfull, if_neg (show ¬ nI 6 < (6 : Int32) by decide +kernel)]
        · show f_X7_addWord N (zKs k) (zln k) 112 (nI s) (nI c) M = _
          unfold f_X7_addWord f_X7_addWord_0
          rw [zbindS (q_sen_ok hk0 hk5 hs), zgK (k112 k), zbpS q_asks1, if_neg one_ne0, if_neg hpre1, if_pos hpre3, zR_sI, zbindS (h.1.at 112 1 113 (zrm 22 rfl)), zgok (k113 k) (l113 k) hs5 (by decide), nI_clamp (by omega), show zI (zsI M 112 19 0) 113 s = nI 6 from by rw [zI_sI, if_neg (by omega), hn2, hfull], if_pos (show nI 6 = 6 from rfl), zbpS (q_fails 3), zsI_thr]
      · -- a word more
        have hn5 : n s ≤ 5 := by omega
        obtain ⟨Mc, eMc⟩ : ∃ Mc, Mc = zsI (zsI M (128 + 11 * s) 3 (nI (n s + 1))) (128 + 11 * s + 1) (n s + 1) (nI c) := ⟨_, rfl⟩
        obtain ⟨M1, eM1⟩ : ∃ M1, M1 = zsJ Mc 126 0 (nI (n s + 1)).toInt64 := ⟨_, rfl⟩
        obtain ⟨M3, eM3⟩ : ∃ M3, M3 = zsI (zsI (zsI (zsI M1 112 19 0) 113 s (nI (n s + 1))) 114 (7 * s + (n s + 1)) (nI c)) 116 (7 * s + (n s + 1)) (-1) := ⟨_, rfl⟩
        have hR1 : zRf sw k (zR M1) := by rw [eM1, eMc]; exact h.1
        have hR3 : zRf sw k (zR M3) := by rw [eM3]; exact hR1
        obtain ⟨M2, e2, r2, j2, d2, i2, l2, f2⟩ := q_changed (N := N) (M := M3) hN hR3
        have hI1 : ∀ b i, ¬ (b = 128 + 11 * s ∧ i = 3) → ¬ (b = 128 + 11 * s + 1 ∧ i = n s + 1) → zI M1 b i = zI M b i := fun b i q q2 => by rw [eM1, zI_sJ, eMc, zI_sI, if_neg q2, zI_sI, if_neg q]
        have hI2 : ∀ b i, ¬ (b = 128 + 11 * s ∧ i = 3) → ¬ (b = 128 + 11 * s + 1 ∧ i = n s + 1) → ¬ (b = 112 ∧ (i = 13 ∨ i = 19)) → ¬ (b = 113 ∧ i = s) → ¬ ((b = 114 ∨ b = 116) ∧ i = 7 * s + (n s + 1)) → b ≠ 124 → zI M2 b i = zI M b i := fun b i q q2 q3 q4 q5 q6 => by rw [i2 b i (by omega) q6, eM3, zI_sI, if_neg (by omega), zI_sI, if_neg (by omega), zI_sI, if_neg q4, zI_sI, if_neg (by omega)]; exact hI1 b i q q2
        have hJ2 : ∀ b i, b ≠ 126 → zJ M2 b i = zJ M b i := fun b i q => by rw [j2, eM3, zJ_sI, zJ_sI, zJ_sI, zJ_sI, eM1, zJ_sJ, if_neg (fun z => q z.1), eMc]; rfl
        have v1 : zI M2 (128 + 11 * s) 3 = nI (n s + 1) := by rw [i2 _ _ (by omega) (by omega), eM3, zI_sI, if_neg (by omega), zI_sI, if_neg (by omega), zI_sI, if_neg (by omega), zI_sI, if_neg (by omega), eM1, zI_sJ, eMc, zI_sI, if_neg (by omega), zI_sI, if_pos ⟨rfl, rfl⟩]
        have v2 : zI M2 (128 + 11 * s + 1) (n s + 1) = nI c := by rw [i2 _ _ (by omega) (by omega), eM3, zI_sI, if_neg (by omega), zI_sI, if_neg (by omega), zI_sI, if_neg (by omega), zI_sI, if_neg (by omega), eM1, zI_sJ, eMc, zI_sI, if_pos ⟨rfl, rfl⟩]
        have v3 : zI M2 113 s = nI (n s + 1) := by rw [i2 _ _ (by omega) (by omega), eM3, zI_sI, if_neg (by omega), zI_sI, if_neg (by omega), zI_sI, if_pos ⟨rfl, rfl⟩]
        have v4 : zI M2 114 (7 * s + (n s + 1)) = nI c := by rw [i2 _ _ (by omega) (by omega), eM3, zI_sI, if_neg (by omega), zI_sI, if_pos ⟨rfl, rfl⟩]
        have v5 : zI M2 116 (7 * s + (n s + 1)) = -1 := by rw [i2 _ _ (by omega) (by omega), eM3, zI_sI, if_pos ⟨rfl, rfl⟩]
        have v6 : zI M2 112 19 = 0 := by rw [i2 _ _ (by omega) (by omega), eM3, zI_sI, if_neg (by omega), zI_sI, if_neg (by omega), zI_sI, if_neg (by omega), zI_sI, if_pos ⟨rfl, rfl⟩]
        have hA3 := h.2.2.2.1.2 s hs
        have hrn : rh s (n s + 1) = -1 := by
          rcases hA3.1 (n s + 1) (by omega) with q | ⟨q1, q2, -⟩
          · exact q
          · omega
        refine zfin_u (fX := fun M => f_X7_addWord N (zKs k) (zln k) 112 (nI s) (nI c) M) (v := nI (n s + 1)) (Mc := Mc) (M2 := M2) (L_addWord_ok ?_) ?_ v6 (by rw [j2, eM3, zJ_sI, zJ_sI, zJ_sI, zJ_sI, eM1, zJ_sJ, if_pos ⟨rfl, rfl⟩]) ⟨sw, zuf n s (n s + 1), zuf kd s (zuf (kd s) (n s + 1) c), mk, rh, wt, sm, st, H, nx, fs, zCo_up ⟨by rw [r2]; exact hR3, ?_, ?_, ?_, zW1_c (fun b i q => hI2 b i (by omega) (by omega) (by omega) (by omega) (by omega) (by omega)) (fun b i q => hJ2 b i (by omega)) h.2.2.2.2.1, zW2_c (fun b i q => hI2 b i (by omega) (by omega) (by omega) (by omega) (by omega) (by omega)) (fun i => hJ2 118 i (by decide)) h.2.2.2.2.2.1, h.2.2.2.2.2.2⟩, zChk_new l2 f2⟩
        · have happ : f_X2_append N (zKs k) (zln k) (128 + 11 * s) (nI c) M = some Mc := by
            unfold f_X2_append f_X2_append_0
            rw [zgK (ks0 hs), hn1, if_neg (show ¬ (6 : Int32) ≤ nI (n s) from nI_ge (b := 6) (by omega) (by omega)), zlS, show nI (n s) + (1 : Int32) = nI (n s + 1) from nI_1 _, zR_sI, zbindS ((h.1.2.2.1 s hs).2.1), show zI (zsI M (128 + 11 * s) 3 (nI (n s + 1))) (128 + 11 * s) 3 = nI (n s + 1) from by rw [zI_sI, if_pos ⟨rfl, rfl⟩], zgok (ks1 hs) (zln_sen k s 1 hs (by decide) (by decide)) (show n s + 1 < 7 by omega) (by decide), zlS, nI_clamp (by omega), ← eMc]
          have hsz : zI Mc (128 + 11 * s) 3 = nI (n s + 1) := by rw [eMc, zI_sI, if_neg (by omega), zI_sI, if_pos ⟨rfl, rfl⟩]
          unfold f_X6_addWord f_X6_addWord_0
          rw [zgK (k0 k), zbindS (s_find_ok h.1 hk5 hs), zxR, if_neg hpre1, if_pos hpre2, zbindS (s_size hs hn1), zgK (ks0 hs), if_pos (show nI (n s) < (6 : Int32) from nI_lt (b := 6) (by omega) (by decide)), zbindS happ, zbindS (s_size hs hsz)]
        · show f_X7_addWord N (zKs k) (zln k) 112 (nI s) (nI c) (zsJ Mc 126 0 (nI (n s + 1)).toInt64) = _
          rw [← eM1]
          have hn1' : zI (zsI M1 112 19 0) 113 s = nI (n s) := by rw [zI_sI, if_neg (by omega), hI1 _ _ (by omega) (by omega)]; exact hn2
          have hn2' : ∀ x, zI (zsI (zsI M1 112 19 0) 113 s x) 113 s = x := fun x => by rw [zI_sI, if_pos ⟨rfl, rfl⟩]
          have hn3' : ∀ x y, zI (zsI (zsI (zsI M1 112 19 0) 113 s x) 114 (7 * s + (n s + 1)) y) 113 s = x := fun x y => by rw [zI_sI, if_neg (by omega), zI_sI, if_pos ⟨rfl, rfl⟩]
          unfold f_X7_addWord f_X7_addWord_0
          rw [zbindS (q_sen_ok (by rw [hI1 _ _ (by omega) (by omega)]; exact hk0) hk5 hs), zgK (k112 k), zbpS q_asks1, if_neg one_ne0, if_neg hpre1, if_pos hpre3, zR_sI, zbindS (hR1.at 112 1 113 (zrm 22 rfl)), zgok (k113 k) (l113 k) hs5 (by decide), nI_clamp (show s < 2 ^ 31 by omega), hn1', if_neg (show ¬ nI (n s) = 6 from fun q => by
            have := (nI_eq (a := n s) (b := 6) (by omega) (by decide)).mp q
            omega), zlS, show nI (n s) + (1 : Int32) = nI (n s + 1) from nI_1 _, zR_sI, zR_sI, zbindS (hR1.at 112 2 114 (zrm 23 rfl)), zbindS (hR1.at 112 1 113 (zrm 22 rfl)), zgok (k113 k) (l113 k) hs5 (by decide), hn2', q_at, zgok (k114 k) (l114 k) (show 7 * s + (n s + 1) < 35 by omega) (by decide), zlS, nI_clamp (show 7 * s + (n s + 1) < 2 ^ 31 by omega), zR_sI, zR_sI, zR_sI, zbindS (hR1.at 112 4 116 (zrm 25 rfl)), zbindS (hR1.at 112 1 113 (zrm 22 rfl)), zgok (k113 k) (l113 k) hs5 (by decide), hn3', q_at, zgok (k116 k) (l116 k) (show 7 * s + (n s + 1) < 35 by omega) (by decide), zlS, nI_clamp (show 7 * s + (n s + 1) < 2 ^ 31 by omega), ← eM3, zbindS e2, r2, zbindS (hR3.at 112 1 113 (zrm 22 rfl)), zgok (k113 k) (l113 k) hs5 (by decide), v3]
        · refine zA1_at (s := s) h.2.1 (fun b i q1 q2 => hI2 b i (by omega) (by omega) (by omega) (by omega) (by omega) (by omega)) (fun t ht => ⟨zuf_o _ _ ht, zuf_o _ _ ht, rfl, rfl⟩) ⟨?_, fun x hx => (hI2 _ _ (by omega) (by omega) (by omega) (by omega) (by omega) (by omega)).trans ((h.2.1.2 s hs).2 x hx)⟩
          rw [zuf_s, zuf_s]
          obtain ⟨s1, s2, s3, s4, s5, s6, s7⟩ := (h.2.1.2 s hs).1
          have hz : ∀ o w, o = n s + 1 → w < 7 → mk s o w = 0 := fun o w q hw => hA3.2 o w (by omega) hw (Or.inl (by omega))
          refine ⟨by omega, v1, by rw [zuf_o _ _ (by omega)]; exact s3, fun w w1 w2 => ?_, fun w hw => ?_, fun y x hy hx => (hI2 _ _ (by omega) (by omega) (by omega) (by omega) (by omega) (by omega)).trans (s6 y x hy hx), fun w o o' hw ho ho' q1 q2 => ?_⟩
          · by_cases q : w = n s + 1
            · rw [q, zuf_s]; exact hcc
            · rw [zuf_o _ _ q]; exact s4 w w1 (by omega)
          · by_cases q : w = n s + 1
            · rw [q, zuf_s]; exact v2
            · rw [zuf_o _ _ q, hI2 _ _ (by omega) (by omega) (by omega) (by omega) (by omega) (by omega)]; exact s5 w (by omega)
          · by_cases z1 : o = n s + 1
            · rw [hz o w z1 hw] at q1
              exact absurd q1 (by decide)
            · by_cases z2 : o' = n s + 1
              · rw [hz o' w z2 hw] at q2
                exact absurd q2 (by decide)
              · exact s7 w o o' hw (by omega) (by omega) q1 q2
        · obtain ⟨a1, a2, a3⟩ := h.2.2.1
          refine ⟨(hI2 _ _ (by omega) (by omega) (by omega) (by omega) (by omega) (by omega)).trans a1, fun t ht => ?_, fun t t1 t2 => ⟨(hI2 _ _ (by omega) (by omega) (by omega) (by omega) (by omega) (by omega)).trans (a3 t t1 t2).1, fun i hi => (hI2 _ _ (by omega) (by omega) (by omega) (by omega) (by omega) (by omega)).trans ((a3 t t1 t2).2 i hi)⟩⟩
          have hnt := (zCo_n h ht).2.2
          obtain ⟨⟨s1, s2, s3, s4, s5, s6⟩, s7⟩ := a2 t ht
          by_cases q : t = s
          · subst q
            rw [zuf_s, zuf_s]
            refine ⟨⟨by omega, v3, by rw [zuf_o _ _ (by omega)]; exact s3, fun w w1 w2 => ?_, fun w w1 w2 => ?_, fun y x hy hx => (hI2 _ _ (by omega) (by omega) (by omega) (by omega) (by omega) (by omega)).trans (s6 y x hy hx)⟩, fun w w1 w2 => ?_⟩
            · by_cases q : w = n t + 1
              · rw [q, zuf_s]; exact hcc
              · rw [zuf_o _ _ q]; exact s4 w w1 (by omega)
            · by_cases q : w = n t + 1
              · rw [q, zuf_s]; exact v4
              · rw [zuf_o _ _ q, hI2 _ _ (by omega) (by omega) (by omega) (by omega) (by omega) (by omega)]; exact s5 w w1 (by omega)
            · by_cases q : w = n t + 1
              · rw [q, v5, hrn]
              · rw [hI2 _ _ (by omega) (by omega) (by omega) (by omega) (by omega) (by omega)]; exact s7 w w1 (by omega)
          · rw [zuf_o _ _ q, zuf_o _ _ q]
            exact ⟨⟨s1, (hI2 _ _ (by omega) (by omega) (by omega) (by omega) (by omega) (by omega)).trans s2, s3, s4, fun w w1 w2 => (hI2 _ _ (by omega) (by omega) (by omega) (by omega) (by omega) (by omega)).trans (s5 w w1 w2), fun y x hy hx => (hI2 _ _ (by omega) (by omega) (by omega) (by omega) (by omega) (by omega)).trans (s6 y x hy hx)⟩, fun w w1 w2 => (hI2 _ _ (by omega) (by omega) (by omega) (by omega) (by omega) (by omega)).trans (s7 w w1 w2)⟩
        · obtain ⟨b1, b2⟩ := h.2.2.2.1
          refine ⟨b1, fun t ht => ?_⟩
          by_cases q : t = s
          · subst q
            rw [zuf_s]
            refine ⟨fun w hw => ?_, fun y x hy hx z => (b2 t ht).2 y x hy hx (by omega)⟩
            rcases (b2 t ht).1 w hw with z | ⟨z1, z2, y, z3, z4⟩
            · exact Or.inl z
            · exact Or.inr ⟨z1, by omega, y, by omega, z4⟩
          · rw [zuf_o _ _ q]; exact b2 t ht
end AW
