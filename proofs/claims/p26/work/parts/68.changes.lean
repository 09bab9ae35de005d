/-! CALLS THAT CHANGE: what the class answers and what it leaves, in words of the state. -/
section RU
variable {N : Nat} {T : yT} {sw : Bool} {nx : Nat} {M : ZM}
/-- nothing changes -/
def yRs (T : yT) (M : ZM) (o : Nat ⊕ Int32) (T' : yT) (f : Option ((Nat ⊕ Int32) × ZM)) : Prop := ∃ M' sw' nx', f = some (o, M') ∧ yRl T' sw' nx' M' ∧ yk T'.1 = yk T.1
theorem yRs_no (h : yRl T sw nx M) {e : (Nat ⊕ Int32) × yT} {c : Nat} {f : Option ((Nat ⊕ Int32) × ZM)} (he : e = (.inl c, T)) (hf : f = some (.inl c, M)) : yRs T M e.1 e.2 f := by
  subst he
  exact ⟨M, sw, nx, hf, h, rfl⟩
theorem r_correct (h : yRl T sw nx M) (g : yOk 512 T) (p q r : Int32) : yRs T M (e_correct T p q r).1 (e_correct T p q r).2 (f_X6_correct N (zKs (yk T.1)) (zln (yk T.1)) 0 p q r M) := by
  have hk5 := yk5 g
  rcases zix1 p hk5 with hp | ⟨s, hs, rfl⟩
  · refine yRs_no (c := 1) h (eS_no hp) ?_
    unfold f_X6_correct f_X6_correct_0
    rw [zgK (k0 _), zbindS (s_find_no h.1 hk5 hp), zxL]
  · obtain ⟨hn1, hn6⟩ := yRl_n h hs
    rcases zix4 q r hn6 with hp | ⟨a, w, ha, h1, h2, rfl, rfl⟩
    · refine yRs_no (c := 1) h ((eS_ok hk5 hs).trans (eA_no4 hp)) ?_
      unfold f_X6_correct f_X6_correct_0
      rw [zgK (k0 _), zbindS (s_find_ok h.1 hk5 hs), zxR, zbindS (s_arc_no hs hn1 hn6 hp), zxL]
    · by_cases e : a = w
      · refine yRs_no (c := 2) h ((eS_ok hk5 hs).trans ((eA_in hn6 ha h1 h2).trans (if_pos e))) ?_
        unfold f_X6_correct f_X6_correct_0
        rw [zgK (k0 _), zbindS (s_find_ok h.1 hk5 hs), zxR, zbindS ((s_arc_ok hs hn1 hn6 ha h1 h2).trans (if_pos e)), zxL]
      · have ev : e_correct T (nI s) (nI a) (nI w) = (.inr (yrh T.1 s w), (yV_rh T.1 (zuf (yrh T.1) s (zuf (yrh T.1 s) w (nI a))), T.2)) := (eS_ok hk5 hs).trans ((eA_in hn6 ha h1 h2).trans (if_neg e))
        rw [ev]
        have hrw := (h.2.1.2 s hs).2 w (by omega)
        obtain ⟨Mc, eMc⟩ : ∃ Mc, Mc = zsI M (112 + 11 * s + 2) w (nI a) := ⟨_, rfl⟩
        have hI2 : ∀ b i, ¬ (b = 112 + 11 * s + 2 ∧ i = w) → zI Mc b i = zI M b i := fun b i q => by rw [eMc, zI_sI, if_neg q]
        have hJ2 : zJ Mc = zJ M := by rw [eMc, zJ_sI]
        have hR2 : zR Mc = zR M := by rw [eMc, zR_sI]
        have hw2 : zI Mc (112 + 11 * s + 2) w = nI a := by rw [eMc, zI_sI, if_pos ⟨rfl, rfl⟩]
        refine ⟨Mc, sw, nx, ?_, ⟨by rw [hR2]; exact h.1, ?_, zW1_c (fun b i q => hI2 b i (by omega)) (fun b i _ => by rw [hJ2]) h.2.2⟩, rfl⟩
        · have ech : f_X2_changeRightHead N (zKs (yk T.1)) (zln (yk T.1)) (112 + 11 * s) (nI a) (nI w) M = some (yrh T.1 s w, Mc) := by
            unfold f_X2_changeRightHead f_X2_changeRightHead_0
            rw [zbindS (s_rightHead h.1 hs (show w < 7 by omega)), hrw, zgK (ks0 hs), zbindS (s_isPlace N (show w < 7 by omega)), if_neg one_ne0, zbindS ((h.1.2.2.1 s hs).2.2.1), zgok (ks2 hs) (zln_sen _ s 2 hs (by decide) (by decide)) (show w < 7 by omega) (by decide), zlS, nI_clamp (by omega), ← eMc]
          unfold f_X6_correct f_X6_correct_0
          rw [zgK (k0 _), zbindS (s_find_ok h.1 hk5 hs), zxR, zbindS ((s_arc_ok hs hn1 hn6 ha h1 h2).trans (if_neg e)), zxR, zbpS ech, zgK (ks0 hs)]
        · refine zA1_at (s := s) (n' := yn T.1) (kd' := ykd T.1) (mk' := ymk T.1) (rh' := zuf (yrh T.1) s (zuf (yrh T.1 s) w (nI a))) h.2.1 (fun b i q1 q2 => hI2 b i (by omega)) (fun t ht => ⟨rfl, rfl, rfl, zuf_o _ _ ht⟩) ⟨zSen_c (hI2 _ _ (by omega)) (fun x => hI2 _ _ (by omega)) (fun y x hy => hI2 _ _ (by omega)) (h.2.1.2 s hs).1, fun x hx => ?_⟩
          rw [zuf_s]
          by_cases q : x = w
          · rw [q, zuf_s]; exact hw2
          · rw [zuf_o _ _ q, hI2 _ _ (by omega)]; exact (h.2.1.2 s hs).2 x hx
theorem r_mark (hN : 10000000 ≤ N) (h : yRl T sw nx M) (g : yOk 512 T) (p q r m : Int32) : yRs T M (e_mark T p q r m).1 (e_mark T p q r m).2 (f_X6_mark N (zKs (yk T.1)) (zln (yk T.1)) 0 p q r m M) := by
  have hk5 := yk5 g
  rcases zix1 p hk5 with hp | ⟨s, hs, rfl⟩
  · refine yRs_no (c := 1) h (eS_no hp) ?_
    unfold f_X6_mark f_X6_mark_0
    rw [zgK (k0 _), zbindS (s_find_no h.1 hk5 hp), zxL]
  · obtain ⟨hn1, hn6⟩ := yRl_n h hs
    rcases zix4 q r hn6 with hp | ⟨a, w, ha, h1, h2, rfl, rfl⟩
    · refine yRs_no (c := 1) h ((eS_ok hk5 hs).trans (eA_no4 hp)) ?_
      unfold f_X6_mark f_X6_mark_0
      rw [zgK (k0 _), zbindS (s_find_ok h.1 hk5 hs), zxR, zbindS (s_arc_no hs hn1 hn6 hp), zxL]
    · by_cases e : a = w
      · refine yRs_no (c := 2) h ((eS_ok hk5 hs).trans ((eA_in hn6 ha h1 h2).trans (if_pos e))) ?_
        unfold f_X6_mark f_X6_mark_0
        rw [zgK (k0 _), zbindS (s_find_ok h.1 hk5 hs), zxR, zbindS ((s_arc_ok hs hn1 hn6 ha h1 h2).trans (if_pos e)), zxL]
      · have ev0 : e_mark T (nI s) (nI a) (nI w) m = if m < 0 ∨ nI 2 < m then (.inl 2, T) else if m = 1 ∧ (List.range (yn T.1 s + 1)).any (fun o => decide (o ≠ a ∧ ymk T.1 s o w = 1)) = true then (.inl 3, T) else (.inr (ymk T.1 s a w), (yV_mk T.1 (zuf (ymk T.1) s (zms2 (ymk T.1 s) a w m)), T.2)) := (eS_ok hk5 hs).trans ((eA_in hn6 ha h1 h2).trans (if_neg e))
        rw [ev0]
        rcases zix3 m (n := 2) (by decide) with hp | ⟨m, hm, rfl⟩
        · rw [if_pos hp]
          refine yRs_no (c := 2) h rfl ?_
          have hne : ∀ v : Nat, v ≤ 2 → ¬ m = nI v := fun v hv q => by
            subst q
            rcases hp with q | q
            · exact nI_pos (by omega) q
            · exact nI_nlt hv (by omega) q
          unfold f_X6_mark f_X6_mark_0
          rw [zgK (k0 _), zbindS (s_find_ok h.1 hk5 hs), zxR, zbindS ((s_arc_ok hs hn1 hn6 ha h1 h2).trans (if_neg e)), zxR, if_neg (show ¬ m = 0 from hne 0 (by decide)), if_neg (show ¬ m = 1 from hne 1 (by decide)), if_neg (show ¬ m = 2 from hne 2 (by decide))]
        · rw [if_neg (fun q => q.elim (nI_pos (by omega)) (nI_nlt hm (by omega)))]
          have hS := (h.2.1.2 s hs).1
          obtain ⟨r, er, hr⟩ := s_forcedHead hN h.1 hs hS.2.1 hn6 (show w < 7 by omega)
          by_cases hbad : nI m = 1 ∧ ∃ o, o ≤ yn T.1 s ∧ o ≠ a ∧ ymk T.1 s o w = 1
          · obtain ⟨hm1, o, ho, hoa, hom⟩ := hbad
            rw [if_pos ⟨hm1, List.any_eq_true.mpr ⟨o, List.mem_range.mpr (by omega), decide_eq_true ⟨hoa, hom⟩⟩⟩]
            have hrne : ¬ r = -1 ∧ ¬ r = nI a := by
              rcases hr with ⟨q1, q2⟩ | ⟨o', q1, q2, q3⟩
              · exfalso
                have := q2 o ho
                rw [hS.2.2.2.2.2.1 o w (by omega) (by omega)] at this
                exact this hom
              · rw [hS.2.2.2.2.2.1 o' w (by omega) (by omega)] at q3
                have eo := hS.2.2.2.2.2.2 w o o' (by omega) ho q1 hom q3
                subst eo
                rw [q2]
                exact ⟨nI_nem1 (by omega), fun z => hoa ((nI_eq (by omega) (by omega)).mp z)⟩
            refine yRs_no (c := 3) h rfl ?_
            have h41 : f_X6_mark_41 N (zKs (yk T.1)) (zln (yk T.1)) (nI a) (nI w) (nI m) (112 + 11 * s) M = some (Sum.inl 3, M) := by
              unfold f_X6_mark_41
              rw [zbindS er, zgK (ks0 hs), if_pos hm1, if_neg hrne.1, if_neg hrne.2]
            unfold f_X6_mark f_X6_mark_0
            rw [zgK (k0 _), zbindS (s_find_ok h.1 hk5 hs), zxR, zbindS ((s_arc_ok hs hn1 hn6 ha h1 h2).trans (if_neg e)), zxR, h41]
            by_cases z0 : nI m = 0
            · rw [if_pos z0]
            · rw [if_neg z0, if_pos hm1]
          · have hnone : nI m = 1 → ∀ o, o ≤ yn T.1 s → o ≠ a → ymk T.1 s o w ≠ 1 := fun q o q1 q2 q3 => hbad ⟨q, o, q1, q2, q3⟩
            rw [if_neg (fun q => by
              obtain ⟨o, ho, q3⟩ := List.any_eq_true.mp q.2
              have q3 := of_decide_eq_true q3
              exact hbad ⟨q.1, o, by have := List.mem_range.mp ho; omega, q3.1, q3.2⟩)]
            have hold := hS.2.2.2.2.2.1 a w (by omega) (by omega)
            obtain ⟨Mc, eMc⟩ : ∃ Mc, Mc = zsI M (112 + 11 * s + (4 + a)) w (nI m) := ⟨_, rfl⟩
            have hI2 : ∀ b i, ¬ (b = 112 + 11 * s + (4 + a) ∧ i = w) → zI Mc b i = zI M b i := fun b i q => by rw [eMc, zI_sI, if_neg q]
            have hJ2 : zJ Mc = zJ M := by rw [eMc, zJ_sI]
            have hR2 : zR Mc = zR M := by rw [eMc, zR_sI]
            have hw2 : zI Mc (112 + 11 * s + (4 + a)) w = nI m := by rw [eMc, zI_sI, if_pos ⟨rfl, rfl⟩]
            refine ⟨Mc, sw, nx, ?_, ⟨by rw [hR2]; exact h.1, ?_, zW1_c (fun b i q => hI2 b i (by omega)) (fun b i _ => by rw [hJ2]) h.2.2⟩, rfl⟩
            · have hch : f_X2_changeMark N (zKs (yk T.1)) (zln (yk T.1)) (112 + 11 * s) (nI a) (nI w) (nI m) M = some (ymk T.1 s a w, Mc) := by
                unfold f_X2_changeMark f_X2_changeMark_0
                rw [zbindS (s_markOf h.1 hs (show a < 7 by omega) (show w < 7 by omega)), hold, zgK (ks0 hs), zbindS (s_isPlace N (show a < 7 by omega)), if_neg one_ne0, zbindS (s_isPlace N (show w < 7 by omega)), if_neg one_ne0, zbindS ((h.1.2.2.1 s hs).2.2.2.1), zgok (ks3 hs) (zln_sen _ s 3 hs (by decide) (by decide)) (show a < 7 by omega) (by decide), nI_clamp (show a < 2 ^ 31 by omega), zbindS ((h.1.2.2.1 s hs).2.2.2.2 a (by omega)), zgok (ks4 hs (show a < 7 by omega)) (zln_sen _ s (4 + a) hs (by omega) (by omega)) (show w < 7 by omega) (by decide), zlS, nI_clamp (show w < 2 ^ 31 by omega), ← eMc]
              have h77 : f_X6_mark_77 N (zKs (yk T.1)) (zln (yk T.1)) (nI a) (nI w) (nI m) (112 + 11 * s) M = some (Sum.inr (ymk T.1 s a w), Mc) := by
                unfold f_X6_mark_77
                rw [zbpS hch, zgK (ks0 hs)]
              have h41 : f_X6_mark_41 N (zKs (yk T.1)) (zln (yk T.1)) (nI a) (nI w) (nI m) (112 + 11 * s) M = some (Sum.inr (ymk T.1 s a w), Mc) := by
                unfold f_X6_mark_41
                rw [zbindS er, zgK (ks0 hs), h77]
                by_cases z1 : nI m = 1
                · rw [if_pos z1]
                  by_cases z2 : r = -1
                  · rw [if_pos z2]
                  · rw [if_neg z2]
                    rcases hr with ⟨q1, -⟩ | ⟨o', q1, q2, q3⟩
                    · exact absurd q1 z2
                    · rw [hS.2.2.2.2.2.1 o' w (by omega) (by omega)] at q3
                      have : o' = a := Decidable.byContradiction fun z => hnone z1 o' q1 z q3
                      rw [if_pos (by rw [q2, this])]
                · rw [if_neg z1]
              unfold f_X6_mark f_X6_mark_0
              rw [zgK (k0 _), zbindS (s_find_ok h.1 hk5 hs), zxR, zbindS ((s_arc_ok hs hn1 hn6 ha h1 h2).trans (if_neg e)), zxR, h41]
              rcases (show m = 0 ∨ m = 1 ∨ m = 2 by omega) with q | q | q
              · rw [if_pos (show nI m = 0 by rw [q]; rfl)]
              · rw [if_neg (show ¬ nI m = 0 by rw [q]; decide +kernel), if_pos (show nI m = 1 by rw [q]; rfl)]
              · rw [if_neg (show ¬ nI m = 0 by rw [q]; decide +kernel), if_neg (show ¬ nI m = 1 by rw [q]; decide +kernel), if_pos (show nI m = 2 by rw [q]; rfl)]
            · refine zA1_at (s := s) (n' := yn T.1) (kd' := ykd T.1) (mk' := zuf (ymk T.1) s (zms2 (ymk T.1 s) a w (nI m))) (rh' := yrh T.1) h.2.1 (fun b i q1 q2 => hI2 b i (by omega)) (fun t ht => ⟨rfl, rfl, zuf_o _ _ ht, rfl⟩) ⟨?_, fun x hx => (hI2 _ _ (by omega)).trans ((h.2.1.2 s hs).2 x hx)⟩
              rw [zuf_s]
              obtain ⟨s1, s2, s3, s4, s5, s6, s7⟩ := hS
              refine ⟨s1, (hI2 _ _ (by omega)).trans s2, s3, s4, fun x hx => (hI2 _ _ (by omega)).trans (s5 x hx), fun y x hy hx => ?_, fun x o o' hx ho ho' q1 q2 => ?_⟩
              · by_cases q : y = a ∧ x = w
                · rw [q.1, q.2, zms2_at]; exact hw2
                · rw [zms2_o _ _ q, hI2 _ _ (by omega)]; exact s6 y x hy hx
              · by_cases z : x = w
                · subst z
                  by_cases z1 : o = a <;> by_cases z2 : o' = a
                  · omega
                  · rw [z1, zms2_at] at q1
                    rw [zms2_o _ _ (fun z => z2 z.1)] at q2
                    exact absurd q2 (hnone q1 o' ho' z2)
                  · rw [zms2_o _ _ (fun z => z1 z.1)] at q1
                    rw [z2, zms2_at] at q2
                    exact absurd q1 (hnone q2 o ho z1)
                  · rw [zms2_o _ _ (fun z => z1 z.1)] at q1
                    rw [zms2_o _ _ (fun z => z2 z.1)] at q2
                    exact s7 x o o' hx ho ho' q1 q2
                · rw [zms2_o _ _ (fun y => z y.2)] at q1 q2
                  exact s7 x o o' hx ho ho' q1 q2
theorem r_addWord (h : yRl T sw nx M) (g : yOk 512 T) (p q : Int32) : yRs T M (e_addWord T p q).1 (e_addWord T p q).2 (f_X6_addWord N (zKs (yk T.1)) (zln (yk T.1)) 0 p q M) := by
  have hk5 := yk5 g
  rcases zix1 p hk5 with hp | ⟨s, hs, rfl⟩
  · refine yRs_no (c := 1) h (eS_no hp) ?_
    unfold f_X6_addWord f_X6_addWord_0
    rw [zgK (k0 _), zbindS (s_find_no h.1 hk5 hp), zxL]
  · obtain ⟨hn1, hn6⟩ := yRl_n h hs
    have ev0 : e_addWord T (nI s) q = if q < 0 ∨ nI 3 < q then (.inl 2, T) else if yn T.1 s = 6 then (.inl 3, T) else (.inr (nI (yn T.1 s + 1)), (yV_n T.1 (zuf (yn T.1) s (yn T.1 s + 1)) (zuf (ykd T.1) s (zuf (ykd T.1 s) (yn T.1 s + 1) q.toNatClampNeg)), T.2)) := eS_ok hk5 hs
    rw [ev0]
    rcases zix3 q (n := 3) (by decide) with hp | ⟨c, hcc, rfl⟩
    · rw [if_pos hp]
      refine yRs_no (c := 2) h rfl ?_
      unfold f_X6_addWord f_X6_addWord_0
      rw [zgK (k0 _), zbindS (s_find_ok h.1 hk5 hs), zxR]
      by_cases z : q < 0
      · rw [if_pos z]; rfl
      · rw [if_neg z, if_neg (show ¬ q < (4 : Int32) from fun y => by
          have hp := hp.resolve_left z
          rw [Int32.lt_iff_toInt_lt, show (4 : Int32).toInt = 4 by decide] at y
          rw [Int32.lt_iff_toInt_lt, nI_toInt (by decide)] at hp
          omega)]; rfl
    · rw [if_neg (fun q => q.elim (nI_pos (by omega)) (nI_nlt hcc (by omega))), nI_clamp (show c < 2 ^ 31 by omega)]
      have hpre1 : ¬ nI c < 0 := nI_pos (by omega)
      have hpre2 : nI c < (4 : Int32) := nI_lt (b := 4) (by omega) (by decide)
      by_cases hfull : yn T.1 s = 6
      · rw [if_pos hfull]
        refine yRs_no (c := 3) h rfl ?_
        unfold f_X6_addWord f_X6_addWord_0
        rw [zgK (k0 _), zbindS (s_find_ok h.1 hk5 hs), zxR, if_neg hpre1, if_pos hpre2, zbindS (s_size hs hn1), zgK (ks0 hs), hfull, if_neg (show ¬ nI 6 < (6 : Int32) by decide +kernel)]
      · rw [if_neg hfull]
        have hn5 : yn T.1 s ≤ 5 := by omega
        obtain ⟨Mc, eMc⟩ : ∃ Mc, Mc = zsI (zsI M (112 + 11 * s) 3 (nI (yn T.1 s + 1))) (112 + 11 * s + 1) (yn T.1 s + 1) (nI c) := ⟨_, rfl⟩
        have hI2 : ∀ b i, ¬ (b = 112 + 11 * s ∧ i = 3) → ¬ (b = 112 + 11 * s + 1 ∧ i = yn T.1 s + 1) → zI Mc b i = zI M b i := fun b i q q2 => by rw [eMc, zI_sI, if_neg q2, zI_sI, if_neg q]
        have hJ2 : zJ Mc = zJ M := by rw [eMc, zJ_sI, zJ_sI]
        have hR2 : zR Mc = zR M := by rw [eMc, zR_sI, zR_sI]
        have v1 : zI Mc (112 + 11 * s) 3 = nI (yn T.1 s + 1) := by rw [eMc, zI_sI, if_neg (by omega), zI_sI, if_pos ⟨rfl, rfl⟩]
        have v2 : zI Mc (112 + 11 * s + 1) (yn T.1 s + 1) = nI c := by rw [eMc, zI_sI, if_pos ⟨rfl, rfl⟩]
        have hA3 := g.2.1.2 s hs
        refine ⟨Mc, sw, nx, ?_, ⟨by rw [hR2]; exact h.1, ?_, zW1_c (fun b i q => hI2 b i (by omega) (by omega)) (fun b i _ => by rw [hJ2]) h.2.2⟩, rfl⟩
        · have happ : f_X2_append N (zKs (yk T.1)) (zln (yk T.1)) (112 + 11 * s) (nI c) M = some Mc := by
            unfold f_X2_append f_X2_append_0
            rw [zgK (ks0 hs), hn1, if_neg (show ¬ (6 : Int32) ≤ nI (yn T.1 s) from nI_ge (b := 6) (by omega) (by omega)), zlS, show nI (yn T.1 s) + (1 : Int32) = nI (yn T.1 s + 1) from nI_1 _, zR_sI, zbindS ((h.1.2.2.1 s hs).2.1), show zI (zsI M (112 + 11 * s) 3 (nI (yn T.1 s + 1))) (112 + 11 * s) 3 = nI (yn T.1 s + 1) from by rw [zI_sI, if_pos ⟨rfl, rfl⟩], zgok (ks1 hs) (zln_sen _ s 1 hs (by decide) (by decide)) (show yn T.1 s + 1 < 7 by omega) (by decide), zlS, nI_clamp (by omega), ← eMc]
          unfold f_X6_addWord f_X6_addWord_0
          rw [zgK (k0 _), zbindS (s_find_ok h.1 hk5 hs), zxR, if_neg hpre1, if_pos hpre2, zbindS (s_size hs hn1), zgK (ks0 hs), if_pos (show nI (yn T.1 s) < (6 : Int32) from nI_lt (b := 6) (by omega) (by decide)), zbindS happ, zbindS (s_size hs v1)]
        · refine zA1_at (s := s) (n' := zuf (yn T.1) s (yn T.1 s + 1)) (kd' := zuf (ykd T.1) s (zuf (ykd T.1 s) (yn T.1 s + 1) c)) (mk' := ymk T.1) (rh' := yrh T.1) h.2.1 (fun b i q1 q2 => hI2 b i (by omega) (by omega)) (fun t ht => ⟨zuf_o _ _ ht, zuf_o _ _ ht, rfl, rfl⟩) ⟨?_, fun x hx => (hI2 _ _ (by omega) (by omega)).trans ((h.2.1.2 s hs).2 x hx)⟩
          rw [zuf_s, zuf_s]
          obtain ⟨s1, s2, s3, s4, s5, s6, s7⟩ := (h.2.1.2 s hs).1
          have hz : ∀ o w, o = yn T.1 s + 1 → w < 7 → ymk T.1 s o w = 0 := fun o w q hw => hA3.2 o w (by omega) hw (Or.inl (by omega))
          refine ⟨by omega, v1, by rw [zuf_o _ _ (by omega)]; exact s3, fun w w1 w2 => ?_, fun w hw => ?_, fun y x hy hx => (hI2 _ _ (by omega) (by omega)).trans (s6 y x hy hx), fun w o o' hw ho ho' q1 q2 => ?_⟩
          · by_cases q : w = yn T.1 s + 1
            · rw [q, zuf_s]; exact hcc
            · rw [zuf_o _ _ q]; exact s4 w w1 (by omega)
          · by_cases q : w = yn T.1 s + 1
            · rw [q, zuf_s]; exact v2
            · rw [zuf_o _ _ q, hI2 _ _ (by omega) (by omega)]; exact s5 w (by omega)
          · by_cases z1 : o = yn T.1 s + 1
            · rw [hz o w z1 hw] at q1
              exact absurd q1 (by decide)
            · by_cases z2 : o' = yn T.1 s + 1
              · rw [hz o' w z2 hw] at q2
                exact absurd q2 (by decide)
              · exact s7 w o o' hw (by omega) (by omega) q1 q2
theorem r_setWeight (h : yRl T sw nx M) (g : yOk 512 T) (p q : Int32) : yRs T M (e_setWeight T p q).1 (e_setWeight T p q).2 (f_X6_setWeight N (zKs (yk T.1)) (zln (yk T.1)) 0 p q M) := by
  rcases zixF p with hp | ⟨f, hf, rfl⟩
  · refine yRs_no (c := 1) h (eF_no hp) ?_
    unfold f_X6_setWeight f_X6_setWeight_0
    rw [zbindS (s_feat_no N hp), zxL]
  · have ev0 : e_setWeight T (nI f) q = if q < (-100 : Int32) ∨ ¬ q ≤ (100 : Int32) then (.inl 2, T) else (.inr (iI (ywt T.1 f)), (yV_w T.1 (zuf (ywt T.1) f q.toInt) (ysm T.1) (yst T.1), ykeep T false)) := eF_ok hf
    rw [ev0]
    by_cases hbad : q < (-100 : Int32) ∨ ¬ q ≤ (100 : Int32)
    · rw [if_pos hbad]
      refine yRs_no (c := 2) h rfl ?_
      unfold f_X6_setWeight f_X6_setWeight_0
      rw [zbindS (s_feat_ok N hf), zxR]
      by_cases z : q < (-100 : Int32)
      · rw [if_pos z]; rfl
      · rw [if_neg z, if_neg (hbad.resolve_left z)]; rfl
    · rw [if_neg hbad]
      have hlo : ¬ q < (-100 : Int32) := fun z => hbad (Or.inl z)
      have hhi : q ≤ (100 : Int32) := Decidable.byContradiction fun z => hbad (Or.inr z)
      have ep : q = iI q.toInt := (Int32.ofInt_toInt q).symm
      have hW1 := h.2.2
      obtain ⟨M14, e14, r14, d14, a6, a7, a47, aw, aj, ao, ajo⟩ := s_keep (N := N) (st := yst T.1) h.1 hW1.2.2.2.2.1 g.2.2.1 hW1.2.2.2.1 hW1.2.2.1
      have hnx := hW1.2.2.2.2.1
      obtain ⟨Mc, eMc⟩ : ∃ Mc, Mc = zsI M14 3 f q := ⟨_, rfl⟩
      have hR14 : zRf sw (yk T.1) (zR M14) := by rw [r14]; exact h.1
      have hJ2 : zJ Mc = zJ M14 := by rw [eMc, zJ_sI]
      have hR2 : zR Mc = zR M14 := by rw [eMc, zR_sI]
      have hIc : ∀ b i, zI Mc b i = if b = 3 ∧ i = f then q else zI M14 b i := fun b i => by rw [eMc, zI_sI]
      refine ⟨Mc, sw, (nx + 1) % 20, ?_, ⟨by rw [hR2]; exact hR14, ?_, ?_⟩, rfl⟩
      · unfold f_X6_setWeight f_X6_setWeight_0
        rw [zbindS (s_feat_ok N hf), zxR, if_neg hlo, if_pos hhi, zgK (k0 _), zbindS (h.1.at 0 2 2 (zrm 1 rfl)), zbindS (s_get h.1 hf), zgK (k2 _), zbindS e14, r14, zbindS (h.1.at 0 2 2 (zrm 1 rfl)), zbindS (s_put hR14 hf q), zgK (k2 _), ← eMc, (hW1.1 f hf).1]
      · exact zA1_c (fun b i z => by rw [hIc b i, if_neg (by omega)]; exact ao b i (by omega) (by omega) (by omega)) h.2.1
      · refine zW1_keep (wt' := zuf (ywt T.1) f q.toInt) (sm' := ysm T.1) (st' := yst T.1) (b := false) hW1 (by rw [hIc _ _, if_neg (by omega)]; exact a6) (by rw [hIc _ _, if_neg (by omega)]; exact a7) (by rw [hIc _ _, if_neg (by omega)]; exact a47) (fun g hg => ⟨by rw [hIc _ _, if_neg (by omega)]; exact aw g hg, by rw [hJ2]; exact aj g hg⟩) (fun b i q1 q2 q3 q4 => by rw [hIc _ _, if_neg (by omega)]; exact ao b i (by omega) q4 q3) (fun b i q1 q2 q3 => by rw [hJ2]; exact ajo b i q3) (fun g hg => ⟨?_, by rw [hJ2, ajo _ _ (by omega)]; exact (hW1.1 g hg).2⟩) (by rw [hIc _ _, if_neg (by omega), ao _ _ (by omega) (by omega) (by omega)]; exact hW1.2.1)
        rw [hIc _ _]
        by_cases z : g = f
        · rw [if_pos ⟨rfl, z⟩, z, zuf_s]; exact ep
        · rw [if_neg (fun y => z y.2), zuf_o _ _ z, ao _ _ (by omega) (by omega) (by omega)]; exact (hW1.1 g hg).1
theorem r_rollBack (h : yRl T sw nx M) (g : yOk 512 T) : yRs T M (e_rollBack T).1 (e_rollBack T).2 (f_X6_rollBack N (zKs (yk T.1)) (zln (yk T.1)) 0 M) := by
  obtain ⟨V, H⟩ := T
  have hW1 := h.2.2
  have hW3 := g.2.2
  have hkc : ∀ (M : ZM) (v : Int32), zI M 2 6 = v → f_X5_keptCount N (zKs (yk V)) (zln (yk V)) 2 M = some v := fun M v hv => by
    unfold f_X5_keptCount f_X5_keptCount_0
    rw [zgK (k2 _), hv]
  cases H with
  | nil =>
    refine yRs_no (c := 3) h rfl ?_
    unfold f_X6_rollBack f_X6_rollBack_0
    rw [zgK (k0 _), zbindS (h.1.at 0 2 2 (zrm 1 rfl)), zbindS (hkc M (nI 0) hW1.2.2.1), zgK (k2 _), if_neg (show ¬ (0 : Int32) < nI 0 by decide +kernel)]
  | cons e H =>
    have hl : H.length < 20 := by
      have : (e :: H).length ≤ 20 := hW3.1
      rw [List.length_cons] at this
      omega
    have hnx := hW1.2.2.2.2.1
    obtain ⟨p, hp⟩ : ∃ p, p = (nx + 19) % 20 := ⟨_, rfl⟩
    have hp20 : p < 20 := by omega
    obtain ⟨Mc, ec, rc, dc, c6, c7, c2, cw, cj, co, cjo⟩ := s_takeBack (N := N) h.1 hnx hp hl hW1.2.2.2.1 hW1.2.2.1
    refine ⟨Mc, sw, p, ?_, ⟨by rw [rc]; exact h.1, zA1_c (fun b i q => co b i (by omega) (by omega)) h.2.1, ?_⟩, rfl⟩
    · unfold f_X6_rollBack f_X6_rollBack_0
      rw [zgK (k0 _), zbindS (h.1.at 0 2 2 (zrm 1 rfl)), zbindS (hkc M (nI (H.length + 1)) hW1.2.2.1), zgK (k2 _), if_pos (show (0 : Int32) < nI (H.length + 1) from nI_lt (a := 0) (by omega) (by omega)), zbindS ec, rc, zbindS (h.1.at 0 2 2 (zrm 1 rfl)), zbindS (hkc Mc (nI H.length) c6), zgK (k2 _)]
      rfl
    · have hent1 := hW1.2.2.2.2.2 0 e rfl
      have hz : zrp nx 0 = p := by unfold zrp; omega
      rw [hz] at hent1
      refine ⟨fun f hf => ⟨?_, ?_⟩, ?_, ?_, ?_, hp20, fun i x hx => ?_⟩
      · rw [cw f hf]; exact (hent1.1 f hf).1
      · rw [cj f hf]; exact (hent1.1 f hf).2
      · rw [c2]; exact hent1.2
      · exact c6
      · exact c7
      · have hiT : i < H.length := (List.getElem?_eq_some_iff.mp hx).1
        have h5 := hW1.2.2.2.2.2 (i + 1) x hx
        have hz2 : zrp nx (i + 1) = zrp p i := by unfold zrp; omega
        have hl2 := zrp_lt p i
        rw [hz2] at h5
        exact ⟨fun f hf => ⟨(co _ _ (by omega) (by omega)).trans (h5.1 f hf).1, (cjo _ _ (by omega)).trans (h5.1 f hf).2⟩, (co _ _ (by omega) (by omega)).trans h5.2⟩
theorem yrt_iff {V : yV} {s : Nat} : yrt V s = true ↔ ∀ x, 1 ≤ x → x ≤ yn V s → zits (zrg (yrh V s)) (yn V s) x = 0 := by
  unfold yrt
  rw [List.all_eq_true]
  constructor
  · intro h x h1 h2
    exact beq_iff_eq.mp (h x (List.mem_range'_1.mpr (by omega)))
  · intro h x hx
    have := List.mem_range'_1.mp hx
    exact beq_iff_eq.mpr (h x (by omega) (by omega))
theorem r_mend (hN : 10000000 ≤ N) (h : yRl T sw nx M) (g : yOk 512 T) (p : Int32) : yRs T M (e_mend T p).1 (e_mend T p).2 (f_X6_mend N (zKs (yk T.1)) (zln (yk T.1)) 0 p M) := by
  have hk5 := yk5 g
  rcases zix1 p hk5 with hp | ⟨s, hs, rfl⟩
  · refine yRs_no (c := 1) h (eS_no hp) ?_
    unfold f_X6_mend f_X6_mend_0
    rw [zgK (k0 _), zbindS (s_find_no h.1 hk5 hp), zxL]
  · obtain ⟨hn1, h6⟩ := yRl_n h hs
    have ev0 : e_mend T (nI s) = if yrt T.1 s = false then (.inl 3, T) else eO (yb T.1 s true) (.inl 3, T) fun v => (.inr (nI (zmn (zrg (yrh T.1 s)) (zhd v) (yn T.1 s))), (yV_w T.1 (yNw T.1 s v) (fun g => ysm T.1 g + yNw T.1 s v g) (yst T.1 + 1), ykeep T true)) := eS_ok hk5 hs
    rw [ev0]
    have hr := (g.2.1.2 s hs).1
    obtain ⟨r, er, hrr⟩ := s_right2 (N := N) hN h.1 hs hn1 h6 hr (h.2.1.2 s hs).2 (yn T.1 s) N 1 (by omega) (Nat.le_refl 1) (by omega)
    have er : f_X2_hasRightTree N (zKs (yk T.1)) (zln (yk T.1)) (112 + 11 * s) M = some r := er
    rcases hrr with ⟨rfl, hall⟩ | ⟨rfl, x, hx1, hx2, hx3⟩
    · rw [if_neg (show ¬ yrt T.1 s = false by rw [yrt_iff.mpr hall]; decide)]
      have hsc := ysc_b h g hs
      obtain ⟨Mc, gc, q⟩ := s_bestKey hN (yCl h g hs) true
      obtain ⟨swc, hcc⟩ := yRl_scr h gc
      rw [cond_true] at q
      rcases q with ⟨hT, ec⟩ | ⟨v, hv, ec⟩
      · rw [yb_no hT]
        refine ⟨Mc, swc, nx, ?_, hcc, rfl⟩
        unfold f_X6_mend f_X6_mend_0
        rw [zgK (k0 _), zbindS (s_find_ok h.1 hk5 hs), zxR, zbindS er, zgK (ks0 hs), if_neg one_ne0, zbpS ec, zxL]
        rfl
      · rw [yb_ok h6 hv]
        show yRs T M (.inr (nI (zmn (zrg (yrh T.1 s)) (zhd v) (yn T.1 s)))) (yV_w T.1 (yNw T.1 s v) (fun g => ysm T.1 g + yNw T.1 s v g) (yst T.1 + 1), ykeep T true) _
        have hxv := (zt_all hv.1).2
        have hlv := (zt_all hv.1).1
        obtain ⟨-, -, -, rk, hrk⟩ := (zT_rk h6).mp hv.1
        have hv1 : ∀ w, 1 ≤ w → w ≤ yn T.1 s → zhd v w ≤ yn T.1 s ∧ zhd v w ≠ w := fun w a b => ⟨hxv _ (zhd_mem a (by omega)), fun z => by
          have := hrk w a (by omega)
          rw [z] at this
          omega⟩
        have hrn : ∀ w, 1 ≤ w → w ≤ yn T.1 s → yrh T.1 s w = nI (zrg (yrh T.1 s) w) ∧ zrg (yrh T.1 s) w ≤ yn T.1 s := fun w a b => ⟨(zright_at h6 hr a b (hall w a b)).1, (zright_at h6 hr a b (hall w a b)).2.1⟩
        have hW1 := h.2.2
        have hW1c := hcc.2.2
        have hnx := hW1.2.2.2.2.1
        obtain ⟨M17, e17, r17, d17, a6, a7, a47, aw, aj, ao, ajo⟩ := s_keep (N := N) (st := yst T.1) hcc.1 hnx g.2.2.1 hW1c.2.2.2.1 hW1c.2.2.1
        have hR17 : zRf swc (yk T.1) (zR M17) := by rw [r17]; exact hcc.1
        have hS17 : zSen s (yn T.1 s) (ykd T.1 s) (ymk T.1 s) (zI M17) := zSen_congr (fun a i ha => ao a i (by omega) (by omega) (by omega)) (hcc.2.1.2 s hs).1
        obtain ⟨Mw, ew, rw_, jw, dw, ww, ow⟩ := s_mend43 (N := N) (k := yk T.1) (sw := swc) (kd := ykd T.1 s) (mk := ymk T.1 s) (rh := yrh T.1 s) (rn := zrg (yrh T.1 s)) (v := zhd v) (key := lI (zkc (zsc (ywt T.1) (ykd T.1 s)) v)) (wt := ywt T.1) hs h6 hrn (fun w a b => ⟨s_headKey hN h6 hsc hv.1 a b, (hv1 w a b).1⟩) (yn T.1 s) N 0 M17 (by omega) (by omega) hR17 hS17 (fun w hw => (ao _ _ (by omega) (by omega) (by omega)).trans ((hcc.2.1.2 s hs).2 w hw)) (fun g hg => (ao _ _ (by omega) (by omega) (by omega)).trans (hW1c.1 g hg).1)
        have hRw : zRf swc (yk T.1) (zR Mw) := by rw [rw_]; exact hR17
        obtain ⟨Me, ee, re, de, ie, je⟩ := s_endStep (N := N) (k := yk T.1) (sw := swc) hN 28 N 0 Mw (by omega) (by omega) hRw
        have ee : f_X5_endStep N (zKs (yk T.1)) (zln (yk T.1)) 2 Mw = some Me := ee
        rw [zbindS ee] at ew
        have ww : ∀ g, g < 28 → zI Mw 3 g = iI (yNw T.1 s v g) := ww
        have cI0 : ∀ b i, ¬ (b = 2 ∧ i = 2) → b ≠ 3 → zI Me b i = zI M17 b i := fun b i q1 q2 => by rw [ie, zI_sI, if_neg q1]; exact ow b i q2
        have hbw : ∀ x, x < 28 → -4000 ≤ yNw T.1 s v x ∧ yNw T.1 s v x ≤ 4000 := fun x hx => by
          have hb0 := g.2.2.2.2.1 x hx
          have hb1 := zmd_b (wt := ywt T.1) (kd := ykd T.1 s) (rn := zrg (yrh T.1 s)) (v := zhd v) (n := yn T.1 s) (fun i i1 i2 => ⟨zbk_lt (h.2.1.2 s hs).1 (hrn i i1 i2).2 i1 i2, zbk_lt (h.2.1.2 s hs).1 (hv1 i i1 i2).1 i1 i2, (zright_at h6 hr i1 i2 (hall i i1 i2)).2.2, (hv1 i i1 i2).2⟩) (yn T.1 s) (Nat.le_refl _) x
          have hb1 : ywt T.1 x - (yn T.1 s : Int) ≤ yNw T.1 s v x ∧ yNw T.1 s v x ≤ ywt T.1 x + (yn T.1 s : Int) := hb1
          omega
        refine ⟨Me, swc, (nx + 1) % 20, ?_, ⟨by rw [re]; exact hRw, ?_, ?_⟩, rfl⟩
        · unfold f_X6_mend f_X6_mend_0
          rw [zgK (k0 _), zbindS (s_find_ok h.1 hk5 hs), zxR, zbindS er, zgK (ks0 hs), if_neg one_ne0, zbpS ec, zxR, zbindS (hcc.1.at 0 2 2 (zrm 1 rfl)), zbindS e17, zgK (k2 _)]
          exact ew
        · exact zA1_c (fun b i q => by rw [cI0 b i (by omega) (by omega)]; exact ao b i (by omega) (by omega) (by omega)) hcc.2.1
        · refine zW1_keep (wt' := yNw T.1 s v) (sm' := fun g => ysm T.1 g + yNw T.1 s v g) (st' := yst T.1 + 1) (b := true) hW1c ?_ ?_ ?_ (fun g hg => ⟨?_, ?_⟩) (fun b i q1 q2 q3 q4 => ?_) (fun b i q1 q2 q3 => ?_) (fun g hg => ⟨?_, ?_⟩) ?_
          · rw [cI0 _ _ (by omega) (by omega)]; exact a6
          · rw [cI0 _ _ (by omega) (by omega)]; exact a7
          · rw [cI0 _ _ (by omega) (by omega)]; exact a47
          · rw [cI0 _ _ (by omega) (by omega)]; exact aw g hg
          · rw [je, if_neg (by omega), jw]; exact aj g hg
          · rw [cI0 _ _ (by omega) (by omega)]; exact ao b i (by omega) q4 q3
          · rw [je, if_neg (by omega), jw]; exact ajo b i q3
          · rw [ie, zI_sI, if_neg (by omega)]; exact ww g hg
          · have hbg := hbw g hg
            rw [je, if_pos ⟨rfl, by omega, hg⟩, ww g hg, jw, ajo _ _ (by omega), (hW1c.1 g hg).2, iI_long (by omega) (by omega), lI_add]
          · rw [ie, zI_sI, if_pos ⟨rfl, rfl⟩, ow _ _ (by omega), ao _ _ (by omega) (by omega) (by omega), hW1c.2.1]
            exact nI_1 _
    · rw [if_pos (show yrt T.1 s = false from Bool.eq_false_iff.mpr fun q => hx3 (yrt_iff.mp q x hx1 hx2))]
      refine yRs_no (c := 3) h rfl ?_
      unfold f_X6_mend f_X6_mend_0
      rw [zgK (k0 _), zbindS (s_find_ok h.1 hk5 hs), zxR, zbindS er, zgK (ks0 hs), if_pos rfl]
end RU
