/-! ADDSENTENCE, in words of the state (by hand). -/
theorem n_X6_addSentence (l : Launch) (hlt : l.stackTraces = false) (N : Nat) (hN : 10000000 ≤ N) {D : va_G} {cy : Nat → ClassId} {x0 lo : Nat} {T T2 : yT} {o : Nat ⊕ Int32} (h : y_X6_addSentence T = some (o, T2)) : vx_Met l yX6_addSentence wsX6_addSentence ({ frames := 6, cells := 11, slots := 74, locals := 120 } : Room) (yPre D cy x0 lo [.ref x0] T) (yY D cy x0 lo zvI o T2) (yX D cy x0 lo o T2) 11 74 (yA lo) := by
  obtain ⟨g, h⟩ := yg_some h
  have h := Option.some.inj h
  have hk5 := yk5 g
  refine y_mf (rm' := { frames := 6, cells := 11, slots := 74, locals := 120 }) ⟨Nat.le_refl _, Nat.le_refl _, Nat.le_refl _, Nat.le_refl _⟩ (fun args s hP => ?_)
  obtain ⟨ea, hlo, ⟨ad, L, M, sw, nx, h0, hm, hL, hl2, hW, hR⟩, hK, hE⟩ := hP
  have hA := y_zA hl2 hlo
  have hcnt : zI M 0 1 = nI (yk T.1) := hR.2.1.1
  have hc0 : ¬ zI M 0 1 < 0 := by rw [hcnt]; exact nI_pos (by omega)
  have hall : zR M 0 0 = some 1 := hR.1.at 0 0 1 (zrm 0 rfl)
  by_cases hk : yk T.1 = 5
  · unfold e_addSentence at h
    rw [if_pos hk] at h
    obtain ⟨rfl, rfl⟩ := Prod.mk.inj h
    have hM := m_X6_addSentence_no l hlt (D := D) (cy := cy) (len := zln (yk T.1)) hL (x0 := 0) (b := 1) (M := M) (o := .inl 3) (zKs_0 _) hc0 hall (zKs_1 _) (by rw [hcnt, l1, hk]; decide) rfl s.heap.size
    refine ⟨_, _, y_mf (rm' := { frames := 6, cells := 1, slots := 6, locals := 90 }) ⟨by decide, by decide, by decide, by decide⟩ (fun args s hP => ⟨_, _, hM, hP, fun _ _ q => q⟩), ⟨by rw [h0]; exact ea, rfl, hW, hK, zEnv_narrow hE hA⟩, fun oc t hq => ?_⟩
    have wd : ∀ t : State, zWd D cy ad L (zKs (yk T.1)) (zln (yk T.1)) M t.heap → yWd D cy x0 lo T t.heap := fun t hw => ⟨ad, L, M, sw, nx, h0, hm, hL, hl2, hw, hR⟩
    rcases hq with ⟨⟨r, e1, e2, e3, e4⟩, L9, hF, hL9⟩ | ⟨q, e0, E, ce, L9, ⟨k, e1, e2, e3, e4⟩, f1, f2, f3, f4, f5, f6⟩
    · cases e1
    · exact Or.inr ⟨q, e0, E, ce, L9, ⟨k, e1, e2, wd t e3, y_F hA e4⟩, f1, f2, f3, f4, f5.mono (by decide) (by decide), fun q hq => hA _ (f6 q hq)⟩
  · unfold e_addSentence at h
    rw [if_neg hk] at h
    obtain ⟨rfl, rfl⟩ := Prod.mk.inj h
    obtain ⟨M1, e1, e2, e3, e4⟩ := r_addSentence hN hR (by omega)
    obtain ⟨ad', had'⟩ : ∃ f : Nat → Nat, f = fun a => if a < 112 + 11 * yk T.1 then ad a else s.heap.size + (a - (112 + 11 * yk T.1)) := ⟨_, rfl⟩
    have hag : ∀ a ∈ L, ad a = ad' a := fun a ha => by rw [had']; exact (if_pos ((hm a).mp ha)).symm
    have hnew : ∀ i, i < 11 → ad' (112 + 11 * yk T.1 + i) = s.heap.size + i := fun i hi => by
      rw [had']
      show (if 112 + 11 * yk T.1 + i < 112 + 11 * yk T.1 then _ else _) = _
      rw [if_neg (by omega), show 112 + 11 * yk T.1 + i - (112 + 11 * yk T.1) = i by omega]
    have hW' := zWd_ad hag (fun a ha i r hr => (hm r).mpr (hR.1.2.2.2.2 a i r ((hm a).mp ha) hr)) hW
    have hl2' : ∀ a ∈ L, lo ≤ ad' a := fun a ha => by rw [← hag a ha]; exact hl2 a ha
    have h0' : ad' 0 = x0 := by rw [← hag 0 ((hm 0).mpr (by omega))]; exact h0
    have hA' := y_zA hl2' hlo
    have hM := m_X6_addSentence_ok l (D := D) (cy := cy) (zSh_ad hag hL) N (x0 := 0) (b := 1) (r0 := 112 + 11 * yk T.1) (M := M) (M1 := M1) (len := zln (yk T.1)) (zKs_0 _) hc0 hall (zKs_1 _) (by rw [hcnt, l1]; exact nI_lt (by omega) (by omega)) e1 (zKs_0 (yk T.1 + 1)) (zKs_new _) e2 e3 s.heap.size hnew
    refine ⟨_, _, y_mf (rm' := { frames := 4, cells := 11, slots := 74, locals := 120 }) ⟨by decide, by decide, by decide, by decide⟩ (fun args s hP => ⟨_, _, hM, hP, fun _ _ q => q⟩), ⟨by rw [h0']; exact ea, rfl, hW', hK, zEnv_narrow hE hA'⟩, fun oc t hq => ?_⟩
    obtain ⟨⟨q1, ⟨L', hm', hsh, hw⟩, hF⟩, L9, hFr, hL9⟩ := hq
    have wd : yWd D cy x0 lo (yV_s T.1, T.2) t.heap := by
      refine ⟨ad', L', _, sw, nx, h0', fun a => ?_, hsh, fun a ha => ?_, hw, e4⟩
      · show a ∈ L' ↔ a < 112 + 11 * (yk T.1 + 1)
        rw [hm' a, hm a]
        omega
      · rcases (hm' a).mp ha with q | ⟨q2, q3⟩
        · exact hl2' a q
        · rw [had']
          show lo ≤ (if a < 112 + 11 * yk T.1 then _ else _)
          rw [if_neg (by omega)]
          omega
    exact Or.inl ⟨⟨_, rfl, by rw [q1, hcnt]; rfl, wd, y_F hA' hF⟩, L9, hFr, fun q hq => hA' _ (hL9 q hq)⟩
