/-! ADDSENTENCE: the memory behind it. -/
section RS
variable {N : Nat} {T : yT} {sw : Bool} {nx : Nat} {M : ZM}
theorem zW1_c2 {wt sm : Nat → Int} {st : Nat} {H : List zE} {nx : Nat} {I I' : Nat → Nat → Int32} {J J' : Nat → Nat → Int64} (e : ∀ a i, 2 ≤ a → a < 48 → I' a i = I a i) (g : ∀ a i, 2 ≤ a → a < 48 → J' a i = J a i) (h : zW1 wt sm st H nx I J) : zW1 wt sm st H nx I' J' := by
  obtain ⟨h1, h2, h3, h4, h5, h6⟩ := h
  refine ⟨fun f hf => ⟨(e _ _ (by omega) (by omega)).trans (h1 f hf).1, (g _ _ (by omega) (by omega)).trans (h1 f hf).2⟩, (e _ _ (by omega) (by omega)).trans h2, (e _ _ (by omega) (by omega)).trans h3, (e _ _ (by omega) (by omega)).trans h4, h5, fun i x hx => ?_⟩
  have hl := zrp_lt nx i
  obtain ⟨h7, h8⟩ := h6 i x hx
  exact ⟨fun f hf => ⟨(e _ _ (by omega) (by omega)).trans (h7 f hf).1, (g _ _ (by omega) (by omega)).trans (h7 f hf).2⟩, (e _ _ (by omega) (by omega)).trans h8⟩
theorem r_addSentence (hN : 10000000 ≤ N) (h : yRl T sw nx M) (hk : yk T.1 < 5) : ∃ M1, f_X2_init N (va_up (zKs (yk T.1)) (112 + 11 * yk T.1) 3) (zln (yk T.1)) (112 + 11 * yk T.1) (zclr M (112 + 11 * yk T.1)) = some M1 ∧ zI (zsR M1 1 (zI M 0 1).toNatClampNeg (some (112 + 11 * yk T.1))) 0 1 = zI M 0 1 ∧ zok (zKs (yk T.1 + 1)) (zln (yk T.1 + 1)) 1 14 (zI M 0 1) = true ∧ yRl (yV_s T.1, T.2) sw nx (zsI (zsR M1 1 (zI M 0 1).toNatClampNeg (some (112 + 11 * yk T.1))) 0 1 (zI M 0 1 + 1)) := by
  have hcnt := h.2.1.1
  rw [hcnt, nI_clamp (show yk T.1 < 2 ^ 31 by omega)]
  obtain ⟨k, ek⟩ : ∃ k, k = yk T.1 := ⟨_, rfl⟩
  obtain ⟨S, eS⟩ : ∃ S, S = 112 + 11 * k := ⟨_, rfl⟩
  rw [← ek] at hcnt hk ⊢
  rw [← eS]
  obtain ⟨M1, e1, o1, b1, b2, b3, b4, b5, b6, b7, b8, b9, b10, b11⟩ := s_init2 (N := N) (K := va_up (zKs k) S 3) (len := zln k) (S := S) hN (if_pos rfl) (zclr M S)
  obtain ⟨Ma, eMa⟩ : ∃ Ma, Ma = zsI (zsR M1 1 k (some S)) 0 1 (nI k + 1) := ⟨_, rfl⟩
  have hIa : ∀ b i, ¬ (b = 0 ∧ i = 1) → (b < S ∨ S + 10 < b) → zI Ma b i = zI M b i := fun b i q q2 => by rw [eMa, zI_sI, if_neg q, zI_sR, (o1 b i q2).1, zI_clr, if_neg (by omega)]
  have hIs : ∀ b i, S ≤ b → zI Ma b i = zI M1 b i := fun b i q => by rw [eMa, zI_sI, if_neg (by omega), zI_sR]
  have hJa : ∀ b i, (b < S ∨ S + 10 < b) → zJ Ma b i = zJ M b i := fun b i q2 => by rw [eMa, zJ_sI, zJ_sR, (o1 b i q2).2.1, zJ_clr, if_neg (by omega)]
  have hRa : ∀ b i, zR Ma b i = if b = 1 ∧ i = k then some S else zR M1 b i := fun b i => by rw [eMa]; rfl
  have hRo : ∀ b i, ¬ (b = 1 ∧ i = k) → (b < S ∨ S + 10 < b) → zR Ma b i = zR M b i := fun b i q q2 => by rw [hRa, if_neg q, (o1 b i q2).2.2, zR_clr, if_neg (by omega)]
  have hRk : zRf sw k (zR M) := by rw [ek]; exact h.1
  have hR : zRf sw (k + 1) (zR Ma) := by
    obtain ⟨g1, g2, g3, g4, g5⟩ := hRk
    have hz1 : ∀ sw : Bool, ∀ q ∈ zrows sw, q.1 ≠ 1 ∧ q.1 < 112 := by decide
    have hz2 : ∀ q ∈ ztabs, q.1 ≠ 1 ∧ q.1 < 112 := by decide
    refine ⟨fun q hq => ?_, fun q hq x hx => ?_, fun s hs => ?_, fun s hs => ?_, fun a i r ha hr => ?_⟩
    · have := hz1 sw q hq
      rw [hRo _ _ (fun z => this.1 z.1) (by omega)]; exact g1 q hq
    · have := hz2 q hq
      rw [hRo _ _ (fun z => this.1 z.1) (by omega)]; exact g2 q hq x hx
    · by_cases q : s = k
      · subst q
        rw [← eS]
        refine ⟨by rw [hRa, if_pos ⟨rfl, rfl⟩], by rw [hRa, if_neg (by omega)]; exact b5, by rw [hRa, if_neg (by omega)]; exact b6, by rw [hRa, if_neg (by omega)]; exact b7, fun x hx => ?_⟩
        rw [hRa, if_neg (by omega), b10, if_pos hx]
        congr 1
        omega
      · obtain ⟨q1, q2, q3, q4, q5⟩ := g3 s (by omega)
        exact ⟨by rw [hRo _ _ (by omega) (by omega)]; exact q1, by rw [hRo _ _ (by omega) (by omega)]; exact q2, by rw [hRo _ _ (by omega) (by omega)]; exact q3, by rw [hRo _ _ (by omega) (by omega)]; exact q4, fun x hx => by rw [hRo _ _ (by omega) (by omega)]; exact q5 x hx⟩
    · rw [hRo _ _ (by omega) (by omega)]; exact g4 s (by omega)
    · by_cases z1 : a = 1 ∧ i = k
      · rw [hRa, if_pos z1] at hr
        have := Option.some.inj hr
        omega
      · by_cases z2 : a < S
        · rw [hRo _ _ z1 (Or.inl z2)] at hr
          have := g5 a i r (by omega) hr
          omega
        · rw [hRa, if_neg z1] at hr
          rcases (show a = S ∨ a = S + 1 ∨ a = S + 2 ∨ a = S + 3 ∨ ∃ x, x < 7 ∧ a = S + (4 + x) from by
            rcases (show a = S ∨ a = S + 1 ∨ a = S + 2 ∨ a = S + 3 ∨ S + 4 ≤ a by omega) with y | y | y | y | y
            · exact Or.inl y
            · exact Or.inr (Or.inl y)
            · exact Or.inr (Or.inr (Or.inl y))
            · exact Or.inr (Or.inr (Or.inr (Or.inl y)))
            · exact Or.inr (Or.inr (Or.inr (Or.inr ⟨a - S - 4, by omega, by omega⟩)))) with y | y | y | y | ⟨x, hx, y⟩
          · subst y
            rcases (show i = 0 ∨ i = 1 ∨ i = 2 ∨ 3 ≤ i by omega) with y | y | y | y
            · rw [y, b5] at hr
              have := Option.some.inj hr
              omega
            · rw [y, b6] at hr
              have := Option.some.inj hr
              omega
            · rw [y, b7] at hr
              have := Option.some.inj hr
              omega
            · rw [b8 i y, zR_clr, if_pos rfl] at hr
              cases hr
          · rw [y, (b9 i).1] at hr; cases hr
          · rw [y, (b9 i).2] at hr; cases hr
          · rw [y, b10] at hr
            by_cases z3 : i < 7
            · rw [if_pos z3] at hr
              have := Option.some.inj hr
              omega
            · rw [if_neg z3] at hr; cases hr
          · rw [y, b11 x i hx] at hr; cases hr
  have key : yRl (yV_s T.1, T.2) sw nx Ma := by
    refine ⟨?_, ⟨?_, fun s hs => ?_⟩, ?_⟩
    · show zRf sw (yk T.1 + 1) (zR Ma)
      rw [← ek]
      exact hR
    · show zI Ma 0 1 = nI (yk T.1 + 1)
      rw [eMa, zI_sI, if_pos ⟨rfl, rfl⟩, ← ek]
      exact nI_1 k
    · have hs : s < yk T.1 + 1 := hs
      show zSen s (zuf (yn T.1) (yk T.1) 0 s) (zuf (ykd T.1) (yk T.1) (fun w => if w = 0 then 4 else 0) s) (zuf (ymk T.1) (yk T.1) (fun _ _ => 0) s) (zI Ma) ∧ ∀ w, w < 7 → zI Ma (112 + 11 * s + 2) w = zuf (yrh T.1) (yk T.1) (fun _ => -1) s w
      rw [← ek] at hs ⊢
      by_cases q : s = k
      · subst q
        rw [zuf_s, zuf_s, zuf_s, zuf_s, ← eS]
        refine ⟨⟨by omega, ?_, rfl, fun w w1 w2 => by omega, fun w hw => ?_, fun x w hx hw => ?_, fun w o o' _ _ _ q1 _ => absurd (show (0 : Int32) = 1 from q1) (by decide)⟩, fun w hw => ?_⟩
        · rw [← eS, hIs _ _ (by omega), b1]; rfl
        · rw [← eS, hIs _ _ (by omega), show w = 0 by omega, b2]; rfl
        · rw [← eS, hIs _ _ (by omega), b4 x w hx]
        · rw [hIs _ _ (by omega), b3 w hw]
      · rw [zuf_o _ _ q, zuf_o _ _ q, zuf_o _ _ q, zuf_o _ _ q]
        obtain ⟨q1, q2⟩ := h.2.1.2 s (by omega)
        exact ⟨zSen_c (hIa _ _ (by omega) (by omega)) (fun w => hIa _ _ (by omega) (by omega)) (fun x w hx => hIa _ _ (by omega) (by omega)) q1, fun w hw => (hIa _ _ (by omega) (by omega)).trans (q2 w hw)⟩
    · exact zW1_c2 (fun b i q1 q2 => hIa b i (by omega) (by omega)) (fun b i q1 q2 => hJa b i (by omega)) h.2.2
  refine ⟨M1, e1, ?_, ?_, by rw [← eMa]; exact key⟩
  · rw [zI_sR, (o1 0 1 (by omega)).1, zI_clr, if_neg (by omega)]; exact hcnt
  · exact zok_n (k1 (k + 1)) (l1 (k + 1)) hk (by decide)
/-- nothing yet -/
def yT0 : yT := ((0, fun _ => 0, fun _ _ => 0, fun _ _ _ => 0, fun _ _ => -1, fun _ => 0, fun _ => 0, 0), [])
theorem yRl_0 {M : ZM} (hR : zRf false 0 (zR M)) (hI : ∀ a i, zI M a i = 0) (hJ : ∀ a i, zJ M a i = 0) : yRl yT0 false 0 M :=
  ⟨hR, ⟨hI _ _, fun s hs => absurd hs (Nat.not_lt_zero _)⟩, ⟨fun f _ => ⟨hI _ _, hJ _ _⟩, hI _ _, hI _ _, hI _ _, by decide, fun i e q => by simp [yT0] at q⟩⟩
theorem yOk_0 : yOk 0 yT0 := ⟨fun s hs => absurd hs (Nat.not_lt_zero _), ⟨by decide, fun s hs => absurd hs (Nat.not_lt_zero _)⟩, by decide, Nat.le_refl _, fun _ _ => (show -(100 + 6 * (0 : Int)) ≤ 0 ∧ (0 : Int) ≤ 100 + 6 * (0 : Int) by decide), fun e he => by cases he⟩
end RS
/-! RANKED, RANKEDHEAD. -/
section RK
variable {N : Nat} {T : yT} {sw : Bool} {nx : Nat} {M : ZM}
theorem yTs_len {V : yV} {s : Nat} (h6 : yn V s ≤ 6) (cr : Bool) : (yTs V s cr).length ≤ 16807 := zT_len h6 (fun a w q => (zal_iff.mp q).1) cr
theorem yr_no {V : yV} {s : Nat} {cr : Bool} {q : Int32} (h : q < 0 ∨ nI (yTs V s cr).length ≤ q) : yr V s cr q = none := if_pos h
theorem yr_ok {V : yV} {s : Nat} {cr : Bool} {r : Nat} (h6 : yn V s ≤ 6) (hr : r < (yTs V s cr).length) : ∃ v, yr V s cr (nI r) = some v ∧ yRk V s cr r v := by
  have hl := yTs_len h6 cr
  obtain ⟨i, hi, hc⟩ := zrank_ex (fun i => zmk (ywt V) (ykd V s) ((yTs V s cr).getD i [])) (yTs V s cr).length (fun i j hi hj e => zT_getD_inj hi hj (zmk_inj h6 (zT_at hi) (zT_at hj) e)) r hr
  have hx : ∃ v, yRk V s cr r v := ⟨_, i, hi, rfl, hc⟩
  unfold yr
  rw [if_neg (fun q => q.elim (nI_pos (by omega)) (nI_ge hr (by omega))), nI_clamp (by omega), dif_pos hx]
  exact ⟨_, rfl, hx.choose_spec⟩
theorem r_ranked (hN : 10000000 ≤ N) (h : yRl T sw nx M) (g : yOk 512 T) (p : Int32) (cr : Bool) (q : Int32) : ∃ M' sw', f_X6_ranked N (zKs (yk T.1)) (zln (yk T.1)) 0 p (bif cr then 1 else 0) q M = some (e_ranked T.1 p cr q, M') ∧ yRl T sw' nx M' := by
  have hk5 := yk5 g
  unfold e_ranked f_X6_ranked f_X6_ranked_0
  rcases zix1 p hk5 with hp | ⟨s, hs, rfl⟩
  · refine ⟨M, sw, ?_, h⟩
    rw [zgK (k0 _), zbindS (s_find_no h.1 hk5 hp), zxL, eS_no hp]
  · have h6 := (yRl_n h hs).2
    obtain ⟨Mc, gc, q⟩ := s_rankedKey hN (yCl h g hs) cr q
    obtain ⟨sw', h'⟩ := yRl_scr h gc
    refine ⟨Mc, sw', ?_, h'⟩
    rw [eS_ok hk5 hs]
    rcases q with ⟨hb, ec⟩ | ⟨r, z, hr, rfl, ec, hz⟩
    · rw [zgK (k0 _), zbindS (s_find_ok h.1 hk5 hs), zxR, zbpS ec, zxL, yr_no hb]
      rfl
    · obtain ⟨v, ev, i, hi, rfl, hc⟩ := yr_ok (V := T.1) (cr := cr) h6 hr
      rw [zgK (k0 _), zbindS (s_find_ok h.1 hk5 hs), zxR, zbpS ec, zxR, hz i hi hc, zbindS (s_scoreKey h6 (ysc_b h g hs) (zT_at hi)), ev]
      rfl
theorem r_rankedHead (hN : 10000000 ≤ N) (h : yRl T sw nx M) (g : yOk 512 T) (p : Int32) (cr : Bool) (q r : Int32) : ∃ M' sw', f_X6_rankedHead N (zKs (yk T.1)) (zln (yk T.1)) 0 p (bif cr then 1 else 0) q r M = some (e_rankedHead T.1 p cr q r, M') ∧ yRl T sw' nx M' := by
  have hk5 := yk5 g
  unfold e_rankedHead f_X6_rankedHead f_X6_rankedHead_0
  rcases zix1 p hk5 with hp | ⟨s, hs, rfl⟩
  · refine ⟨M, sw, ?_, h⟩
    rw [zgK (k0 _), zbindS (s_find_no h.1 hk5 hp), zxL, eS_no hp]
  · obtain ⟨hn1, h6⟩ := yRl_n h hs
    rw [eS_ok hk5 hs]
    rcases zix2 r h6 with hp | ⟨w, hw1, hw2, rfl⟩
    · refine ⟨M, sw, ?_, h⟩
      rw [zgK (k0 _), zbindS (s_find_ok h.1 hk5 hs), zxR, zbindS (s_word_no hs hn1 hp), zxL, eW_no hp]
    · obtain ⟨Mc, gc, q⟩ := s_rankedKey hN (yCl h g hs) cr q
      obtain ⟨sw', h'⟩ := yRl_scr h gc
      refine ⟨Mc, sw', ?_, h'⟩
      rw [eW_ok h6 hw1 hw2]
      rcases q with ⟨hb, ec⟩ | ⟨r, z, hr, rfl, ec, hz⟩
      · rw [zgK (k0 _), zbindS (s_find_ok h.1 hk5 hs), zxR, zbindS (s_word_ok hs hn1 h6 hw1 hw2), zxR, zbpS ec, zxL, yr_no hb]
        rfl
      · obtain ⟨v, ev, i, hi, rfl, hc⟩ := yr_ok (V := T.1) (cr := cr) h6 hr
        rw [zgK (k0 _), zbindS (s_find_ok h.1 hk5 hs), zxR, zbindS (s_word_ok hs hn1 h6 hw1 hw2), zxR, zbpS ec, zxR, hz i hi hc, zbindS (s_headKey hN h6 (ysc_b h g hs) (zT_at hi) hw1 hw2), ev]
        rfl
end RK
/-! THE START. -/
def yP0 (M : ZM) : Prop := (∀ a i, zI M a i = 0) ∧ (∀ a i, zJ M a i = 0) ∧ ∀ a i r, zR M a i = some r → r < 112
theorem yP0_z : yP0 zMz := ⟨fun _ _ => rfl, fun _ _ => rfl, fun _ _ _ h => by cases h⟩
theorem yP0_clr {M : ZM} (h : yP0 M) (r : Nat) : yP0 (zclr M r) := by
  refine ⟨fun a i => ?_, fun a i => ?_, fun a i x => ?_⟩
  · rw [zI_clr]; split
    · rfl
    · exact h.1 a i
  · rw [zJ_clr]; split
    · rfl
    · exact h.2.1 a i
  · rw [zR_clr]; split
    · intro q; cases q
    · exact h.2.2 a i x
theorem yP0_clm {M : ZM} (h : yP0 M) (r n : Nat) (hr : r + n < 112) : yP0 (zclm M r n) := by
  refine ⟨fun a i => ?_, fun a i => ?_, fun a i x => ?_⟩
  · rw [zI_clm]; split
    · rfl
    · exact h.1 a i
  · rw [zJ_clm]; split
    · rfl
    · exact h.2.1 a i
  · rw [zR_clm]; split
    · split
      · intro q; cases q; omega
      · intro q; cases q
    · exact h.2.2 a i x
theorem yP0_sR {M : ZM} (h : yP0 M) (a i r : Nat) (hr : r < 112) : yP0 (zsR M a i (some r)) := by
  refine ⟨h.1, h.2.1, fun b j x => ?_⟩
  rw [zR_sR]; split
  · intro q; cases q; exact hr
  · exact h.2.2 b j x
theorem yP0_s0 {M : ZM} (h : yP0 M) (a i : Nat) : yP0 (zsI M a i 0) := by
  refine ⟨fun b j => ?_, h.2.1, h.2.2⟩
  rw [zI_sI]; split
  · rfl
  · exact h.1 b j
set_option maxRecDepth 100000 in
set_option maxHeartbeats 4000000 in
theorem ygo_inv (N : Nat) : ∃ M1, f_X6_init N (va_up (fun _ => 0) 0 7) (fun _ => 0) 0 (zclr zMz 0) = some M1 ∧ yP0 M1 := by
  refine ⟨_, rfl, ?_⟩
  repeat (first | exact yP0_z | refine yP0_sR ?_ _ _ _ (by decide) | refine yP0_s0 ?_ _ _ | refine yP0_clm ?_ _ _ (by decide) | refine yP0_clr ?_ _)
set_option maxRecDepth 100000 in
set_option maxHeartbeats 4000000 in
theorem ygo_rf (N : Nat) : ∃ M1, f_X6_init N (va_up (fun _ => 0) 0 7) (fun _ => 0) 0 (zclr zMz 0) = some M1 ∧ (∀ q ∈ zrows false, zR M1 q.1 q.2.1 = some q.2.2) ∧ (∀ q ∈ ztabs, ∀ h, h < q.2.1 → zR M1 q.1 h = some (q.2.2 + h)) ∧ ∀ s, zR M1 1 s = none := by
  refine ⟨_, rfl, ?_, ?_, fun s => rfl⟩
  · decide +kernel
  · decide +kernel
theorem ygo (N : Nat) : ∃ M1, f_X6_init N (va_up (fun _ => 0) 0 7) (fun _ => 0) 0 (zclr zMz 0) = some M1 ∧ yRl yT0 false 0 M1 := by
  obtain ⟨M1, e1, hp⟩ := ygo_inv N
  obtain ⟨M2, e2, h3, h4, h5⟩ := ygo_rf N
  cases e1.symm.trans e2
  exact ⟨M1, e1, yRl_0 ⟨h3, h4, fun s hs => absurd hs (Nat.not_lt_zero _), fun s _ => h5 s, fun a i r _ q => hp.2.2 a i r q⟩ hp.1 hp.2.1⟩
