/-! ADDSENTENCE. -/
theorem zI_clr (M : ZM) (r b j : Nat) : zI (zclr M r) b j = if b = r then 0 else zI M b j := rfl
theorem zJ_clr (M : ZM) (r b j : Nat) : zJ (zclr M r) b j = if b = r then 0 else zJ M b j := rfl
theorem zR_clr (M : ZM) (r b j : Nat) : zR (zclr M r) b j = if b = r then none else zR M b j := rfl
theorem zI_clm (M : ZM) (r n b j : Nat) : zI (zclm M r n) b j = if r ≤ b ∧ b ≤ r + n then 0 else zI M b j := rfl
theorem zJ_clm (M : ZM) (r n b j : Nat) : zJ (zclm M r n) b j = if r ≤ b ∧ b ≤ r + n then 0 else zJ M b j := rfl
theorem zR_clm (M : ZM) (r n b j : Nat) : zR (zclm M r n) b j = if r ≤ b ∧ b ≤ r + n then (if b = r ∧ j < n then some (r + 1 + j) else none) else zR M b j := rfl
section AS
variable {N j k : Nat} {M : ZM}
theorem s_init2 (hN : 10000000 ≤ N) {K len : Nat → Nat} {S : Nat} (hK : K S = 3) (M : ZM) : ∃ M', f_X2_init N K len S M = some M' ∧ (∀ b i, (b < S ∨ S + 10 < b) → zI M' b i = zI M b i ∧ zJ M' b i = zJ M b i ∧ zR M' b i = zR M b i) ∧ zI M' S 3 = 0 ∧ zI M' (S + 1) 0 = 4 ∧ (∀ i, i < 7 → zI M' (S + 2) i = -1) ∧ (∀ h i, h < 7 → zI M' (S + (4 + h)) i = 0) ∧ zR M' S 0 = some (S + 1) ∧ zR M' S 1 = some (S + 2) ∧ zR M' S 2 = some (S + 3) ∧ (∀ i, 3 ≤ i → zR M' S i = zR M S i) ∧ (∀ i, zR M' (S + 1) i = none ∧ zR M' (S + 2) i = none) ∧ (∀ i, zR M' (S + 3) i = if i < 7 then some (S + 3 + 1 + i) else none) ∧ ∀ h i, h < 7 → zR M' (S + (4 + h)) i = none := by
  obtain ⟨M8, e8⟩ : ∃ M8, M8 = zsR (zclm (zsR (zclr (zsR (zclr M (S + 1)) S 0 (some (S + 1))) (S + 2)) S 1 (some (S + 2))) (S + 3) 7) S 2 (some (S + 3)) := ⟨_, rfl⟩
  obtain ⟨M15, e15⟩ : ∃ M15, M15 = zsI (zsI M8 S 3 0) (S + 1) 0 4 := ⟨_, rfl⟩
  have k1 : (zmu (va_up (va_up K (S + 1) 11) (S + 2) 11) (S + 3) 7 15 11) (S + 1) = 11 := by
    unfold zmu va_up
    rw [if_neg (by omega), if_neg (by omega), if_neg (by omega), if_pos rfl]
  have k2 : (zmu (va_up (va_up K (S + 1) 11) (S + 2) 11) (S + 3) 7 15 11) (S + 2) = 11 := by
    unfold zmu va_up
    rw [if_neg (by omega), if_neg (by omega), if_pos rfl]
  have l1 : (zmu (va_up (va_up len (S + 1) 7) (S + 2) 7) (S + 3) 7 7 7) (S + 1) = 7 := by
    unfold zmu va_up
    rw [if_neg (by omega), if_neg (by omega), if_neg (by omega), if_pos rfl]
  have l2 : (zmu (va_up (va_up len (S + 1) 7) (S + 2) 7) (S + 3) 7 7 7) (S + 2) = 7 := by
    unfold zmu va_up
    rw [if_neg (by omega), if_neg (by omega), if_pos rfl]
  have s1 : (va_up K (S + 1) 11) S = 3 := by unfold va_up; rw [if_neg (by omega)]; exact hK
  have s2 : (va_up (va_up K (S + 1) 11) (S + 2) 11) S = 3 := by unfold va_up; rw [if_neg (by omega), if_neg (by omega)]; exact hK
  have s3 : (zmu (va_up (va_up K (S + 1) 11) (S + 2) 11) (S + 3) 7 15 11) S = 3 := by unfold zmu va_up; rw [if_neg (by omega), if_neg (by omega), if_neg (by omega), if_neg (by omega)]; exact hK
  obtain ⟨M19, e19, r19, j19, d19, i19⟩ := s_fillIa (N := N) (K := zmu (va_up (va_up K (S + 1) 11) (S + 2) 11) (S + 3) 7 15 11) (len := zmu (va_up (va_up len (S + 1) 7) (S + 2) 7) (S + 3) 7 7 7) (a := S + 2) (c := 7) hN k2 l2 (by decide) (-1 : Int32) M15
  have r8 : ∀ b i, zR M8 b i = if b = S ∧ i = 2 then some (S + 3) else if S + 3 ≤ b ∧ b ≤ S + 3 + 7 then (if b = S + 3 ∧ i < 7 then some (S + 3 + 1 + i) else none) else if b = S ∧ i = 1 then some (S + 2) else if b = S + 2 then none else if b = S ∧ i = 0 then some (S + 1) else if b = S + 1 then none else zR M b i := fun b i => by rw [e8]; rfl
  have i8 : ∀ b i, zI M8 b i = if S + 3 ≤ b ∧ b ≤ S + 3 + 7 then 0 else if b = S + 2 then 0 else if b = S + 1 then 0 else zI M b i := fun b i => by rw [e8]; rfl
  have j8 : ∀ b i, zJ M8 b i = if S + 3 ≤ b ∧ b ≤ S + 3 + 7 then 0 else if b = S + 2 then 0 else if b = S + 1 then 0 else zJ M b i := fun b i => by rw [e8]; rfl
  have r15 : zR M15 = zR M8 := by rw [e15]; rfl
  have hb12 : zR (zsI M8 S 3 0) S 0 = some (S + 1) := by
    show zR M8 S 0 = _
    rw [r8, if_neg (by omega), if_neg (by omega), if_neg (by omega), if_neg (by omega), if_pos ⟨rfl, rfl⟩]
  have hb17 : zR M15 S 1 = some (S + 2) := by rw [r15, r8, if_neg (by omega), if_neg (by omega), if_pos ⟨rfl, rfl⟩]
  refine ⟨M19, ?_, fun b i q => ⟨?_, ?_, ?_⟩, ?_, ?_, fun i hi => ?_, fun h i hh => ?_, ?_, ?_, ?_, fun i hi => ?_, fun i => ⟨?_, ?_⟩, fun i => ?_, fun h i hh => ?_⟩
  · unfold f_X2_init
    rw [show S + 1 + 0 = S + 1 from rfl, show S + 1 + 1 = S + 2 from rfl, show S + 1 + 2 = S + 3 from rfl, zgK s1, zlS, zgK s2, zlS, zgK s3, zlS, ← e8, zlS, zbindS hb12, zgokL (i := 0) (n := 0) rfl k1 l1 (by decide) (by decide), zlS, zcl0, ← e15, zbindS hb17, zbindS e19]
  · rw [i19, if_neg (by omega), e15, zI_sI, if_neg (by omega), zI_sI, if_neg (by omega), i8, if_neg (by omega), if_neg (by omega), if_neg (by omega)]
  · rw [j19, e15, zJ_sI, zJ_sI, j8, if_neg (by omega), if_neg (by omega), if_neg (by omega)]
  · rw [r19, r15, r8, if_neg (by omega), if_neg (by omega), if_neg (by omega), if_neg (by omega), if_neg (by omega), if_neg (by omega)]
  · rw [i19, if_neg (by omega), e15, zI_sI, if_neg (by omega), zI_sI, if_pos ⟨rfl, rfl⟩]
  · rw [i19, if_neg (by omega), e15, zI_sI, if_pos ⟨rfl, rfl⟩]
  · rw [i19, if_pos ⟨rfl, hi⟩]
  · rw [i19, if_neg (by omega), e15, zI_sI, if_neg (by omega), zI_sI, if_neg (by omega), i8, if_pos (by omega)]
  · rw [r19, r15]; exact hb12
  · rw [r19]; exact hb17
  · rw [r19, r15, r8, if_pos ⟨rfl, rfl⟩]
  · rw [r19, r15, r8, if_neg (by omega), if_neg (by omega), if_neg (by omega), if_neg (by omega), if_neg (by omega), if_neg (by omega)]
  · rw [r19, r15, r8, if_neg (by omega), if_neg (by omega), if_neg (by omega), if_neg (by omega), if_neg (by omega), if_pos rfl]
  · rw [r19, r15, r8, if_neg (by omega), if_neg (by omega), if_neg (by omega), if_pos rfl]
  · rw [r19, r15, r8, if_neg (by omega), if_pos (by omega)]
    by_cases q : i < 7
    · rw [if_pos ⟨rfl, q⟩, if_pos q]
    · rw [if_neg (fun z => q z.2), if_neg q]
  · rw [r19, r15, r8, if_neg (by omega), if_pos (by omega), if_neg (by omega)]
theorem c_addSentence (hN : 10000000 ≤ N) (h : zInv j k M) : zC0 N (zInv (j + 1)) k M := by
  obtain ⟨sw, n, kd, mk, rh, wt, sm, st, H, nx, fs, h, hc⟩ := h
  obtain ⟨hk0, hk5⟩ := zCo_k h
  have hcnt := h.2.1.1
  unfold zC0
  rw [hcnt, l1]
  by_cases h5 : k = 5
  · refine Or.inl ⟨0, zsI M 112 19 1, nI_pos (by omega), h.1.at 0 0 1 (zrm 0 rfl), ?_, ?_, q_thrown, sw, n, kd, mk, rh, wt, sm, st, H, nx, fs, zCo_up (zCo_mf h (zMf_thr M 1)), zChk_thr hc 1⟩
    · rw [h5]; decide +kernel
    · unfold f_X7_addSentence f_X7_addSentence_0
      rw [zgK (k112 k), hk0, if_pos (show (5 : Int32) ≤ nI k from nI_le (a := 5) (by omega) (by omega))]
      unfold f_X7_addSentence_14
      rw [zbpS q_asks0, zgK (k112 k), if_pos rfl]
  · have hk : k < 5 := by omega
    obtain ⟨S, eS⟩ : ∃ S, S = 128 + 11 * k := ⟨_, rfl⟩
    obtain ⟨M1, e1, o1, b1, b2, b3, b4, b5, b6, b7, b8, b9, b10, b11⟩ := s_init2 (N := N) (K := va_up (zKs k) S 3) (len := zln k) (S := S) hN (if_pos rfl) (zclr M S)
    obtain ⟨Ma, eMa⟩ : ∃ Ma, Ma = zMa k M M1 := ⟨_, rfl⟩
    have eMa2 : Ma = zsJ (zsI (zsR M1 1 k (some S)) 0 1 (nI (k + 1))) 126 0 (nI k).toInt64 := by
      rw [eMa]
      unfold zMa
      rw [hcnt, nI_clamp (by omega), zcl0, ← eS, nI_1]
    have hIa : ∀ b i, ¬ (b = 0 ∧ i = 1) → (b < S ∨ S + 10 < b) → zI Ma b i = zI M b i := fun b i q q2 => by rw [eMa2, zI_sJ, zI_sI, if_neg q, zI_sR, (o1 b i q2).1, zI_clr, if_neg (by omega)]
    have hIs : ∀ b i, S ≤ b → zI Ma b i = zI M1 b i := fun b i q => by rw [eMa2, zI_sJ, zI_sI, if_neg (by omega), zI_sR]
    have hJa : ∀ b i, b ≠ 126 → (b < S ∨ S + 10 < b) → zJ Ma b i = zJ M b i := fun b i q q2 => by rw [eMa2, zJ_sJ, if_neg (fun z => q z.1), zJ_sI, zJ_sR, (o1 b i q2).2.1, zJ_clr, if_neg (by omega)]
    have hRa : ∀ b i, zR Ma b i = if b = 1 ∧ i = k then some S else zR M1 b i := fun b i => by rw [eMa2]; rfl
    have hRo : ∀ b i, ¬ (b = 1 ∧ i = k) → (b < S ∨ S + 10 < b) → zR Ma b i = zR M b i := fun b i q q2 => by rw [hRa, if_neg q, (o1 b i q2).2.2, zR_clr, if_neg (by omega)]
    have hR : zRf sw (k + 1) (zR Ma) := by
      obtain ⟨g1, g2, g3, g4, g5⟩ := h.1
      have hz1 : ∀ sw : Bool, ∀ q ∈ zrows sw, q.1 ≠ 1 ∧ q.1 < 128 := by decide
      have hz2 : ∀ q ∈ ztabs, q.1 ≠ 1 ∧ q.1 < 128 := by decide
      refine ⟨fun q hq => ?_, fun q hq x hx => ?_, fun s hs => ?_, fun s hs => ?_, fun a i r ha hr => ?_⟩
      · have := hz1 sw q hq
        rw [hRo _ _ (fun z => this.1 z.1) (by omega)]; exact g1 q hq
      · have := hz2 q hq
        rw [hRo _ _ (fun z => this.1 z.1) (by omega)]; exact g2 q hq x hx
      · by_cases q : s = k
        · subst q
          rw [← eS]
          refine ⟨by rw [hRa, if_pos ⟨rfl, rfl⟩], by rw [hRa, if_neg (by omega)]; exact b5, by rw [hRa, if_neg (by omega)]; exact b6, by rw [hRa, if_neg (by omega)]; exact b7, fun x hx => ?_⟩
          rw [hRa, if_neg (by omega), b10, if_pos hx]
          congr 1
          omega
        · obtain ⟨q1, q2, q3, q4, q5⟩ := g3 s (by omega)
          exact ⟨by rw [hRo _ _ (by omega) (by omega)]; exact q1, by rw [hRo _ _ (by omega) (by omega)]; exact q2, by rw [hRo _ _ (by omega) (by omega)]; exact q3, by rw [hRo _ _ (by omega) (by omega)]; exact q4, fun x hx => by rw [hRo _ _ (by omega) (by omega)]; exact q5 x hx⟩
      · rw [hRo _ _ (by omega) (by omega)]; exact g4 s (by omega)
      · by_cases z1 : a = 1 ∧ i = k
        · rw [hRa, if_pos z1] at hr
          have := Option.some.inj hr
          omega
        · by_cases z2 : a < S
          · rw [hRo _ _ z1 (Or.inl z2)] at hr
            have := g5 a i r (by omega) hr
            omega
          · rw [hRa, if_neg z1] at hr
            rcases (show a = S ∨ a = S + 1 ∨ a = S + 2 ∨ a = S + 3 ∨ ∃ x, x < 7 ∧ a = S + (4 + x) from by
              rcases (show a = S ∨ a = S + 1 ∨ a = S + 2 ∨ a = S + 3 ∨ S + 4 ≤ a by omega) with y | y | y | y | y
              · exact Or.inl y
              · exact Or.inr (Or.inl y)
              · exact Or.inr (Or.inr (Or.inl y))
              · exact Or.inr (Or.inr (Or.inr (Or.inl y)))
              · exact Or.inr (Or.inr (Or.inr (Or.inr ⟨a - S - 4, by omega, by omega⟩)))) with y | y | y | y | ⟨x, hx, y⟩
            · subst y
              rcases (show i = 0 ∨ i = 1 ∨ i = 2 ∨ 3 ≤ i by omega) with y | y | y | y
              · rw [y, b5] at hr
                have := Option.some.inj hr
                omega
              · rw [y, b6] at hr
                have := Option.some.inj hr
                omega
              · rw [y, b7] at hr
                have := Option.some.inj hr
                omega
              · rw [b8 i y, zR_clr, if_pos rfl] at hr
                cases hr
            · rw [y, (b9 i).1] at hr; cases hr
            · rw [y, (b9 i).2] at hr; cases hr
            · rw [y, b10] at hr
              by_cases z3 : i < 7
              · rw [if_pos z3] at hr
                have := Option.some.inj hr
                omega
              · rw [if_neg z3] at hr; cases hr
            · rw [y, b11 x i hx] at hr; cases hr
    obtain ⟨M2, eM2⟩ : ∃ M2, M2 = zsI (zsI Ma 112 19 0) 112 0 (nI (k + 1)) := ⟨_, rfl⟩
    have hI2 : ∀ b i, ¬ (b = 0 ∧ i = 1) → ¬ (b = 112 ∧ (i = 0 ∨ i = 19)) → (b < S ∨ S + 10 < b) → zI M2 b i = zI M b i := fun b i q q2 q3 => by rw [eM2, zI_sI, if_neg (by omega), zI_sI, if_neg (by omega)]; exact hIa b i q q3
    have hI2s : ∀ b i, S ≤ b → zI M2 b i = zI M1 b i := fun b i q => by rw [eM2, zI_sI, if_neg (by omega), zI_sI, if_neg (by omega)]; exact hIs b i q
    have hJ2 : ∀ b i, b ≠ 126 → (b < S ∨ S + 10 < b) → zJ M2 b i = zJ M b i := fun b i q q2 => by rw [eM2, zJ_sI, zJ_sI]; exact hJa b i q q2
    refine Or.inr ⟨M1, nI k, M2, hk, nI_pos (by omega), h.1.at 0 0 1 (zrm 0 rfl), show nI k < Int32.ofNat 5 from nI_lt (b := 5) hk (by decide), by rw [← eS]; exact e1, ?_, ?_, ?_, ?_, ?_, sw, zuf n k 0, zuf kd k (fun w => if w = 0 then 4 else 0), zuf mk k (fun _ _ => 0), zuf rh k (fun _ => -1), wt, sm, st, H, nx, fs, zCo_up ⟨by rw [eM2]; exact hR, ?_, ?_, ?_, ?_, ?_, h.2.2.2.2.2.2⟩, ?_⟩
    · rw [zI_sR, (o1 0 1 (by omega)).1, zI_clr, if_neg (by omega)]; exact hcnt
    · exact zok_n (k1 (k + 1)) (l1 (k + 1)) hk (by decide)
    · rw [← eMa]
      unfold f_X7_addSentence f_X7_addSentence_0
      rw [zgK (k112 (k + 1)), hIa _ _ (by omega) (by omega), hk0, if_neg (show ¬ (5 : Int32) ≤ nI k from nI_ge (b := 5) hk (by decide))]
      unfold f_X7_addSentence_14
      rw [zbpS q_asks1, zgK (k112 (k + 1)), if_neg one_ne0, zgK (k112 (k + 1)), show zI (zsI Ma 112 19 0) 112 0 = nI k from by rw [zI_sI, if_neg (by omega), hIa _ _ (by omega) (by omega)]; exact hk0, show nI k + (1 : Int32) = nI (k + 1) from nI_1 k, zlS, ← eM2, show zI M2 112 0 = nI (k + 1) from by rw [eM2, zI_sI, if_pos ⟨rfl, rfl⟩], show nI (k + 1) - (1 : Int32) = nI k from nI_pred k]
    · rw [q_thrown, eM2, zI_sI, if_neg (by decide), zI_sI, if_pos ⟨rfl, rfl⟩]
    · rw [eM2, zJ_sI, zJ_sI, eMa2, zJ_sJ, if_pos ⟨rfl, rfl⟩]
    · refine ⟨?_, fun s hs => ?_⟩
      · rw [eM2, zI_sI, if_neg (by omega), zI_sI, if_neg (by omega), eMa2, zI_sJ, zI_sI, if_pos ⟨rfl, rfl⟩]
      · by_cases q : s = k
        · subst q
          rw [zuf_s, zuf_s, zuf_s, zuf_s, ← eS]
          refine ⟨⟨by omega, ?_, rfl, fun w w1 w2 => by omega, fun w hw => ?_, fun x w hx hw => ?_, fun w o o' _ _ _ q1 _ => absurd (show (0 : Int32) = 1 from q1) (by decide)⟩, fun w hw => ?_⟩
          · rw [← eS, hI2s _ _ (by omega), b1]; rfl
          · rw [← eS, hI2s _ _ (by omega), show w = 0 by omega, b2]; rfl
          · rw [← eS, hI2s _ _ (by omega), b4 x w hx]
          · rw [hI2s _ _ (by omega), b3 w hw]
        · rw [zuf_o _ _ q, zuf_o _ _ q, zuf_o _ _ q, zuf_o _ _ q]
          obtain ⟨q1, q2⟩ := h.2.1.2 s (by omega)
          exact ⟨zSen_c (hI2 _ _ (by omega) (by omega) (by omega)) (fun w => hI2 _ _ (by omega) (by omega) (by omega)) (fun x w hx => hI2 _ _ (by omega) (by omega) (by omega)) q1, fun w hw => (hI2 _ _ (by omega) (by omega) (by omega)).trans (q2 w hw)⟩
    · obtain ⟨a1, a2, a3⟩ := h.2.2.1
      refine ⟨by rw [eM2, zI_sI, if_pos ⟨rfl, rfl⟩], fun s hs => ?_, fun s s1 s2 => ⟨(hI2 _ _ (by omega) (by omega) (by omega)).trans (a3 s (by omega) s2).1, fun i hi => (hI2 _ _ (by omega) (by omega) (by omega)).trans ((a3 s (by omega) s2).2 i hi)⟩⟩
      by_cases q : s = k
      · subst q
        rw [zuf_s, zuf_s, zuf_s, zuf_s]
        obtain ⟨c1, c2⟩ := a3 s (Nat.le_refl s) hk
        refine ⟨⟨by omega, ?_, rfl, fun w w1 w2 => by omega, fun w w1 w2 => by omega, fun x w hx hw => ?_⟩, fun w w1 w2 => by omega⟩
        · rw [hI2 _ _ (by omega) (by omega) (by omega), c1]; rfl
        · rw [hI2 _ _ (by omega) (by omega) (by omega), show 49 * s + 7 * w + x = 49 * s + (7 * w + x) by omega, c2 _ (by omega)]
      · rw [zuf_o _ _ q, zuf_o _ _ q, zuf_o _ _ q, zuf_o _ _ q]
        obtain ⟨q1, q2⟩ := a2 s (by omega)
        exact ⟨zSenM_congr (fun b i z => hI2 b i (by omega) (by omega) (by omega)) q1, fun w w1 w2 => (hI2 _ _ (by omega) (by omega) (by omega)).trans (q2 w w1 w2)⟩
    · obtain ⟨c1, c2⟩ := h.2.2.2.1
      refine ⟨by omega, fun s hs => ?_⟩
      by_cases q : s = k
      · subst q
        rw [zuf_s, zuf_s, zuf_s]
        exact ⟨fun _ _ => Or.inl rfl, fun _ _ _ _ _ => rfl⟩
      · rw [zuf_o _ _ q, zuf_o _ _ q, zuf_o _ _ q]
        exact c2 s (by omega)
    · obtain ⟨w1, w2, w3, w4, w5, w6⟩ := h.2.2.2.2.1
      refine ⟨fun f hf => ⟨(hI2 _ _ (by omega) (by omega) (by omega)).trans (w1 f hf).1, (hJ2 _ _ (by omega) (by omega)).trans (w1 f hf).2⟩, (hI2 _ _ (by omega) (by omega) (by omega)).trans w2, (hI2 _ _ (by omega) (by omega) (by omega)).trans w3, (hI2 _ _ (by omega) (by omega) (by omega)).trans w4, w5, fun i x hx => ?_⟩
      have hl := zrp_lt nx i
      obtain ⟨w7, w8⟩ := w6 i x hx
      exact ⟨fun f hf => ⟨(hI2 _ _ (by omega) (by omega) (by omega)).trans (w7 f hf).1, (hJ2 _ _ (by omega) (by omega)).trans (w7 f hf).2⟩, (hI2 _ _ (by omega) (by omega) (by omega)).trans w8⟩
    · exact zW2_c (fun b i q => hI2 b i (by omega) (by omega) (by omega)) (fun i => hJ2 118 i (by decide) (by omega)) h.2.2.2.2.2.1
    · refine ⟨fun s cr hs => ?_, ?_⟩
      · rcases hc.1 s cr hs with q | ⟨q1, q2⟩
        · exact Or.inl ((hI2 _ _ (by omega) (by omega) (by omega)).trans q)
        · refine Or.inr ⟨by omega, ?_⟩
          rw [zuf_o _ _ (by omega), zuf_o _ _ (by omega), zuf_o _ _ (by omega)]
          exact zFil_congr (hI2 _ _ (by omega) (by omega) (by omega)) (hI2 _ _ (by omega) (by omega) (by omega)) (hJ2 _ _ (by omega) (by omega)) q2
      · rcases hc.2 with q | ⟨s, cr, q1, q2, q3⟩
        · exact Or.inl ((hI2 _ _ (by omega) (by omega) (by omega)).trans q)
        · refine Or.inr ⟨s, cr, by omega, (hI2 _ _ (by omega) (by omega) (by omega)).trans q2, ?_⟩
          rw [zuf_o _ _ (by omega), zuf_o _ _ (by omega), zuf_o _ _ (by omega)]
          exact zSrt_congr (fun i => hJ2 _ _ (by omega) (by omega)) q3
end AS
