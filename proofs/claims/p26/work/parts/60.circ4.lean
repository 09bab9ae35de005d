/-! CIRCLES in memory: groups. -/
theorem zon_succ {tk : Nat → Nat} {c q p : Nat} : zon tk (c + 1) q p = (zon tk c q p || Nat.beq (zits tk c q) p) := by
  unfold zon
  rw [List.range'_1_concat, List.any_append, Nat.zero_add]
  simp
section GR
variable {N k m : Nat} {sw : Bool} {M : ZM}
/-- a row of ints is filled -/
theorem s_fillI {K len : Nat → Nat} {a c : Nat} (hK : K a = 11) (hl : len a = c) (hc : c < 2147483648) (v : Int32) : ∀ (d f j : Nat) (M : ZM), j + d = c → d < f → ∃ M', f_J7_fill_53178_5 N K len f a v (nI j) (nI c) M = some M' ∧ zR M' = zR M ∧ zJ M' = zJ M ∧ zD M' = zD M ∧ ∀ b i, zI M' b i = if b = a ∧ j ≤ i ∧ i < c then v else zI M b i
  | d, 0, j, M, _, hf => absurd hf (Nat.not_lt_zero d)
  | 0, f + 1, j, M, hd, _ => by
    refine ⟨M, ?_, rfl, rfl, rfl, fun b i => by rw [if_neg (by omega)]⟩
    rw [f_J7_fill_53178_5, if_pos (nI_le (by omega) (by omega))]
  | d + 1, f + 1, j, M, hd, hf => by
    obtain ⟨M', e, r, J, D, h⟩ := s_fillI hK hl hc v d f (j + 1) (zsI M a j v) (by omega) (by omega)
    refine ⟨M', ?_, r, J, D, fun b i => ?_⟩
    · rw [f_J7_fill_53178_5, if_neg (nI_ge (by omega) (by omega)), zgok hK hl (show j < c by omega) hc, zlS, nI_clamp (by omega), nI_1]
      exact e
    · rw [h b i, zI_sI]
      by_cases q : b = a ∧ j + 1 ≤ i ∧ i < c
      · rw [if_pos q, if_pos (by omega)]
      · rw [if_neg q]
        by_cases q2 : b = a ∧ i = j
        · rw [if_pos q2, if_pos (by omega)]
        · rw [if_neg q2, if_neg (by omega)]
theorem s_fillIa {K len : Nat → Nat} {a c : Nat} (hN : 10000000 ≤ N) (hK : K a = 11) (hl : len a = c) (hc : c < 10000) (v : Int32) (M : ZM) : ∃ M', f_J7_fill_53178 N K len a v M = some M' ∧ zR M' = zR M ∧ zJ M' = zJ M ∧ zD M' = zD M ∧ ∀ b i, zI M' b i = if b = a ∧ i < c then v else zI M b i := by
  obtain ⟨M', e, r, J, D, h⟩ := s_fillI (N := N) hK hl (by omega) v c N 0 M (by omega) (by omega)
  refine ⟨M', ?_, r, J, D, fun b i => by rw [h b i]; simp⟩
  unfold f_J7_fill_53178 f_J7_fill_53178_0
  rw [zgarr hK (by decide) (by decide), hl]
  exact e
/-- a row of longs is filled -/
theorem s_fillJ {K len : Nat → Nat} {a c : Nat} (hK : K a = 12) (hl : len a = c) (hc : c < 2147483648) (v : Int64) : ∀ (d f j : Nat) (M : ZM), j + d = c → d < f → ∃ M', f_J7_fill_d0a16_6 N K len f a v (nI j) (nI c) M = some M' ∧ zR M' = zR M ∧ zI M' = zI M ∧ zD M' = zD M ∧ ∀ b i, zJ M' b i = if b = a ∧ j ≤ i ∧ i < c then v else zJ M b i
  | d, 0, j, M, _, hf => absurd hf (Nat.not_lt_zero d)
  | 0, f + 1, j, M, hd, _ => by
    refine ⟨M, ?_, rfl, rfl, rfl, fun b i => by rw [if_neg (by omega)]⟩
    rw [f_J7_fill_d0a16_6, if_pos (nI_le (by omega) (by omega))]
  | d + 1, f + 1, j, M, hd, hf => by
    obtain ⟨M', e, r, J, D, h⟩ := s_fillJ hK hl hc v d f (j + 1) (zsJ M a j v) (by omega) (by omega)
    refine ⟨M', ?_, r, J, D, fun b i => ?_⟩
    · rw [f_J7_fill_d0a16_6, if_neg (nI_ge (by omega) (by omega)), zgok hK hl (show j < c by omega) hc, zlS, nI_clamp (by omega), nI_1]
      exact e
    · rw [h b i, zJ_sJ]
      by_cases q : b = a ∧ j + 1 ≤ i ∧ i < c
      · rw [if_pos q, if_pos (by omega)]
      · rw [if_neg q]
        by_cases q2 : b = a ∧ i = j
        · rw [if_pos q2, if_pos (by omega)]
        · rw [if_neg q2, if_neg (by omega)]
theorem s_fillJa {K len : Nat → Nat} {a c : Nat} (hN : 10000000 ≤ N) (hK : K a = 12) (hl : len a = c) (hc : c < 10000) (v : Int64) (M : ZM) : ∃ M', f_J7_fill_d0a16 N K len a v M = some M' ∧ zR M' = zR M ∧ zI M' = zI M ∧ zD M' = zD M ∧ ∀ b i, zJ M' b i = if b = a ∧ i < c then v else zJ M b i := by
  obtain ⟨M', e, r, J, D, h⟩ := s_fillJ (N := N) hK hl (by omega) v c N 0 M (by omega) (by omega)
  refine ⟨M', ?_, r, J, D, fun b i => by rw [h b i]; simp⟩
  unfold f_J7_fill_d0a16 f_J7_fill_d0a16_0
  rw [zgarr hK (by decide) (by decide), hl]
  exact e
/-- only the groups have changed -/
def zGp (M M' : ZM) : Prop := zR M' = zR M ∧ zJ M' = zJ M ∧ zD M' = zD M ∧ ∀ a i, a ≠ 108 → zI M' a i = zI M a i
theorem zGp_refl (M : ZM) : zGp M M := ⟨rfl, rfl, rfl, fun _ _ _ => rfl⟩
theorem zGp_trans {M M1 M2 : ZM} (h1 : zGp M M1) (h2 : zGp M1 M2) : zGp M M2 := ⟨h2.1.trans h1.1, h2.2.1.trans h1.2.1, h2.2.2.1.trans h1.2.2.1, fun a i h => (h2.2.2.2 a i h).trans (h1.2.2.2 a i h)⟩
theorem zGp_set (M : ZM) (i : Nat) (v : Int32) : zGp M (zsI M 108 i v) := ⟨rfl, rfl, rfl, fun a j h => by rw [zI_sI, if_neg (fun q => h q.1)]⟩
theorem s_group12 (hm1 : 1 ≤ m) (hm7 : m ≤ 7) {tk : Nat → Nat} (hlt : ∀ w, 1 ≤ w → w < m → tk w < m) {q : Nat} (hq : q < m) : ∀ (d f c : Nat) (M : ZM), c + d = m → d < f → zRf sw k (zR M) → zI M 90 4 = nI m → (∀ w, 1 ≤ w → w < m → zI M 107 w = nI (tk w)) → (∀ i, i < 7 → zI M 108 i = if zon (zth m tk) c q i = true then -1 else 0) → ∃ M', f_X1_groupNodes_12 N (zKs k) (zln k) f 90 (nI (zits (zth m tk) c q)) (nI c) M = f_X1_groupNodes_51 N (zKs k) (zln k) N 90 (0 : Int32) (0 : Int32) M' ∧ zGp M M' ∧ ∀ i, i < 7 → zI M' 108 i = if zon (zth m tk) m q i = true then -1 else 0
  | d, 0, c, M, _, hf, _, _, _, _ => absurd hf (Nat.not_lt_zero d)
  | 0, f + 1, c, M, hd, _, hR, hm, ht, hg => by
    have e : c = m := by omega
    subst e
    refine ⟨M, ?_, zGp_refl M, hg⟩
    rw [f_X1_groupNodes_12, zgK (k90 k), hm, if_pos (nI_le (Nat.le_refl c) (by omega))]
    exact rfl
  | d + 1, f + 1, c, M, hd, hf, hR, hm, ht, hg => by
    have hz : zits (zth m tk) c q < m := by
      cases c with
      | zero => exact hq
      | succ c => rw [zits_succ]; exact zth_lt hm1 hlt _
    obtain ⟨M1, eM1⟩ : ∃ M1, M1 = zsI M 108 (zits (zth m tk) c q) (-1) := ⟨_, rfl⟩
    have g1 : zGp M M1 := by rw [eM1]; exact zGp_set M _ _
    have hR1 : zRf sw k (zR M1) := by rw [g1.1]; exact hR
    have hm1' : zI M1 90 4 = nI m := by rw [g1.2.2.2 90 4 (by decide)]; exact hm
    have ht1 : ∀ w, 1 ≤ w → w < m → zI M1 107 w = nI (tk w) := fun w h1 h2 => by rw [g1.2.2.2 107 w (by decide)]; exact ht w h1 h2
    obtain ⟨M', e, g, h⟩ := s_group12 hm1 hm7 hlt hq d f (c + 1) M1 (by omega) (by omega) hR1 hm1' ht1 (fun i hi => by
      rw [zon_succ, eM1, zI_sI]
      by_cases q1 : i = zits (zth m tk) c q
      · rw [if_pos ⟨rfl, q1⟩, q1, Nat.beq_refl, Bool.or_true, if_pos rfl]
      · rw [if_neg (fun z => q1 z.2), hg i hi]
        cases hb : Nat.beq (zits (zth m tk) c q) i with
        | true => exact absurd (Nat.eq_of_beq_eq_true hb).symm q1
        | false => rw [Bool.or_false])
    refine ⟨M', ?_, zGp_trans g1 g, h⟩
    rw [f_X1_groupNodes_12, zgK (k90 k), hm, if_neg (nI_ge (by omega) (by omega)), zbindS (s_isPlace N (show zits (zth m tk) c q < 7 by omega)), if_neg one_ne0, zbindS (hR.at 90 3 108 (zrm 19 rfl)), zgok (k108 k) (l108 k) (show zits (zth m tk) c q < 7 by omega) (by decide), zlS, nI_clamp (by omega), ← eM1, zbindS (s_takenHead hR1 hm1' hm7 ht1 (by omega)), nI_1, ← zits_succ (zth m tk) c q]
    exact e
theorem s_group51 (hm7 : m ≤ 7) {C : Nat → Bool} : ∀ (d f p : Nat) (M : ZM), p + d = m → d < f → zRf sw k (zR M) → zI M 90 4 = nI m → (∀ i, i < 7 → zI M 108 i = if C i = true then -1 else if i < p then nI (zcc C i) else 0) → ∃ M', f_X1_groupNodes_51 N (zKs k) (zln k) f 90 (nI (zcc C p)) (nI p) M = f_X1_groupNodes_91 N (zKs k) (zln k) N 90 (nI (zcc C m)) (0 : Int32) M' ∧ zGp M M' ∧ ∀ i, i < m → zI M' 108 i = if C i = true then -1 else nI (zcc C i)
  | d, 0, p, M, _, hf, _, _, _ => absurd hf (Nat.not_lt_zero d)
  | 0, f + 1, p, M, hd, _, hR, hm, hg => by
    have e : p = m := by omega
    subst e
    refine ⟨M, ?_, zGp_refl M, fun i hi => by rw [hg i (by omega), if_pos hi]⟩
    rw [f_X1_groupNodes_51, zgK (k90 k), hm, if_pos (nI_le (Nat.le_refl p) (by omega))]
  | d + 1, f + 1, p, M, hd, hf, hR, hm, hg => by
    have hc6 : zcc C p < 7 := by
      have := zcc_le (C := C) p
      omega
    have hgp := hg p (by omega)
    cases hc : C p with
    | true =>
      rw [hc, if_pos rfl] at hgp
      obtain ⟨M', e, g, h⟩ := s_group51 hm7 (C := C) d f (p + 1) M (by omega) (by omega) hR hm (fun i hi => by
        rw [hg i hi]
        by_cases q : i = p
        · rw [q, hc, if_pos rfl, if_pos rfl]
        · by_cases q2 : i < p
          · rw [if_pos q2, if_pos (show i < p + 1 by omega)]
          · rw [if_neg q2, if_neg (show ¬ i < p + 1 by omega)])
      refine ⟨M', ?_, g, h⟩
      rw [show zcc C (p + 1) = zcc C p from by show zcc C p + (if C p = true then 0 else 1) = _; rw [hc, if_pos rfl]; rfl] at e
      rw [f_X1_groupNodes_51, zgK (k90 k), hm, if_neg (nI_ge (by omega) (by omega)), zbindS (hR.at 90 3 108 (zrm 19 rfl)), zgok (k108 k) (l108 k) (show p < 7 by omega) (by decide), nI_clamp (by omega), hgp, if_pos rfl]
      unfold f_X1_groupNodes_82
      rw [nI_1]
      exact e
    | false =>
      rw [hc, if_neg (by decide), if_neg (Nat.lt_irrefl p)] at hgp
      obtain ⟨M1, eM1⟩ : ∃ M1, M1 = zsI M 108 p (nI (zcc C p)) := ⟨_, rfl⟩
      have g1 : zGp M M1 := by rw [eM1]; exact zGp_set M _ _
      obtain ⟨M', e, g, h⟩ := s_group51 hm7 (C := C) d f (p + 1) M1 (by omega) (by omega) (by rw [g1.1]; exact hR) (by rw [g1.2.2.2 90 4 (by decide)]; exact hm) (fun i hi => by
        rw [eM1, zI_sI]
        by_cases q : i = p
        · rw [if_pos ⟨rfl, q⟩, q, hc, if_neg (by decide), if_pos (Nat.lt_succ_self p)]
        · rw [if_neg (fun z => q z.2), hg i hi]
          by_cases q2 : i < p
          · rw [if_pos q2, if_pos (show i < p + 1 by omega)]
          · rw [if_neg q2, if_neg (show ¬ i < p + 1 by omega)])
      refine ⟨M', ?_, zGp_trans g1 g, h⟩
      rw [show zcc C (p + 1) = zcc C p + 1 from by show zcc C p + (if C p = true then 0 else 1) = _; rw [hc, if_neg (by decide)]] at e
      rw [f_X1_groupNodes_51, zgK (k90 k), hm, if_neg (nI_ge (by omega) (by omega)), zbindS (hR.at 90 3 108 (zrm 19 rfl)), zgok (k108 k) (l108 k) (show p < 7 by omega) (by decide), nI_clamp (by omega), hgp, if_neg (show ¬ (0 : Int32) = -1 by decide), zlS, ← eM1]
      unfold f_X1_groupNodes_82
      rw [nI_1, nI_1]
      exact e
theorem s_group91 (hm7 : m ≤ 7) {C : Nat → Bool} (hcm : zcc C m + 1 ≤ m) : ∀ (d f p : Nat) (M : ZM), p + d = m → d < f → zRf sw k (zR M) → zI M 90 4 = nI m → (∀ i, i < m → zI M 108 i = if i < p then nI (zgr C m i) else if C i = true then -1 else nI (zcc C i)) → ∃ M', f_X1_groupNodes_91 N (zKs k) (zln k) f 90 (nI (zcc C m)) (nI p) M = some (nI (zcc C m + 1), M') ∧ zGp M M' ∧ ∀ i, i < m → zI M' 108 i = nI (zgr C m i)
  | d, 0, p, M, _, hf, _, _, _ => absurd hf (Nat.not_lt_zero d)
  | 0, f + 1, p, M, hd, _, hR, hm, hg => by
    have e : p = m := by omega
    subst e
    refine ⟨M, ?_, zGp_refl M, fun i hi => by rw [hg i hi, if_pos hi]⟩
    rw [f_X1_groupNodes_91, zgK (k90 k), hm, if_pos (nI_le (Nat.le_refl p) (by omega)), show nI (zcc C p) + (1 : Int32) = nI (zcc C p + 1) from nI_1 _, if_neg (nI_nlt hcm (by omega))]
  | d + 1, f + 1, p, M, hd, hf, hR, hm, hg => by
    have hgp := hg p (by omega)
    rw [if_neg (Nat.lt_irrefl p)] at hgp
    have hcp := zcc_le (C := C) p
    cases hc : C p with
    | true =>
      rw [hc, if_pos rfl] at hgp
      obtain ⟨M1, eM1⟩ : ∃ M1, M1 = zsI M 108 p (nI (zcc C m)) := ⟨_, rfl⟩
      have g1 : zGp M M1 := by rw [eM1]; exact zGp_set M _ _
      obtain ⟨M', e, g, h⟩ := s_group91 hm7 (C := C) hcm d f (p + 1) M1 (by omega) (by omega) (by rw [g1.1]; exact hR) (by rw [g1.2.2.2 90 4 (by decide)]; exact hm) (fun i hi => by
        rw [eM1, zI_sI]
        by_cases q : i = p
        · rw [if_pos ⟨rfl, q⟩, if_pos (by omega), q]
          unfold zgr
          rw [hc, if_pos rfl]
        · rw [if_neg (fun z => q z.2), hg i hi]
          by_cases q2 : i < p
          · rw [if_pos q2, if_pos (show i < p + 1 by omega)]
          · rw [if_neg q2, if_neg (show ¬ i < p + 1 by omega)])
      refine ⟨M', ?_, zGp_trans g1 g, h⟩
      rw [f_X1_groupNodes_91, zgK (k90 k), hm, if_neg (nI_ge (by omega) (by omega)), zbindS (hR.at 90 3 108 (zrm 19 rfl)), zgok (k108 k) (l108 k) (show p < 7 by omega) (by decide), nI_clamp (by omega), hgp, if_pos rfl, zlS, ← eM1]
      unfold f_X1_groupNodes_119
      rw [nI_1]
      exact e
    | false =>
      rw [hc, if_neg (by decide)] at hgp
      obtain ⟨M', e, g, h⟩ := s_group91 hm7 (C := C) hcm d f (p + 1) M (by omega) (by omega) hR hm (fun i hi => by
        rw [hg i hi]
        by_cases q : i = p
        · rw [q, if_neg (Nat.lt_irrefl p), if_pos (Nat.lt_succ_self p)]
          unfold zgr
          rw [hc, if_neg (by decide), if_neg (by decide)]
        · by_cases q2 : i < p
          · rw [if_pos q2, if_pos (show i < p + 1 by omega)]
          · rw [if_neg q2, if_neg (show ¬ i < p + 1 by omega)])
      refine ⟨M', ?_, g, h⟩
      rw [f_X1_groupNodes_91, zgK (k90 k), hm, if_neg (nI_ge (by omega) (by omega)), zbindS (hR.at 90 3 108 (zrm 19 rfl)), zgok (k108 k) (l108 k) (show p < 7 by omega) (by decide), nI_clamp (by omega), hgp, if_neg (nI_nem1 (by omega))]
      unfold f_X1_groupNodes_119
      rw [nI_1]
      exact e
theorem s_group (hN : 10000000 ≤ N) (hm1 : 1 ≤ m) (hm7 : m ≤ 7) (hR : zRf sw k (zR M)) (hm : zI M 90 4 = nI m) {tk : Nat → Nat} (ht : ∀ w, 1 ≤ w → w < m → zI M 107 w = nI (tk w)) (hlt : ∀ w, 1 ≤ w → w < m → tk w < m) {q : Nat} (hq : q < m) (hcm : zcc (zon (zth m tk) m q) m + 1 ≤ m) : ∃ M', f_X1_groupNodes N (zKs k) (zln k) 90 (nI q) M = some (nI (zcc (zon (zth m tk) m q) m + 1), M') ∧ zGp M M' ∧ ∀ i, i < m → zI M' 108 i = nI (zgr (zon (zth m tk) m q) m i) := by
  obtain ⟨M1, e1, r1, J1, D1, h1⟩ := s_fillIa (K := zKs k) (len := zln k) (a := 108) (c := 7) hN (k108 k) (l108 k) (by decide) (0 : Int32) M
  have g1 : zGp M M1 := ⟨r1, J1, D1, fun a i h => by rw [h1, if_neg (fun z => h z.1)]⟩
  obtain ⟨M2, e2, g2, h2⟩ := s_group12 (N := N) (k := k) (sw := sw) hm1 hm7 hlt hq m N 0 M1 (by omega) (by omega) (by rw [g1.1]; exact hR) (by rw [g1.2.2.2 90 4 (by decide)]; exact hm) (fun w q1 q2 => by rw [g1.2.2.2 107 w (by decide)]; exact ht w q1 q2) (fun i hi => by
    rw [h1, if_pos ⟨rfl, hi⟩]
    exact (if_neg (show ¬ (false = true) by decide)).symm)
  have g12 := zGp_trans g1 g2
  obtain ⟨M3, e3, g3, h3⟩ := s_group51 (N := N) (k := k) (sw := sw) hm7 (C := zon (zth m tk) m q) m N 0 M2 (by omega) (by omega) (by rw [g12.1]; exact hR) (by rw [g12.2.2.2 90 4 (by decide)]; exact hm) (fun i hi => by rw [h2 i hi, if_neg (show ¬ i < 0 by omega)])
  have g13 := zGp_trans g12 g3
  obtain ⟨M4, e4, g4, h4⟩ := s_group91 (N := N) (k := k) (sw := sw) hm7 (C := zon (zth m tk) m q) hcm m N 0 M3 (by omega) (by omega) (by rw [g13.1]; exact hR) (by rw [g13.2.2.2 90 4 (by decide)]; exact hm) (fun i hi => by rw [h3 i hi, if_neg (show ¬ i < 0 by omega)])
  refine ⟨M4, ?_, zGp_trans g13 g4, h4⟩
  unfold f_X1_groupNodes f_X1_groupNodes_0
  rw [zgK (k90 k), zbindS (hR.at 90 3 108 (zrm 19 rfl)), zbindS e1]
  exact e2.trans (e3.trans e4)
end GR
