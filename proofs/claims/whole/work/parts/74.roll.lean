/-! ROLLBACK. -/
section RB
variable {N j k : Nat} {sw : Bool} {M : ZM}
theorem s_takeBack (hR : zRf sw k (zR M)) {nx l p : Nat} (hnx : nx < 20) (hp : p = (nx + 19) % 20) (hl : l < 20) (h7 : zI M 2 7 = nI nx) (h6 : zI M 2 6 = nI (l + 1)) : ∃ M', f_X5_takeBack N (zKs k) (zln k) 2 M = some M' ∧ zR M' = zR M ∧ zD M' = zD M ∧ zI M' 2 6 = nI l ∧ zI M' 2 7 = nI p ∧ zI M' 2 2 = zI M 47 p ∧ (∀ f, f < 28 → zI M' 3 f = zI M (6 + p) f) ∧ (∀ f, f < 28 → zJ M' 4 f = zJ M (27 + p) f) ∧ (∀ b i, b ≠ 2 → b ≠ 3 → zI M' b i = zI M b i) ∧ (∀ b i, b ≠ 4 → zJ M' b i = zJ M b i) := by
  have hp20 : p < 20 := by omega
  obtain ⟨M24, e24⟩ : ∃ M24, M24 = zcJ (zcI M (6 + p) 3 0 0 28) (27 + p) 4 0 0 28 := ⟨_, rfl⟩
  have hi24 : ∀ b i, b ≠ 3 → zI M24 b i = zI M b i := fun b i h => by rw [e24, zI_cJ, zI_cI, if_neg (fun q => h q.1)]
  have hR24 : zR M24 = zR M := by rw [e24]; rfl
  have h18 : f_X5_takeBack_18 N (zKs k) (zln k) 2 (nI p) M = some (zsI (zsI (zsI M24 2 2 (zI M 47 p)) 2 7 (nI p)) 2 6 (nI l)) := by
    unfold f_X5_takeBack_18
    rw [zgK (k2 k), h6, if_neg (nI_nle (by omega) (by omega)), zbindS (s_isRow N hp20), if_neg one_ne0, zbindS (hR.at 2 3 5 (zrm 8 rfl)), zgok (k5 k) (l5 k) hp20 (by decide), nI_clamp (show p < 2 ^ 31 by omega), zbindS (hR.row 5 20 6 (by simp [ztabs]) hp20), zbindS (hR.at 2 0 3 (zrm 6 rfl)), zcp28 (kr6 k hp20) (k3 k) (lr6 k hp20) (l3 k), zg_true, zlS, zcl0, zcl28, zR_cI, zbindS (hR.at 2 4 26 (zrm 9 rfl)), zgok (k26 k) (l26 k) hp20 (by decide), zbindS (hR.row 26 20 27 (by simp [ztabs]) hp20), zbindS (hR.at 2 1 4 (zrm 7 rfl)), zcp28 (kr27 k hp20) (k4 k) (lr27 k hp20) (l4 k), zg_true, zlS, ← e24, hR24, zbindS (hR.at 2 5 47 (zrm 10 rfl)), zgok (k47 k) (l47 k) hp20 (by decide), zlS, zlS, zlS, show zI M24 47 p = zI M 47 p from hi24 _ _ (by omega), show zI (zsI (zsI M24 2 2 (zI M 47 p)) 2 7 (nI p)) 2 6 = nI (l + 1) from by rw [zI_sI, if_neg (by omega), zI_sI, if_neg (by omega), hi24 _ _ (by omega)]; exact h6, show nI (l + 1) - (1 : Int32) = nI l from nI_pred l]
  refine ⟨zsI (zsI (zsI M24 2 2 (zI M 47 p)) 2 7 (nI p)) 2 6 (nI l), ?_, by rw [zR_sI, zR_sI, zR_sI]; exact hR24, by rw [zD_sI, zD_sI, zD_sI, e24]; rfl, ?_, ?_, ?_, fun f hf => ?_, fun f hf => ?_, fun b i q1 q2 => ?_, fun b i q => ?_⟩
  · unfold f_X5_takeBack f_X5_takeBack_0
    rw [zgK (k2 k), h7]
    by_cases q : nx = 0
    · subst q
      rw [if_pos (show nI 0 ≤ 0 by decide +kernel), ← h18, show (19 : Int32) = nI p from by rw [hp]; rfl]
    · rw [if_neg (nI_nle (by omega) (by omega)), ← h18]
      obtain ⟨y, rfl⟩ : ∃ y, nx = y + 1 := ⟨nx - 1, by omega⟩
      rw [show nI (y + 1) - (1 : Int32) = nI y from nI_pred y, show y = p by omega]
  · rw [zI_sI, if_pos ⟨rfl, rfl⟩]
  · rw [zI_sI, if_neg (by decide), zI_sI, if_pos ⟨rfl, rfl⟩]
  · rw [zI_sI, if_neg (by decide), zI_sI, if_neg (by decide), zI_sI, if_pos ⟨rfl, rfl⟩]
  · rw [zI_sI, if_neg (by omega), zI_sI, if_neg (by omega), zI_sI, if_neg (by omega), e24, zI_cJ, zI_cI, if_pos ⟨rfl, by omega, by omega⟩, show 0 + (f - 0) = f by omega]
  · rw [zJ_sI, zJ_sI, zJ_sI, e24, zJ_cJ, if_pos ⟨rfl, by omega, by omega⟩, show 0 + (f - 0) = f by omega, zJ_cI]
  · rw [zI_sI, if_neg (by omega), zI_sI, if_neg (by omega), zI_sI, if_neg (by omega)]; exact hi24 b i q2
  · rw [zJ_sI, zJ_sI, zJ_sI, e24, zJ_cJ, if_neg (fun z => q z.1), zJ_cI]
theorem q_roll62 {at' : Nat} (hat : at' < 20) (b : Bool) : ∀ (d f x : Nat) (M : ZM), x + d = 28 → d < f → zRf sw k (zR M) → ∃ M', f_X7_rollBack_62 N (zKs k) (zln k) f 112 (nI at') (bif b then 1 else 0) (nI x) M = f_X7_rollBack_129 N (zKs k) (zln k) 112 (bif b then 1 else 0) (zI M 112 7) 112 M' ∧ zR M' = zR M ∧ zD M' = zD M ∧ (∀ g, x ≤ g → g < 28 → zI M' 117 g = zI M 120 (28 * at' + g) ∧ zJ M' 118 g = zJ M 118 g - (if b = true then (zI M 117 g).toInt64 else 0)) ∧ (∀ a i, ¬ (a = 117 ∧ x ≤ i ∧ i < 28) → zI M' a i = zI M a i) ∧ (∀ a i, ¬ (a = 118 ∧ x ≤ i ∧ i < 28) → zJ M' a i = zJ M a i)
  | d, 0, x, M, _, hf, _ => absurd hf (Nat.not_lt_zero d)
  | 0, f + 1, x, M, hd, _, hR => by
    refine ⟨M, ?_, rfl, rfl, fun g q1 q2 => by omega, fun _ _ _ => rfl, fun _ _ _ => rfl⟩
    rw [f_X7_rollBack_62, if_pos (show (28 : Int32) ≤ nI x from nI_le (a := 28) (by omega) (by omega)), zgK (k112 k)]
    cases b with
    | false => rw [cond_false, if_pos rfl]
    | true => rw [cond_true, if_neg one_ne0]
  | d + 1, f + 1, x, M, hd, hf, hR => by
    obtain ⟨M', e, r, D, hw, ho, hj⟩ := q_roll62 hat b d f (x + 1) (zsI (zsJ M 118 x (zJ M 118 x - (if b = true then (zI M 117 x).toInt64 else 0))) 117 x (zI M 120 (28 * at' + x))) (by omega) (by omega) hR
    refine ⟨M', ?_, r, D, fun g q1 q2 => ?_, fun a i q => ?_, fun a i q => ?_⟩
    · have h90 : ∀ v : Int64, v = (if b = true then (zI M 117 x).toInt64 else 0) → f_X7_rollBack_90 N (zKs k) (zln k) (fun y0 y1 y2 y3 M => f_X7_rollBack_62 N (zKs k) (zln k) f y0 y1 y2 y3 M) 112 (nI at') (bif b then 1 else 0) (nI x) v (zJ M 118 x) (nI x) 118 M = f_X7_rollBack_129 N (zKs k) (zln k) 112 (bif b then 1 else 0) (zI M 112 7) 112 M' := fun v hv => by
        unfold f_X7_rollBack_90
        rw [zgok (k118 k) (l118 k) (show x < 28 by omega) (by decide), zlS, zgK (k112 k), zR_sJ, zbindS (hR.at 112 5 117 (zrm 26 rfl)), zbindS (hR.at 112 11 120 (zrm 29 rfl)), show (28 : Int32) * nI at' + nI x = nI (28 * at' + x) from by rw [show (28 : Int32) = nI 28 from rfl, nI_mul, nI_add], zgok (k120 k) (l120 k) (show 28 * at' + x < 560 by omega) (by decide), zgok (k117 k) (l117 k) (show x < 28 by omega) (by decide), zlS, nI_clamp (show 28 * at' + x < 2 ^ 31 by omega), nI_clamp (show x < 2 ^ 31 by omega), nI_1, hv, zI_sJ]
        refine e.trans ?_
        rw [zI_sI, if_neg (by omega), zI_sJ]
      rw [f_X7_rollBack_62, if_neg (show ¬ (28 : Int32) ≤ nI x from nI_ge (b := 28) (by omega) (by omega)), zgK (k112 k), zbindS (hR.at 112 6 118 (zrm 27 rfl)), zgok (k118 k) (l118 k) (show x < 28 by omega) (by decide), nI_clamp (show x < 2 ^ 31 by omega)]
      cases b with
      | false =>
        rw [cond_false] at h90 ⊢
        rw [if_pos rfl]
        exact h90 0 (if_neg (by decide)).symm
      | true =>
        rw [cond_true] at h90 ⊢
        rw [if_neg one_ne0, zbindS (hR.at 112 5 117 (zrm 26 rfl)), zgok (k117 k) (l117 k) (show x < 28 by omega) (by decide)]
        exact h90 _ (if_pos rfl).symm
    · by_cases z : g = x
      · subst z
        rw [ho _ _ (by omega), hj _ _ (by omega), zI_sI, if_pos ⟨rfl, rfl⟩, zJ_sI, zJ_sJ, if_pos ⟨rfl, rfl⟩]
        exact ⟨rfl, rfl⟩
      · obtain ⟨q3, q4⟩ := hw g (by omega) q2
        rw [q3, q4]
        refine ⟨by rw [zI_sI, if_neg (by omega), zI_sJ], ?_⟩
        rw [zJ_sI, zJ_sJ, if_neg (by omega), show zI (zsI (zsJ M 118 x (zJ M 118 x - (if b = true then (zI M 117 x).toInt64 else 0))) 117 x (zI M 120 (28 * at' + x))) 117 g = zI M 117 g from by rw [zI_sI, if_neg (by omega), zI_sJ]]
    · rw [ho a i (by omega), zI_sI, if_neg (by omega), zI_sJ]
    · rw [hj a i (by omega), zJ_sI, zJ_sJ, if_neg (by omega)]
theorem c_rollBack (hN : 10000000 ≤ N) (hj : j ≤ 512) (h : zInv j k M) : zC22 N (zInv (j + 1)) k M := by
  obtain ⟨sw, n, kd, mk, rh, wt, sm, st, H, nx, fs, h, hc⟩ := h
  have hW1 := h.2.2.2.2.1
  have hW2 := h.2.2.2.2.2.1
  have hW3 := h.2.2.2.2.2.2
  have hkc : ∀ (M : ZM) (v : Int32), zI M 2 6 = v → f_X5_keptCount N (zKs k) (zln k) 2 M = some v := fun M v hv => by
    unfold f_X5_keptCount f_X5_keptCount_0
    rw [zgK (k2 k), hv]
  cases H with
  | nil =>
    refine zfin_thr (fX := fun M => f_X7_rollBack N (zKs k) (zln k) 112 M) h hc i1_ne0 (L_rollBack_3 ?_) ?_
    · unfold f_X6_rollBack f_X6_rollBack_0
      rw [zgK (k0 k), zbindS (h.1.at 0 2 2 (zrm 1 rfl)), zbindS (hkc M (nI 0) hW1.2.2.1), zgK (k2 k), if_neg (show ¬ (0 : Int32) < nI 0 by decide +kernel)]
    · show f_X7_rollBack N (zKs k) (zln k) 112 M = _
      unfold f_X7_rollBack f_X7_rollBack_0
      rw [zgK (k112 k), show zI M 112 8 = nI 0 from hW2.2.2.1, if_pos (show nI 0 ≤ 0 by decide +kernel)]
      unfold f_X7_rollBack_13
      rw [zbpS q_asks0, zgK (k112 k), if_pos rfl]
  | cons e T =>
    obtain ⟨e1, e2, e3, e4⟩ := e
    have hl : T.length < 20 := by
      have := hW3.1
      rw [List.length_cons] at this
      omega
    have hnx := hW1.2.2.2.2.1
    have hfs := hW2.2.2.2.2.1
    obtain ⟨p, hp⟩ : ∃ p, p = (nx + 19) % 20 := ⟨_, rfl⟩
    have hp20 : p < 20 := by omega
    obtain ⟨Mc, ec, rc, dc, c6, c7, c2, cw, cj, co, cjo⟩ := s_takeBack (N := N) h.1 hnx hp hl hW1.2.2.2.1 hW1.2.2.1
    obtain ⟨M1, eM1⟩ : ∃ M1, M1 = zsJ Mc 126 0 (nI T.length).toInt64 := ⟨_, rfl⟩
    have hR1 : zRf sw k (zR M1) := by rw [eM1, zR_sJ, rc]; exact h.1
    have hIm : ∀ b i, 4 ≤ b → zI M1 b i = zI M b i := fun b i hb => by rw [eM1, zI_sJ]; exact co b i (by omega) (by omega)
    have hJm : ∀ b i, b ≠ 4 → b ≠ 126 → zJ M1 b i = zJ M b i := fun b i hb hb2 => by rw [eM1, zJ_sJ, if_neg (fun q => hb2 q.1)]; exact cjo b i hb
    obtain ⟨at', hat⟩ : ∃ at', at' = (fs + T.length) % 20 := ⟨_, rfl⟩
    have hat20 : at' < 20 := by omega
    obtain ⟨M7, eM7⟩ : ∃ M7, M7 = zsI (zsI M1 112 19 0) 112 8 (nI T.length) := ⟨_, rfl⟩
    have hR7 : zRf sw k (zR M7) := by rw [eM7]; exact hR1
    have hI7 : ∀ b i, 4 ≤ b → ¬ (b = 112 ∧ (i = 8 ∨ i = 19)) → zI M7 b i = zI M b i := fun b i hb q => by rw [eM7, zI_sI, if_neg (by omega), zI_sI, if_neg (by omega)]; exact hIm b i hb
    -- the latest entry
    have hent := hW2.2.2.2.2.2 0 (e1, e2, e3, e4) rfl
    have hz0 : zrq fs ((e1, e2, e3, e4) :: T).length 0 = at' := by
      rw [List.length_cons]
      unfold zrq
      omega
    rw [hz0] at hent
    obtain ⟨M8, e8, r8, d8, w8, o8, j8⟩ := q_roll62 (N := N) (k := k) (sw := sw) hat20 e4 28 N 0 M7 (by omega) (by omega) hR7
    obtain ⟨M9, eM9⟩ : ∃ M9, M9 = zsI M8 112 7 (nI e3) := ⟨_, rfl⟩
    have hR9 : zRf sw k (zR M9) := by rw [eM9, zR_sI, r8]; exact hR7
    obtain ⟨M2, ch2, r2, j2, d2, i2, l2, f2⟩ := q_changed (N := N) (M := M9) hN hR9
    have hlk := hW3.2.1
    have hst : zI M7 112 7 - (bif e4 then 1 else 0) = nI e3 := by
      rw [hI7 _ _ (by omega) (by omega), hW2.2.1]
      have h2 : st = e3 + (if e4 = true then 1 else 0) := hlk.2.1
      cases e4 with
      | false =>
        rw [if_neg (by decide)] at h2
        have h2 : st = e3 := h2
        rw [cond_false, h2, Int32.sub_zero]
      | true =>
        rw [if_pos rfl] at h2
        rw [cond_true, h2]
        exact nI_pred e3
    have h13 : f_X7_rollBack N (zKs k) (zln k) 112 M1 = some (nI T.length, M2) := by
      unfold f_X7_rollBack f_X7_rollBack_0
      rw [zgK (k112 k), hIm _ _ (by omega), show zI M 112 8 = nI (T.length + 1) from hW2.2.2.1, if_neg (nI_nle (by omega) (by omega))]
      unfold f_X7_rollBack_13
      rw [zbpS q_asks1, zgK (k112 k), if_neg one_ne0, zgK (k112 k), show zI (zsI M1 112 19 0) 112 8 = nI (T.length + 1) from by rw [zI_sI, if_neg (by decide), hIm _ _ (by omega)]; exact hW2.2.2.1, show nI (T.length + 1) - (1 : Int32) = nI T.length from nI_pred _, zlS, ← eM7, zbindS (hR7.at 112 10 119 (zrm 28 rfl)), show zI M7 112 9 = nI fs from by rw [hI7 _ _ (by omega) (by omega)]; exact hW2.2.2.2.1, show zI M7 112 8 = nI T.length from by rw [eM7, zI_sI, if_pos ⟨rfl, rfl⟩], nI_add, show (20 : Int32) = nI 20 from rfl, pk_rem (by omega) (by decide) (by decide), ← hat, zgok (k119 k) (l119 k) hat20 (by decide), nI_clamp (show at' < 2 ^ 31 by omega), hI7 _ _ (by omega) (by omega)]
      have h129 : f_X7_rollBack_129 N (zKs k) (zln k) 112 (bif e4 then 1 else 0) (zI M7 112 7) 112 M8 = some (nI T.length, M2) := by
        unfold f_X7_rollBack_129
        rw [zgK (k112 k), hst, zlS, ← eM9, zbindS ch2, zgK (k112 k), i2 _ _ (by decide) (by decide), eM9, zI_sI, if_neg (by decide), o8 _ _ (by omega), eM7, zI_sI, if_pos ⟨rfl, rfl⟩]
      have e8' : f_X7_rollBack_59 N (zKs k) (zln k) 112 (nI at') (bif e4 then 1 else 0) M7 = some (nI T.length, M2) := e8.trans h129
      cases e4 with
      | false =>
        rw [if_neg (fun q => by have := hent.1.mp q; cases this)]
        exact e8'
      | true =>
        rw [if_pos (hent.1.mpr rfl)]
        exact e8'
    have hJ2 : ∀ b i, b ≠ 118 → b ≠ 4 → b ≠ 126 → zJ M2 b i = zJ M b i := fun b i q1 q2 q3 => by rw [j2, eM9, zJ_sI, j8 _ _ (by omega), eM7, zJ_sI, zJ_sI]; exact hJm b i q2 q3
    have hI2 : ∀ b i, ¬ (b = 112 ∧ (i = 7 ∨ i = 8 ∨ i = 13 ∨ i = 19)) → b ≠ 117 → b ≠ 124 → zI M2 b i = zI Mc b i := fun b i q1 q2 q3 => by rw [i2 _ _ (by omega) q3, eM9, zI_sI, if_neg (by omega), o8 _ _ (by omega), eM7, zI_sI, if_neg (by omega), zI_sI, if_neg (by omega), eM1, zI_sJ]
    have hI3 : ∀ b i, ¬ (b = 112 ∧ (i = 7 ∨ i = 8 ∨ i = 13 ∨ i = 19)) → b ≠ 117 → b ≠ 124 → b ≠ 2 → b ≠ 3 → zI M2 b i = zI M b i := fun b i q1 q2 q3 q4 q5 => (hI2 b i q1 q2 q3).trans (co b i q4 q5)
    have hbw : ∀ g, g < 28 → -4000 ≤ wt g ∧ wt g ≤ 4000 := fun g hg => by
      have := hW3.2.2.2.1 g hg
      omega
    refine zfin_u (fX := fun M => f_X7_rollBack N (zKs k) (zln k) 112 M) (v := nI T.length) (Mc := Mc) (M2 := M2) (L_rollBack_ok ?_) (by rw [← eM1]; exact h13) ?_ ?_ ⟨sw, n, kd, mk, rh, e1, e2, e3, T, p, fs, ⟨by rw [r2]; exact hR9, ?_, ?_, h.2.2.2.1, ?_, ?_, ?_⟩, zChk_new l2 f2⟩
    · unfold f_X6_rollBack f_X6_rollBack_0
      rw [zgK (k0 k), zbindS (h.1.at 0 2 2 (zrm 1 rfl)), zbindS (hkc M (nI (T.length + 1)) hW1.2.2.1), zgK (k2 k), if_pos (show (0 : Int32) < nI (T.length + 1) from nI_lt (a := 0) (by omega) (by omega)), zbindS ec, rc, zbindS (h.1.at 0 2 2 (zrm 1 rfl)), zbindS (hkc Mc (nI T.length) c6), zgK (k2 k)]
    · rw [i2 _ _ (by decide) (by decide), eM9, zI_sI, if_neg (by decide), o8 _ _ (by omega), eM7, zI_sI, if_neg (by decide), zI_sI, if_pos ⟨rfl, rfl⟩]
    · rw [j2, eM9, zJ_sI, j8 _ _ (by omega), eM7, zJ_sI, zJ_sI, eM1, zJ_sJ, if_pos ⟨rfl, rfl⟩]
    · exact zA1_c (fun b i q => hI3 b i (by omega) (by omega) (by omega) (by omega) (by omega)) h.2.1
    · exact zA2_c (fun b i q => hI3 b i (by omega) (by omega) (by omega) (by omega) (by omega)) h.2.2.1
    · have hent1 := hW1.2.2.2.2.2 0 (e1, e2, e3, e4) rfl
      have hz : zrp nx 0 = p := by unfold zrp; omega
      rw [hz] at hent1
      refine ⟨fun f hf => ⟨?_, ?_⟩, ?_, ?_, ?_, hp20, fun i x hx => ?_⟩
      · rw [hI2 _ _ (by omega) (by omega) (by omega), cw f hf]; exact (hent1.1 f hf).1
      · rw [j2, eM9, zJ_sI, j8 _ _ (by omega), eM7, zJ_sI, zJ_sI, eM1, zJ_sJ, if_neg (by omega), cj f hf]; exact (hent1.1 f hf).2
      · rw [hI2 _ _ (by omega) (by omega) (by omega), c2]; exact hent1.2
      · rw [hI2 _ _ (by omega) (by omega) (by omega)]; exact c6
      · rw [hI2 _ _ (by omega) (by omega) (by omega)]; exact c7
      · have hiT : i < T.length := (List.getElem?_eq_some_iff.mp hx).1
        have h5 := hW1.2.2.2.2.2 (i + 1) x hx
        have hz2 : zrp nx (i + 1) = zrp p i := by unfold zrp; omega
        rw [hz2] at h5
        have hlt := zrp_lt p i
        exact ⟨fun f hf => ⟨(hI3 _ _ (by omega) (by omega) (by omega) (by omega) (by omega)).trans (h5.1 f hf).1, (hJ2 _ _ (by omega) (by omega) (by omega)).trans (h5.1 f hf).2⟩, (hI3 _ _ (by omega) (by omega) (by omega) (by omega) (by omega)).trans h5.2⟩
    · refine ⟨fun f hf => ⟨?_, ?_⟩, ?_, ?_, ?_, hfs, fun i x hx => ?_⟩
      · rw [i2 _ _ (by omega) (by omega), eM9, zI_sI, if_neg (by omega), (w8 f (by omega) hf).1, hI7 _ _ (by omega) (by omega)]; exact hent.2 f hf
      · rw [j2, eM9, zJ_sI, (w8 f (by omega) hf).2, eM7, zJ_sI, zJ_sI, hJm _ _ (by omega) (by omega), (hW2.1 f hf).2, ← eM7, hI7 _ _ (by omega) (by omega), (hW2.1 f hf).1]
        have hbf := hbw f hf
        have hs := hlk.1 f hf
        cases e4 with
        | false =>
          rw [if_neg (by decide), show (0 : Int64) = lI 0 from rfl, lI_sub]
          have hs : sm f = e2 f + (if false = true then wt f else 0) := hs
          rw [if_neg (by decide)] at hs
          congr 1
          omega
        | true =>
          rw [if_pos rfl, iI_long (by omega) (by omega), lI_sub]
          have hs : sm f = e2 f + (if true = true then wt f else 0) := hs
          rw [if_pos rfl] at hs
          congr 1
          omega
      · rw [i2 _ _ (by omega) (by omega), eM9, zI_sI, if_pos ⟨rfl, rfl⟩]
      · rw [i2 _ _ (by omega) (by omega), eM9, zI_sI, if_neg (by omega), o8 _ _ (by omega), eM7, zI_sI, if_pos ⟨rfl, rfl⟩]
      · exact (hI3 _ _ (by omega) (by omega) (by omega) (by omega) (by omega)).trans hW2.2.2.2.1
      · have hiT : i < T.length := (List.getElem?_eq_some_iff.mp hx).1
        have h5 := hW2.2.2.2.2.2 (i + 1) x hx
        have hz2 : zrq fs ((e1, e2, e3, e4) :: T).length (i + 1) = zrq fs T.length i := by
          rw [List.length_cons]
          unfold zrq
          omega
        rw [hz2] at h5
        exact ⟨by rw [hI3 _ _ (by omega) (by omega) (by omega) (by omega) (by omega)]; exact h5.1, fun f hf => (hI3 _ _ (by omega) (by omega) (by omega) (by omega) (by omega)).trans (h5.2 f hf)⟩
    · obtain ⟨w1, w2, w3, w4, w5⟩ := hW3
      have he := w5 (e1, e2, e3, e4) List.mem_cons_self
      refine ⟨by omega, w2.2.2, by have := he.1; show e3 ≤ j + 1; have : e3 ≤ j := this; omega, fun g hg => ?_, fun x hx => ?_⟩
      · have : -(100 + 6 * (j : Int)) ≤ e1 g ∧ e1 g ≤ 100 + 6 * (j : Int) := he.2 g hg
        omega
      · have h5 := w5 x (List.mem_cons_of_mem _ hx)
        exact ⟨by omega, fun g hg => by have := h5.2 g hg; omega⟩
end RB
