/-! THE MODEL'S HEAP SORT: in memory. -/
def zF (M : ZM) : Nat → Int := fun i => (zJ M 121 i).toInt
theorem zF_sJ (M : ZM) (i : Nat) (v : Int64) : zF (zsJ M 121 i v) = zud (zF M) i v.toInt := funext fun j => by
  unfold zF zud
  rw [zJ_sJ]
  by_cases h : j = i
  · rw [if_pos ⟨rfl, h⟩, if_pos h]
  · rw [if_neg (fun q => h q.2), if_neg h]
/-- only the tree has changed, below e -/
def zHS (e : Nat) (M M' : ZM) : Prop := zR M' = zR M ∧ zI M' = zI M ∧ zD M' = zD M ∧ (∀ a i, a ≠ 121 → zJ M' a i = zJ M a i) ∧ ∀ i, e ≤ i → zJ M' 121 i = zJ M 121 i
theorem zHS_refl (e : Nat) (M : ZM) : zHS e M M := ⟨rfl, rfl, rfl, fun _ _ _ => rfl, fun _ _ => rfl⟩
theorem zHS_trans {e : Nat} {M M1 M2 : ZM} (h1 : zHS e M M1) (h2 : zHS e M1 M2) : zHS e M M2 := ⟨h2.1.trans h1.1, h2.2.1.trans h1.2.1, h2.2.2.1.trans h1.2.2.1, fun a i h => (h2.2.2.2.1 a i h).trans (h1.2.2.2.1 a i h), fun i h => (h2.2.2.2.2 i h).trans (h1.2.2.2.2 i h)⟩
theorem zHS_mono {e e' : Nat} (h : e ≤ e') {M M' : ZM} (g : zHS e M M') : zHS e' M M' := ⟨g.1, g.2.1, g.2.2.1, g.2.2.2.1, fun i hi => g.2.2.2.2 i (by omega)⟩
theorem zHS_set {e i : Nat} (h : i < e) (M : ZM) (v : Int64) : zHS e M (zsJ M 121 i v) := ⟨rfl, rfl, rfl, fun a j ha => by rw [zJ_sJ, if_neg (fun q => ha q.1)], fun j hj => by rw [zJ_sJ, if_neg (by omega)]⟩
theorem zHS_F {e : Nat} {M M' : ZM} (g : zHS e M M') {i : Nat} (h : e ≤ i) : zF M' i = zF M i := by unfold zF; rw [g.2.2.2.2 i h]
section QS
variable {N k kk e c : Nat} {sw : Bool}
theorem q_sink13 (he : e ≤ 16807) (it : Int64) : ∀ (d f t : Nat) (M : ZM), e ≤ t + d → d < f → t < e → kk ≤ t → zRf sw k (zR M) →
    (∀ i c, kk ≤ i → i ≠ t → zcd i c → c < e → zud (zF M) t it.toInt c ≤ zud (zF M) t it.toInt i) →
    (∀ i c, kk ≤ i → zcd i t → zcd t c → c < e → zud (zF M) t it.toInt c ≤ zud (zF M) t it.toInt i) →
    ∃ M', f_X7_sinks_13 N (zKs k) (zln k) f 112 (nI e) (nI t) it 0 M = some M' ∧ zHS e M M' ∧ zhp (zF M') kk e ∧ ∀ p c, e ≤ c → zcq p (zF M') c = zcq p (zud (zF M) t it.toInt) c
  | d, 0, t, M, _, hf, _, _, _, _, _ => absurd hf (Nat.not_lt_zero d)
  | d, f + 1, t, M, hd, hf, ht, hk, hR, H1, H2 => by
    have e1 : (2 : Int32) * nI t + 1 = nI (2 * t + 1) := by rw [show (2 : Int32) = nI 2 from rfl, nI_mul]; exact nI_1 _
    have e2 : nI (2 * t + 1) + 1 = nI (2 * t + 2) := nI_1 _
    have fin : f_X7_sinks_117 N (zKs k) (zln k) 112 (nI t) it M = some (zsJ M 121 t it) := by
      unfold f_X7_sinks_117
      rw [zgK (k112 k), zbindS (hR.at 112 12 121 (zrm 30 rfl)), zgok (k121 k) (l121 k) (show t < 16807 by omega) (by decide), zlS, nI_clamp (by omega)]
    have done : (∀ c, zcd t c → c < e → zF M c ≤ it.toInt) → zHS e M (zsJ M 121 t it) ∧ zhp (zF (zsJ M 121 t it)) kk e ∧ ∀ p c, e ≤ c → zcq p (zF (zsJ M 121 t it)) c = zcq p (zud (zF M) t it.toInt) c := by
      intro hbig
      rw [zF_sJ]
      refine ⟨zHS_set ht M it, fun i c hi hcd hc => ?_, fun _ _ _ => rfl⟩
      by_cases q : i = t
      · subst q
        rw [show zud (zF M) i it.toInt i = it.toInt from if_pos rfl, show zud (zF M) i it.toInt c = zF M c from if_neg (by unfold zcd at hcd; omega)]
        exact hbig c hcd hc
      · exact H1 i c hi q hcd hc
    by_cases c1 : e ≤ 2 * t + 1
    · obtain ⟨g1, g2, g3⟩ := done (fun c hcd hc => by unfold zcd at hcd; omega)
      refine ⟨_, ?_, g1, g2, g3⟩
      rw [f_X7_sinks_13, if_pos rfl, e1, if_pos (nI_le c1 (by omega))]
      exact fin
    · have hch : ∃ ch, zcd t ch ∧ ch < e ∧ (∀ c, zcd t c → c < e → zF M c ≤ zF M ch) ∧ f_X7_sinks_13 N (zKs k) (zln k) (f + 1) 112 (nI e) (nI t) it 0 M = f_X7_sinks_71 N (zKs k) (zln k) (fun y0 y2 y3 y4 y6 M => f_X7_sinks_13 N (zKs k) (zln k) f y0 y2 y3 y4 y6 M) 112 (nI e) (nI t) it (nI ch) M := by
        by_cases c2 : e ≤ 2 * t + 2
        · refine ⟨2 * t + 1, Or.inl rfl, by omega, fun c hcd hc => ?_, ?_⟩
          · rw [show c = 2 * t + 1 by unfold zcd at hcd; omega]; exact Int.le_refl _
          · rw [f_X7_sinks_13, if_pos rfl, e1, if_neg (nI_ge (by omega) (by omega)), e2, if_pos (nI_le c2 (by omega))]
            exact rfl
        · by_cases c3 : zJ M 121 (2 * t + 2) ≤ zJ M 121 (2 * t + 1)
          · refine ⟨2 * t + 1, Or.inl rfl, by omega, fun c hcd hc => ?_, ?_⟩
            · rcases hcd with q | q
              · rw [q]; exact Int.le_refl _
              · rw [q]; exact Int64.le_iff_toInt_le.mp c3
            · rw [f_X7_sinks_13, if_pos rfl, e1, if_neg (nI_ge (by omega) (by omega)), e2, if_neg (nI_ge (by omega) (by omega)), zgK (k112 k), zbindS (hR.at 112 12 121 (zrm 30 rfl)), zgok (k121 k) (l121 k) (show 2 * t + 2 < 16807 by omega) (by decide), zgok (k121 k) (l121 k) (show 2 * t + 1 < 16807 by omega) (by decide), nI_clamp (show 2 * t + 2 < 2 ^ 31 by omega), nI_clamp (show 2 * t + 1 < 2 ^ 31 by omega), if_pos c3]
              exact rfl
          · refine ⟨2 * t + 2, Or.inr rfl, by omega, fun c hcd hc => ?_, ?_⟩
            · rcases hcd with q | q
              · rw [q]
                have : ¬ zF M (2 * t + 2) ≤ zF M (2 * t + 1) := fun z => c3 (Int64.le_iff_toInt_le.mpr z)
                omega
              · rw [q]; exact Int.le_refl _
            · rw [f_X7_sinks_13, if_pos rfl, e1, if_neg (nI_ge (by omega) (by omega)), e2, if_neg (nI_ge (by omega) (by omega)), zgK (k112 k), zbindS (hR.at 112 12 121 (zrm 30 rfl)), zgok (k121 k) (l121 k) (show 2 * t + 2 < 16807 by omega) (by decide), zgok (k121 k) (l121 k) (show 2 * t + 1 < 16807 by omega) (by decide), nI_clamp (show 2 * t + 2 < 2 ^ 31 by omega), nI_clamp (show 2 * t + 1 < 2 ^ 31 by omega), if_neg c3]
      obtain ⟨ch, hcd, hce, hbig, hst⟩ := hch
      have hne : ch ≠ t := by unfold zcd at hcd; omega
      rw [hst]
      unfold f_X7_sinks_71
      rw [zgK (k112 k), zbindS (hR.at 112 12 121 (zrm 30 rfl)), zgok (k121 k) (l121 k) (show ch < 16807 by omega) (by decide), nI_clamp (show ch < 2 ^ 31 by omega)]
      by_cases c4 : it < zJ M 121 ch
      · have hF1 : zF (zsJ M 121 t (zJ M 121 ch)) = zud (zF M) t (zF M ch) := zF_sJ M t (zJ M 121 ch)
        obtain ⟨s1, s2⟩ := zhole_step (f := zF M) (it := it.toInt) hk hcd hce hbig (Int64.lt_iff_toInt_lt.mp c4) H1 H2
        obtain ⟨M', eM, g1, g2, g3⟩ := q_sink13 he it (d - 1) f ch (zsJ M 121 t (zJ M 121 ch)) (by unfold zcd at hcd; omega) (by omega) hce (by unfold zcd at hcd; omega) hR (by rw [hF1]; exact s1) (by rw [hF1]; exact s2)
        refine ⟨M', ?_, zHS_trans (zHS_set ht M _) g1, g2, fun p c hc => (g3 p c hc).trans (by rw [hF1]; exact zhole_cnt hne (by omega) (by omega))⟩
        rw [if_pos c4]
        unfold f_X7_sinks_91
        rw [if_pos rfl, zgK (k112 k), zbindS (hR.at 112 12 121 (zrm 30 rfl)), zgok (k121 k) (l121 k) (show ch < 16807 by omega) (by decide), zgok (k121 k) (l121 k) (show t < 16807 by omega) (by decide), zlS, nI_clamp (show ch < 2 ^ 31 by omega), nI_clamp (show t < 2 ^ 31 by omega)]
        exact eM
      · obtain ⟨g1, g2, g3⟩ := done (fun c h1 h2 => by
          have q1 := hbig c h1 h2
          have q2 : ¬ it.toInt < zF M ch := fun z => c4 (Int64.lt_iff_toInt_lt.mpr z)
          omega)
        obtain ⟨f', rfl⟩ : ∃ f', f = f' + 1 := ⟨f - 1, by omega⟩
        refine ⟨_, ?_, g1, g2, g3⟩
        rw [if_neg c4]
        unfold f_X7_sinks_91
        rw [if_neg one_ne0]
        show f_X7_sinks_13 N (zKs k) (zln k) (f' + 1) 112 (nI e) (nI t) it 1 M = _
        rw [f_X7_sinks_13, if_neg one_ne0]
        exact fin
theorem q_sinks {M : ZM} (hN : 10000000 ≤ N) (he : e ≤ 16807) {t : Nat} (ht : t < e) (hR : zRf sw k (zR M)) (hp : zhp (zF M) (t + 1) e) : ∃ M', f_X7_sinks N (zKs k) (zln k) 112 (nI t) (nI e) M = some M' ∧ zHS e M M' ∧ zhp (zF M') t e ∧ ∀ p c, e ≤ c → zcq p (zF M') c = zcq p (zF M) c := by
  have hid : zud (zF M) t (zJ M 121 t).toInt = zF M := funext fun j => by
    unfold zud
    by_cases q : j = t
    · rw [if_pos q, q]; rfl
    · rw [if_neg q]
  obtain ⟨M', e1, g1, g2, g3⟩ := q_sink13 (N := N) (kk := t) he (zJ M 121 t) e N t M (by omega) (by omega) ht (Nat.le_refl _) hR (by rw [hid]; exact fun i c h1 h2 => hp i c (by omega)) (fun i c h1 h2 => by unfold zcd at h2; omega)
  rw [hid] at g3
  refine ⟨M', ?_, g1, g2, g3⟩
  unfold f_X7_sinks f_X7_sinks_0
  rw [zgK (k112 k), zbindS (hR.at 112 12 121 (zrm 30 rfl)), zgok (k121 k) (l121 k) (show t < 16807 by omega) (by decide), nI_clamp (show t < 2 ^ 31 by omega)]
  exact e1
theorem q_heapify (hN : 10000000 ≤ N) (hc : c ≤ 16807) : ∀ (q f : Nat) (M : ZM), q < f → q ≤ c → zRf sw k (zR M) → zI M 112 14 = nI c → zhp (zF M) q c → ∃ M', f_X7_lists_45 N (zKs k) (zln k) f 112 (nI q + (-1)) M = f_X7_lists_74 N (zKs k) (zln k) N 112 (zI M' 112 14 - 1) M' ∧ zHS c M M' ∧ zhp (zF M') 0 c ∧ ∀ p, zcq p (zF M') c = zcq p (zF M) c
  | q, 0, M, hf, _, _, _, _ => absurd hf (Nat.not_lt_zero q)
  | 0, f + 1, M, hf, hq, hR, hm, hp => by
    refine ⟨M, ?_, zHS_refl c M, hp, fun _ => rfl⟩
    rw [f_X7_lists_45, if_pos (show nI 0 + (-1) < 0 by decide +kernel), zgK (k112 k)]
  | q + 1, f + 1, M, hf, hq, hR, hm, hp => by
    obtain ⟨M1, e1, g1, g2, g3⟩ := q_sinks (t := q) hN hc (by omega) hR hp
    obtain ⟨M2, e2, r1, r2, r3⟩ := q_heapify hN hc q f M1 (by omega) (by omega) (by rw [g1.1]; exact hR) (by rw [g1.2.1]; exact hm) g2
    refine ⟨M2, ?_, zHS_trans g1 r1, r2, fun p => (r3 p).trans (g3 p c (Nat.le_refl c))⟩
    rw [f_X7_lists_45, nI_dec q (q + 1) rfl, if_neg (nI_pos (by omega)), zgK (k112 k), hm, zbindS e1]
    exact e2
theorem q_extract (hN : 10000000 ≤ N) (hc : c ≤ 16807) : ∀ (x f : Nat) (M : ZM), x < f → x < c → zRf sw k (zR M) → zhp (zF M) 0 (x + 1) → (∀ j i, j < i → x + 1 ≤ i → i < c → zF M j ≤ zF M i) → ∃ M', f_X7_lists_74 N (zKs k) (zln k) f 112 (nI x) M = some M' ∧ zHS c M M' ∧ (∀ j i, j < i → i < c → zF M' j ≤ zF M' i) ∧ ∀ p, zcq p (zF M') c = zcq p (zF M) c
  | x, 0, M, hf, _, _, _, _ => absurd hf (Nat.not_lt_zero x)
  | 0, f + 1, M, hf, hx, hR, hp, hT => by
    refine ⟨M, ?_, zHS_refl c M, fun j i h1 h2 => hT j i h1 (by omega) h2, fun _ => rfl⟩
    rw [f_X7_lists_74, if_pos (show nI 0 ≤ 0 by decide +kernel)]
  | x + 1, f + 1, M, hf, hx, hR, hp, hT => by
    obtain ⟨M1, eM1⟩ : ∃ M1, M1 = zsJ (zsJ M 121 (x + 1) (zJ M 121 0)) 121 0 (zJ M 121 (x + 1)) := ⟨_, rfl⟩
    have hF1 : zF M1 = zud (zud (zF M) (x + 1) (zF M 0)) 0 (zF M (x + 1)) := by rw [eM1, zF_sJ, zF_sJ]; rfl
    have hS1 : zHS c M M1 := by rw [eM1]; exact zHS_trans (zHS_set hx M _) (zHS_set (by omega) _ _)
    have f0 : zF M1 0 = zF M (x + 1) := by rw [hF1]; rfl
    have fx : zF M1 (x + 1) = zF M 0 := by
      rw [hF1]
      unfold zud
      rw [if_neg (by omega), if_pos rfl]
    have fo : ∀ i, i ≠ 0 → i ≠ x + 1 → zF M1 i = zF M i := fun i h1 h2 => by
      rw [hF1]
      unfold zud
      rw [if_neg h1, if_neg h2]
    have hR1 : zRf sw k (zR M1) := by rw [hS1.1]; exact hR
    obtain ⟨M2, e2, g1, g2, g3⟩ := q_sinks (t := 0) (e := x + 1) hN (by omega) (by omega) hR1 (fun i c' hi hcd hcl => by
      rw [fo i (by omega) (by unfold zcd at hcd; omega), fo c' (by unfold zcd at hcd; omega) (by omega)]
      exact hp i c' (by omega) hcd (by omega))
    have hmax := fun j hj => zhp_max hp j hj
    have f2 : ∀ i, x + 1 ≤ i → zF M2 i = zF M1 i := fun i hi => zHS_F g1 hi
    have hT2 : ∀ j i, j < i → x + 1 ≤ i → i < c → zF M2 j ≤ zF M2 i := by
      intro j i hj hi hic
      have hB : ∀ j, j < x + 1 → zF M1 j ≤ zF M1 i := by
        intro j hj
        by_cases q1 : i = x + 1
        · rw [q1, fx]
          by_cases q2 : j = 0
          · rw [q2, f0]; exact hmax (x + 1) (by omega)
          · rw [fo j q2 (by omega)]; exact hmax j (by omega)
        · rw [fo i (by omega) q1]
          by_cases q2 : j = 0
          · rw [q2, f0]; exact hT (x + 1) i (by omega) (by omega) hic
          · rw [fo j q2 (by omega)]; exact hT j i (by omega) (by omega) hic
      rw [f2 i hi]
      by_cases q0 : j < x + 1
      · have z0 : zcq (fun y => decide (zF M1 i < y)) (zF M2) (x + 1) = 0 := by
          rw [g3 _ (x + 1) (Nat.le_refl _)]
          exact zcq_0 _ (fun j hj => decide_eq_false (by have := hB j hj; omega))
        have := of_decide_eq_false (zcq_0' (x + 1) z0 j q0)
        omega
      · rw [f2 j (by omega)]
        by_cases q1 : j = x + 1
        · rw [q1, fx, fo i (by omega) (by omega)]
          exact hT 0 i (by omega) (by omega) hic
        · rw [fo j (by omega) q1, fo i (by omega) (by omega)]
          exact hT j i hj (by omega) hic
    obtain ⟨M3, e3, r1, r2, r3⟩ := q_extract hN hc x f M2 (by omega) (by omega) (by rw [g1.1]; exact hR1) g2 hT2
    refine ⟨M3, ?_, zHS_trans (zHS_trans hS1 (zHS_mono (by omega) g1)) r1, r2, fun p => (r3 p).trans ((g3 p c (by omega)).trans (by rw [hF1]; exact zswap_cnt (by omega) hx (by omega)))⟩
    rw [f_X7_lists_74, if_neg (nI_nle (by omega) (by omega)), zgK (k112 k), zbindS (hR.at 112 12 121 (zrm 30 rfl)), zgok (k121 k) (l121 k) (show x + 1 < 16807 by omega) (by decide), zgokL (i := 0) (n := 0) rfl (k121 k) (l121 k) (by decide) (by decide), zlS, nI_clamp (show x + 1 < 2 ^ 31 by omega), zcl0, zR_sJ, zbindS (hR.at 112 12 121 (zrm 30 rfl)), zgokL (i := 0) (n := 0) rfl (k121 k) (l121 k) (by decide) (by decide), zlS, show (0 : Int32) = nI 0 from rfl, ← eM1, zbindS e2, nI_dec x (x + 1) rfl]
    exact e3
end QS
