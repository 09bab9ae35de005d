/-! ALL KEYS OF A SENTENCE. -/
theorem zSen_congr {s n : Nat} {kd : Nat → Nat} {mk : Nat → Nat → Int32} {I I' : Nat → Nat → Int32} (e : ∀ a j, 112 ≤ a → I' a j = I a j) (h : zSen s n kd mk I) : zSen s n kd mk I' := by
  obtain ⟨h6, h1, k0, k1, h2, h3, h4⟩ := h
  exact ⟨h6, by rw [e _ _ (by omega)]; exact h1, k0, k1, fun w hw => by rw [e _ _ (by omega)]; exact h2 w hw, fun h w hh hw => by rw [e _ _ (by omega)]; exact h3 h w hh hw, h4⟩
theorem zWts_congr {wt : Nat → Int} {I I' : Nat → Nat → Int32} (e : ∀ j, I' 3 j = I 3 j) (h : zWts wt I) : zWts wt I' := fun f hf => by rw [e f]; exact h f hf
section SF2
variable {N k s n : Nat} {sw : Bool} {kd : Nat → Nat} {mk : Nat → Nat → Int32} {wt : Nat → Int}
theorem s_fill15 (hN : 10000000 ≤ N) {I : Nat → Nat → Int32} {R : Nat → Nat → Option Nat} (hR : zRf sw k R) (hk : s < k) (hS : zSen s n kd mk I) (hW : zWts wt I) (hI48 : I 48 1 = nI n) : ∀ (d f h : Nat) (M : ZM), h + d = n + 1 → d < f → zI M = I → zR M = R → ∃ M', f_X0_fill_15 N (zKs k) (zln k) f 48 (112 + 11 * s) 2 (nI h) M = some M' ∧ zI M' = I ∧ zR M' = R ∧ zD M' = zD M ∧ ∀ b j, zJ M' b j = if 50 + h ≤ b ∧ b ≤ 50 + n ∧ j ≤ n then zkk (zal mk n) (zsc wt kd) (b - 50) j else zJ M b j
  | d, 0, h, M, _, hf, _, _ => absurd hf (Nat.not_lt_zero d)
  | 0, f + 1, h, M, hd, _, eI, eR => by
    refine ⟨M, ?_, eI, eR, rfl, fun b j => by rw [if_neg (by omega)]⟩
    have h6 := hS.1
    unfold f_X0_fill_15
    rw [zgK (k48 k), eI, hI48, if_pos (nI_lt (by omega) (by omega))]
  | d + 1, f + 1, h, M, hd, hf, eI, eR => by
    have h6 := hS.1
    have hR' : zRf sw k (zR M) := by rw [eR]; exact hR
    obtain ⟨M1, e1, i1, r1, d1, j1⟩ := s_fill37 hN hR hk hS hW hI48 (show h ≤ n by omega) (fun y0 y1 y2 y3 M => f_X0_fill_15 N (zKs k) (zln k) f y0 y1 y2 y3 M) n N 1 (zsJ M (50 + h) 0 zNK) (by omega) (by omega) (by omega) eI eR
    obtain ⟨M2, e2, i2, r2, d2, j2⟩ := s_fill15 hN hR hk hS hW hI48 d f (h + 1) M1 (by omega) (by omega) i1 r1
    refine ⟨M2, ?_, i2, r2, by rw [d2, d1]; rfl, fun b j => ?_⟩
    · unfold f_X0_fill_15
      rw [zgK (k48 k), eI, hI48, if_neg (nI_nlt (by omega) (by omega)), zbindS (hR'.at 48 0 49 (zrm 11 rfl)), zgok (k49 k) (l49 k) (show h < 7 by omega) (by decide), nI_clamp (by omega), zbindS (hR'.row 49 7 50 (by simp [ztabs]) (show h < 7 by omega)), show (0 : Int32) = nI 0 from rfl, zgok (kr50 k (show h < 7 by omega)) (lr50 k (show h < 7 by omega)) (show 0 < 7 by omega) (by decide), zlS, nI_clamp (by decide)]
      exact e1.trans e2
    · rw [j2 b j, j1 b j, zJ_sJ]
      by_cases c1 : 50 + (h + 1) ≤ b ∧ b ≤ 50 + n ∧ j ≤ n
      · rw [if_pos c1, if_pos (by omega)]
      · rw [if_neg c1]
        by_cases c2 : b = 50 + h ∧ j ≤ n
        · rw [if_pos (show 50 + h ≤ b ∧ b ≤ 50 + n ∧ j ≤ n by omega), show b - 50 = h by omega]
          by_cases c3 : 1 ≤ j
          · rw [if_pos (by omega)]
          · rw [if_neg (by omega), if_pos (by omega)]
            unfold zkk
            rw [if_neg (by omega)]
        · rw [if_neg (by omega), if_neg (by omega), if_neg (by omega)]
theorem s_fill (hN : 10000000 ≤ N) {M : ZM} (hR : zRf sw k (zR M)) (hk : s < k) (hS : zSen s n kd mk (zI M)) (hW : zWts wt (zI M)) : ∃ M', f_X0_fill N (zKs k) (zln k) 48 (112 + 11 * s) 2 M = some M' ∧ zI M' = zI (zsI M 48 1 (nI n)) ∧ zR M' = zR M ∧ zD M' = zD M ∧ ∀ b j, zJ M' b j = if 50 ≤ b ∧ b ≤ 50 + n ∧ j ≤ n then zkk (zal mk n) (zsc wt kd) (b - 50) j else zJ M b j := by
  have h6 := hS.1
  obtain ⟨M', e, i, r, d, j⟩ := s_fill15 (I := zI (zsI M 48 1 (nI n))) (R := zR M) hN hR hk (zSen_congr (fun a j ha => by rw [zI_sI, if_neg (by omega)]) hS) (zWts_congr (fun j => by rw [zI_sI, if_neg (by omega)]) hW) (by rw [zI_sI, if_pos ⟨rfl, rfl⟩]) (n + 1) N 0 (zsI M 48 1 (nI n)) (by omega) (by omega) rfl rfl
  refine ⟨M', ?_, i, r, d, j⟩
  unfold f_X0_fill f_X0_fill_0
  rw [zbindS (s_size hk hS.2.1), zgK (ks0 hk), zgK (k48 k), zlS, if_neg (show ¬ (6 : Int32) < nI n from nI_nlt (a := 6) (b := n) h6 (by omega))]
  exact e
theorem s_asize {M : ZM} : f_X0_size N (zKs k) (zln k) 48 M = some (zI M 48 1) := by
  unfold f_X0_size f_X0_size_0
  rw [zgK (k48 k)]
theorem s_aget {M : ZM} (hR : zRf sw k (zR M)) {h w : Nat} (hh : h < 7) (hw : w < 7) : f_X0_get N (zKs k) (zln k) 48 (nI h) (nI w) M = some (zJ M (50 + h) w) := by
  unfold f_X0_get f_X0_get_0
  rw [zbindS (s_isPlace N hh), if_neg one_ne0, zbindS (s_isPlace N hw), if_neg one_ne0, zgK (k48 k), zbindS (hR.at 48 0 49 (zrm 11 rfl)), zgok (k49 k) (l49 k) hh (by decide), nI_clamp (by omega), zbindS (hR.row 49 7 50 (by simp [ztabs]) hh), zgok (kr50 k hh) (lr50 k hh) hw (by decide), nI_clamp (by omega)]
end SF2
