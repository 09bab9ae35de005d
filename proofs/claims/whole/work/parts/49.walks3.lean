/-! WALKS: all levels. -/
section QX
variable {N k s n : Nat} {sw : Bool} {kd : Nat → Nat} {mk : Nat → Nat → Int32} {wt : Nat → Int} {cr isL : Bool}
theorem zWK_inv {key : List Nat → Int64} {L c : Nat} {l : List (List Nat)} {M M' : ZM} (g : zWK key isL L l c M M') (hR : zRf sw k (zR M)) (hS : zSenM s n kd mk (zI M)) (hW : zWtsM wt (zI M)) : zRf sw k (zR M') ∧ zSenM s n kd mk (zI M') ∧ zWtsM wt (zI M') :=
  ⟨by rw [g.1]; exact hR, zSenM_congr (fun a j ha => g.2.2.1 a j (by omega) (by omega)) hS, zWtsM_congr (fun j => g.2.2.1 117 j (by omega) (by omega)) hW⟩
theorem q_walk (hN : 10000000 ≤ N) (hs : s < 5) (hsc : ∀ h w, h ≤ n → 1 ≤ w → w ≤ n → -8000 ≤ zsc wt kd h w ∧ zsc wt kd h w ≤ 8000) (x5 : Int32) : ∀ (m : Nat) (v : List Nat) (c : Nat) (b : Int64) (M : ZM), v.length + m = n → (∀ x ∈ v, x ≤ n) → zrk v → zRf sw k (zR M) → zSenM s n kd mk (zI M) → zWtsM wt (zI M) → zHd v (zI M) 125 → zI M 112 14 = nI c → c + (zt n (zokf (zal mk n) cr) m v).length ≤ 16807 → (1 ≤ m → zI M 125 (v.length + 1) + 1 = nI 0) → ∃ (M' : ZM) (used : Nat), used ≤ zcost n m ∧ (∀ f, f_X7_walks_43 N (zKs k) (zln k) (f + used) 112 (nI s) (bif cr then 1 else 0) (bif isL then 1 else 0) (nI n) x5 b (nI (v.length + 1)) M = f_X7_walks_43 N (zKs k) (zln k) f 112 (nI s) (bif cr then 1 else 0) (bif isL then 1 else 0) (nI n) x5 (zbst (zkm wt kd) b (zt n (zokf (zal mk n) cr) m v)) (nI v.length) M') ∧ zWK (zkm wt kd) isL v.length (zt n (zokf (zal mk n) cr) m v) c M M' := by
  intro m
  induction m with
  | zero =>
    intro v c b M hl hv hrk hR hS hW hH hc hcap _
    have hl : v.length = n := hl
    have hcap : c + 1 ≤ 16807 := hcap
    obtain ⟨M', e, g⟩ := q_leaf (cr := cr) (isL := isL) hN hR hs hS hW hsc hl hv hH hc (by omega) x5 b
    rw [hl]
    exact ⟨M', 1, Nat.le_refl 1, e, g⟩
  | succ m ih =>
    intro v c b M hl hv hrk hR hS hW hH hc hcap hd
    have h6 := hS.1
    have key : ∀ (q h : Nat) (c : Nat) (b : Int64) (M : ZM), h + q = n + 1 → zRf sw k (zR M) → zSenM s n kd mk (zI M) → zWtsM wt (zI M) → zHd v (zI M) 125 → zI M 112 14 = nI c → c + ((List.range' h q).flatMap fun h => if zokf (zal mk n) cr v h then zt n (zokf (zal mk n) cr) m (v ++ [h]) else []).length ≤ 16807 → zI M 125 (v.length + 1) + 1 = nI h →
        ∃ (M' : ZM) (used : Nat), used ≤ 1 + q * (1 + zcost n m) ∧ (∀ f, f_X7_walks_43 N (zKs k) (zln k) (f + used) 112 (nI s) (bif cr then 1 else 0) (bif isL then 1 else 0) (nI n) x5 b (nI (v.length + 1)) M = f_X7_walks_43 N (zKs k) (zln k) f 112 (nI s) (bif cr then 1 else 0) (bif isL then 1 else 0) (nI n) x5 (zbst (zkm wt kd) b ((List.range' h q).flatMap fun h => if zokf (zal mk n) cr v h then zt n (zokf (zal mk n) cr) m (v ++ [h]) else [])) (nI v.length) M') ∧ zWK (zkm wt kd) isL v.length ((List.range' h q).flatMap fun h => if zokf (zal mk n) cr v h then zt n (zokf (zal mk n) cr) m (v ++ [h]) else []) c M M' := by
      intro q
      induction q with
      | zero =>
        intro h c b M hq hR hS hW hH hc hcap hd
        refine ⟨zsI M 125 (v.length + 1) (nI h), 1, by omega, fun f => ?_, rfl, rfl, fun a i h1 h2 => by rw [zI_sI, if_neg (fun q => h1 q.1)], fun i h1 h2 => by rw [zI_sI, if_neg (by omega)], by rw [zI_sI, if_neg (by omega)]; exact hc, fun _ _ _ => rfl, fun _ _ => rfl, fun _ i hi => absurd hi (Nat.not_lt_zero i)⟩
        rw [f_X7_walks_43, if_neg (nI_nle (by omega) (by omega)), if_pos (nI_le (by omega) (by omega)), zgK (k112 k), zbindS (hR.at 112 18 125 (zrm 34 rfl)), zgok (k125 k) (l125 k) (show v.length + 1 < 7 by omega) (by decide), zlS, nI_clamp (by omega), hd, zbindS (show zR (zsI M 125 (v.length + 1) (nI h)) 112 18 = some 125 from hR.at 112 18 125 (zrm 34 rfl)), zgok (k125 k) (l125 k) (show v.length + 1 < 7 by omega) (by decide), show zI (zsI M 125 (v.length + 1) (nI h)) 125 (v.length + 1) = nI h from if_pos ⟨rfl, rfl⟩, if_neg (nI_ge (by omega) (by omega)), nI_dec v.length (v.length + 1) rfl]
        rfl
      | succ q ihq =>
        intro h c b M hq hR hS hW hH hc hcap hd
        rw [List.range'_succ, List.flatMap_cons] at hcap ⊢
        rw [List.length_append] at hcap
        have hR1 : zRf sw k (zR (zsI M 125 (v.length + 1) (nI h))) := hR
        have hS1 : zSenM s n kd mk (zI (zsI M 125 (v.length + 1) (nI h))) := zSenM_congr (fun a j ha => by rw [zI_sI, if_neg (by omega)]) hS
        have hW1 : zWtsM wt (zI (zsI M 125 (v.length + 1) (nI h))) := zWtsM_congr (fun j => by rw [zI_sI, if_neg (by omega)]) hW
        have hH1 : zHd v (zI (zsI M 125 (v.length + 1) (nI h))) 125 := fun i h1 h2 => by rw [zI_sI, if_neg (by omega)]; exact hH i h1 h2
        have hc1 : zI (zsI M 125 (v.length + 1) (nI h)) 112 14 = nI c := by rw [zI_sI, if_neg (by omega)]; exact hc
        have hhd : zI (zsI M 125 (v.length + 1) (nI h)) 125 (v.length + 1) = nI h := by rw [zI_sI, if_pos ⟨rfl, rfl⟩]
        have hmay := q_may hN hR1 hs hS1 (show v.length + 1 ≤ n by omega) hv hrk hH1 (show h ≤ n by omega) hhd cr
        have hmul : (q + 1) * (1 + zcost n m) = q * (1 + zcost n m) + (1 + zcost n m) := Nat.succ_mul _ _
        cases hok : zokf (zal mk n) cr v h with
        | false =>
          rw [hok, if_neg (by decide)] at hcap
          rw [if_neg (by decide), List.nil_append]
          obtain ⟨M', used, hu, e, g⟩ := ihq (h + 1) c b (zsI M 125 (v.length + 1) (nI h)) (by omega) hR1 hS1 hW1 hH1 hc1 (by simpa using hcap) (by rw [hhd]; exact nI_1 h)
          refine ⟨M', used + 1, by omega, fun f => ?_, ⟨g.1, g.2.1, fun a i h1 h2 => (g.2.2.1 a i h1 h2).trans (by rw [zI_sI, if_neg (fun q => h1 q.1)]), fun i h1 h2 => (g.2.2.2.1 i h1 h2).trans (by rw [zI_sI, if_neg (by omega)]), g.2.2.2.2.1, g.2.2.2.2.2.1, g.2.2.2.2.2.2.1, g.2.2.2.2.2.2.2⟩⟩
          rw [← e f, show f + (used + 1) = (f + used) + 1 by omega]
          rw [f_X7_walks_43, if_neg (nI_nle (by omega) (by omega)), if_pos (nI_le (by omega) (by omega)), zgK (k112 k), zbindS (hR.at 112 18 125 (zrm 34 rfl)), zgok (k125 k) (l125 k) (show v.length + 1 < 7 by omega) (by decide), zlS, nI_clamp (by omega), hd, zbindS (hR1.at 112 18 125 (zrm 34 rfl)), zgok (k125 k) (l125 k) (show v.length + 1 < 7 by omega) (by decide), hhd, if_pos (nI_le (by omega) (by omega)), zbindS hmay, hok, cond_false, if_pos rfl]
        | true =>
          rw [hok, if_pos rfl] at hcap
          rw [if_pos rfl]
          have hne : zch v 7 h ≠ v.length + 1 := by
            intro q1
            unfold zokf at hok
            rw [q1, beq_self_eq_true] at hok
            simp at hok
          obtain ⟨i0, hi0, hi1⟩ : ∃ i0 : Nat, i0 < 7 ∧ ((v.length + 2 ≤ 6 ∧ i0 = v.length + 2) ∨ (v.length + 2 = 7 ∧ i0 = 0)) := by
            rcases Nat.lt_or_ge (v.length + 2) 7 with q1 | q1
            · exact ⟨v.length + 2, q1, Or.inl ⟨by omega, rfl⟩⟩
            · exact ⟨0, by decide, Or.inr ⟨by omega, rfl⟩⟩
          have hla : (v ++ [h]).length = v.length + 1 := by simp
          obtain ⟨M2, e2⟩ : ∃ M2, M2 = zsI (zsI M 125 (v.length + 1) (nI h)) 125 i0 (-1) := ⟨_, rfl⟩
          have hI2 : ∀ a i, ¬ (a = 125 ∧ i = i0) → zI M2 a i = zI (zsI M 125 (v.length + 1) (nI h)) a i := fun a i q1 => by rw [e2, zI_sI, if_neg q1]
          have hR2 : zRf sw k (zR M2) := by rw [e2]; exact hR
          have hS2 : zSenM s n kd mk (zI M2) := zSenM_congr (fun a j ha => hI2 a j (by omega)) hS1
          have hW2 : zWtsM wt (zI M2) := zWtsM_congr (fun j => hI2 117 j (by omega)) hW1
          have hH2 : zHd (v ++ [h]) (zI M2) 125 := fun i h1 h2 => by
            rw [hla] at h2
            rw [hI2 125 i (by omega)]
            by_cases c1 : i = v.length + 1
            · rw [c1, hhd, zhd_last]
            · rw [zhd_app h1 (by omega)]; exact hH1 i h1 (by omega)
          obtain ⟨M3, u3, hu3, e3, g3⟩ := ih (v ++ [h]) c b M2 (by rw [hla]; omega) (fun x hx => by
              rcases List.mem_append.mp hx with q1 | q1
              · exact hv x q1
              · rw [List.mem_singleton.mp q1]; omega) (zrk_app (by omega) hrk hne) hR2 hS2 hW2 hH2 (by rw [hI2 112 14 (by omega)]; exact hc1) (by omega) (fun hm => by
              rw [hla, show v.length + 1 + 1 = i0 by omega, e2, zI_sI, if_pos ⟨rfl, rfl⟩]
              decide +kernel)
          rw [hla] at e3 g3
          have hh3 : zI M3 125 (v.length + 1) = nI h := (g3.2.2.2.1 (v.length + 1) (by omega) (by omega)).trans ((hI2 125 (v.length + 1) (by omega)).trans hhd)
          have g3 := zWK_heads (M := M) g3 (by rw [e2]; rfl) (by rw [e2]; rfl) (fun a i h1 => by rw [hI2 a i (fun q => h1 q.1), zI_sI, if_neg (fun q => h1 q.1)]) (fun i h1 h2 => by rw [hI2 125 i (by omega), zI_sI, if_neg (by omega)]) (by rw [e2]; rfl)
          have hi3 := zWK_inv g3 hR hS hW
          obtain ⟨M', used, hu, e, g⟩ := ihq (h + 1) (c + (zt n (zokf (zal mk n) cr) m (v ++ [h])).length) (zbst (zkm wt kd) b (zt n (zokf (zal mk n) cr) m (v ++ [h]))) M3 (by omega) hi3.1 hi3.2.1 hi3.2.2 (fun i h1 h2 => (g3.2.2.2.1 i h1 h2).trans (hH i h1 h2)) g3.2.2.2.2.1 (by omega) (by rw [hh3]; exact nI_1 h)
          refine ⟨M', used + u3 + 1, by omega, fun f => ?_, zWK_app g3 g⟩
          rw [zbst_app, ← e f, ← e3 (f + used), show f + (used + u3 + 1) = (f + used + u3) + 1 by omega]
          rw [f_X7_walks_43, if_neg (nI_nle (by omega) (by omega)), if_pos (nI_le (by omega) (by omega)), zgK (k112 k), zbindS (hR.at 112 18 125 (zrm 34 rfl)), zgok (k125 k) (l125 k) (show v.length + 1 < 7 by omega) (by decide), zlS, nI_clamp (by omega), hd, zbindS (hR1.at 112 18 125 (zrm 34 rfl)), zgok (k125 k) (l125 k) (show v.length + 1 < 7 by omega) (by decide), hhd, if_pos (nI_le (by omega) (by omega)), zbindS hmay, hok, cond_true, if_neg one_ne0, show nI (v.length + 1) + 1 = nI (v.length + 1 + 1) from nI_1 _]
          rcases hi1 with ⟨q1, q2⟩ | ⟨q1, q2⟩
          · rw [if_neg (show ¬ (7 : Int32) ≤ nI (v.length + 1 + 1) from nI_ge (b := 7) (by omega) (by omega))]
            unfold f_X7_walks_170
            rw [zgok (k125 k) (l125 k) (show v.length + 1 + 1 < 7 by omega) (by decide), zlS, nI_clamp (by omega), e2, q2]
          · rw [if_pos (show (7 : Int32) ≤ nI (v.length + 1 + 1) from nI_le (a := 7) (by omega) (by omega))]
            unfold f_X7_walks_170
            rw [show (0 : Int32) = nI 0 from rfl, zgok (k125 k) (l125 k) (show 0 < 7 by decide) (by decide), zlS, nI_clamp (by omega), e2, q2]
    obtain ⟨M', used, hu, e, g⟩ := key (n + 1) 0 c b M (by omega) hR hS hW hH hc hcap (hd (by omega))
    exact ⟨M', used, hu, e, g⟩
end QX
