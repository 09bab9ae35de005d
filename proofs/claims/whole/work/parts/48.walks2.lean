/-! WALKS: the loop. -/
section QW
variable {N k s n : Nat} {sw : Bool} {kd : Nat → Nat} {mk : Nat → Nat → Int32} {wt : Nat → Int} {cr isL : Bool}
def zkm (wt : Nat → Int) (kd : Nat → Nat) (v : List Nat) : Int64 := lI (zkM (zsum (zsc wt kd) 1 v) v)
theorem zSenM_congr {I I' : Nat → Nat → Int32} (e : ∀ a j, a = 113 ∨ a = 114 ∨ a = 115 → I' a j = I a j) (h : zSenM s n kd mk I) : zSenM s n kd mk I' := by
  obtain ⟨h6, h1, k0, k1, h2, h3⟩ := h
  exact ⟨h6, by rw [e _ _ (by omega)]; exact h1, k0, k1, fun w q hw => by rw [e _ _ (by omega)]; exact h2 w q hw, fun h w hh hw => by rw [e _ _ (by omega)]; exact h3 h w hh hw⟩
theorem zWtsM_congr {I I' : Nat → Nat → Int32} (e : ∀ j, I' 117 j = I 117 j) (h : zWtsM wt I) : zWtsM wt I' := fun f hf => by rw [e f]; exact h f hf
/-- a whole tree: its key is noted -/
theorem q_leaf (hN : 10000000 ≤ N) {M : ZM} (hR : zRf sw k (zR M)) (hs : s < 5) (hS : zSenM s n kd mk (zI M)) (hW : zWtsM wt (zI M)) (hsc : ∀ h w, h ≤ n → 1 ≤ w → w ≤ n → -8000 ≤ zsc wt kd h w ∧ zsc wt kd h w ≤ 8000) {v : List Nat} (hl : v.length = n) (hv : ∀ x ∈ v, x ≤ n) (hH : zHd v (zI M) 125) {c : Nat} (hc : zI M 112 14 = nI c) (hcap : c < 16807) (x5 : Int32) (b : Int64) : ∃ M', (∀ f, f_X7_walks_43 N (zKs k) (zln k) (f + 1) 112 (nI s) (bif cr then 1 else 0) (bif isL then 1 else 0) (nI n) x5 b (nI (n + 1)) M = f_X7_walks_43 N (zKs k) (zln k) f 112 (nI s) (bif cr then 1 else 0) (bif isL then 1 else 0) (nI n) x5 (zbst (zkm wt kd) b [v]) (nI n) M') ∧ zWK (zkm wt kd) isL n [v] c M M' := by
  have h6 := hS.1
  have hkey := q_keyOf hN hR hs hS hW hsc hl hv hH
  have step94 : ∀ (f : Nat) (b : Int64) (M1 : ZM), zI M1 = zI M → f_X7_walks_94 N (zKs k) (zln k) (fun y0 y1 y2 y3 y4 y5 y6 y8 M => f_X7_walks_43 N (zKs k) (zln k) f y0 y1 y2 y3 y4 y5 y6 y8 M) 112 (nI s) (bif cr then 1 else 0) (bif isL then 1 else 0) (nI n) x5 b (nI (n + 1)) M1 = f_X7_walks_43 N (zKs k) (zln k) f 112 (nI s) (bif cr then 1 else 0) (bif isL then 1 else 0) (nI n) x5 b (nI n) (zsI M1 112 14 (nI (c + 1))) := by
    intro f b M1 e
    unfold f_X7_walks_94
    rw [zgK (k112 k), zlS, e, hc, show nI c + 1 = nI (c + 1) from nI_1 c, nI_dec n (n + 1) rfl]
  have e77 : ∀ b' : Int64, ∃ M', (∀ f, f_X7_walks_77 N (zKs k) (zln k) (fun y0 y1 y2 y3 y4 y5 y6 y8 M => f_X7_walks_43 N (zKs k) (zln k) f y0 y1 y2 y3 y4 y5 y6 y8 M) 112 (nI s) (bif cr then 1 else 0) (bif isL then 1 else 0) (nI n) x5 (nI (n + 1)) (zkm wt kd v) b' M = f_X7_walks_43 N (zKs k) (zln k) f 112 (nI s) (bif cr then 1 else 0) (bif isL then 1 else 0) (nI n) x5 b' (nI n) M') ∧ zWK (zkm wt kd) isL n [v] c M M' := by
    intro b'
    cases isL with
    | false =>
      refine ⟨zsI M 112 14 (nI (c + 1)), fun f => ?_, rfl, rfl, fun a i h h' => by rw [zI_sI, if_neg h'], fun i h h' => by rw [zI_sI, if_neg (by omega)], by rw [zI_sI, if_pos ⟨rfl, rfl⟩]; rfl, fun _ _ _ => rfl, fun _ _ => rfl, fun h => by cases h⟩
      unfold f_X7_walks_77
      rw [cond_false, if_pos rfl]
      exact step94 f b' M rfl
    | true =>
      refine ⟨zsI (zsJ M 121 c (zkm wt kd v)) 112 14 (nI (c + 1)), fun f => ?_, rfl, rfl, fun a i h h' => by rw [zI_sI, if_neg h', zI_sJ], fun i h h' => by rw [zI_sI, if_neg (by omega), zI_sJ], by rw [zI_sI, if_pos ⟨rfl, rfl⟩]; rfl, fun a i h => ?_, fun i h => ?_, fun _ i hi => ?_⟩
      · unfold f_X7_walks_77
        rw [cond_true, if_neg one_ne0, zgK (k112 k), zbindS (hR.at 112 12 121 (zrm 30 rfl)), hc, zgok (k121 k) (l121 k) hcap (by decide), zlS, nI_clamp (by omega)]
        exact step94 f b' (zsJ M 121 c (zkm wt kd v)) rfl
      · rw [zJ_sI, zJ_sJ, if_neg (fun q => h.elim (fun h => h q.1) (fun h => by cases h))]
      · rw [zJ_sI, zJ_sJ, if_neg (by omega)]
      · have hi0 : i = 0 := by have : i < 1 := hi; omega
        subst hi0
        rw [zJ_sI, zJ_sJ, if_pos ⟨rfl, rfl⟩]; rfl
  by_cases hb : b ≤ zkm wt kd v
  · obtain ⟨M', e, g⟩ := e77 b
    refine ⟨M', fun f => ?_, g⟩
    rw [show zbst (zkm wt kd) b [v] = b from if_pos hb, ← e f]
    rw [f_X7_walks_43, if_neg (nI_nle (by omega) (by omega)), if_neg (nI_ge (by omega) (by omega)), zbindS hkey, zgK (k112 k)]
    exact if_pos hb
  · obtain ⟨M', e, g⟩ := e77 (zkm wt kd v)
    refine ⟨M', fun f => ?_, g⟩
    rw [show zbst (zkm wt kd) b [v] = zkm wt kd v from if_neg hb, ← e f]
    rw [f_X7_walks_43, if_neg (nI_nle (by omega) (by omega)), if_neg (nI_ge (by omega) (by omega)), zbindS hkey, zgK (k112 k)]
    exact if_neg hb
end QW
