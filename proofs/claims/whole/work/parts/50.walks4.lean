/-! WALKS AS A WHOLE; FINDS. -/
theorem zgokL {α : Type} {K len : Nat → Nat} {a t n m : Nat} {i : Int32} (hi : i = nI n) (hK : K a = t) (hl : len a = m) (h : n < m) (hm : m < 2147483648) (x : Option α) : zg (zok K len a t i) x = x := by
  subst hi
  exact zgok hK hl h hm x
theorem zcl0 : (0 : Int32).toNatClampNeg = 0 := by decide
theorem zcl1 : (1 : Int32).toNatClampNeg = 1 := by decide
def zwh (s : Nat) (cr : Bool) : Nat := 2 * s + (if cr then 1 else 0)
/-- what walks leaves -/
def zWS (s n : Nat) (kd : Nat → Nat) (mk : Nat → Nat → Int32) (wt : Nat → Int) (cr isL : Bool) (M M' : ZM) : Prop :=
  zR M' = zR M ∧ zD M' = zD M ∧ (∀ a i, a ≠ 125 → ¬ (a = 112 ∧ i = 14) → ¬ (a = 123 ∧ i = zwh s cr) → ¬ (a = 124 ∧ i = zwh s cr) → zI M' a i = zI M a i) ∧ zI M' 112 14 = nI (zT n (zal mk n) cr).length ∧ zI M' 123 (zwh s cr) = nI (zT n (zal mk n) cr).length ∧ zI M' 124 (zwh s cr) = 1 ∧ zJ M' 122 (zwh s cr) = zbst (zkm wt kd) (4611686018427387904 : Int64) (zT n (zal mk n) cr) ∧ (∀ a i, ¬ (a = 122 ∧ i = zwh s cr) → (a ≠ 121 ∨ isL = false) → zJ M' a i = zJ M a i) ∧ (isL = true → ∀ i, i < (zT n (zal mk n) cr).length → zJ M' 121 i = zkm wt kd ((zT n (zal mk n) cr).getD i []))
/-- what a sentence's cache says -/
def zFil (s n : Nat) (kd : Nat → Nat) (mk : Nat → Nat → Int32) (wt : Nat → Int) (cr : Bool) (M : ZM) : Prop :=
  zI M 124 (zwh s cr) = 1 ∧ zI M 123 (zwh s cr) = nI (zT n (zal mk n) cr).length ∧ zJ M 122 (zwh s cr) = zbst (zkm wt kd) (4611686018427387904 : Int64) (zT n (zal mk n) cr)
/-- what finds may change -/
def zFnd (s : Nat) (cr : Bool) (M M' : ZM) : Prop :=
  zR M' = zR M ∧ zD M' = zD M ∧ (∀ a i, a ≠ 125 → ¬ (a = 112 ∧ (i = 13 ∨ i = 14)) → ¬ (a = 123 ∧ i = zwh s cr) → ¬ (a = 124 ∧ i = zwh s cr) → zI M' a i = zI M a i) ∧ (∀ a i, ¬ (a = 122 ∧ i = zwh s cr) → zJ M' a i = zJ M a i) ∧ (zI M' 112 13 = -1 ∨ zI M' 112 13 = zI M 112 13)
section QF
variable {N k s n : Nat} {sw : Bool} {kd : Nat → Nat} {mk : Nat → Nat → Int32} {wt : Nat → Int} {M : ZM}
theorem zwh_lt (hs : s < 5) (cr : Bool) : zwh s cr < 10 := by
  unfold zwh
  cases cr
  · rw [if_neg (by decide)]; omega
  · rw [if_pos rfl]; omega
theorem zwh_I (s : Nat) (cr : Bool) : (2 : Int32) * nI s + (bif cr then 1 else 0) = nI (zwh s cr) := by
  rw [show (2 : Int32) = nI 2 from rfl, nI_mul]
  unfold zwh
  cases cr
  · rw [cond_false, if_neg (by decide), show (0 : Int32) = nI 0 from rfl, nI_add]
  · rw [cond_true, if_pos rfl, show (1 : Int32) = nI 1 from rfl, nI_add]
theorem zsc_bM (hS : zSenM s n kd mk (zI M)) (hW : zWtsM wt (zI M)) : ∀ h w, h ≤ n → 1 ≤ w → w ≤ n → -8000 ≤ zsc wt kd h w ∧ zsc wt kd h w ≤ 8000 := fun h w hh h1 hw => by
  have hb := q_bk_lt hS hh h1 hw
  have g1 := hW _ (show zbk kd h w < 28 by omega)
  have g2 := hW _ (zbd_lt (h := h) (w := w))
  unfold zsc
  omega
theorem q_walks (hN : 10000000 ≤ N) (hR : zRf sw k (zR M)) (hs : s < 5) (hS : zSenM s n kd mk (zI M)) (hW : zWtsM wt (zI M)) (cr isL : Bool) : ∃ M', f_X7_walks N (zKs k) (zln k) 112 (nI s) (bif cr then 1 else 0) (bif isL then 1 else 0) M = some M' ∧ zWS s n kd mk wt cr isL M M' := by
  have h6 := hS.1
  have hsc := zsc_bM hS hW
  have hcap : (zT n (zal mk n) cr).length ≤ 16807 := zT_len h6 (fun h w q => (zal_iff.mp q).1) cr
  have hwh := zwh_lt hs cr
  obtain ⟨M7, e7⟩ : ∃ M7, M7 = zsI (zsI M 112 14 0) 125 1 (-1) := ⟨_, rfl⟩
  have hI7 : ∀ a i, a ≠ 125 → ¬ (a = 112 ∧ i = 14) → zI M7 a i = zI M a i := fun a i h1 h2 => by rw [e7, zI_sI, if_neg (fun q => h1 q.1), zI_sI, if_neg h2]
  have hR7 : zRf sw k (zR M7) := by rw [e7]; exact hR
  have hS7 : zSenM s n kd mk (zI M7) := zSenM_congr (fun a j ha => hI7 a j (by omega) (by omega)) hS
  have hW7 : zWtsM wt (zI M7) := zWtsM_congr (fun j => hI7 117 j (by omega) (by omega)) hW
  obtain ⟨M8, used, hu, e8, g⟩ := q_walk (cr := cr) (isL := isL) hN hs hsc (nI (zwh s cr)) n [] 0 (4611686018427387904 : Int64) M7 (by simp) (fun x hx => by cases hx) zrk_nil hR7 hS7 hW7 (fun i h1 h2 => by simp at h2; omega) (by rw [e7, zI_sI, if_neg (by omega), zI_sI, if_pos ⟨rfl, rfl⟩]; rfl) (by rw [Nat.zero_add]; exact hcap) (fun _ => by
    show zI M7 125 1 + 1 = nI 0
    rw [e7, zI_sI, if_pos ⟨rfl, rfl⟩]
    decide +kernel)
  have hcost := zcost_le h6
  obtain ⟨f, ef⟩ : ∃ f, N = f + 1 + used := ⟨N - 1 - used, by omega⟩
  have e9 : f_X7_walks_43 N (zKs k) (zln k) (f + 1 + used) 112 (nI s) (bif cr then 1 else 0) (bif isL then 1 else 0) (nI n) (nI (zwh s cr)) (4611686018427387904 : Int64) (nI 1) M7 = f_X7_walks_43 N (zKs k) (zln k) (f + 1) 112 (nI s) (bif cr then 1 else 0) (bif isL then 1 else 0) (nI n) (nI (zwh s cr)) (zbst (zkm wt kd) (4611686018427387904 : Int64) (zT n (zal mk n) cr)) (nI 0) M8 := e8 (f + 1)
  obtain ⟨a1, a2, a3, a4, a5, a6, a7, a8⟩ := g
  have a5 : zI M8 112 14 = nI (zT n (zal mk n) cr).length := by rw [a5, Nat.zero_add]; rfl
  have a8 : isL = true → ∀ i, i < (zT n (zal mk n) cr).length → zJ M8 121 i = zkm wt kd ((zT n (zal mk n) cr).getD i []) := fun h i hi => by
    have := a8 h i hi
    rw [Nat.zero_add] at this
    exact this
  have hR8 : zRf sw k (zR M8) := by rw [a1]; exact hR7
  obtain ⟨B, eB⟩ : ∃ B, B = zbst (zkm wt kd) (4611686018427387904 : Int64) (zT n (zal mk n) cr) := ⟨_, rfl⟩
  rw [← eB] at e9
  have e10 : f_X7_walks_43 N (zKs k) (zln k) (f + 1) 112 (nI s) (bif cr then 1 else 0) (bif isL then 1 else 0) (nI n) (nI (zwh s cr)) B (nI 0) M8 = some (zsI (zsI (zsJ M8 122 (zwh s cr) B) 123 (zwh s cr) (zI M8 112 14)) 124 (zwh s cr) 1) := by
    rw [f_X7_walks_43, if_pos (show nI 0 ≤ 0 by decide +kernel), zgK (k112 k), zbindS (hR8.at 112 15 122 (zrm 31 rfl)), zgok (k122 k) (l122 k) hwh (by decide), zlS, zR_sJ, zbindS (hR8.at 112 16 123 (zrm 32 rfl)), zgok (k123 k) (l123 k) hwh (by decide), zlS, zI_sJ, zR_sI, zR_sJ, zbindS (hR8.at 112 17 124 (zrm 33 rfl)), zgok (k124 k) (l124 k) hwh (by decide), zlS, nI_clamp (by omega)]
  have w20 : ∀ s0 : Int32, (2 : Int32) * nI s + s0 = nI (zwh s cr) → f_X7_walks_20 N (zKs k) (zln k) 112 (nI s) (bif cr then 1 else 0) (bif isL then 1 else 0) (nI n) s0 ((2 : Int32) * nI s) M = some (zsI (zsI (zsJ M8 122 (zwh s cr) B) 123 (zwh s cr) (zI M8 112 14)) 124 (zwh s cr) 1) := by
    intro s0 hs0
    unfold f_X7_walks_20
    rw [zgK (k112 k), zlS, zR_sI, zbindS (hR.at 112 18 125 (zrm 34 rfl)), zgokL (i := 1) (n := 1) rfl (k125 k) (l125 k) (by decide) (by decide), zlS, zcl1, hs0, ← e7]
    refine Eq.trans ?_ (e9.trans e10)
    rw [← ef]
    rfl
  refine ⟨zsI (zsI (zsJ M8 122 (zwh s cr) B) 123 (zwh s cr) (zI M8 112 14)) 124 (zwh s cr) 1, ?_, a1.trans (by rw [e7]; rfl), a2.trans (by rw [e7]; rfl), fun a i h1 h2 h3 h4 => ?_, ?_, ?_, ?_, ?_, fun a i h1 h2 => ?_, fun h i hi => ?_⟩
  · unfold f_X7_walks f_X7_walks_0
    rw [zgK (k112 k), zbindS (hR.at 112 1 113 (zrm 22 rfl)), zgok (k113 k) (l113 k) hs (by decide), nI_clamp (by omega), hS.2.1]
    have hz := zwh_I s cr
    cases cr
    · rw [cond_false] at hz
      rw [cond_false, if_pos rfl]
      exact w20 0 hz
    · rw [cond_true] at hz
      rw [cond_true, if_neg one_ne0]
      exact w20 1 hz
  · rw [zI_sI, if_neg h4, zI_sI, if_neg h3, zI_sJ, a3 a i h1 h2]
    exact hI7 a i h1 h2
  · rw [zI_sI, if_neg (by omega), zI_sI, if_neg (by omega), zI_sJ]; exact a5
  · rw [zI_sI, if_neg (by omega), zI_sI, if_pos ⟨rfl, rfl⟩]; exact a5
  · rw [zI_sI, if_pos ⟨rfl, rfl⟩]
  · rw [zJ_sI, zJ_sI, zJ_sJ, if_pos ⟨rfl, rfl⟩]; exact eB
  · rw [zJ_sI, zJ_sI, zJ_sJ, if_neg h1, a6 a i h2, e7]; rfl
  · rw [zJ_sI, zJ_sI, zJ_sJ, if_neg (by omega)]; exact a8 h i hi
theorem q_finds (hN : 10000000 ≤ N) (hR : zRf sw k (zR M)) (hs : s < 5) (hS : zSenM s n kd mk (zI M)) (hW : zWtsM wt (zI M)) (cr : Bool) (hC : zI M 124 (zwh s cr) = 0 ∨ zFil s n kd mk wt cr M) : ∃ M', f_X7_finds N (zKs k) (zln k) 112 (nI s) (bif cr then 1 else 0) M = some (nI (zwh s cr), M') ∧ zFnd s cr M M' ∧ zFil s n kd mk wt cr M' := by
  have hwh := zwh_lt hs cr
  have key : ∃ M', zFnd s cr M M' ∧ zFil s n kd mk wt cr M' ∧ ∀ s0 : Int32, (2 : Int32) * nI s + s0 = nI (zwh s cr) → f_X7_finds_12 N (zKs k) (zln k) 112 (nI s) (bif cr then 1 else 0) s0 ((2 : Int32) * nI s) M = some (nI (zwh s cr), M') := by
    by_cases h0 : zI M 124 (zwh s cr) = 0
    · obtain ⟨M', e, g⟩ := q_walks (M := zsI M 112 13 (-1)) hN hR hs (zSenM_congr (fun a j ha => by rw [zI_sI, if_neg (by omega)]) hS) (zWtsM_congr (fun j => by rw [zI_sI, if_neg (by omega)]) hW) cr false
      obtain ⟨a1, a2, a3, a4, a5, a6, a7, a8, a9⟩ := g
      refine ⟨M', ⟨a1, a2, fun a i h1 h2 h3 h4 => ?_, fun a i h1 => a8 a i h1 (Or.inr rfl), Or.inl ?_⟩, ⟨a6, a5, a7⟩, fun s0 hs0 => ?_⟩
      · rw [a3 a i h1 (fun q => h2 ⟨q.1, Or.inr q.2⟩) h3 h4, zI_sI, if_neg (fun q => h2 ⟨q.1, Or.inl q.2⟩)]
      · rw [a3 112 13 (by decide) (by decide) (by omega) (by omega), zI_sI, if_pos ⟨rfl, rfl⟩]
      · unfold f_X7_finds_12
        rw [zgK (k112 k), zbindS (hR.at 112 17 124 (zrm 33 rfl)), hs0, zgok (k124 k) (l124 k) hwh (by decide), nI_clamp (by omega), if_pos h0, zlS]
        rw [cond_false] at e
        rw [zbindS e]
    · have hF := hC.resolve_left h0
      refine ⟨M, ⟨rfl, rfl, fun _ _ _ _ _ _ => rfl, fun _ _ _ => rfl, Or.inr rfl⟩, hF, fun s0 hs0 => ?_⟩
      unfold f_X7_finds_12
      rw [zgK (k112 k), zbindS (hR.at 112 17 124 (zrm 33 rfl)), hs0, zgok (k124 k) (l124 k) hwh (by decide), nI_clamp (by omega), if_neg h0]
  obtain ⟨M', g1, g2, e⟩ := key
  refine ⟨M', ?_, g1, g2⟩
  have hz := zwh_I s cr
  unfold f_X7_finds f_X7_finds_0
  cases cr
  · rw [cond_false] at hz
    rw [cond_false, if_pos rfl]
    exact e 0 hz
  · rw [cond_true] at hz
    rw [cond_true, if_neg one_ne0]
    exact e 1 hz
end QF
