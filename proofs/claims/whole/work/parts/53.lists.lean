/-! LISTS, SCOREIN, HEADIN of the model. -/
def zmk (wt : Nat → Int) (kd : Nat → Nat) (v : List Nat) : Int := zkM (zsum (zsc wt kd) 1 v) v
/-- the tree's places hold the keys in their order -/
def zSrt (wt : Nat → Int) (kd : Nat → Nat) (T : List (List Nat)) (M : ZM) : Prop := ∀ r, r < T.length → ∃ j, j < T.length ∧ zJ M 121 r = zkm wt kd (T.getD j []) ∧ zcq (fun x => decide (x < zmk wt kd (T.getD j []))) (fun i => zmk wt kd (T.getD i [])) T.length = r
/-- what lists may change -/
def zLst (s : Nat) (cr : Bool) (M M' : ZM) : Prop :=
  zR M' = zR M ∧ zD M' = zD M ∧ (∀ a i, a ≠ 125 → ¬ (a = 112 ∧ (i = 13 ∨ i = 14)) → ¬ (a = 123 ∧ i = zwh s cr) → ¬ (a = 124 ∧ i = zwh s cr) → zI M' a i = zI M a i) ∧ (∀ a i, ¬ (a = 122 ∧ i = zwh s cr) → a ≠ 121 → zJ M' a i = zJ M a i)
theorem zshr_c : ∀ j, j < 64 → ((nI j).toInt64 &&& 63).toBitVec.smod 64 = BitVec.ofNat 64 j := by decide +kernel
theorem zshr {z j : Nat} (hz : z < 9223372036854775808) (hj : j < 64) : lI (z : Int) >>> ((nI j).toInt64 &&& 63) = lI ((z / 2 ^ j : Nat) : Int) := by
  refine Int64.toInt_inj.mp ?_
  have a1 : (lI (z : Int) >>> ((nI j).toInt64 &&& 63)).toInt = (lI (z : Int) >>> ((nI j).toInt64 &&& 63)).toBitVec.toInt := rfl
  have a2 : (lI (z : Int)).toBitVec.toInt = (lI (z : Int)).toInt := rfl
  have hd : z / 2 ^ j ≤ z := Nat.div_le_self _ _
  have a3 : (lI ((z / 2 ^ j : Nat) : Int)).toInt = ((z / 2 ^ j : Nat) : Int) := by
    generalize z / 2 ^ j = y at hd ⊢
    exact lI_toInt (by omega) (by omega)
  rw [a3, a1, Int64.toBitVec_shiftRight, zshr_c j hj, BitVec.sshiftRight_eq', BitVec.toInt_sshiftRight, BitVec.toNat_ofNat, Nat.mod_eq_of_lt (by omega), a2, lI_toInt (by omega) (by omega), Int.shiftRight_eq_div_pow, Int.natCast_ediv]
theorem zand7 (z : Nat) : lI (z : Int) &&& (7 : Int64) = lI ((z % 8 : Nat) : Int) := by
  refine Int64.toBitVec_inj.mp ?_
  have a1 : ∀ y : Nat, (lI (y : Int)).toBitVec = BitVec.ofNat 64 y := fun y => by
    show (Int64.ofInt (y : Int)).toBitVec = _
    rw [Int64.ofInt_eq_ofNat]
    rfl
  rw [Int64.toBitVec_and, a1, a1]
  refine BitVec.eq_of_toNat_eq ?_
  rw [BitVec.toNat_and, BitVec.toNat_ofNat, BitVec.toNat_ofNat, show ((7 : Int64).toBitVec).toNat = 2 ^ 3 - 1 by decide +kernel, Nat.and_two_pow_sub_one_eq_mod]
  omega
theorem zkM_nat {sc : Int} (v : List Nat) (h2 : sc ≤ 100000) : zkM sc v = (((100000 - sc).toNat * 262144 + zdg 8 v : Nat) : Int) := by
  unfold zkM
  omega
theorem q_scoreIn (N a0 : Nat) {sc : Int} {v : List Nat} (h1 : -50000 ≤ sc) (h2 : sc ≤ 50000) (hl : v.length ≤ 6) (hv : ∀ h ∈ v, h < 7) : f_X7_scoreIn N a0 (lI (zkM sc v)) = some (iI sc) := by
  have h8 := zc8_lt hl hv
  unfold f_X7_scoreIn f_X7_scoreIn_0
  rw [zkM_nat v (by omega), show (18 : Int32) = nI 18 from rfl, zshr (by omega) (by decide), lI_int, show (100000 : Int32) = iI 100000 from rfl, iI_sub]
  congr 2
  omega
theorem zhd8 (A d : Nat) {e : Nat} (he : e ≤ 5) : (A * 262144 + d) / 8 ^ e % 8 = d / 8 ^ e % 8 := by
  rcases (show e = 0 ∨ e = 1 ∨ e = 2 ∨ e = 3 ∨ e = 4 ∨ e = 5 by omega) with rfl | rfl | rfl | rfl | rfl | rfl
  · show (A * 262144 + d) / 1 % 8 = d / 1 % 8; omega
  · show (A * 262144 + d) / 8 % 8 = d / 8 % 8; omega
  · show (A * 262144 + d) / 64 % 8 = d / 64 % 8; omega
  · show (A * 262144 + d) / 512 % 8 = d / 512 % 8; omega
  · show (A * 262144 + d) / 4096 % 8 = d / 4096 % 8; omega
  · show (A * 262144 + d) / 32768 % 8 = d / 32768 % 8; omega
section QL
variable {N k s n : Nat} {sw : Bool} {kd : Nat → Nat} {mk : Nat → Nat → Int32} {wt : Nat → Int} {M : ZM}
theorem q_headIn (hR : zRf sw k (zR M)) (hs : s < 5) (hn : zI M 113 s = nI n) {sc : Int} {v : List Nat} (h1 : -50000 ≤ sc) (h2 : sc ≤ 50000) (hn6 : n ≤ 6) (hl : v.length = n) (hv : ∀ h ∈ v, h < 7) {w : Nat} (hw1 : 1 ≤ w) (hw : w ≤ n) : f_X7_headIn N (zKs k) (zln k) 112 (nI s) (lI (zkM sc v)) (nI w) M = some (nI (zhd v w)) := by
  have h8 := zc8_lt (v := v) (by omega) hv
  have hat := zdg_at (b := 8) (by decide) v w (fun h hh => Nat.lt_trans (hv h hh) (by decide)) hw1 (by omega)
  unfold f_X7_headIn f_X7_headIn_0
  rw [zgK (k112 k), zbindS (hR.at 112 1 113 (zrm 22 rfl)), zgok (k113 k) (l113 k) hs (by decide), nI_clamp (by omega), hn, pk_sub hw, show (3 : Int32) = nI 3 from rfl, nI_mul, zkM_nat v (by omega), zshr (by omega) (by omega), zand7, lI_int, ← nI_iI, Nat.pow_mul, show (2 : Nat) ^ 3 = 8 from rfl, zhd8 _ _ (by omega), ← hl, hat]
theorem zT_at {cr : Bool} {j : Nat} (hj : j < (zT n (zal mk n) cr).length) : (zT n (zal mk n) cr).getD j [] ∈ zT n (zal mk n) cr := by
  rw [List.getD_eq_getElem?_getD, List.getElem?_eq_getElem hj]
  exact List.getElem_mem _
theorem zT_sum (h6 : n ≤ 6) (hsc : ∀ h w, h ≤ n → 1 ≤ w → w ≤ n → -8000 ≤ zsc wt kd h w ∧ zsc wt kd h w ≤ 8000) {cr : Bool} {v : List Nat} (hv : v ∈ zT n (zal mk n) cr) : v.length = n ∧ (∀ x ∈ v, x ≤ n) ∧ -48000 ≤ zsum (zsc wt kd) 1 v ∧ zsum (zsc wt kd) 1 v ≤ 48000 := by
  obtain ⟨hl, hx⟩ := zt_all hv
  have hb := zsum_b hsc v 1 hx (by omega) (by omega)
  exact ⟨hl, hx, by omega, by omega⟩
theorem zmk_b (h6 : n ≤ 6) (hsc : ∀ h w, h ≤ n → 1 ≤ w → w ≤ n → -8000 ≤ zsc wt kd h w ∧ zsc wt kd h w ≤ 8000) {cr : Bool} {v : List Nat} (hv : v ∈ zT n (zal mk n) cr) : 0 ≤ zmk wt kd v ∧ zmk wt kd v ≤ 50000000000 := by
  obtain ⟨hl, hx, b1, b2⟩ := zT_sum (wt := wt) (kd := kd) h6 hsc hv
  have h8 := zc8_lt (v := v) (by omega) (fun h hh => by have := hx h hh; omega)
  unfold zmk zkM
  omega
theorem zkm_I (h6 : n ≤ 6) (hsc : ∀ h w, h ≤ n → 1 ≤ w → w ≤ n → -8000 ≤ zsc wt kd h w ∧ zsc wt kd h w ≤ 8000) {cr : Bool} {v : List Nat} (hv : v ∈ zT n (zal mk n) cr) : (zkm wt kd v).toInt = zmk wt kd v := by
  have hb := zmk_b (wt := wt) (kd := kd) h6 hsc hv
  exact lI_toInt (z := zmk wt kd v) (by omega) (by omega)
theorem zmk_inj (h6 : n ≤ 6) {cr : Bool} {u v : List Nat} (hu : u ∈ zT n (zal mk n) cr) (hv : v ∈ zT n (zal mk n) cr) (e : zmk wt kd u = zmk wt kd v) : u = v := by
  obtain ⟨hl, hx⟩ := zt_all hu
  obtain ⟨hl2, hx2⟩ := zt_all hv
  exact (zkM_inj (by omega) (by omega) (fun h hh => by have := hx h hh; omega) (fun h hh => by have := hx2 h hh; omega) e).2
theorem zT_getD_inj {cr : Bool} {i j : Nat} (hi : i < (zT n (zal mk n) cr).length) (hj : j < (zT n (zal mk n) cr).length) (e : (zT n (zal mk n) cr).getD i [] = (zT n (zal mk n) cr).getD j []) : i = j := by
  have hnd : (zT n (zal mk n) cr).Pairwise (fun a b => a ≠ b) := zt_nodup n []
  rw [List.pairwise_iff_getElem] at hnd
  rw [List.getD_eq_getElem?_getD, List.getD_eq_getElem?_getD, List.getElem?_eq_getElem hi, List.getElem?_eq_getElem hj] at e
  have e : (zT n (zal mk n) cr)[i] = (zT n (zal mk n) cr)[j] := e
  rcases Nat.lt_trichotomy i j with h | h | h
  · exact absurd e (hnd i j hi hj h)
  · exact h
  · exact absurd e.symm (hnd j i hj hi h)
/-- sorted, and the same keys: the places hold the keys in their order -/
theorem zSrt_of (h6 : n ≤ 6) (hsc : ∀ h w, h ≤ n → 1 ≤ w → w ≤ n → -8000 ≤ zsc wt kd h w ∧ zsc wt kd h w ≤ 8000) {cr : Bool} {M : ZM} (hs : ∀ j i, j < i → i < (zT n (zal mk n) cr).length → zF M j ≤ zF M i) (hc : ∀ p, zcq p (zF M) (zT n (zal mk n) cr).length = zcq p (fun i => zmk wt kd ((zT n (zal mk n) cr).getD i [])) (zT n (zal mk n) cr).length) : zSrt wt kd (zT n (zal mk n) cr) M := by
  intro r hr
  have hinj : ∀ i j, i < (zT n (zal mk n) cr).length → j < (zT n (zal mk n) cr).length → zmk wt kd ((zT n (zal mk n) cr).getD i []) = zmk wt kd ((zT n (zal mk n) cr).getD j []) → i = j := fun i j hi hj e => zT_getD_inj hi hj (zmk_inj h6 (zT_at hi) (zT_at hj) e)
  have h1 : 0 < zcq (fun y => decide (y = zF M r)) (zF M) (zT n (zal mk n) cr).length := zcq_pos hr (decide_eq_true rfl)
  rw [hc] at h1
  obtain ⟨j, hj, ej⟩ := zcq_ex _ h1
  have ej : zmk wt kd ((zT n (zal mk n) cr).getD j []) = zF M r := of_decide_eq_true ej
  refine ⟨j, hj, ?_, ?_⟩
  · refine Int64.toInt_inj.mp ?_
    rw [zkm_I h6 hsc (zT_at hj), ej]
    rfl
  · rw [← hc, ej, zcq_lt (f := zF M) (r := r) _ (fun i hi => ?_)]
    · omega
    · have lt_of : ∀ a b, a < b → b < (zT n (zal mk n) cr).length → zF M a < zF M b := by
        intro a b hab hb
        have h2 := hs a b hab hb
        by_cases q : zF M a = zF M b
        · have h3 := zcq_two (f := zF M) (x := zF M b) hab q rfl _ hb
          rw [hc] at h3
          have h4 := zcq_one (f := fun i => zmk wt kd ((zT n (zal mk n) cr).getD i [])) (x := zF M b) _ hinj
          omega
        · omega
      constructor
      · intro q
        rcases Nat.lt_trichotomy i r with h | h | h
        · exact h
        · rw [h] at q; omega
        · have := lt_of r i h hi; omega
      · intro q; exact lt_of i r q hr
theorem q_lists (hN : 10000000 ≤ N) (hR : zRf sw k (zR M)) (hs : s < 5) (hS : zSenM s n kd mk (zI M)) (hW : zWtsM wt (zI M)) (cr : Bool) (hF : zFil s n kd mk wt cr M) (hL : zI M 112 13 = nI (zwh s cr) → zSrt wt kd (zT n (zal mk n) cr) M) : ∃ M', f_X7_lists N (zKs k) (zln k) 112 (nI s) (bif cr then 1 else 0) M = some M' ∧ zLst s cr M M' ∧ zFil s n kd mk wt cr M' ∧ zI M' 112 13 = nI (zwh s cr) ∧ zSrt wt kd (zT n (zal mk n) cr) M' := by
  have h6 := hS.1
  have hsc := zsc_bM hS hW
  have hwh := zwh_lt hs cr
  have hcap : (zT n (zal mk n) cr).length ≤ 16807 := zT_len h6 (fun h w q => (zal_iff.mp q).1) cr
  have key : ∃ M', (∀ s0 : Int32, (2 : Int32) * nI s + s0 = nI (zwh s cr) → f_X7_lists_12 N (zKs k) (zln k) 112 (nI s) (bif cr then 1 else 0) s0 ((2 : Int32) * nI s) M = some M') ∧ zLst s cr M M' ∧ zFil s n kd mk wt cr M' ∧ zI M' 112 13 = nI (zwh s cr) ∧ zSrt wt kd (zT n (zal mk n) cr) M' := by
    by_cases h0 : zI M 112 13 = nI (zwh s cr)
    · refine ⟨M, fun s0 hs0 => ?_, ⟨rfl, rfl, fun _ _ _ _ _ _ => rfl, fun _ _ _ _ => rfl⟩, hF, h0, hL h0⟩
      unfold f_X7_lists_12
      rw [zgK (k112 k), hs0, if_pos h0]
    · obtain ⟨M5, e5, a1, a2, a3, a4, a5, a6, a7, a8, a9⟩ := q_walks hN hR hs hS hW cr true
      rw [cond_true] at e5
      obtain ⟨c, ec⟩ : ∃ c, c = (zT n (zal mk n) cr).length := ⟨_, rfl⟩
      obtain ⟨M6, e6⟩ : ∃ M6, M6 = zsI M5 112 13 (nI (zwh s cr)) := ⟨_, rfl⟩
      have hR6 : zRf sw k (zR M6) := by rw [e6]; show zRf sw k (zR M5); rw [a1]; exact hR
      have h14 : zI M6 112 14 = nI c := by rw [e6, zI_sI, if_neg (by decide), a4, ec]
      obtain ⟨M7, e7, g1, g2, g3⟩ := q_heapify (N := N) (c := c) (k := k) (sw := sw) hN (by omega) (c / 2) N M6 (by omega) (by omega) hR6 h14 (fun i c' hi hcd hc => by unfold zcd at hcd; omega)
      have hR7 : zRf sw k (zR M7) := by rw [g1.1]; exact hR6
      have h147 : zI M7 112 14 = nI c := by rw [g1.2.1]; exact h14
      have hend : ∃ M8, f_X7_lists_74 N (zKs k) (zln k) N 112 (zI M7 112 14 - 1) M7 = some M8 ∧ zHS c M7 M8 ∧ (∀ j i, j < i → i < c → zF M8 j ≤ zF M8 i) ∧ ∀ p, zcq p (zF M8) c = zcq p (zF M7) c := by
        rw [h147]
        rcases Nat.eq_zero_or_pos c with q | q
        · refine ⟨M7, ?_, zHS_refl c M7, fun j i h1 h2 => by omega, fun _ => rfl⟩
          obtain ⟨f, ef⟩ : ∃ f, N = f + 1 := ⟨N - 1, by omega⟩
          rw [q, show f_X7_lists_74 N (zKs k) (zln k) N 112 (nI 0 - 1) M7 = f_X7_lists_74 N (zKs k) (zln k) (f + 1) 112 (nI 0 - 1) M7 by rw [← ef], f_X7_lists_74, if_pos (show nI 0 - 1 ≤ 0 by decide +kernel)]
        · obtain ⟨x, rfl⟩ : ∃ x, c = x + 1 := ⟨c - 1, by omega⟩
          rw [nI_pred x]
          exact q_extract hN (by omega) x N M7 (by omega) (by omega) hR7 g2 (fun j i _ h2 h3 => by omega)
      obtain ⟨M8, e8, r1, r2, r3⟩ := hend
      have h68 := zHS_trans g1 r1
      have hI8 : zI M8 = zI M6 := h68.2.1
      refine ⟨M8, fun s0 hs0 => ?_, ⟨h68.1.trans (by rw [e6]; exact a1), h68.2.2.1.trans (by rw [e6]; exact a2), fun a i h1 h2 h3 h4 => ?_, fun a i h1 h2 => ?_⟩, ⟨?_, ?_, ?_⟩, ?_, ?_⟩
      · unfold f_X7_lists_12
        rw [zgK (k112 k), hs0, if_neg h0, zbindS e5, zlS, ← e6, h14, show (2 : Int32) = nI 2 from rfl, pk_div (by omega) (by decide) (by decide), show nI (c / 2) - 1 = nI (c / 2) + (-1) from Int32.sub_eq_add_neg _ _, e7]
        exact e8
      · rw [hI8, e6, zI_sI, if_neg (fun q => h2 ⟨q.1, Or.inl q.2⟩)]
        exact a3 a i h1 (fun q => h2 ⟨q.1, Or.inr q.2⟩) h3 h4
      · rw [h68.2.2.2.1 a i h2, e6]
        by_cases q : a = 121
        · exact absurd q h2
        · exact a8 a i h1 (Or.inl q)
      · rw [hI8, e6, zI_sI, if_neg (by omega)]; exact a6
      · rw [hI8, e6, zI_sI, if_neg (by omega)]; exact a5
      · rw [h68.2.2.2.1 122 _ (by decide), e6]; exact a7
      · rw [hI8, e6, zI_sI, if_pos ⟨rfl, rfl⟩]
      · refine zSrt_of h6 hsc (by rw [← ec]; exact r2) (fun p => ?_)
        rw [← ec, r3 p, g3 p]
        refine zcq_congr c (fun i hi => ?_)
        show (zJ M6 121 i).toInt = _
        rw [e6]
        show (zJ M5 121 i).toInt = _
        rw [a9 rfl i (by omega), zkm_I h6 hsc (zT_at (by omega))]
  obtain ⟨M', e, g⟩ := key
  refine ⟨M', ?_, g⟩
  have hz := zwh_I s cr
  unfold f_X7_lists f_X7_lists_0
  cases cr
  · rw [cond_false] at hz
    rw [cond_false, if_pos rfl]
    exact e 0 hz
  · rw [cond_true] at hz
    rw [cond_true, if_neg one_ne0]
    exact e 1 hz
end QL
