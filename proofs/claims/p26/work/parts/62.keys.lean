/-! THE CLASS: the best tree's key, the keys by rank. -/
/-- the first tree in rank -/
def zBt (T : List (List Nat)) (wt : Nat → Int) (kd : Nat → Nat) (v : List Nat) : Prop := v ∈ T ∧ ∀ u, u ∈ T → zmk wt kd v ≤ zmk wt kd u
section KB
variable {N k s n : Nat} {sw : Bool} {kd : Nat → Nat} {mk : Nat → Nat → Int32} {wt : Nat → Int} {M : ZM}
theorem zkc_v {cr : Bool} {v : List Nat} (h6 : n ≤ 6) (hv : v ∈ zT n (zal mk n) cr) : zkc (zsc wt kd) v = zkC (zsum (zsc wt kd) 1 v) v := zkc_zkC (by rw [(zt_all hv).1]; exact h6)
theorem zkc_b {cr : Bool} {v : List Nat} (h6 : n ≤ 6) (hsc : ∀ h w, h ≤ n → 1 ≤ w → w ≤ n → -8000 ≤ zsc wt kd h w ∧ zsc wt kd h w ≤ 8000) (hv : v ∈ zT n (zal mk n) cr) : -10000000000 ≤ zkc (zsc wt kd) v ∧ zkc (zsc wt kd) v ≤ 10000000000 := by
  obtain ⟨hl, hx, b1, b2⟩ := zT_sum (wt := wt) (kd := kd) h6 hsc hv
  rw [zkc_v h6 hv]
  exact zkC_b (by omega) (by omega) (by omega) (fun h hh => by have := hx h hh; omega)
theorem zkc_mk {cr : Bool} {u v : List Nat} (h6 : n ≤ 6) (hu : u ∈ zT n (zal mk n) cr) (hv : v ∈ zT n (zal mk n) cr) : zkc (zsc wt kd) u < zkc (zsc wt kd) v ↔ zmk wt kd v < zmk wt kd u := by
  rw [zkc_v h6 hu, zkc_v h6 hv]
  obtain ⟨hl, hx⟩ := zt_all hu
  obtain ⟨hl2, hx2⟩ := zt_all hv
  exact zkey_cmp (by omega) (by omega) (fun h hh => by have := hx h hh; omega) (fun h hh => by have := hx2 h hh; omega)
theorem zBt_of {cr : Bool} {v : List Nat} (h6 : n ≤ 6) (hv : v ∈ zT n (zal mk n) cr) (h : ∀ u, u ∈ zT n (zal mk n) cr → zkc (zsc wt kd) u ≤ zkc (zsc wt kd) v) : zBt (zT n (zal mk n) cr) wt kd v := ⟨hv, fun u hu => by
  have h1 := h u hu
  have h2 := zkc_mk (wt := wt) (kd := kd) h6 hv hu
  omega⟩
theorem zBt_eq {cr : Bool} {u v : List Nat} (h6 : n ≤ 6) (hu : zBt (zT n (zal mk n) cr) wt kd u) (hv : zBt (zT n (zal mk n) cr) wt kd v) : u = v := by
  have h1 := hu.2 v hv.1
  have h2 := hv.2 u hu.1
  exact zmk_inj (wt := wt) (kd := kd) h6 hu.1 hv.1 (by omega)
theorem zBst_cases {T : List (List Nat)} {kc : List Nat → Int} {o : Option Int} (h : zBst T kc o) : (T = [] ∧ o = none) ∨ ∃ v, v ∈ T ∧ o = some (kc v) ∧ ∀ u, u ∈ T → kc u ≤ kc v := by
  cases o with
  | none =>
    refine Or.inl ⟨?_, rfl⟩
    cases T with
    | nil => rfl
    | cons v T =>
      obtain ⟨z, e, -⟩ := h.2 v List.mem_cons_self
      cases e
  | some z =>
    obtain ⟨v, hv, e⟩ := h.1 z rfl
    refine Or.inr ⟨v, hv, by rw [e], fun u hu => ?_⟩
    obtain ⟨z', e2, h3⟩ := h.2 u hu
    rw [e, Option.some.inj e2]
    exact h3
theorem s_bestKey (hN : 10000000 ≤ N) (h : zCl sw k s n kd mk wt M) (cr : Bool) : ∃ M', zScr k M M' ∧ ((zT n (zal mk n) cr = [] ∧ f_X6_bestKey N (zKs k) (zln k) 0 (112 + 11 * s) (bif cr then 1 else 0) M = some (Sum.inl 3, M')) ∨ ∃ v, zBt (zT n (zal mk n) cr) wt kd v ∧ f_X6_bestKey N (zKs k) (zln k) 0 (112 + 11 * s) (bif cr then 1 else 0) M = some (Sum.inr (lI (zkc (zsc wt kd) v)), M')) := by
  obtain ⟨hR, hk, hS, hW⟩ := h
  have h6 := hS.1
  have hsc := zsc_b hS hW
  have hal : ∀ h w, zal mk n h w = true → h ≠ w := fun h w q => (zal_iff.mp q).1
  obtain ⟨M1, e1, i1, r1, d1, j1⟩ := s_fill hN hR hk hS hW
  have hR1 : zRf sw k (zR M1) := by rw [r1]; exact hR
  have hA1 : zArcs n (zal mk n) (zsc wt kd) M1 := ⟨by rw [i1, zI_sI, if_pos ⟨rfl, rfl⟩], fun h w hh hw => by rw [j1, if_pos (by omega), show 50 + h - 50 = h by omega]⟩
  have key : ∃ M2 o, zBst (zT n (zal mk n) cr) (zkc (zsc wt kd)) o ∧ zScr k M1 M2 ∧ f_X6_bestKey N (zKs k) (zln k) 0 (112 + 11 * s) (bif cr then 1 else 0) M = f_X6_bestKey_41 N (zKs k) (zln k) (zoI o) M2 := by
    cases cr with
    | false =>
      obtain ⟨M2, e2, g2⟩ := s_spans (N := N) hN h6 hsc hR1 hA1
      refine ⟨M2, _, zsp_best h6 hal (zsc wt kd), ⟨g2.2.2.1, fun a i _ => by rw [g2.2.1], fun a i h => g2.2.2.2 a i (by omega), sw, by rw [g2.1]; exact hR1⟩, ?_⟩
      unfold f_X6_bestKey f_X6_bestKey_0
      rw [zgK (k0 k), zbindS (hR.at 0 3 48 (zrm 2 rfl)), zbindS (hR.at 0 2 2 (zrm 1 rfl)), zbindS e1, zgK (k48 k), cond_false, if_pos rfl, zbindS (hR1.at 0 4 57 (zrm 3 rfl)), zbindS (hR1.at 0 3 48 (zrm 2 rfl)), zbpS e2, zgK (k57 k)]
      exact rfl
    | true =>
      obtain ⟨M2, o, h2, e2, g2⟩ := s_circles (N := N) hN h6 hal hsc hR1 hA1
      refine ⟨M2, o, h2, ⟨g2.1, fun a i h => g2.2.1 a i (by omega), fun a i h => g2.2.2.1 a i (by omega), g2.2.2.2⟩, ?_⟩
      unfold f_X6_bestKey f_X6_bestKey_0
      rw [zgK (k0 k), zbindS (hR.at 0 3 48 (zrm 2 rfl)), zbindS (hR.at 0 2 2 (zrm 1 rfl)), zbindS e1, zgK (k48 k), cond_true, if_neg one_ne0, zbindS (hR1.at 0 5 90 (zrm 4 rfl)), zbindS (hR1.at 0 3 48 (zrm 2 rfl)), zbpS e2, zgK (k90 k)]
  obtain ⟨M2, o, ho, g, e⟩ := key
  have g1 : zScr k M M1 := ⟨d1, fun a i h => by rw [i1, zI_sI, if_neg (by omega)], fun a i h => by rw [j1, if_neg (by omega)], sw, hR1⟩
  refine ⟨M2, zScr_trans g1 g, ?_⟩
  rw [e]
  rcases zBst_cases ho with ⟨h1, h2⟩ | ⟨v, h1, h2, h3⟩
  · exact Or.inl ⟨h1, by rw [h2]; rfl⟩
  · refine Or.inr ⟨v, zBt_of h6 h1 h3, ?_⟩
    have hb := zkc_b (wt := wt) (kd := kd) h6 hsc h1
    rw [h2]
    show f_X6_bestKey_41 N (zKs k) (zln k) (lI (zkc (zsc wt kd) v)) M2 = _
    unfold f_X6_bestKey_41
    rw [zbindS (show f_X6_checkTree N (lI (zkc (zsc wt kd) v)) = some (Sum.inr ()) from if_neg (zoI_ne (by omega) (by omega)))]
    rfl
theorem s_byTrying (hN : 10000000 ≤ N) (h : zCl sw k s n kd mk wt M) (cr : Bool) : ∃ M', zScr k M M' ∧ f_X6_tryAll N (zKs k) (zln k) 0 (112 + 11 * s) (bif cr then 1 else 0) M = some (109, M') ∧ ∃ r, f_X4_greatest N (zKs k) (zln k) 109 M' = some r ∧ ((zT n (zal mk n) cr = [] ∧ r = zNK) ∨ ∃ v, zBt (zT n (zal mk n) cr) wt kd v ∧ r = lI (zkc (zsc wt kd) v)) := by
  obtain ⟨M1, e1, g1, r1, c1, j1⟩ := s_tryAll hN h cr
  obtain ⟨hR, hk, hS, hW⟩ := h
  have h6 := hS.1
  have hsc := zsc_b hS hW
  have hcap : (zT n (zal mk n) cr).length ≤ 16807 := zT_len h6 (fun h w q => (zal_iff.mp q).1) cr
  have hR1 : zRf sw k (zR M1) := by rw [r1]; exact hR
  obtain ⟨r, e2, h1, h2⟩ := s_greatest hN hR1 c1 hcap
  refine ⟨M1, g1, e1, r, e2, ?_⟩
  have hkb : ∀ j, j < (zT n (zal mk n) cr).length → -10000000000 ≤ zkc (zsc wt kd) ((zT n (zal mk n) cr).getD j []) ∧ zkc (zsc wt kd) ((zT n (zal mk n) cr).getD j []) ≤ 10000000000 := fun j hj => zkc_b h6 hsc (zT_at hj)
  by_cases hz : (zT n (zal mk n) cr).length = 0
  · refine Or.inl ⟨List.length_eq_zero_iff.mp hz, ?_⟩
    rcases h1 with h1 | ⟨j, hj, -⟩
    · exact h1
    · omega
  · have hex : ∃ j, j < (zT n (zal mk n) cr).length ∧ r = zJ M1 110 j := by
      rcases h1 with h1 | h1
      · exfalso
        have h3 := h2 0 (by omega)
        have hb := hkb 0 (by omega)
        rw [j1 0 (by omega), h1, Int64.le_iff_toInt_le, lI_toInt (by omega) (by omega), show zNK.toInt = -9223372036854775808 by decide +kernel] at h3
        omega
      · exact h1
    obtain ⟨j, hj, e⟩ := hex
    refine Or.inr ⟨_, zBt_of h6 (zT_at hj) (fun u hu => ?_), by rw [e, j1 j hj]⟩
    obtain ⟨i, hi, ei⟩ := List.getElem_of_mem hu
    have h3 := h2 i hi
    have hb := hkb i hi
    have hb2 := hkb j hj
    rw [e, j1 j hj, j1 i hi, lI_le (by omega) (by omega) (by omega) (by omega)] at h3
    rw [show u = (zT n (zal mk n) cr).getD i [] by rw [List.getD_eq_getElem?_getD, List.getElem?_eq_getElem hi, ← ei]; rfl]
    exact h3
/-- counting over a range -/
theorem zcq_cn (p : Int → Bool) (f : Nat → Int) : ∀ c, zcq p f c = (List.range' 0 c).countP (fun i => p (f i))
  | 0 => rfl
  | c + 1 => by
    show zcq p f c + (if p (f c) = true then 1 else 0) = _
    rw [zcq_cn p f c, List.range'_1_concat, List.countP_append, Nat.zero_add, List.countP_cons, List.countP_nil, Nat.zero_add]
theorem zcn_mono {g : Nat → Int} {c : Nat} {a b : Int} (h : a ≤ b) : zcn g c b ≤ zcn g c a := by
  unfold zcn
  refine List.countP_mono_left (fun i _ hi => ?_)
  rw [decide_eq_true_eq] at hi ⊢
  omega
theorem s_rankedKey (hN : 10000000 ≤ N) (h : zCl sw k s n kd mk wt M) (cr : Bool) (p : Int32) : ∃ M', zScr k M M' ∧ (((p < 0 ∨ nI (zT n (zal mk n) cr).length ≤ p) ∧ f_X6_rankedKey N (zKs k) (zln k) 0 (112 + 11 * s) (bif cr then 1 else 0) p M = some (Sum.inl 1, M')) ∨ ∃ r z, r < (zT n (zal mk n) cr).length ∧ p = nI r ∧ f_X6_rankedKey N (zKs k) (zln k) 0 (112 + 11 * s) (bif cr then 1 else 0) p M = some (Sum.inr (lI z), M') ∧ ∀ j, j < (zT n (zal mk n) cr).length → zcq (fun x => decide (x < zmk wt kd ((zT n (zal mk n) cr).getD j []))) (fun i => zmk wt kd ((zT n (zal mk n) cr).getD i [])) (zT n (zal mk n) cr).length = r → z = zkc (zsc wt kd) ((zT n (zal mk n) cr).getD j [])) := by
  obtain ⟨M1, e1, g1, r1, c1, j1⟩ := s_tryAll hN h cr
  obtain ⟨hR, hk, hS, hW⟩ := h
  have h6 := hS.1
  have hsc := zsc_b hS hW
  have hcap : (zT n (zal mk n) cr).length ≤ 16807 := zT_len h6 (fun h w q => (zal_iff.mp q).1) cr
  have hR1 : zRf sw k (zR M1) := by rw [r1]; exact hR
  refine ⟨M1, g1, ?_⟩
  have pre : f_X6_rankedKey N (zKs k) (zln k) 0 (112 + 11 * s) (bif cr then 1 else 0) p M = if p < 0 then some (Sum.inl 1, M1) else if p < nI (zT n (zal mk n) cr).length then (f_X4_ofRank N (zKs k) (zln k) 109 p M1).bind fun q10 => some (Sum.inr q10, M1) else some (Sum.inl 1, M1) := by
    unfold f_X6_rankedKey f_X6_rankedKey_0
    rw [zbpS e1, zgK (k0 k), zbindS s_tsize, zgK (k109 k), c1]
    rfl
  rcases pk_ix p (n := (zT n (zal mk n) cr).length) (by omega) with q | q | ⟨r, hr, e⟩
  · exact Or.inl ⟨Or.inl q, by rw [pre, if_pos q]⟩
  · refine Or.inl ⟨Or.inr q, ?_⟩
    rw [pre]
    by_cases q2 : p < 0
    · rw [if_pos q2]
    · rw [if_neg q2, if_neg (fun z => by
        rw [Int32.lt_iff_toInt_lt] at z
        rw [Int32.le_iff_toInt_le] at q
        omega)]
  · have hkb : ∀ j, j < (zT n (zal mk n) cr).length → zJ M1 110 j = lI (zkc (zsc wt kd) ((zT n (zal mk n) cr).getD j [])) ∧ -10000000000 ≤ zkc (zsc wt kd) ((zT n (zal mk n) cr).getD j []) ∧ zkc (zsc wt kd) ((zT n (zal mk n) cr).getD j []) ≤ 10000000000 := fun j hj => ⟨j1 j hj, zkc_b h6 hsc (zT_at hj)⟩
    obtain ⟨z, e2, h1, h2, h3⟩ := s_ofRank (N := N) hN hR1 c1 hcap (g := fun j => zkc (zsc wt kd) ((zT n (zal mk n) cr).getD j [])) hkb hr
    refine Or.inr ⟨r, z, hr, e, ?_, fun j hj hcnt => ?_⟩
    · rw [pre, e, if_neg (nI_pos (by omega)), if_pos (nI_lt hr (by omega)), zbindS e2]
    · have hcn : zcn (fun j => zkc (zsc wt kd) ((zT n (zal mk n) cr).getD j [])) (zT n (zal mk n) cr).length (zkc (zsc wt kd) ((zT n (zal mk n) cr).getD j [])) = r := by
        rw [← hcnt, zcq_cn]
        unfold zcn
        refine List.countP_congr (fun i hi => ?_)
        rw [List.mem_range'_1] at hi
        rw [decide_eq_true_eq, decide_eq_true_eq]
        exact zkc_mk h6 (zT_at hj) (zT_at (by omega))
      rcases Int.lt_trichotomy z (zkc (zsc wt kd) ((zT n (zal mk n) cr).getD j [])) with q | q | q
      · -- the key itself is above z
        exfalso
        have h4 : r + 1 ≤ zcn (fun j => zkc (zsc wt kd) ((zT n (zal mk n) cr).getD j [])) (zT n (zal mk n) cr).length z := by
          rw [← hcn]
          unfold zcn
          have hlt : List.countP (fun j_1 => decide (zkc (zsc wt kd) ((zT n (zal mk n) cr).getD j []) < zkc (zsc wt kd) ((zT n (zal mk n) cr).getD j_1 []))) (List.range' 0 (zT n (zal mk n) cr).length) < List.countP (fun j => decide (z < zkc (zsc wt kd) ((zT n (zal mk n) cr).getD j []))) (List.range' 0 (zT n (zal mk n) cr).length) := by
            have hs : ∀ (l : List Nat), j ∈ l → List.countP (fun j_1 => decide (zkc (zsc wt kd) ((zT n (zal mk n) cr).getD j []) < zkc (zsc wt kd) ((zT n (zal mk n) cr).getD j_1 []))) l < List.countP (fun j => decide (z < zkc (zsc wt kd) ((zT n (zal mk n) cr).getD j []))) l := by
              intro l
              induction l with
              | nil => intro q; cases q
              | cons a l ih =>
                intro hm
                rw [List.countP_cons, List.countP_cons]
                have hmono : List.countP (fun j_1 => decide (zkc (zsc wt kd) ((zT n (zal mk n) cr).getD j []) < zkc (zsc wt kd) ((zT n (zal mk n) cr).getD j_1 []))) l ≤ List.countP (fun j => decide (z < zkc (zsc wt kd) ((zT n (zal mk n) cr).getD j []))) l := List.countP_mono_left (fun i _ hi => by
                  rw [decide_eq_true_eq] at hi ⊢
                  omega)
                by_cases e : a = j
                · subst e
                  rw [if_neg (by rw [decide_eq_true_eq]; omega), if_pos (decide_eq_true q)]
                  omega
                · have := ih ((List.mem_cons.mp hm).resolve_left (fun z => e z.symm))
                  by_cases q5 : zkc (zsc wt kd) ((zT n (zal mk n) cr).getD j []) < zkc (zsc wt kd) ((zT n (zal mk n) cr).getD a [])
                  · rw [if_pos (decide_eq_true q5), if_pos (decide_eq_true (by omega))]
                    omega
                  · rw [if_neg (by rw [decide_eq_true_eq]; exact q5)]
                    omega
            exact hs _ (by rw [List.mem_range'_1]; omega)
          exact hlt
        omega
      · exact q
      · exfalso
        have h5 := zcn_mono (g := fun j => zkc (zsc wt kd) ((zT n (zal mk n) cr).getD j [])) (c := (zT n (zal mk n) cr).length) (show zkc (zsc wt kd) ((zT n (zal mk n) cr).getD j []) ≤ z - 1 by omega)
        rw [hcn] at h5
        omega
/-- what the class reads off a best key -/
theorem s_scoreKey {cr : Bool} {v : List Nat} (h6 : n ≤ 6) (hsc : ∀ h w, h ≤ n → 1 ≤ w → w ≤ n → -8000 ≤ zsc wt kd h w ∧ zsc wt kd h w ≤ 8000) (hv : v ∈ zT n (zal mk n) cr) : f_X6_scoreIn N (lI (zkc (zsc wt kd) v)) = some (iI (zsum (zsc wt kd) 1 v)) := by
  obtain ⟨hl, hx, b1, b2⟩ := zT_sum (wt := wt) (kd := kd) h6 hsc hv
  rw [zkc_v h6 hv]
  exact s_scoreIn N (by omega) (by omega) (by omega) (fun h hh => by have := hx h hh; omega)
theorem s_headKey (hN : 10000000 ≤ N) {cr : Bool} {v : List Nat} (h6 : n ≤ 6) (hsc : ∀ h w, h ≤ n → 1 ≤ w → w ≤ n → -8000 ≤ zsc wt kd h w ∧ zsc wt kd h w ≤ 8000) (hv : v ∈ zT n (zal mk n) cr) {w : Nat} (h1 : 1 ≤ w) (h2 : w ≤ n) : f_X6_headIn N (lI (zkc (zsc wt kd) v)) (nI w) = some (nI (zhd v w)) := by
  obtain ⟨hl, hx, b1, b2⟩ := zT_sum (wt := wt) (kd := kd) h6 hsc hv
  rw [zkc_v h6 hv]
  exact s_headIn hN (by omega) (by omega) (by omega) (fun h hh => by have := hx h hh; omega) h1 (by omega)
end KB
