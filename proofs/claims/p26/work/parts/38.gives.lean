/-! GIVEHEADS goes through the trees in their order. -/
/-- what it leaves: the keys of the trees l noted from c on; heads changed behind word L alone -/
def zGH (kc : List Nat → Int) (L : Nat) (l : List (List Nat)) (c : Nat) (M M' : ZM) : Prop :=
  zR M' = zR M ∧ zD M' = zD M ∧ (∀ a i, a ≠ 111 → ¬ (a = 109 ∧ i = 2) → zI M' a i = zI M a i) ∧ (∀ i, i ≤ L → zI M' 111 i = zI M 111 i) ∧ zI M' 109 2 = nI (c + l.length) ∧ (∀ a i, a ≠ 110 → zJ M' a i = zJ M a i) ∧ (∀ i, i < c → zJ M' 110 i = zJ M 110 i) ∧ ∀ i, i < l.length → zJ M' 110 (c + i) = lI (kc (l.getD i []))
theorem zGH_nil {kc : List Nat → Int} {L c : Nat} {M : ZM} (h : zI M 109 2 = nI c) : zGH kc L [] c M M :=
  ⟨rfl, rfl, fun _ _ _ _ => rfl, fun _ _ => rfl, h, fun _ _ _ => rfl, fun _ _ => rfl, fun i hi => absurd hi (Nat.not_lt_zero i)⟩
theorem zGH_app {kc : List Nat → Int} {L c : Nat} {l1 l2 : List (List Nat)} {M M1 M2 : ZM} (h1 : zGH kc L l1 c M M1) (h2 : zGH kc L l2 (c + l1.length) M1 M2) : zGH kc L (l1 ++ l2) c M M2 := by
  obtain ⟨a1, a2, a3, a4, a5, a6, a7, a8⟩ := h1
  obtain ⟨b1, b2, b3, b4, b5, b6, b7, b8⟩ := h2
  refine ⟨b1.trans a1, b2.trans a2, fun a i h h' => (b3 a i h h').trans (a3 a i h h'), fun i h => (b4 i h).trans (a4 i h), by rw [b5, List.length_append, Nat.add_assoc], fun a i h => (b6 a i h).trans (a6 a i h), fun i h => (b7 i (by omega)).trans (a7 i h), fun i hi => ?_⟩
  rw [List.length_append] at hi
  by_cases c1 : i < l1.length
  · rw [b7 (c + i) (by omega), a8 i c1, List.getD_eq_getElem?_getD, List.getD_eq_getElem?_getD, List.getElem?_append_left c1]
  · have := b8 (i - l1.length) (by omega)
    rw [show c + l1.length + (i - l1.length) = c + i by omega] at this
    rw [this, List.getD_eq_getElem?_getD, List.getD_eq_getElem?_getD, List.getElem?_append_right (by omega)]
theorem zGH_head {kc : List Nat → Int} {L c : Nat} {l : List (List Nat)} {M M' : ZM} {x : Int32} (h : zGH kc (L + 1) l c (zsI M 111 (L + 1) x) M') : zGH kc L l c M M' := by
  obtain ⟨a1, a2, a3, a4, a5, a6, a7, a8⟩ := h
  exact ⟨a1, a2, fun a i h h' => (a3 a i h h').trans (by rw [zI_sI, if_neg (fun q => h q.1)]), fun i h => (a4 i (by omega)).trans (by rw [zI_sI, if_neg (by omega)]), a5, a6, a7, a8⟩
def zkf (sc : Nat → Nat → Int) (h w : Nat) : Int := sc h w * 117649 - (h : Int) * (7 ^ (6 - w) : Nat)
def zkc (sc : Nat → Nat → Int) (v : List Nat) : Int := zsum (zkf sc) 1 v
theorem zkf_b {sc : Nat → Nat → Int} {h w : Nat} (h1 : -8000 ≤ sc h w) (h2 : sc h w ≤ 8000) (hh : h ≤ 6) (hw : 1 ≤ w) (hw6 : w ≤ 6) : -1000000000 ≤ zkf sc h w ∧ zkf sc h w ≤ 1000000000 := by
  unfold zkf
  have h3 : 7 ^ (6 - w) ≤ 7 ^ 5 := Nat.pow_le_pow_right (by decide) (by omega)
  have h4 : h * 7 ^ (6 - w) ≤ 6 * 7 ^ 5 := Nat.mul_le_mul hh h3
  have h5 : ((h : Int) * ((7 ^ (6 - w) : Nat) : Int)) = ((h * 7 ^ (6 - w) : Nat) : Int) := (Int.natCast_mul _ _).symm
  rw [h5]
  omega
/-- what stays while the heads are given -/
def zArcs (n : Nat) (al : Nat → Nat → Bool) (sc : Nat → Nat → Int) (M : ZM) : Prop := zI M 48 1 = nI n ∧ ∀ h w, h ≤ n → w ≤ n → zJ M (50 + h) w = zkk al sc h w
section SG
variable {N k n : Nat} {sw : Bool} {al : Nat → Nat → Bool} {sc : Nat → Nat → Int} {cr : Bool}
theorem zGH_arcs {kc : List Nat → Int} {L c : Nat} {l : List (List Nat)} {M M' : ZM} (h : zGH kc L l c M M') (hn : n ≤ 6) (hA : zArcs n al sc M) : zArcs n al sc M' :=
  ⟨(h.2.2.1 48 1 (by decide) (by decide)).trans hA.1, fun a w ha hw => (h.2.2.2.2.2.1 (50 + a) w (by omega)).trans (hA.2 a w ha hw)⟩
theorem zGH_heads {kc : List Nat → Int} {v : List Nat} {c : Nat} {l : List (List Nat)} {M M' : ZM} (h : zGH kc v.length l c M M') (hH : zHd v (zI M) 111) : zHd v (zI M') 111 := fun i h1 h2 => (h.2.2.2.1 i h2).trans (hH i h1 h2)
theorem s_gives (hN : 10000000 ≤ N) (hn : n ≤ 6) (hsc : ∀ h w, h ≤ n → 1 ≤ w → w ≤ n → -8000 ≤ sc h w ∧ sc h w ≤ 8000) : ∀ (m d : Nat) (v : List Nat) (c : Nat) (M : ZM), m < d → v.length + m = n → (∀ x ∈ v, x ≤ n) → zRf sw k (zR M) → zArcs n al sc M → zHd v (zI M) 111 → zI M 109 2 = nI c → c + (zt n (zokf al cr) m v).length ≤ 16807 → ∃ M', f_X4_giveHeads N (zKs k) (zln k) d 109 48 (bif cr then 1 else 0) (nI (v.length + 1)) (lI (zkc sc v)) M = some M' ∧ zGH (zkc sc) v.length (zt n (zokf al cr) m v) c M M'
  | m, 0, v, c, M, hd, _, _, _, _, _, _, _ => absurd hd (Nat.not_lt_zero m)
  | 0, d + 1, v, c, M, hd, hl, hv, hR, hA, hH, hc, hcap => by
    have hcap : c + 1 ≤ 16807 := hcap
    refine ⟨zsI (zsJ M 110 c (lI (zkc sc v))) 109 2 (nI (c + 1)), ?_, rfl, rfl, fun a i h h' => ?_, fun i h => ?_, ?_, fun a i h => ?_, fun i h => ?_, fun i hi => ?_⟩
    · unfold f_X4_giveHeads f_X4_giveHeads_0
      rw [zbindS s_asize, zgK (k48 k), hA.1, if_pos (nI_lt (by omega) (by omega))]
      unfold f_X4_giveHeads_14
      rw [zbindS (s_note hR hc (by omega) _), zgK (k109 k)]
    · rw [zI_sI, if_neg h', zI_sJ]
    · rw [zI_sI, if_neg (by omega), zI_sJ]
    · rw [zI_sI, if_pos ⟨rfl, rfl⟩]; rfl
    · rw [zJ_sI, zJ_sJ, if_neg (fun q => h q.1)]
    · rw [zJ_sI, zJ_sJ, if_neg (by omega)]
    · have hi0 : i = 0 := by have : i < 1 := hi; omega
      subst hi0
      rw [zJ_sI, zJ_sJ, if_pos ⟨rfl, rfl⟩]; rfl
  | m + 1, d + 1, v, c, M, hd, hl, hv, hR, hA, hH, hc, hcap => by
    have hv6 : ∀ x ∈ v, x ≤ 6 := fun x hx => Nat.le_trans (hv x hx) hn
    have key : ∀ (q f h : Nat) (c : Nat) (M : ZM), h + q = n + 1 → q < f → zRf sw k (zR M) → zArcs n al sc M → zHd v (zI M) 111 → zI M 109 2 = nI c → c + ((List.range' h q).flatMap fun h => if zokf al cr v h then zt n (zokf al cr) m (v ++ [h]) else []).length ≤ 16807 →
        ∃ M', f_X4_giveHeads_24 N (zKs k) (zln k) (fun b0 b1 b2 b3 b4 M => f_X4_giveHeads N (zKs k) (zln k) d b0 b1 b2 b3 b4 M) f 109 48 (bif cr then 1 else 0) (nI (v.length + 1)) (lI (zkc sc v)) (nI h) M = some M' ∧ zGH (zkc sc) v.length ((List.range' h q).flatMap fun h => if zokf al cr v h then zt n (zokf al cr) m (v ++ [h]) else []) c M M' := by
      intro q
      induction q with
      | zero =>
        intro f h c M hq hf hR hA hH hc _
        obtain ⟨f, rfl⟩ : ∃ g, f = g + 1 := ⟨f - 1, by omega⟩
        refine ⟨M, ?_, zGH_nil hc⟩
        unfold f_X4_giveHeads_24
        rw [zbindS s_asize, zgK (k48 k), hA.1, if_pos (nI_lt (by omega) (by omega))]
      | succ q ih =>
        intro f h c M hq hf hR hA hH hc hcap
        obtain ⟨f, rfl⟩ : ∃ g, f = g + 1 := ⟨f - 1, by omega⟩
        rw [List.range'_succ, List.flatMap_cons] at hcap ⊢
        rw [List.length_append] at hcap
        have hw1 : v.length + 1 ≤ n := by omega
        have hb := hsc h (v.length + 1) (by omega) (by omega) hw1
        have hkb := zkf_b hb.1 hb.2 (show h ≤ 6 by omega) (show 1 ≤ v.length + 1 by omega) (show v.length + 1 ≤ 6 by omega)
        -- this head is not taken
        have skip : zokf al cr v h = false → ∃ M', f_X4_giveHeads_97 N (zKs k) (zln k) (fun b0 b1 b2 b3 b4 M => f_X4_giveHeads N (zKs k) (zln k) d b0 b1 b2 b3 b4 M) (fun y0 y1 y2 y3 y4 y6 M => f_X4_giveHeads_24 N (zKs k) (zln k) (fun b0 b1 b2 b3 b4 M => f_X4_giveHeads N (zKs k) (zln k) d b0 b1 b2 b3 b4 M) f y0 y1 y2 y3 y4 y6 M) 109 48 (bif cr then 1 else 0) (nI (v.length + 1)) (lI (zkc sc v)) (nI h) M = some M' ∧ zGH (zkc sc) v.length ((if zokf al cr v h then zt n (zokf al cr) m (v ++ [h]) else []) ++ (List.range' (h + 1) q).flatMap fun h => if zokf al cr v h then zt n (zokf al cr) m (v ++ [h]) else []) c M M' := by
          intro hno
          rw [if_neg (by rw [hno]; decide)] at hcap ⊢
          obtain ⟨M', e, g⟩ := ih f (h + 1) c M (by omega) (by omega) hR hA hH hc (by simpa using hcap)
          refine ⟨M', ?_, by simpa using g⟩
          unfold f_X4_giveHeads_97
          rw [show nI h + 1 = nI (h + 1) from nI_1 h]
          exact e
        -- it is
        have take : al h (v.length + 1) = true → zokf al cr v h = true → ∃ M', f_X4_giveHeads_75 N (zKs k) (zln k) (fun b0 b1 b2 b3 b4 M => f_X4_giveHeads N (zKs k) (zln k) d b0 b1 b2 b3 b4 M) (fun y0 y1 y2 y3 y4 y6 M => f_X4_giveHeads_24 N (zKs k) (zln k) (fun b0 b1 b2 b3 b4 M => f_X4_giveHeads N (zKs k) (zln k) d b0 b1 b2 b3 b4 M) f y0 y1 y2 y3 y4 y6 M) 109 48 (bif cr then 1 else 0) (nI (v.length + 1)) (lI (zkc sc v)) (nI h) (zkk al sc h (v.length + 1)) M = some M' ∧ zGH (zkc sc) v.length ((if zokf al cr v h then zt n (zokf al cr) m (v ++ [h]) else []) ++ (List.range' (h + 1) q).flatMap fun h => if zokf al cr v h then zt n (zokf al cr) m (v ++ [h]) else []) c M M' := by
          intro hal hyes
          rw [if_pos hyes] at hcap ⊢
          have hlen : (v ++ [h]).length = v.length + 1 := by simp
          obtain ⟨M1, e1, g1⟩ := s_gives hN hn hsc m d (v ++ [h]) c (zsI M 111 (v.length + 1) (nI h)) (by omega) (by rw [hlen]; omega) (fun x hx => by
              rcases List.mem_append.mp hx with q1 | q1
              · exact hv x q1
              · rw [List.mem_singleton.mp q1]; omega) hR ⟨by rw [zI_sI, if_neg (by omega)]; exact hA.1, hA.2⟩ (fun i h1 h2 => by
              rw [hlen] at h2
              rw [zI_sI]
              by_cases c1 : i = v.length + 1
              · rw [if_pos ⟨rfl, c1⟩, c1, zhd_last]
              · rw [if_neg (fun q => c1 q.2), zhd_app h1 (by omega)]
                exact hH i h1 (by omega)) (by rw [zI_sI, if_neg (by omega)]; exact hc) (by omega)
          rw [hlen] at e1 g1
          have g1 := zGH_head g1
          obtain ⟨M2, e2, g2⟩ := ih f (h + 1) _ M1 (by omega) (by omega) (by rw [g1.1]; exact hR) (zGH_arcs g1 hn hA) (zGH_heads g1 hH) g1.2.2.2.2.1 (by omega)
          refine ⟨M2, ?_, zGH_app g1 g2⟩
          unfold f_X4_giveHeads_75
          have hkc : lI (zkc sc v) + zkk al sc h (v.length + 1) = lI (zkc sc (v ++ [h])) := by
            unfold zkk zkc
            rw [if_pos ⟨by omega, hal⟩, zsum_snoc, show 1 + v.length = v.length + 1 by omega, lI_add]
            rfl
          rw [zgK (k109 k), zbindS (hR.at 109 1 111 (zrm 21 rfl)), zgok (k111 k) (l111 k) (show v.length + 1 < 7 by omega) (by decide), zlS, nI_clamp (by omega), show nI (v.length + 1) + 1 = nI (v.length + 1 + 1) from nI_1 _, hkc, zbindS e1]
          unfold f_X4_giveHeads_97
          rw [show nI h + 1 = nI (h + 1) from nI_1 h]
          exact e2
        unfold f_X4_giveHeads_24
        rw [zbindS s_asize, zgK (k48 k), hA.1, if_neg (nI_nlt (by omega) (by omega)), zbindS (s_aget hR (show h < 7 by omega) (show v.length + 1 < 7 by omega)), hA.2 h (v.length + 1) (by omega) hw1]
        by_cases hal : al h (v.length + 1) = true
        · have hne : ¬ zkk al sc h (v.length + 1) = (-9223372036854775808 : Int64) := by
            unfold zkk
            rw [if_pos ⟨by omega, hal⟩, ← lI_nkey, lI_eq (by unfold zkf at hkb; omega) (by unfold zkf at hkb; omega) (by omega) (by omega)]
            unfold zkf at hkb
            omega
          rw [if_neg hne, zbindS (s_closesCircle hN hR hv6 (by omega) hH (show h ≤ 6 by omega)), zgK (k109 k)]
          cases hcl : zch v 7 h == v.length + 1 with
          | true =>
            rw [cond_true, if_neg one_ne0]
            exact skip (by unfold zokf; rw [hal, hcl]; rfl)
          | false =>
            rw [cond_false, if_pos rfl]
            cases cr with
            | true =>
              rw [cond_true, if_neg one_ne0]
              exact take hal (by unfold zokf; rw [hal, hcl]; rfl)
            | false =>
              rw [cond_false, if_pos rfl, zbindS (s_crossesEarlier hN hR hv6 (by omega) hH (show h ≤ 6 by omega))]
              cases hcs : zcrs v h with
              | true =>
                rw [cond_true, if_neg one_ne0]
                exact skip (by unfold zokf; rw [hal, hcl, hcs]; rfl)
              | false =>
                rw [cond_false, if_pos rfl]
                exact take hal (by unfold zokf; rw [hal, hcl, hcs]; rfl)
        · rw [if_pos (by unfold zkk; rw [if_neg (fun q => hal q.2)]; rfl)]
          exact skip (by unfold zokf; rw [Bool.eq_false_iff.mpr hal]; rfl)
    obtain ⟨M', e, g⟩ := key (n + 1) N 0 c M (by omega) (by omega) hR hA hH hc hcap
    refine ⟨M', ?_, g⟩
    unfold f_X4_giveHeads f_X4_giveHeads_0
    rw [zbindS s_asize, zgK (k48 k), hA.1, if_neg (nI_nlt (by omega) (by omega)), if_pos (show nI (v.length + 1) ≤ (6 : Int32) from nI_le (b := 6) (by omega) (by omega))]
    exact e
end SG
