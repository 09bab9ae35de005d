/-! THE MODEL'S MAY. -/
section QY
variable {N k s n : Nat} {sw : Bool} {kd : Nat → Nat} {mk : Nat → Nat → Int32} {M : ZM} {v : List Nat} {h : Nat}
theorem q_may147 (hR : zRf sw k (zR M)) (hv : ∀ x ∈ v, x ≤ 6) (hl : v.length ≤ 5) (hH : zHd v (zI M) 125) (hh : h ≤ 6) (hw : zI M 125 (v.length + 1) = nI h) : ∀ (d f o : Nat), o + d = v.length + 1 → 1 ≤ o → d < f → f_X7_may_147 N (zKs k) (zln k) f 112 (nI (v.length + 1)) 0 1 (nI o) M = some (bif (List.range' o d).any (fun o => zcr h (v.length + 1) (zhd v o) o) then 0 else 1)
  | d, 0, o, _, _, hf => absurd hf (Nat.not_lt_zero d)
  | 0, f + 1, o, hd, _, _ => by
    unfold f_X7_may_147
    rw [if_pos (nI_le (by omega) (by omega))]
    rfl
  | d + 1, f + 1, o, hd, h1, hf => by
    unfold f_X7_may_147
    rw [if_neg (nI_ge (by omega) (by omega)), if_neg one_ne0, if_pos rfl, zbindS (q_doCross hR (show h < 7 by omega) (show v.length + 1 < 7 by omega) (show zhd v o < 7 by have := hv _ (zhd_mem h1 (show o ≤ v.length by omega)); omega) (show o < 7 by omega) hw (hH o h1 (by omega))), zgK (k112 k)]
    rw [List.range'_succ, List.any_cons]
    unfold f_X7_may_177
    rw [show nI o + 1 = nI (o + 1) from nI_1 o]
    cases hc : zcr h (v.length + 1) (zhd v o) o with
    | true =>
      rw [cond_true, if_neg one_ne0, Bool.true_or]
      obtain ⟨f, rfl⟩ : ∃ g, f = g + 1 := ⟨f - 1, by omega⟩
      show f_X7_may_147 N (zKs k) (zln k) (f + 1) 112 (nI (v.length + 1)) 0 0 (nI (o + 1)) M = some 0
      unfold f_X7_may_147
      by_cases c : nI (v.length + 1) ≤ nI (o + 1)
      · rw [if_pos c]; rfl
      · rw [if_neg c, if_pos rfl]; rfl
    | false =>
      rw [cond_false, if_pos rfl, Bool.false_or]
      exact q_may147 hR hv hl hH hh hw d f (o + 1) (by omega) (by omega) (by omega)
theorem q_may98 (hR : zRf sw k (zR M)) (hl : v.length ≤ 5) (hv : ∀ x ∈ v, x ≤ 6) (hH : zHd v (zI M) 125) (cr : Int32) : ∀ (d f p : Nat), p ≤ 6 → d < f → ¬ (0 < zit v d p ∧ zit v d p ≤ v.length) → f_X7_may_98 N (zKs k) (zln k) f 112 (nI (v.length + 1)) cr 1 (nI p) M = f_X7_may_126 N (zKs k) (zln k) 112 (nI (v.length + 1)) cr 1 (nI (zit v d p)) M
  | d, 0, p, _, hf, _ => absurd hf (Nat.not_lt_zero d)
  | d, f + 1, p, hp, hf, hout => by
    unfold f_X7_may_98
    rw [if_neg one_ne0]
    have stay : ¬ (0 < p ∧ p ≤ v.length) → zit v d p = p := by
      intro q
      clear hout
      induction d with
      | zero => rfl
      | succ j ih => show zit v j (zup1 v p) = p; rw [show zup1 v p = p from if_neg q]; exact ih (by omega)
    by_cases e0 : p = 0
    · rw [stay (by omega)]
      subst e0
      rw [if_pos (show nI 0 ≤ 0 by decide +kernel)]
    · rw [if_neg (nI_nle (by omega) (by omega))]
      by_cases e1 : p ≤ v.length
      · cases d with
        | zero => exact absurd ⟨by show 0 < p; omega, e1⟩ hout
        | succ d =>
          have e2 : zit v (d + 1) p = zit v d (zhd v p) := by
            show zit v d (zup1 v p) = _
            rw [show zup1 v p = zhd v p from if_pos ⟨by omega, e1⟩]
          rw [e2] at hout ⊢
          rw [if_neg (nI_ge (by omega) (by omega)), zgK (k112 k), zbindS (hR.at 112 18 125 (zrm 34 rfl)), zgok (k125 k) (l125 k) (show p < 7 by omega) (by decide), nI_clamp (by omega), hH p (by omega) e1]
          exact q_may98 hR hl hv hH cr d f (zhd v p) (hv _ (zhd_mem (by omega) e1)) (by omega) hout
      · rw [stay (fun q => e1 q.2), if_pos (nI_le (by omega) (by omega))]
end QY
