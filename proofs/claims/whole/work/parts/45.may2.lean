/-! MAY as a whole. -/
section QZ
variable {N k s n : Nat} {sw : Bool} {kd : Nat → Nat} {mk : Nat → Nat → Int32} {M : ZM} {v : List Nat} {h : Nat}
theorem q_arc (N s h w : Nat) : f_X7_arc N 112 (nI s) (nI h) (nI w) = some (nI (49 * s + 7 * w + h)) := by
  unfold f_X7_arc f_X7_arc_0
  rw [show (49 : Int32) = nI 49 from rfl, show (7 : Int32) = nI 7 from rfl, nI_mul, nI_mul, nI_add, nI_add]
theorem q_may41 (hR : zRf sw k (zR M)) (hs : s < 5) (hS : zSenM s n kd mk (zI M)) {w : Nat} (hw : w ≤ n) (hh : h ≤ n) (cr : Int32) : ∀ (d f o : Nat) (b : Bool), o + d = n + 1 → d < f → f_X7_may_41 N (zKs k) (zln k) f 112 (nI s) (nI w) cr (nI h) (bif b then 1 else 0) (nI o) M = f_X7_may_98 N (zKs k) (zln k) N 112 (nI w) cr (bif b && (List.range' o d).all (fun o => decide (o ≠ h → mk o w ≠ 1)) then 1 else 0) (nI h) M
  | d, 0, o, b, _, hf => absurd hf (Nat.not_lt_zero d)
  | 0, f + 1, o, b, hd, _ => by
    have h6 := hS.1
    unfold f_X7_may_41
    rw [zgK (k112 k), zbindS (hR.at 112 1 113 (zrm 22 rfl)), zgok (k113 k) (l113 k) hs (by decide), nI_clamp (by omega), hS.2.1, if_pos (nI_lt (by omega) (by omega))]
    simp
  | d + 1, f + 1, o, b, hd, hf => by
    have h6 := hS.1
    have no : f_X7_may_85 N (zKs k) (zln k) (fun y0 y1 y2 y3 y4 y5 y6 => f_X7_may_41 N (zKs k) (zln k) f y0 y1 y2 y3 y4 y5 y6 M) 112 (nI s) (nI w) cr (nI h) (nI o) M = f_X7_may_98 N (zKs k) (zln k) N 112 (nI w) cr 0 (nI h) M := by
      unfold f_X7_may_85 f_X7_may_86
      rw [show nI o + 1 = nI (o + 1) from nI_1 o]
      refine (q_may41 hR hs hS hw hh cr d f (o + 1) false (by omega) (by omega)).trans ?_
      rw [Bool.false_and, cond_false]
    have yes : f_X7_may_81 N (zKs k) (zln k) (fun y0 y1 y2 y3 y4 y5 y6 => f_X7_may_41 N (zKs k) (zln k) f y0 y1 y2 y3 y4 y5 y6 M) 112 (nI s) (nI w) cr (nI h) (nI o) M = f_X7_may_98 N (zKs k) (zln k) N 112 (nI w) cr (bif (List.range' (o + 1) d).all (fun o => decide (o ≠ h → mk o w ≠ 1)) then 1 else 0) (nI h) M := by
      unfold f_X7_may_81 f_X7_may_86
      rw [show nI o + 1 = nI (o + 1) from nI_1 o]
      refine (q_may41 hR hs hS hw hh cr d f (o + 1) true (by omega) (by omega)).trans ?_
      rw [Bool.true_and]
    unfold f_X7_may_41
    rw [zgK (k112 k), zbindS (hR.at 112 1 113 (zrm 22 rfl)), zgok (k113 k) (l113 k) hs (by decide), nI_clamp (by omega), hS.2.1, if_neg (nI_nlt (by omega) (by omega)), List.range'_succ, List.all_cons]
    cases b with
    | false => rw [cond_false, if_pos rfl, no, Bool.false_and, cond_false]
    | true =>
      rw [cond_true, if_neg one_ne0, Bool.true_and]
      by_cases e : o = h
      · subst e
        rw [if_pos rfl, yes, show decide (o ≠ o → mk o w ≠ 1) = true from decide_eq_true (fun q => absurd rfl q), Bool.true_and]
      · rw [if_neg (fun q => e ((nI_eq (by omega) (by omega)).mp q)), zbindS (hR.at 112 3 115 (zrm 24 rfl)), zbindS (q_arc N s o w), zgok (k115 k) (l115 k) (show 49 * s + 7 * w + o < 245 by omega) (by decide), nI_clamp (by omega), hS.2.2.2.2.2 o w (by omega) (by omega)]
        by_cases e1 : mk o w = 1
        · rw [if_pos e1, no, show decide (o ≠ h → mk o w ≠ 1) = false from decide_eq_false (fun q => q e e1), Bool.false_and, cond_false]
        · rw [if_neg e1, yes, show decide (o ≠ h → mk o w ≠ 1) = true from decide_eq_true (fun _ => e1), Bool.true_and]
theorem q_no147 (N : Nat) (hN : 10000000 ≤ N) {w : Int32} (cr : Int32) : f_X7_may_142 N (zKs k) (zln k) 112 w cr 0 M = some 0 := by
  obtain ⟨f, e⟩ : ∃ f, N = f + 1 := ⟨N - 1, by omega⟩
  unfold f_X7_may_142
  rw [show f_X7_may_147 N (zKs k) (zln k) N 112 w cr 0 1 M = f_X7_may_147 N (zKs k) (zln k) (f + 1) 112 w cr 0 1 M by rw [← e]]
  unfold f_X7_may_147
  by_cases c : w ≤ 1
  · rw [if_pos c]; rfl
  · rw [if_neg c, if_pos rfl]; rfl
theorem q_no98 (hN : 10000000 ≤ N) {w p : Int32} (cr : Int32) : f_X7_may_98 N (zKs k) (zln k) N 112 w cr 0 p M = some 0 := by
  obtain ⟨f, e⟩ : ∃ f, N = f + 1 := ⟨N - 1, by omega⟩
  rw [show f_X7_may_98 N (zKs k) (zln k) N 112 w cr 0 p M = f_X7_may_98 N (zKs k) (zln k) (f + 1) 112 w cr 0 p M by rw [← e]]
  unfold f_X7_may_98
  rw [if_pos rfl]
  unfold f_X7_may_126
  rw [if_pos rfl]
  unfold f_X7_may_141
  exact q_no147 N hN cr
theorem q_may (hN : 10000000 ≤ N) (hR : zRf sw k (zR M)) (hs : s < 5) (hS : zSenM s n kd mk (zI M)) (hl : v.length + 1 ≤ n) (hv : ∀ x ∈ v, x ≤ n) (hrk : zrk v) (hH : zHd v (zI M) 125) (hh : h ≤ n) (hw : zI M 125 (v.length + 1) = nI h) (cr : Bool) : f_X7_may N (zKs k) (zln k) 112 (nI s) (nI (v.length + 1)) (bif cr then 1 else 0) M = some (bif zokf (zal mk n) cr v h then 1 else 0) := by
  have h6 := hS.1
  have hv6 : ∀ x ∈ v, x ≤ 6 := fun x hx => Nat.le_trans (hv x hx) h6
  -- behind the marks
  have fin : ∀ b : Bool, f_X7_may_36 N (zKs k) (zln k) 112 (nI s) (nI (v.length + 1)) (bif cr then 1 else 0) (nI h) (bif b then 1 else 0) M = some (bif (b && (List.range' 0 (n + 1)).all (fun o => decide (o ≠ h → mk o (v.length + 1) ≠ 1))) && !(zch v 7 h == v.length + 1) && (cr || !zcrs v h) then 1 else 0) := by
    intro b
    unfold f_X7_may_36
    refine (q_may41 hR hs hS hl hh (bif cr then 1 else 0) (n + 1) N 0 b (by omega) (by omega)).trans ?_
    cases (b && (List.range' 0 (n + 1)).all (fun o => decide (o ≠ h → mk o (v.length + 1) ≠ 1))) with
    | false =>
      rw [cond_false, q_no98 hN, Bool.false_and, Bool.false_and]
      rfl
    | true =>
      rw [cond_true, q_may98 hR (by omega) hv6 hH _ 7 N h (by omega) (by omega) (zit_out hrk h 7 (by omega)), Bool.true_and, zch_it]
      unfold f_X7_may_126
      rw [if_neg one_ne0]
      have hb : zit v 7 h < 2 ^ 31 := by
        have stay : ∀ j p, p ≤ 6 → zit v j p ≤ 6 := by
          intro j
          induction j with
          | zero => intro p hp; exact hp
          | succ j ih =>
            intro p hp
            refine ih _ ?_
            unfold zup1
            by_cases c : 0 < p ∧ p ≤ v.length
            · rw [if_pos c]; exact hv6 _ (zhd_mem c.1 c.2)
            · rw [if_neg c]; exact hp
        have := stay 7 h (by omega)
        omega
      by_cases e : zit v 7 h = v.length + 1
      · rw [if_pos (by rw [e]), e, beq_self_eq_true]
        unfold f_X7_may_141
        rw [q_no147 N hN]
        rfl
      · rw [if_neg (fun q => e ((nI_eq hb (by omega)).mp q)), beq_eq_false_iff_ne.mpr e, Bool.not_false, Bool.true_and]
        cases cr with
        | true =>
          obtain ⟨f, ef⟩ : ∃ f, N = f + 1 := ⟨N - 1, by omega⟩
          rw [cond_true, Bool.true_or, cond_true]
          unfold f_X7_may_142
          rw [show f_X7_may_147 N (zKs k) (zln k) N 112 (nI (v.length + 1)) 1 1 1 M = f_X7_may_147 N (zKs k) (zln k) (f + 1) 112 (nI (v.length + 1)) 1 1 1 M by rw [← ef]]
          unfold f_X7_may_147
          by_cases c : nI (v.length + 1) ≤ 1
          · rw [if_pos c]; rfl
          · rw [if_neg c, if_neg one_ne0, if_neg one_ne0]; rfl
        | false =>
          rw [cond_false, Bool.false_or]
          unfold f_X7_may_142
          refine (q_may147 hR hv6 (by omega) hH (by omega) hw v.length N 1 (by omega) (by omega) (by omega)).trans ?_
          show some (bif zcrs v h then 0 else 1) = some (bif !zcrs v h then 1 else 0)
          cases zcrs v h <;> rfl
  have hall : zal mk n h (v.length + 1) = (decide (h ≠ v.length + 1 ∧ mk h (v.length + 1) ≠ 2) && (List.range' 0 (n + 1)).all (fun o => decide (o ≠ h → mk o (v.length + 1) ≠ 1))) := by
    rw [Bool.eq_iff_iff, zal_iff, Bool.and_eq_true, decide_eq_true_eq, List.all_eq_true]
    constructor
    · rintro ⟨a, b, c⟩
      exact ⟨⟨a, b⟩, fun o ho => by rw [List.mem_range'_1] at ho; exact decide_eq_true (fun q => c o (by omega) q)⟩
    · rintro ⟨⟨a, b⟩, c⟩
      exact ⟨a, b, fun o ho q => of_decide_eq_true (c o (by rw [List.mem_range'_1]; omega)) q⟩
  unfold zokf
  rw [hall]
  unfold f_X7_may f_X7_may_0
  rw [zgK (k112 k), zbindS (hR.at 112 18 125 (zrm 34 rfl)), zgok (k125 k) (l125 k) (show v.length + 1 < 7 by omega) (by decide), nI_clamp (by omega), hw]
  by_cases e : h = v.length + 1
  · rw [if_pos (by rw [e]), show decide (h ≠ v.length + 1 ∧ mk h (v.length + 1) ≠ 2) = false from decide_eq_false (fun q => q.1 e)]
    exact fin false
  · rw [if_neg (fun q => e ((nI_eq (by omega) (by omega)).mp q)), zbindS (hR.at 112 3 115 (zrm 24 rfl)), zbindS (q_arc N s h (v.length + 1)), zgok (k115 k) (l115 k) (show 49 * s + 7 * (v.length + 1) + h < 245 by omega) (by decide), nI_clamp (by omega), hS.2.2.2.2.2 h (v.length + 1) (by omega) (by omega)]
    by_cases e1 : mk h (v.length + 1) = 2
    · rw [if_pos e1, show decide (h ≠ v.length + 1 ∧ mk h (v.length + 1) ≠ 2) = false from decide_eq_false (fun q => q.2 e1)]
      exact fin false
    · rw [if_neg e1, show decide (h ≠ v.length + 1 ∧ mk h (v.length + 1) ≠ 2) = true from decide_eq_true ⟨e, e1⟩]
      exact fin true
end QZ
