/-! CALLS THAT ASK FOR TREES: the model's side. -/
theorem zb01_cr (p : Int32) : ∃ cr : Bool, zb01 p = bif cr then 1 else 0 := by
  unfold zb01
  by_cases h : p = 0
  · exact ⟨false, by rw [if_pos h]; rfl⟩
  · exact ⟨true, by rw [if_neg h]; rfl⟩
section CT
variable {N j k : Nat} {sw : Bool} {n : Nat → Nat} {kd : Nat → Nat → Nat} {mk : Nat → Nat → Nat → Int32} {rh : Nat → Nat → Int32} {wt sm : Nat → Int} {st : Nat} {H : List zE} {nx fs : Nat} {M : ZM}
theorem zCo_M (hj : j ≤ 512) (h : zCo j k sw n kd mk rh wt sm st H nx fs M) {s : Nat} (hs : s < k) : s < 5 ∧ zSenM s (n s) (kd s) (mk s) (zI M) ∧ zWtsM wt (zI M) := ⟨by have := (zCo_k h).2; omega, (h.2.2.1.2.1 s hs).1, (zCo_wts hj h).2⟩
theorem q_findsI (hN : 10000000 ≤ N) (hj : j ≤ 512) (h : zCo j k sw n kd mk rh wt sm st H nx fs M) (hc : zChk k n kd mk wt M) {s : Nat} (hs : s < k) (cr : Bool) : ∃ M', f_X7_finds N (zKs k) (zln k) 112 (nI s) (bif cr then 1 else 0) M = some (nI (zwh s cr), M') ∧ zMf M M' ∧ zChk k n kd mk wt M' ∧ zFil s (n s) (kd s) (mk s) wt cr M' ∧ zI M' 112 19 = zI M 112 19 := by
  obtain ⟨hs5, hS, hW⟩ := zCo_M hj h hs
  obtain ⟨M', e, ⟨a1, a2, a3, a4, a5⟩, hF⟩ := q_finds hN h.1 hs5 hS hW cr ((hc.1 s cr hs5).imp id (fun q => q.2))
  refine ⟨M', e, ⟨a1, fun a i q r => a3 a i (by omega) (by omega) (by omega) (by omega), fun a i _ r => a4 a i (by omega), a2⟩, ⟨fun s' cr' hs' => ?_, ?_⟩, hF, a3 112 19 (by decide) (by decide) (by omega) (by omega)⟩
  · by_cases hw : zwh s' cr' = zwh s cr
    · obtain ⟨rfl, rfl⟩ := zwh_inj hw
      exact Or.inr ⟨hs, hF⟩
    · have e4 : zI M' 124 (zwh s' cr') = zI M 124 (zwh s' cr') := a3 _ _ (by decide) (by omega) (by omega) (by omega)
      rcases hc.1 s' cr' hs' with q | ⟨q1, q2⟩
      · exact Or.inl (e4.trans q)
      · exact Or.inr ⟨q1, zFil_congr e4 (a3 _ _ (by decide) (by omega) (by omega) (by omega)) (a4 _ _ (by omega)) q2⟩
  · rcases a5 with q | q
    · exact Or.inl q
    · rcases hc.2 with r | ⟨s', cr', r1, r2, r3⟩
      · exact Or.inl (q.trans r)
      · exact Or.inr ⟨s', cr', r1, q.trans r2, zSrt_congr (fun i => a4 _ _ (by omega)) r3⟩
theorem q_findsF {s : Nat} (hR : zRf sw k (zR M)) (hs5 : s < 5) {m : Nat} {kd : Nat → Nat} {mk : Nat → Nat → Int32} (cr : Bool) (hF : zFil s m kd mk wt cr M) : f_X7_finds N (zKs k) (zln k) 112 (nI s) (bif cr then 1 else 0) M = some (nI (zwh s cr), M) := by
  have hwh := zwh_lt hs5 cr
  have key : ∀ s0 : Int32, (2 : Int32) * nI s + s0 = nI (zwh s cr) → f_X7_finds_12 N (zKs k) (zln k) 112 (nI s) (bif cr then 1 else 0) s0 ((2 : Int32) * nI s) M = some (nI (zwh s cr), M) := fun s0 hs0 => by
    unfold f_X7_finds_12
    rw [zgK (k112 k), zbindS (hR.at 112 17 124 (zrm 33 rfl)), hs0, zgok (k124 k) (l124 k) hwh (by decide), nI_clamp (by omega), hF.1, if_neg one_ne0]
  have hz := zwh_I s cr
  unfold f_X7_finds f_X7_finds_0
  cases cr
  · rw [cond_false] at hz
    rw [cond_false, if_pos rfl]
    exact key 0 hz
  · rw [cond_true] at hz
    rw [cond_true, if_neg one_ne0]
    exact key 1 hz
theorem q_listsI (hN : 10000000 ≤ N) (hj : j ≤ 512) (h : zCo j k sw n kd mk rh wt sm st H nx fs M) (hc : zChk k n kd mk wt M) {s : Nat} (hs : s < k) (cr : Bool) (hF : zFil s (n s) (kd s) (mk s) wt cr M) : ∃ M', f_X7_lists N (zKs k) (zln k) 112 (nI s) (bif cr then 1 else 0) M = some M' ∧ zMf M M' ∧ zChk k n kd mk wt M' ∧ zI M' 112 19 = zI M 112 19 ∧ zSrt wt (kd s) (zT (n s) (zal (mk s) (n s)) cr) M' := by
  obtain ⟨hs5, hS, hW⟩ := zCo_M hj h hs
  have hwh := zwh_lt hs5 cr
  obtain ⟨M', e, ⟨a1, a2, a3, a4⟩, hF', hl, hsr⟩ := q_lists hN h.1 hs5 hS hW cr hF (fun q => by
    rcases hc.2 with r | ⟨s', cr', r1, r2, r3⟩
    · rw [r] at q
      exact absurd q.symm (nI_nem1 (by omega))
    · have hwh' := zwh_lt (s := s') (by have := (zCo_k h).2; omega) cr'
      rw [r2] at q
      obtain ⟨rfl, rfl⟩ := zwh_inj ((nI_eq (by omega) (by omega)).mp q)
      exact r3)
  refine ⟨M', e, ⟨a1, fun a i q r => a3 a i (by omega) (by omega) (by omega) (by omega), fun a i q r => a4 a i (by omega) q, a2⟩, ⟨fun s' cr' hs' => ?_, Or.inr ⟨s, cr, hs, hl, hsr⟩⟩, a3 112 19 (by decide) (by decide) (by omega) (by omega), hsr⟩
  by_cases hw : zwh s' cr' = zwh s cr
  · obtain ⟨rfl, rfl⟩ := zwh_inj hw
    exact Or.inr ⟨hs, hF'⟩
  · have e4 : zI M' 124 (zwh s' cr') = zI M 124 (zwh s' cr') := a3 _ _ (by decide) (by omega) (by omega) (by omega)
    rcases hc.1 s' cr' hs' with q | ⟨q1, q2⟩
    · exact Or.inl (e4.trans q)
    · exact Or.inr ⟨q1, zFil_congr e4 (a3 _ _ (by decide) (by omega) (by omega) (by omega)) (a4 _ _ (by omega) (by decide)) q2⟩
theorem zT_cap (hj : j ≤ 512) (h : zCo j k sw n kd mk rh wt sm st H nx fs M) {s : Nat} (hs : s < k) (cr : Bool) : (zT (n s) (zal (mk s) (n s)) cr).length ≤ 16807 ∧ ∀ a w, a ≤ n s → 1 ≤ w → w ≤ n s → -8000 ≤ zsc wt (kd s) a w ∧ zsc wt (kd s) a w ≤ 8000 := ⟨zT_len (zCo_n h hs).2.2 (fun a w q => (zal_iff.mp q).1) cr, zsc_bM (zCo_M hj h hs).2.1 (zCo_M hj h hs).2.2⟩
theorem q_tree34 (v : Int32) : f_X7_asksTree_34 N (zKs k) (zln k) 112 v 112 M = some (if v = 0 then 1 else 0, zsI M 112 19 v) := by
  unfold f_X7_asksTree_34
  rw [zgK (k112 k), zlS, zgK (k112 k), show zI (zsI M 112 19 v) 112 19 = v from rfl]
  by_cases h : v = 0
  · simp only [if_pos h]
  · simp only [if_neg h]
/-- asksTree of a sentence: there is none, or the best one's key lies there -/
theorem q_asksTree (hN : 10000000 ≤ N) (hj : j ≤ 512) (h : zCo j k sw n kd mk rh wt sm st H nx fs M) (hc : zChk k n kd mk wt M) {s : Nat} (hs : s < k) (cr : Bool) : ∃ M', zMf M M' ∧ zChk k n kd mk wt M' ∧ ((zT (n s) (zal (mk s) (n s)) cr = [] ∧ f_X7_asksTree N (zKs k) (zln k) 112 (nI s) (bif cr then 1 else 0) M = some (0, M') ∧ zI M' 112 19 = 2) ∨ ∃ v, zBt (zT (n s) (zal (mk s) (n s)) cr) wt (kd s) v ∧ f_X7_asksTree N (zKs k) (zln k) 112 (nI s) (bif cr then 1 else 0) M = some (1, M') ∧ zI M' 112 19 = 0 ∧ zJ M' 122 (zwh s cr) = zkm wt (kd s) v ∧ f_X7_finds N (zKs k) (zln k) 112 (nI s) (bif cr then 1 else 0) M' = some (nI (zwh s cr), M')) := by
  obtain ⟨hk0, hk5⟩ := zCo_k h
  obtain ⟨hs5, hS, hW⟩ := zCo_M hj h hs
  have hwh := zwh_lt hs5 cr
  obtain ⟨hcap, hsc⟩ := zT_cap hj h hs cr
  have h6 := (zCo_n h hs).2.2
  obtain ⟨M1, e1, g1, c1, f1, t1⟩ := q_findsI hN hj (zCo_mf h (zMf_thr M 0)) (zChk_thr hc 0) hs cr
  have pre : f_X7_asksTree N (zKs k) (zln k) 112 (nI s) (bif cr then 1 else 0) M = if nI (zT (n s) (zal (mk s) (n s)) cr).length = 0 then f_X7_asksTree_34 N (zKs k) (zln k) 112 2 112 M1 else f_X7_asksTree_34 N (zKs k) (zln k) 112 0 112 M1 := by
    unfold f_X7_asksTree f_X7_asksTree_0
    rw [zbindS (q_sen_ok hk0 hk5 hs), zgK (k112 k), zbpS q_asks1, if_neg one_ne0, zR_sI, zbindS (h.1.at 112 16 123 (zrm 32 rfl)), zbpS e1, zgok (k123 k) (l123 k) hwh (by decide), nI_clamp (by omega), f1.2.1]
  by_cases hz : zT (n s) (zal (mk s) (n s)) cr = []
  · refine ⟨zsI M1 112 19 2, zMf_trans (zMf_trans (zMf_thr M 0) g1) (zMf_thr M1 2), zChk_thr c1 2, Or.inl ⟨hz, ?_, rfl⟩⟩
    rw [pre, hz, if_pos (show nI ([] : List (List Nat)).length = 0 from rfl), q_tree34]
    rfl
  · have hlen : 0 < (zT (n s) (zal (mk s) (n s)) cr).length := List.length_pos_iff.mpr hz
    obtain ⟨v, hv, ev⟩ := q_top (wt := wt) (kd := kd s) (mk := mk s) (cr := cr) h6 hsc hz
    refine ⟨zsI M1 112 19 0, zMf_trans (zMf_trans (zMf_thr M 0) g1) (zMf_thr M1 0), zChk_thr c1 0, Or.inr ⟨v, hv, ?_, rfl, f1.2.2.trans ev, q_findsF (sw := sw) (by rw [zR_sI, g1.1]; exact h.1) hs5 cr (zFil_congr (M := M1) (by rw [zI_sI, if_neg (by omega)]) (by rw [zI_sI, if_neg (by omega)]) rfl f1)⟩⟩
    rw [pre, if_neg (nI_ne0 hlen (by omega)), q_tree34]
    rfl
theorem q_asksTree_no (h0 : zI M 112 0 = nI k) {p b : Int32} (hp : p < 0 ∨ nI k ≤ p) : f_X7_asksTree N (zKs k) (zln k) 112 p b M = some (0, zsI M 112 19 1) := by
  unfold f_X7_asksTree f_X7_asksTree_0
  rw [zbindS (q_sen_no h0 hp), zgK (k112 k), zbpS q_asks0, if_pos rfl]
/-- asksRank -/
theorem q_rank50_0 (x y : Int32) : f_X7_asksRank_37 N (zKs k) (zln k) 112 x y 0 M = some (0, zsI M 112 19 1) := by
  unfold f_X7_asksRank_37
  rw [if_pos rfl]
  unfold f_X7_asksRank_50
  rw [zbpS q_asks0, zgK (k112 k)]
  rfl
end CT
