/-! THE LAW, PURE: its calls as answers (by program: wip/p26/gen/genk.py). -/
theorem yus_1 (x : Int32) : ∃ a, a < 2 ^ 31 ∧ yus x 1 = nI a := by
  refine ⟨(x.toUInt32 >>> 1).toNat, ?_, ?_⟩
  · rw [UInt32.toNat_shiftRight]
    have := x.toUInt32.toNat_lt
    show x.toUInt32.toNat >>> 1 < _
    rw [Nat.shiftRight_eq_div_pow]
    omega
  · show (x.toUInt32 >>> ((1 : Int32).toUInt32 &&& Int32.toUInt32 31)).toInt32 = Int32.ofNat _
    rw [show (1 : Int32).toUInt32 &&& Int32.toUInt32 31 = 1 from by decide]
    rw [← UInt32.toInt32_ofNat', UInt32.ofNat_toNat]
/-- a draw below n -/
theorem k_some (N : Nat) (x : Int32) {n : Nat} (h0 : 0 < n) (h : n < 2 ^ 31) : ∃ r, r < n ∧ f_L_some N x (nI n) = some (nI r) := by
  obtain ⟨a, ha, e⟩ := yus_1 x
  refine ⟨a % n, Nat.mod_lt _ h0, ?_⟩
  have hne : nI n ≠ 0 := fun q => by
    have := (nI_eq (b := 0) h (by decide)).mp q
    omega
  have hb : (!(nI n == 0)) = true := by rw [beq_eq_false_iff_ne.mpr hne]; rfl
  unfold f_L_some f_L_some_0
  rw [hb, zg_true, e, pk_rem ha h0 h]
/-- what the law's call answers -/
def yC (q : Nat ⊕ Int32) (T : yT) : Option (Int32 × yT) := zx q (fun k => if k = 1 then some (((-8001) : Int32), T) else if k = 2 then some (((-8002) : Int32), T) else if k = 3 then some (((-8003) : Int32), T) else none) fun r => some (r, T)
theorem zre (x : Option ((Nat ⊕ Int32) × yT)) : (zbp x fun q T => zx q (fun k => some (Sum.inl k, T)) fun r => some (Sum.inr r, T)) = x := by
  rcases x with _ | ⟨q | q, T⟩ <;> rfl
theorem zre' (x : Option ((Nat ⊕ Int32) × yT)) : (zbp (zbp x fun q T => zx q (fun k => some (Sum.inl k, T)) fun r => some (Sum.inr r, T)) yC) = zbp x yC := by rw [zre]
theorem ybz (cr : Bool) : zbo (bif cr then 1 else 0) = true := by cases cr <;> rfl
theorem ybq (cr : Bool) : ((bif cr then 1 else 0 : Int32) == 1) = cr := by cases cr <;> rfl
/-- the two ways of asking -/
theorem ycr (cr : Bool) {α : Type} (f : Int32 → α) : (if (bif cr then 1 else 0 : Int32) = (1 : Int32) then f (1 : Int32) else f (0 : Int32)) = f (bif cr then 1 else 0) := by cases cr <;> rfl
section KC
variable {N : Nat} {T T' : yT} {q : Nat ⊕ Int32}
theorem k_call (a1 a2 a3 a4 a5 : Int32) : f_L_call N T a1 a2 a3 a4 a5 = zbp (f_L_does_0 N a1 a2 a3 a4 a5 T) yC := rfl
theorem kc_0 (a b c d : Int32) (h : y_X6_addSentence T = some (q, T')) : f_L_call N T 0 a b c d = yC q T' := by
  rw [k_call]
  unfold f_L_does_0
  rw [if_pos (show (0 : Int32).toInt = 0 by decide), zre, zbpS h]
theorem kc_1 (a b c d : Int32) (h : y_X6_addWord T a b = some (q, T')) : f_L_call N T 1 a b c d = yC q T' := by
  rw [k_call]
  unfold f_L_does_0
  rw [if_neg (show ¬ (1 : Int32).toInt = 0 by decide), if_pos (show (1 : Int32).toInt = 1 by decide), zre, zbpS h]
theorem kc_2 (a b c d : Int32) (h : y_X6_setWeight T a b = some (q, T')) : f_L_call N T 2 a b c d = yC q T' := by
  rw [k_call]
  unfold f_L_does_0
  rw [if_neg (show ¬ (2 : Int32).toInt = 0 by decide), if_neg (show ¬ (2 : Int32).toInt = 1 by decide), if_pos (show (2 : Int32).toInt = 2 by decide), zre, zbpS h]
theorem kc_3 (a b c d : Int32) (h : y_X6_mark T a b c d = some (q, T')) : f_L_call N T 3 a b c d = yC q T' := by
  rw [k_call]
  unfold f_L_does_0
  rw [if_neg (show ¬ (3 : Int32).toInt = 0 by decide), if_neg (show ¬ (3 : Int32).toInt = 1 by decide), if_neg (show ¬ (3 : Int32).toInt = 2 by decide), if_pos (show (3 : Int32).toInt = 3 by decide), zre, zbpS h]
theorem kc_4 (a b c d : Int32) (h : y_X6_correct T a b c = some (q, T')) : f_L_call N T 4 a b c d = yC q T' := by
  rw [k_call]
  unfold f_L_does_0
  rw [if_neg (show ¬ (4 : Int32).toInt = 0 by decide), if_neg (show ¬ (4 : Int32).toInt = 1 by decide), if_neg (show ¬ (4 : Int32).toInt = 2 by decide), if_neg (show ¬ (4 : Int32).toInt = 3 by decide), if_pos (show (4 : Int32).toInt = 4 by decide), zre, zbpS h]
theorem kc_5 (a b c d : Int32) (h : y_X6_mend T a = some (q, T')) : f_L_call N T 5 a b c d = yC q T' := by
  rw [k_call]
  unfold f_L_does_0
  rw [if_neg (show ¬ (5 : Int32).toInt = 0 by decide), if_neg (show ¬ (5 : Int32).toInt = 1 by decide), if_neg (show ¬ (5 : Int32).toInt = 2 by decide), if_neg (show ¬ (5 : Int32).toInt = 3 by decide), if_neg (show ¬ (5 : Int32).toInt = 4 by decide), if_pos (show (5 : Int32).toInt = 5 by decide), zre, zbpS h]
theorem kc_6 (a b c d : Int32) (h : y_X6_rollBack T = some (q, T')) : f_L_call N T 6 a b c d = yC q T' := by
  rw [k_call]
  unfold f_L_does_0
  rw [if_neg (show ¬ (6 : Int32).toInt = 0 by decide), if_neg (show ¬ (6 : Int32).toInt = 1 by decide), if_neg (show ¬ (6 : Int32).toInt = 2 by decide), if_neg (show ¬ (6 : Int32).toInt = 3 by decide), if_neg (show ¬ (6 : Int32).toInt = 4 by decide), if_neg (show ¬ (6 : Int32).toInt = 5 by decide), if_pos (show (6 : Int32).toInt = 6 by decide), zre, zbpS h]
theorem kc_8 (a b c d : Int32) (h : y_X6_score T a b c = some (q, T')) : f_L_call N T 8 a b c d = yC q T' := by
  rw [k_call]
  unfold f_L_does_0
  rw [if_neg (show ¬ (8 : Int32).toInt = 0 by decide), if_neg (show ¬ (8 : Int32).toInt = 1 by decide), if_neg (show ¬ (8 : Int32).toInt = 2 by decide), if_neg (show ¬ (8 : Int32).toInt = 3 by decide), if_neg (show ¬ (8 : Int32).toInt = 4 by decide), if_neg (show ¬ (8 : Int32).toInt = 5 by decide), if_neg (show ¬ (8 : Int32).toInt = 6 by decide), if_neg (show ¬ (8 : Int32).toInt = 7 by decide), if_pos (show (8 : Int32).toInt = 8 by decide), zre, zbpS h]
theorem kc_9 (a : Int32) (cr : Bool) (c d : Int32) (h : y_X6_trees T a (bif cr then 1 else 0) = some (q, T')) : f_L_call N T 9 a (bif cr then 1 else 0) c d = yC q T' := by
  rw [k_call]
  unfold f_L_does_0
  rw [if_neg (show ¬ (9 : Int32).toInt = 0 by decide), if_neg (show ¬ (9 : Int32).toInt = 1 by decide), if_neg (show ¬ (9 : Int32).toInt = 2 by decide), if_neg (show ¬ (9 : Int32).toInt = 3 by decide), if_neg (show ¬ (9 : Int32).toInt = 4 by decide), if_neg (show ¬ (9 : Int32).toInt = 5 by decide), if_neg (show ¬ (9 : Int32).toInt = 6 by decide), if_neg (show ¬ (9 : Int32).toInt = 7 by decide), if_neg (show ¬ (9 : Int32).toInt = 8 by decide), if_pos (show (9 : Int32).toInt = 9 by decide)]
  refine (congrArg (fun x => zbp x yC) (ycr cr (fun x => f_L_does_179 N x a T))).trans ?_
  show zbp (f_L_does_179 N (bif cr then 1 else 0) a T) yC = _
  unfold f_L_does_179
  rw [zre, zbpS h]
theorem kc_9t (a c d : Int32) (h : y_X6_trees T a 1 = some (q, T')) : f_L_call N T 9 a 1 c d = yC q T' := kc_9 a true c d h
theorem kc_9f (a c d : Int32) (h : y_X6_trees T a 0 = some (q, T')) : f_L_call N T 9 a 0 c d = yC q T' := kc_9 a false c d h
theorem kc_10 (a : Int32) (cr : Bool) (c d : Int32) (h : y_X6_best T a (bif cr then 1 else 0) = some (q, T')) : f_L_call N T 10 a (bif cr then 1 else 0) c d = yC q T' := by
  rw [k_call]
  unfold f_L_does_0
  rw [if_neg (show ¬ (10 : Int32).toInt = 0 by decide), if_neg (show ¬ (10 : Int32).toInt = 1 by decide), if_neg (show ¬ (10 : Int32).toInt = 2 by decide), if_neg (show ¬ (10 : Int32).toInt = 3 by decide), if_neg (show ¬ (10 : Int32).toInt = 4 by decide), if_neg (show ¬ (10 : Int32).toInt = 5 by decide), if_neg (show ¬ (10 : Int32).toInt = 6 by decide), if_neg (show ¬ (10 : Int32).toInt = 7 by decide), if_neg (show ¬ (10 : Int32).toInt = 8 by decide), if_neg (show ¬ (10 : Int32).toInt = 9 by decide), if_pos (show (10 : Int32).toInt = 10 by decide)]
  refine (congrArg (fun x => zbp x yC) (ycr cr (fun x => f_L_does_195 N x a T))).trans ?_
  show zbp (f_L_does_195 N (bif cr then 1 else 0) a T) yC = _
  unfold f_L_does_195
  rw [zre, zbpS h]
theorem kc_10t (a c d : Int32) (h : y_X6_best T a 1 = some (q, T')) : f_L_call N T 10 a 1 c d = yC q T' := kc_10 a true c d h
theorem kc_10f (a c d : Int32) (h : y_X6_best T a 0 = some (q, T')) : f_L_call N T 10 a 0 c d = yC q T' := kc_10 a false c d h
theorem kc_11 (a : Int32) (cr : Bool) (c d : Int32) (h : y_X6_bestByTrying T a (bif cr then 1 else 0) = some (q, T')) : f_L_call N T 11 a (bif cr then 1 else 0) c d = yC q T' := by
  rw [k_call]
  unfold f_L_does_0
  rw [if_neg (show ¬ (11 : Int32).toInt = 0 by decide), if_neg (show ¬ (11 : Int32).toInt = 1 by decide), if_neg (show ¬ (11 : Int32).toInt = 2 by decide), if_neg (show ¬ (11 : Int32).toInt = 3 by decide), if_neg (show ¬ (11 : Int32).toInt = 4 by decide), if_neg (show ¬ (11 : Int32).toInt = 5 by decide), if_neg (show ¬ (11 : Int32).toInt = 6 by decide), if_neg (show ¬ (11 : Int32).toInt = 7 by decide), if_neg (show ¬ (11 : Int32).toInt = 8 by decide), if_neg (show ¬ (11 : Int32).toInt = 9 by decide), if_neg (show ¬ (11 : Int32).toInt = 10 by decide), if_pos (show (11 : Int32).toInt = 11 by decide)]
  refine (congrArg (fun x => zbp x yC) (ycr cr (fun x => f_L_does_211 N x a T))).trans ?_
  show zbp (f_L_does_211 N (bif cr then 1 else 0) a T) yC = _
  unfold f_L_does_211
  rw [zre, zbpS h]
theorem kc_11t (a c d : Int32) (h : y_X6_bestByTrying T a 1 = some (q, T')) : f_L_call N T 11 a 1 c d = yC q T' := kc_11 a true c d h
theorem kc_11f (a c d : Int32) (h : y_X6_bestByTrying T a 0 = some (q, T')) : f_L_call N T 11 a 0 c d = yC q T' := kc_11 a false c d h
theorem kc_12 (a : Int32) (cr : Bool) (c d : Int32) (h : y_X6_head T a (bif cr then 1 else 0) c = some (q, T')) : f_L_call N T 12 a (bif cr then 1 else 0) c d = yC q T' := by
  rw [k_call]
  unfold f_L_does_0
  rw [if_neg (show ¬ (12 : Int32).toInt = 0 by decide), if_neg (show ¬ (12 : Int32).toInt = 1 by decide), if_neg (show ¬ (12 : Int32).toInt = 2 by decide), if_neg (show ¬ (12 : Int32).toInt = 3 by decide), if_neg (show ¬ (12 : Int32).toInt = 4 by decide), if_neg (show ¬ (12 : Int32).toInt = 5 by decide), if_neg (show ¬ (12 : Int32).toInt = 6 by decide), if_neg (show ¬ (12 : Int32).toInt = 7 by decide), if_neg (show ¬ (12 : Int32).toInt = 8 by decide), if_neg (show ¬ (12 : Int32).toInt = 9 by decide), if_neg (show ¬ (12 : Int32).toInt = 10 by decide), if_neg (show ¬ (12 : Int32).toInt = 11 by decide), if_pos (show (12 : Int32).toInt = 12 by decide)]
  refine (congrArg (fun x => zbp x yC) (ycr cr (fun x => f_L_does_227 N c x a T))).trans ?_
  show zbp (f_L_does_227 N c (bif cr then 1 else 0) a T) yC = _
  unfold f_L_does_227
  rw [zre, zbpS h]
theorem kc_12t (a c d : Int32) (h : y_X6_head T a 1 c = some (q, T')) : f_L_call N T 12 a 1 c d = yC q T' := kc_12 a true c d h
theorem kc_12f (a c d : Int32) (h : y_X6_head T a 0 c = some (q, T')) : f_L_call N T 12 a 0 c d = yC q T' := kc_12 a false c d h
theorem kc_13 (a b c d : Int32) (h : y_X6_crossings T a = some (q, T')) : f_L_call N T 13 a b c d = yC q T' := by
  rw [k_call]
  unfold f_L_does_0
  rw [if_neg (show ¬ (13 : Int32).toInt = 0 by decide), if_neg (show ¬ (13 : Int32).toInt = 1 by decide), if_neg (show ¬ (13 : Int32).toInt = 2 by decide), if_neg (show ¬ (13 : Int32).toInt = 3 by decide), if_neg (show ¬ (13 : Int32).toInt = 4 by decide), if_neg (show ¬ (13 : Int32).toInt = 5 by decide), if_neg (show ¬ (13 : Int32).toInt = 6 by decide), if_neg (show ¬ (13 : Int32).toInt = 7 by decide), if_neg (show ¬ (13 : Int32).toInt = 8 by decide), if_neg (show ¬ (13 : Int32).toInt = 9 by decide), if_neg (show ¬ (13 : Int32).toInt = 10 by decide), if_neg (show ¬ (13 : Int32).toInt = 11 by decide), if_neg (show ¬ (13 : Int32).toInt = 12 by decide), if_pos (show (13 : Int32).toInt = 13 by decide), zre, zbpS h]
theorem kc_14 (a : Int32) (cr : Bool) (c d : Int32) (h : y_X6_ranked T a (bif cr then 1 else 0) c = some (q, T')) : f_L_call N T 14 a (bif cr then 1 else 0) c d = yC q T' := by
  rw [k_call]
  unfold f_L_does_0
  rw [if_neg (show ¬ (14 : Int32).toInt = 0 by decide), if_neg (show ¬ (14 : Int32).toInt = 1 by decide), if_neg (show ¬ (14 : Int32).toInt = 2 by decide), if_neg (show ¬ (14 : Int32).toInt = 3 by decide), if_neg (show ¬ (14 : Int32).toInt = 4 by decide), if_neg (show ¬ (14 : Int32).toInt = 5 by decide), if_neg (show ¬ (14 : Int32).toInt = 6 by decide), if_neg (show ¬ (14 : Int32).toInt = 7 by decide), if_neg (show ¬ (14 : Int32).toInt = 8 by decide), if_neg (show ¬ (14 : Int32).toInt = 9 by decide), if_neg (show ¬ (14 : Int32).toInt = 10 by decide), if_neg (show ¬ (14 : Int32).toInt = 11 by decide), if_neg (show ¬ (14 : Int32).toInt = 12 by decide), if_neg (show ¬ (14 : Int32).toInt = 13 by decide), if_pos (show (14 : Int32).toInt = 14 by decide)]
  refine (congrArg (fun x => zbp x yC) (ycr cr (fun x => f_L_does_251 N c x a T))).trans ?_
  show zbp (f_L_does_251 N c (bif cr then 1 else 0) a T) yC = _
  unfold f_L_does_251
  rw [zre, zbpS h]
theorem kc_14t (a c d : Int32) (h : y_X6_ranked T a 1 c = some (q, T')) : f_L_call N T 14 a 1 c d = yC q T' := kc_14 a true c d h
theorem kc_14f (a c d : Int32) (h : y_X6_ranked T a 0 c = some (q, T')) : f_L_call N T 14 a 0 c d = yC q T' := kc_14 a false c d h
theorem kc_15 (a : Int32) (cr : Bool) (c d : Int32) (h : y_X6_rankedHead T a (bif cr then 1 else 0) c d = some (q, T')) : f_L_call N T 15 a (bif cr then 1 else 0) c d = yC q T' := by
  rw [k_call]
  unfold f_L_does_0
  rw [if_neg (show ¬ (15 : Int32).toInt = 0 by decide), if_neg (show ¬ (15 : Int32).toInt = 1 by decide), if_neg (show ¬ (15 : Int32).toInt = 2 by decide), if_neg (show ¬ (15 : Int32).toInt = 3 by decide), if_neg (show ¬ (15 : Int32).toInt = 4 by decide), if_neg (show ¬ (15 : Int32).toInt = 5 by decide), if_neg (show ¬ (15 : Int32).toInt = 6 by decide), if_neg (show ¬ (15 : Int32).toInt = 7 by decide), if_neg (show ¬ (15 : Int32).toInt = 8 by decide), if_neg (show ¬ (15 : Int32).toInt = 9 by decide), if_neg (show ¬ (15 : Int32).toInt = 10 by decide), if_neg (show ¬ (15 : Int32).toInt = 11 by decide), if_neg (show ¬ (15 : Int32).toInt = 12 by decide), if_neg (show ¬ (15 : Int32).toInt = 13 by decide), if_neg (show ¬ (15 : Int32).toInt = 14 by decide), if_pos (show (15 : Int32).toInt = 15 by decide)]
  refine (congrArg (fun x => zbp x yC) (ycr cr (fun x => f_L_does_269 N c d x a T))).trans ?_
  show zbp (f_L_does_269 N c d (bif cr then 1 else 0) a T) yC = _
  unfold f_L_does_269
  rw [zre, zbpS h]
theorem kc_15t (a c d : Int32) (h : y_X6_rankedHead T a 1 c d = some (q, T')) : f_L_call N T 15 a 1 c d = yC q T' := kc_15 a true c d h
theorem kc_15f (a c d : Int32) (h : y_X6_rankedHead T a 0 c d = some (q, T')) : f_L_call N T 15 a 0 c d = yC q T' := kc_15 a false c d h
theorem kc_16 (a b c d : Int32) (h : y_X6_matched T a = some (q, T')) : f_L_call N T 16 a b c d = yC q T' := by
  rw [k_call]
  unfold f_L_does_0
  rw [if_neg (show ¬ (16 : Int32).toInt = 0 by decide), if_neg (show ¬ (16 : Int32).toInt = 1 by decide), if_neg (show ¬ (16 : Int32).toInt = 2 by decide), if_neg (show ¬ (16 : Int32).toInt = 3 by decide), if_neg (show ¬ (16 : Int32).toInt = 4 by decide), if_neg (show ¬ (16 : Int32).toInt = 5 by decide), if_neg (show ¬ (16 : Int32).toInt = 6 by decide), if_neg (show ¬ (16 : Int32).toInt = 7 by decide), if_neg (show ¬ (16 : Int32).toInt = 8 by decide), if_neg (show ¬ (16 : Int32).toInt = 9 by decide), if_neg (show ¬ (16 : Int32).toInt = 10 by decide), if_neg (show ¬ (16 : Int32).toInt = 11 by decide), if_neg (show ¬ (16 : Int32).toInt = 12 by decide), if_neg (show ¬ (16 : Int32).toInt = 13 by decide), if_neg (show ¬ (16 : Int32).toInt = 14 by decide), if_neg (show ¬ (16 : Int32).toInt = 15 by decide), if_pos (show (16 : Int32).toInt = 16 by decide), zre, zbpS h]
theorem kc_17 (a b c d : Int32) (h : y_X6_words T a = some (q, T')) : f_L_call N T 17 a b c d = yC q T' := by
  rw [k_call]
  unfold f_L_does_0
  rw [if_neg (show ¬ (17 : Int32).toInt = 0 by decide), if_neg (show ¬ (17 : Int32).toInt = 1 by decide), if_neg (show ¬ (17 : Int32).toInt = 2 by decide), if_neg (show ¬ (17 : Int32).toInt = 3 by decide), if_neg (show ¬ (17 : Int32).toInt = 4 by decide), if_neg (show ¬ (17 : Int32).toInt = 5 by decide), if_neg (show ¬ (17 : Int32).toInt = 6 by decide), if_neg (show ¬ (17 : Int32).toInt = 7 by decide), if_neg (show ¬ (17 : Int32).toInt = 8 by decide), if_neg (show ¬ (17 : Int32).toInt = 9 by decide), if_neg (show ¬ (17 : Int32).toInt = 10 by decide), if_neg (show ¬ (17 : Int32).toInt = 11 by decide), if_neg (show ¬ (17 : Int32).toInt = 12 by decide), if_neg (show ¬ (17 : Int32).toInt = 13 by decide), if_neg (show ¬ (17 : Int32).toInt = 14 by decide), if_neg (show ¬ (17 : Int32).toInt = 15 by decide), if_neg (show ¬ (17 : Int32).toInt = 16 by decide), if_pos (show (17 : Int32).toInt = 17 by decide), zre, zbpS h]
theorem kc_18 (a b c d : Int32) (h : y_X6_weight T a = some (q, T')) : f_L_call N T 18 a b c d = yC q T' := by
  rw [k_call]
  unfold f_L_does_0
  rw [if_neg (show ¬ (18 : Int32).toInt = 0 by decide), if_neg (show ¬ (18 : Int32).toInt = 1 by decide), if_neg (show ¬ (18 : Int32).toInt = 2 by decide), if_neg (show ¬ (18 : Int32).toInt = 3 by decide), if_neg (show ¬ (18 : Int32).toInt = 4 by decide), if_neg (show ¬ (18 : Int32).toInt = 5 by decide), if_neg (show ¬ (18 : Int32).toInt = 6 by decide), if_neg (show ¬ (18 : Int32).toInt = 7 by decide), if_neg (show ¬ (18 : Int32).toInt = 8 by decide), if_neg (show ¬ (18 : Int32).toInt = 9 by decide), if_neg (show ¬ (18 : Int32).toInt = 10 by decide), if_neg (show ¬ (18 : Int32).toInt = 11 by decide), if_neg (show ¬ (18 : Int32).toInt = 12 by decide), if_neg (show ¬ (18 : Int32).toInt = 13 by decide), if_neg (show ¬ (18 : Int32).toInt = 14 by decide), if_neg (show ¬ (18 : Int32).toInt = 15 by decide), if_neg (show ¬ (18 : Int32).toInt = 16 by decide), if_neg (show ¬ (18 : Int32).toInt = 17 by decide), zre, zbpS h]
end KC
section KA
variable {T : yT} {s : Nat}
theorem y_n6 (g : yOk 512 T) (hs : s < yk T.1) : yn T.1 s ≤ 6 := (g.1 s hs).1
theorem a_sentences (g : yOk 512 T) : y_X6_sentences T = some (.inr (nI (yk T.1)), T) := yg_t g
theorem a_steps (g : yOk 512 T) : y_X6_steps T = some (.inr (nI (yst T.1)), T) := yg_t g
theorem a_words (g : yOk 512 T) (hs : s < yk T.1) : y_X6_words T (nI s) = some (.inr (nI (yn T.1 s)), T) := by
  unfold y_X6_words
  rw [yg_t g]
  unfold e_words
  rw [eS_ok (yk5 g) hs]
theorem a_words_no (g : yOk 512 T) {p : Int32} (hp : p < 0 ∨ nI (yk T.1) ≤ p) : y_X6_words T p = some (.inl 1, T) := by
  unfold y_X6_words
  rw [yg_t g]
  unfold e_words
  rw [eS_no hp]
theorem a_kind (g : yOk 512 T) (hs : s < yk T.1) {w : Nat} (h1 : 1 ≤ w) (h2 : w ≤ yn T.1 s) : y_X6_kind T (nI s) (nI w) = some (.inr (nI (ykd T.1 s w)), T) := by
  unfold y_X6_kind
  rw [yg_t g]
  unfold e_kind
  rw [eS_ok (yk5 g) hs, eW_ok (y_n6 g hs) h1 h2]
theorem a_weight (g : yOk 512 T) {f : Nat} (hf : f < 28) : y_X6_weight T (nI f) = some (.inr (iI (ywt T.1 f)), T) := by
  unfold y_X6_weight
  rw [yg_t g]
  unfold e_weight
  rw [eF_ok hf]
theorem a_weight_no (g : yOk 512 T) {p : Int32} (hp : p < 0 ∨ (28 : Int32) ≤ p) : y_X6_weight T p = some (.inl 1, T) := by
  unfold y_X6_weight
  rw [yg_t g]
  unfold e_weight
  rw [eF_no hp]
theorem a_average (g : yOk 512 T) {f : Nat} (hf : f < 28) : y_X6_average T (nI f) = some (.inr (yavg (ysm T.1 f) (yst T.1)), T) := by
  unfold y_X6_average
  rw [yg_t g]
  unfold e_average
  rw [eF_ok hf]
theorem a_score (g : yOk 512 T) (hs : s < yk T.1) {h w : Nat} (hh : h ≤ yn T.1 s) (h1 : 1 ≤ w) (h2 : w ≤ yn T.1 s) (hne : h ≠ w) : y_X6_score T (nI s) (nI h) (nI w) = some (.inr (iI (zsc (ywt T.1) (ykd T.1 s) h w)), T) := by
  unfold y_X6_score
  rw [yg_t g]
  unfold e_score
  rw [eS_ok (yk5 g) hs, eA_in (y_n6 g hs) hh h1 h2, if_neg hne]
theorem a_trees (g : yOk 512 T) (cr : Bool) (hs : s < yk T.1) : y_X6_trees T (nI s) (bif cr then 1 else 0) = some (.inr (nI (yTs T.1 s cr).length), T) := by
  unfold y_X6_trees
  rw [yg_t g, ybz, zg_true, ybq]
  unfold e_trees
  rw [eS_ok (yk5 g) hs]
theorem a_treesT (g : yOk 512 T) (hs : s < yk T.1) : y_X6_trees T (nI s) 1 = some (.inr (nI (yTs T.1 s true).length), T) := a_trees g true hs
theorem a_treesF (g : yOk 512 T) (hs : s < yk T.1) : y_X6_trees T (nI s) 0 = some (.inr (nI (yTs T.1 s false).length), T) := a_trees g false hs
theorem a_trees_no (g : yOk 512 T) (cr : Bool) {p : Int32} (hp : p < 0 ∨ nI (yk T.1) ≤ p) : y_X6_trees T p (bif cr then 1 else 0) = some (.inl 1, T) := by
  unfold y_X6_trees
  rw [yg_t g, ybz, zg_true, ybq]
  unfold e_trees
  rw [eS_no hp]
theorem a_trees_noT (g : yOk 512 T) {p : Int32} (hp : p < 0 ∨ nI (yk T.1) ≤ p) : y_X6_trees T p 1 = some (.inl 1, T) := a_trees_no g true hp
theorem a_trees_noF (g : yOk 512 T) {p : Int32} (hp : p < 0 ∨ nI (yk T.1) ≤ p) : y_X6_trees T p 0 = some (.inl 1, T) := a_trees_no g false hp
theorem a_best (g : yOk 512 T) (cr : Bool) (hs : s < yk T.1) {v : List Nat} (hv : yb T.1 s cr = some v) : y_X6_best T (nI s) (bif cr then 1 else 0) = some (.inr (iI (ysc T.1 s v)), T) := by
  unfold y_X6_best
  rw [yg_t g, ybz, zg_true, ybq]
  unfold e_best
  rw [eS_ok (yk5 g) hs, hv]
  rfl
theorem a_bestT (g : yOk 512 T) (hs : s < yk T.1) {v : List Nat} (hv : yb T.1 s true = some v) : y_X6_best T (nI s) 1 = some (.inr (iI (ysc T.1 s v)), T) := a_best g true hs hv
theorem a_bestF (g : yOk 512 T) (hs : s < yk T.1) {v : List Nat} (hv : yb T.1 s false = some v) : y_X6_best T (nI s) 0 = some (.inr (iI (ysc T.1 s v)), T) := a_best g false hs hv
theorem a_best_no (g : yOk 512 T) (cr : Bool) (hs : s < yk T.1) (hv : yb T.1 s cr = none) : y_X6_best T (nI s) (bif cr then 1 else 0) = some (.inl 3, T) := by
  unfold y_X6_best
  rw [yg_t g, ybz, zg_true, ybq]
  unfold e_best
  rw [eS_ok (yk5 g) hs, hv]
  rfl
theorem a_best_noT (g : yOk 512 T) (hs : s < yk T.1) (hv : yb T.1 s true = none) : y_X6_best T (nI s) 1 = some (.inl 3, T) := a_best_no g true hs hv
theorem a_best_noF (g : yOk 512 T) (hs : s < yk T.1) (hv : yb T.1 s false = none) : y_X6_best T (nI s) 0 = some (.inl 3, T) := a_best_no g false hs hv
theorem a_bestByTrying (g : yOk 512 T) (cr : Bool) (hs : s < yk T.1) {v : List Nat} (hv : yb T.1 s cr = some v) : y_X6_bestByTrying T (nI s) (bif cr then 1 else 0) = some (.inr (iI (ysc T.1 s v)), T) := by
  unfold y_X6_bestByTrying
  rw [yg_t g, ybz, zg_true, ybq]
  unfold e_best
  rw [eS_ok (yk5 g) hs, hv]
  rfl
theorem a_bestByTryingT (g : yOk 512 T) (hs : s < yk T.1) {v : List Nat} (hv : yb T.1 s true = some v) : y_X6_bestByTrying T (nI s) 1 = some (.inr (iI (ysc T.1 s v)), T) := a_bestByTrying g true hs hv
theorem a_bestByTryingF (g : yOk 512 T) (hs : s < yk T.1) {v : List Nat} (hv : yb T.1 s false = some v) : y_X6_bestByTrying T (nI s) 0 = some (.inr (iI (ysc T.1 s v)), T) := a_bestByTrying g false hs hv
theorem a_bestByTrying_no (g : yOk 512 T) (cr : Bool) (hs : s < yk T.1) (hv : yb T.1 s cr = none) : y_X6_bestByTrying T (nI s) (bif cr then 1 else 0) = some (.inl 3, T) := by
  unfold y_X6_bestByTrying
  rw [yg_t g, ybz, zg_true, ybq]
  unfold e_best
  rw [eS_ok (yk5 g) hs, hv]
  rfl
theorem a_bestByTrying_noT (g : yOk 512 T) (hs : s < yk T.1) (hv : yb T.1 s true = none) : y_X6_bestByTrying T (nI s) 1 = some (.inl 3, T) := a_bestByTrying_no g true hs hv
theorem a_bestByTrying_noF (g : yOk 512 T) (hs : s < yk T.1) (hv : yb T.1 s false = none) : y_X6_bestByTrying T (nI s) 0 = some (.inl 3, T) := a_bestByTrying_no g false hs hv
theorem a_head (g : yOk 512 T) (cr : Bool) (hs : s < yk T.1) {v : List Nat} (hv : yb T.1 s cr = some v) {w : Nat} (h1 : 1 ≤ w) (h2 : w ≤ yn T.1 s) : y_X6_head T (nI s) (bif cr then 1 else 0) (nI w) = some (.inr (nI (zhd v w)), T) := by
  unfold y_X6_head
  rw [yg_t g, ybz, zg_true, ybq]
  unfold e_head
  rw [eS_ok (yk5 g) hs, eW_ok (y_n6 g hs) h1 h2, hv]
  rfl
theorem a_headT (g : yOk 512 T) (hs : s < yk T.1) {v : List Nat} (hv : yb T.1 s true = some v) {w : Nat} (h1 : 1 ≤ w) (h2 : w ≤ yn T.1 s) : y_X6_head T (nI s) 1 (nI w) = some (.inr (nI (zhd v w)), T) := a_head g true hs hv h1 h2
theorem a_headF (g : yOk 512 T) (hs : s < yk T.1) {v : List Nat} (hv : yb T.1 s false = some v) {w : Nat} (h1 : 1 ≤ w) (h2 : w ≤ yn T.1 s) : y_X6_head T (nI s) 0 (nI w) = some (.inr (nI (zhd v w)), T) := a_head g false hs hv h1 h2
theorem a_head_no (g : yOk 512 T) (cr : Bool) (hs : s < yk T.1) (hv : yb T.1 s cr = none) {w : Nat} (h1 : 1 ≤ w) (h2 : w ≤ yn T.1 s) : y_X6_head T (nI s) (bif cr then 1 else 0) (nI w) = some (.inl 3, T) := by
  unfold y_X6_head
  rw [yg_t g, ybz, zg_true, ybq]
  unfold e_head
  rw [eS_ok (yk5 g) hs, eW_ok (y_n6 g hs) h1 h2, hv]
  rfl
theorem a_head_noT (g : yOk 512 T) (hs : s < yk T.1) (hv : yb T.1 s true = none) {w : Nat} (h1 : 1 ≤ w) (h2 : w ≤ yn T.1 s) : y_X6_head T (nI s) 1 (nI w) = some (.inl 3, T) := a_head_no g true hs hv h1 h2
theorem a_head_noF (g : yOk 512 T) (hs : s < yk T.1) (hv : yb T.1 s false = none) {w : Nat} (h1 : 1 ≤ w) (h2 : w ≤ yn T.1 s) : y_X6_head T (nI s) 0 (nI w) = some (.inl 3, T) := a_head_no g false hs hv h1 h2
theorem a_head_word (g : yOk 512 T) (cr : Bool) (hs : s < yk T.1) {p : Int32} (hp : p ≤ 0 ∨ nI (yn T.1 s) < p) : y_X6_head T (nI s) (bif cr then 1 else 0) p = some (.inl 1, T) := by
  unfold y_X6_head
  rw [yg_t g, ybz, zg_true, ybq]
  unfold e_head
  rw [eS_ok (yk5 g) hs, eW_no hp]
theorem a_head_wordT (g : yOk 512 T) (hs : s < yk T.1) {p : Int32} (hp : p ≤ 0 ∨ nI (yn T.1 s) < p) : y_X6_head T (nI s) 1 p = some (.inl 1, T) := a_head_word g true hs hp
theorem a_head_wordF (g : yOk 512 T) (hs : s < yk T.1) {p : Int32} (hp : p ≤ 0 ∨ nI (yn T.1 s) < p) : y_X6_head T (nI s) 0 p = some (.inl 1, T) := a_head_word g false hs hp
theorem a_crossings (g : yOk 512 T) (hs : s < yk T.1) {v : List Nat} (hv : yb T.1 s true = some v) : y_X6_crossings T (nI s) = some (.inr (nI (zxs v (yn T.1 s))), T) := by
  unfold y_X6_crossings
  rw [yg_t g]
  unfold e_crossings
  rw [eS_ok (yk5 g) hs, hv]
  rfl
theorem a_crossings_no (g : yOk 512 T) (hs : s < yk T.1) (hv : yb T.1 s true = none) : y_X6_crossings T (nI s) = some (.inl 3, T) := by
  unfold y_X6_crossings
  rw [yg_t g]
  unfold e_crossings
  rw [eS_ok (yk5 g) hs, hv]
  rfl
theorem a_crossings_out (g : yOk 512 T) {p : Int32} (hp : p < 0 ∨ nI (yk T.1) ≤ p) : y_X6_crossings T p = some (.inl 1, T) := by
  unfold y_X6_crossings
  rw [yg_t g]
  unfold e_crossings
  rw [eS_no hp]
theorem a_matched (g : yOk 512 T) (hs : s < yk T.1) {v : List Nat} (hv : yb T.1 s true = some v) : y_X6_matched T (nI s) = some (.inr (nI (zms (yrh T.1 s) v (yn T.1 s))), T) := by
  unfold y_X6_matched
  rw [yg_t g]
  unfold e_matched
  rw [eS_ok (yk5 g) hs, hv]
  rfl
theorem a_matched_no (g : yOk 512 T) (hs : s < yk T.1) (hv : yb T.1 s true = none) : y_X6_matched T (nI s) = some (.inl 3, T) := by
  unfold y_X6_matched
  rw [yg_t g]
  unfold e_matched
  rw [eS_ok (yk5 g) hs, hv]
  rfl
theorem a_matched_out (g : yOk 512 T) {p : Int32} (hp : p < 0 ∨ nI (yk T.1) ≤ p) : y_X6_matched T p = some (.inl 1, T) := by
  unfold y_X6_matched
  rw [yg_t g]
  unfold e_matched
  rw [eS_no hp]
theorem a_ranked (g : yOk 512 T) (cr : Bool) (hs : s < yk T.1) {p : Int32} {v : List Nat} (hv : yr T.1 s cr p = some v) : y_X6_ranked T (nI s) (bif cr then 1 else 0) p = some (.inr (iI (ysc T.1 s v)), T) := by
  unfold y_X6_ranked
  rw [yg_t g, ybz, zg_true, ybq]
  unfold e_ranked
  rw [eS_ok (yk5 g) hs, hv]
  rfl
theorem a_rankedT (g : yOk 512 T) (hs : s < yk T.1) {p : Int32} {v : List Nat} (hv : yr T.1 s true p = some v) : y_X6_ranked T (nI s) 1 p = some (.inr (iI (ysc T.1 s v)), T) := a_ranked g true hs hv
theorem a_rankedF (g : yOk 512 T) (hs : s < yk T.1) {p : Int32} {v : List Nat} (hv : yr T.1 s false p = some v) : y_X6_ranked T (nI s) 0 p = some (.inr (iI (ysc T.1 s v)), T) := a_ranked g false hs hv
theorem a_ranked_no (g : yOk 512 T) (cr : Bool) (hs : s < yk T.1) {p : Int32} (hv : yr T.1 s cr p = none) : y_X6_ranked T (nI s) (bif cr then 1 else 0) p = some (.inl 1, T) := by
  unfold y_X6_ranked
  rw [yg_t g, ybz, zg_true, ybq]
  unfold e_ranked
  rw [eS_ok (yk5 g) hs, hv]
  rfl
theorem a_ranked_noT (g : yOk 512 T) (hs : s < yk T.1) {p : Int32} (hv : yr T.1 s true p = none) : y_X6_ranked T (nI s) 1 p = some (.inl 1, T) := a_ranked_no g true hs hv
theorem a_ranked_noF (g : yOk 512 T) (hs : s < yk T.1) {p : Int32} (hv : yr T.1 s false p = none) : y_X6_ranked T (nI s) 0 p = some (.inl 1, T) := a_ranked_no g false hs hv
theorem a_rankedHead (g : yOk 512 T) (cr : Bool) (hs : s < yk T.1) {p : Int32} {v : List Nat} (hv : yr T.1 s cr p = some v) {w : Nat} (h1 : 1 ≤ w) (h2 : w ≤ yn T.1 s) : y_X6_rankedHead T (nI s) (bif cr then 1 else 0) p (nI w) = some (.inr (nI (zhd v w)), T) := by
  unfold y_X6_rankedHead
  rw [yg_t g, ybz, zg_true, ybq]
  unfold e_rankedHead
  rw [eS_ok (yk5 g) hs, eW_ok (y_n6 g hs) h1 h2, hv]
  rfl
theorem a_rankedHeadT (g : yOk 512 T) (hs : s < yk T.1) {p : Int32} {v : List Nat} (hv : yr T.1 s true p = some v) {w : Nat} (h1 : 1 ≤ w) (h2 : w ≤ yn T.1 s) : y_X6_rankedHead T (nI s) 1 p (nI w) = some (.inr (nI (zhd v w)), T) := a_rankedHead g true hs hv h1 h2
theorem a_rankedHeadF (g : yOk 512 T) (hs : s < yk T.1) {p : Int32} {v : List Nat} (hv : yr T.1 s false p = some v) {w : Nat} (h1 : 1 ≤ w) (h2 : w ≤ yn T.1 s) : y_X6_rankedHead T (nI s) 0 p (nI w) = some (.inr (nI (zhd v w)), T) := a_rankedHead g false hs hv h1 h2
theorem a_rankedHead_word (g : yOk 512 T) (cr : Bool) (hs : s < yk T.1) {p r : Int32} (hp : r ≤ 0 ∨ nI (yn T.1 s) < r) : y_X6_rankedHead T (nI s) (bif cr then 1 else 0) p r = some (.inl 1, T) := by
  unfold y_X6_rankedHead
  rw [yg_t g, ybz, zg_true, ybq]
  unfold e_rankedHead
  rw [eS_ok (yk5 g) hs, eW_no hp]
theorem a_rankedHead_wordT (g : yOk 512 T) (hs : s < yk T.1) {p r : Int32} (hp : r ≤ 0 ∨ nI (yn T.1 s) < r) : y_X6_rankedHead T (nI s) 1 p r = some (.inl 1, T) := a_rankedHead_word g true hs hp
theorem a_rankedHead_wordF (g : yOk 512 T) (hs : s < yk T.1) {p r : Int32} (hp : r ≤ 0 ∨ nI (yn T.1 s) < r) : y_X6_rankedHead T (nI s) 0 p r = some (.inl 1, T) := a_rankedHead_word g false hs hp
end KA
/-! THE HASHES: of the state without the history alone. -/
theorem y_n64 (sm : Int) (st : Nat) : yn64 (FP.dmul (yavg sm st) (4634204016564240384 : UInt64)) = true := by
  have h1 : (yavg sm st).toNat % 2 ^ 63 < 1089 * 2 ^ 52 := by
    unfold yavg
    by_cases h : nI st = 0
    · rw [if_pos h]
      decide +kernel
    · rw [if_neg h]
      have h0 : (nI st).toInt ≠ 0 := fun q => h (Int32.toInt_inj.mp (by rw [q]; rfl))
      have h1 := Jvm.FP.Core.l2d_mag (lI sm)
      have h2 := Jvm.FP.Core.i2d_big h0
      have h3 := Jvm.FP.Core.ddiv_mag (a := FP.l2d (lI sm)) (b := FP.i2d (nI st)) (K := 1088) (L := 1023) h1 h2.1 h2.2 (by decide) (by decide)
      exact h3
  have h3 : (FP.dmul (yavg sm st) (4634204016564240384 : UInt64)).toNat % 2 ^ 63 < (1089 + 1030 - 1025 + 3) * 2 ^ 52 := Jvm.FP.Core.dmul_mag h1 (by decide +kernel) (by decide) (by decide)
  clear h1
  unfold yn64
  refine decide_eq_true ?_
  rw [UInt64.le_iff_toNat_le, UInt64.toNat_and]
  have e : (9223372036854775807 : UInt64).toNat = 2 ^ 63 - 1 := rfl
  rw [e, Nat.and_two_pow_sub_one_eq_mod]
  have e2 : (9218868437227405312 : UInt64).toNat = 2047 * 2 ^ 52 := rfl
  rw [e2]
  omega
def yw_8 (V : yV) : Nat → Int64 → Int64
  | 0, h => h
  | i + 1, h => yw_8 V i (((h * (2003 : Int64)) + ((iI (ywt V (27 - i))).toInt64 * (7 : Int64))) + (FP.d2l (FP.dmul (yavg (ysm V (27 - i)) (yst V)) (4634204016564240384 : UInt64))))
def y_wh (V : yV) : Int64 := yw_8 V 28 (nI (yst V)).toInt64
section KW
variable {N : Nat} {T : yT}
theorem k_w8 (g : yOk 512 T) : ∀ (i : Nat) (h : Int64), i ≤ 28 → f_L_weights_8 N (i + 1) h (nI (28 - i)) T = some (yw_8 T.1 i h, T)
  | 0, h, _ => by
    rw [f_L_weights_8, if_pos (show (28 : Int32) ≤ nI (28 - 0) by decide +kernel)]
    rfl
  | i + 1, h, hi => by
    have hf : 28 - (i + 1) < 28 := by omega
    rw [f_L_weights_8, if_neg (show ¬ (28 : Int32) ≤ nI (28 - (i + 1)) from nI_ge (b := 28) (by omega) (by decide)), zbpS (a_weight g hf), zxR, zbpS (a_average g hf), zxR, y_n64, zg_true, show nI (28 - (i + 1)) + 1 = nI (28 - i) from by rw [nI_1]; congr 1; omega, k_w8 g i _ (by omega), show 28 - (i + 1) = 27 - i by omega]
    rfl
theorem k_weights (g : yOk 512 T) : f_L_weights N T = some (y_wh T.1, T) := by
  unfold f_L_weights f_L_weights_0
  rw [zbpS (a_steps g), zxR]
  exact k_w8 g 28 _ (Nat.le_refl _)
/-- an answer or the number of what was thrown -/
def yv (q : Nat ⊕ Int32) : Int32 := zx q (fun k => if k = 1 then ((-8001) : Int32) else if k = 2 then ((-8002) : Int32) else (-8003)) fun r => r
noncomputable def yh_117 (V : yV) (s : Nat) : Nat → Nat → Int64 → Int64
  | 0, _, h => h
  | i + 1, w, h => yh_117 V s i (w + 1) ((((h * (5 : Int64)) + (nI (ykd V s w)).toInt64) * (7 : Int64)) + (yv (e_head V (nI s) true (nI w))).toInt64)
noncomputable def yh_17 (V : yV) : Nat → Nat → Int64 → Int64
  | 0, _, h => h
  | i + 1, s, h => yh_17 V i (s + 1) (yh_117 V s (yn V s) 1 ((((((((((((h * (7 : Int64)) + (nI (yn V s)).toInt64) * (17011 : Int64)) + (nI (yTs V s true).length).toInt64) * (1433 : Int64)) + (nI (yTs V s false).length).toInt64) * (20011 : Int64)) + (yv (e_best V (nI s) true)).toInt64) * (20011 : Int64)) + (yv (e_best V (nI s) false)).toInt64) * (13 : Int64)) + (yv (e_matched V (nI s))).toInt64))
noncomputable def y_ah (V : yV) : Int64 := yh_17 V (yk V) 0 ((y_wh V * (7 : Int64)) + (nI (yk V)).toInt64)
theorem yC_yv {q : Nat ⊕ Int32} (h : ∀ k, q = .inl k → k = 1 ∨ k = 2 ∨ k = 3) : yC q T = some (yv q, T) := by
  rcases q with k | r
  · rcases h k rfl with rfl | rfl | rfl <;> rfl
  · rfl
theorem eS_thr {k : Nat} {p : Int32} {f : Nat → Nat ⊕ Int32} (h : ∀ s c, f s = .inl c → c = 1 ∨ c = 2 ∨ c = 3) (c : Nat) (e : eS k p (.inl 1) f = .inl c) : c = 1 ∨ c = 2 ∨ c = 3 := by
  unfold eS at e
  split at e
  · cases e; exact Or.inl rfl
  · exact h _ _ e
theorem eO_thr {β : Type} {o : Option β} {f : β → Int32} (c : Nat) (e : eO o (Sum.inl 3) (fun v => (Sum.inr (f v) : Nat ⊕ Int32)) = .inl c) : c = 1 ∨ c = 2 ∨ c = 3 := by
  cases o with
  | none => cases e; exact Or.inr (Or.inr rfl)
  | some v => cases e
theorem eW_thr {n : Nat} {p : Int32} {f : Nat → Nat ⊕ Int32} (h : ∀ s c, f s = .inl c → c = 1 ∨ c = 2 ∨ c = 3) (c : Nat) (e : eW n p (.inl 1) f = .inl c) : c = 1 ∨ c = 2 ∨ c = 3 := by
  unfold eW at e
  split at e
  · cases e; exact Or.inl rfl
  · exact h _ _ e
theorem b_best (g : yOk 512 T) (p : Int32) (cr : Bool) : y_X6_best T p (bif cr then 1 else 0) = some (e_best T.1 p cr, T) := by
  unfold y_X6_best
  rw [yg_t g, ybz, zg_true, ybq]
theorem b_head (g : yOk 512 T) (p : Int32) (cr : Bool) (q : Int32) : y_X6_head T p (bif cr then 1 else 0) q = some (e_head T.1 p cr q, T) := by
  unfold y_X6_head
  rw [yg_t g, ybz, zg_true, ybq]
theorem b_matched (g : yOk 512 T) (p : Int32) : y_X6_matched T p = some (e_matched T.1 p, T) := yg_t g
theorem kv_10 (g : yOk 512 T) (a : Int32) (cr : Bool) (c d : Int32) : f_L_call N T 10 a (bif cr then 1 else 0) c d = some (yv (e_best T.1 a cr), T) := by
  rw [kc_10 a cr c d (b_best g a cr)]
  exact yC_yv (fun k e => eS_thr (fun s c e => eO_thr c e) k e)
theorem kv_12 (g : yOk 512 T) (a : Int32) (cr : Bool) (c d : Int32) : f_L_call N T 12 a (bif cr then 1 else 0) c d = some (yv (e_head T.1 a cr c), T) := by
  rw [kc_12 a cr c d (b_head g a cr c)]
  exact yC_yv (fun k e => eS_thr (fun s c e => eW_thr (fun w c e => eO_thr c e) c e) k e)
theorem kv_16 (g : yOk 512 T) (a b c d : Int32) : f_L_call N T 16 a b c d = some (yv (e_matched T.1 a), T) := by
  rw [kc_16 a b c d (b_matched g a)]
  exact yC_yv (fun k e => eS_thr (fun s c e => eO_thr c e) k e)
theorem k_117 (g : yOk 512 T) {s : Nat} (hs : s < yk T.1) (kh : Int64 → Int32 → yT → Option (Int64 × yT)) : ∀ (d f w : Nat) (h : Int64), w + d = yn T.1 s + 1 → 1 ≤ w → d < f → f_L_all_117 N kh f h (nI s) (nI w) T = kh (yh_117 T.1 s d w h) (nI (s + 1)) T
  | d, 0, w, h, _, _, hf => absurd hf (Nat.not_lt_zero d)
  | 0, f + 1, w, h, hw, h1, _ => by
    have h6 := y_n6 g hs
    rw [f_L_all_117, zbpS (a_words g hs), zxR, if_pos (nI_lt (by omega) (by omega)), nI_1]
    rfl
  | d + 1, f + 1, w, h, hw, h1, hf => by
    have h6 := y_n6 g hs
    rw [f_L_all_117, zbpS (a_words g hs), zxR, if_neg (nI_nlt (by omega) (by omega)), zbpS (a_kind g hs h1 (by omega)), zxR, zbpS (show f_L_call N T (12 : Int32) (nI s) (1 : Int32) (nI w) (0 : Int32) = _ from kv_12 g (nI s) true (nI w) 0), nI_1, k_117 g hs kh d f (w + 1) _ (by omega) (by omega) (by omega)]
    rfl
theorem k_17 (g : yOk 512 T) : ∀ (d f s : Nat) (h : Int64), s + d = yk T.1 → d < f → f_L_all_17 N f h (nI s) T = some (yh_17 T.1 d s h, T)
  | d, 0, s, h, _, hf => absurd hf (Nat.not_lt_zero d)
  | 0, f + 1, s, h, hs, _ => by
    have h5 := yk5 g
    rw [f_L_all_17, zbpS (a_sentences g), zxR, if_pos (nI_le (by omega) (by omega))]
    rfl
  | d + 1, f + 1, s, h, hs, hf => by
    have h5 := yk5 g
    have hk : s < yk T.1 := by omega
    have h6 := y_n6 g hk
    rw [f_L_all_17, zbpS (a_sentences g), zxR, if_neg (nI_ge (by omega) (by omega)), zbpS (a_words g hk), zxR, zbpS (a_treesT g hk), zxR, zbpS (a_treesF g hk), zxR, zbpS (show f_L_call N T (10 : Int32) (nI s) (1 : Int32) (0 : Int32) (0 : Int32) = _ from kv_10 g (nI s) true 0 0), zbpS (show f_L_call N T (10 : Int32) (nI s) (0 : Int32) (0 : Int32) (0 : Int32) = _ from kv_10 g (nI s) false 0 0), zbpS (kv_16 g (nI s) 0 0 0)]
    refine (k_117 g hk _ (yn T.1 s) 8 1 _ (by omega) (Nat.le_refl _) (by omega)).trans ?_
    exact k_17 g d f (s + 1) _ (by omega) (by omega)
theorem k_all (g : yOk 512 T) : f_L_all N T = some (y_ah T.1, T) := by
  have h5 := yk5 g
  unfold f_L_all f_L_all_0
  rw [zbpS (k_weights g), zbpS (a_sentences g), zxR]
  exact k_17 g (yk T.1) 7 0 _ (by omega) (by omega)
end KW
