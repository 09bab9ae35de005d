/-! THE MEMORY OF A RUN AS FUNCTIONS, and the rows over it. ZM: int slots, long slots, references, doubles, by address and place (a field's place in its class, an array's index). K: the kind of each address (0: not ours; c + 1: an object of class c of vwCl; 11 int[], 12 long[], 13 boolean[], 14 Sentence[], 15 int[][], 16 long[][], 17 double[]); len: arrays' lengths. -/
abbrev ZM : Type := (Nat → Nat → Int32) × (Nat → Nat → Int64) × (Nat → Nat → Option Nat) × (Nat → Nat → UInt64)
def zI (M : ZM) (a k : Nat) : Int32 := M.1 a k
def zJ (M : ZM) (a k : Nat) : Int64 := M.2.1 a k
def zR (M : ZM) (a k : Nat) : Option Nat := M.2.2.1 a k
def zD (M : ZM) (a k : Nat) : UInt64 := M.2.2.2 a k
def zup {α : Type} (f : Nat → Nat → α) (a k : Nat) (v : α) : Nat → Nat → α := fun b j => if b = a ∧ j = k then v else f b j
def zsI (M : ZM) (a k : Nat) (v : Int32) : ZM := (zup M.1 a k v, M.2)
def zsJ (M : ZM) (a k : Nat) (v : Int64) : ZM := (M.1, zup M.2.1 a k v, M.2.2)
def zsR (M : ZM) (a k : Nat) (v : Option Nat) : ZM := (M.1, M.2.1, zup M.2.2.1 a k v, M.2.2.2)
def zsD (M : ZM) (a k : Nat) (v : UInt64) : ZM := (M.1, M.2.1, M.2.2.1, zup M.2.2.2 a k v)
/-- which fields of a class hold ints (the others hold references) -/
def ztl : Nat → List Bool
  | 0 => [false, true]
  | 1 => [false, false, false, false, true]
  | 2 => [false, false, false, true]
  | 3 => [false, false, false, false]
  | 4 => [false, false, true]
  | 5 => [false, false, true, false, false, false, true, true]
  | 6 => [false, true, false, false, false, false, false]
  | 7 => [true, false, false, false, false, false, false, true, true, true, false, false, false, true, true, false, false, false, false, true]
  | _ => []
def zfv (ad : Nat → Nat) (M : ZM) (a k : Nat) : Bool → Value
  | true => .int (zI M a k)
  | false => va_rf ((zR M a k).map ad)
def zfl (ad : Nat → Nat) (M : ZM) (a : Nat) : Nat → List Bool → List Value
  | _, [] => []
  | k, t :: ts => zfv ad M a k t :: zfl ad M a (k + 1) ts
def zent (cy : Nat → ClassId) (ad : Nat → Nat) (K len : Nat → Nat) (M : ZM) (a : Nat) : va_E :=
  if K a ≤ 8 then .inr (K a - 1, zfl ad M a 0 (ztl (K a - 1)))
  else if K a = 11 then .inl (cy 0, len a, .inl (zI M a))
  else if K a = 12 then .inl (cy 1, len a, .inr (.inl (zJ M a)))
  else if K a = 13 then .inl (cy 2, len a, .inl (zI M a))
  else if K a = 17 then .inl (cy 6, len a, .inr (.inr (.inr (.inl (zD M a)))))
  else .inl (cy (K a - 11), len a, .inr (.inr (.inr (.inr (fun j => (zR M a j).map ad)))))
def ztys (cy : Nat → ClassId) : List (ClassId × FieldType) := [(cy 0, .int), (cy 1, .long), (cy 2, .int), (cy 3, .object "ArcLight$Sentence"), (cy 4, .array .int), (cy 5, .array .long), (cy 6, .int)]
def zSh (ad : Nat → Nat) (L : List Nat) (K : Nat → Nat) : Prop := L.Nodup ∧ (∀ a, K a ≠ 0 → a ∈ L) ∧ ∀ a ∈ L, ∀ b ∈ L, ad a = ad b → a = b
/-- the pool: what stands at the address of each place -/
def zpl (ad : Nat → Nat) (L : List Nat) (E : Nat → va_E) : va_W := L.map (fun r => (ad r, E r))
def zWd (D : va_G) (cy : Nat → ClassId) (ad : Nat → Nat) (L : List Nat) (K len : Nat → Nat) (M : ZM) (H : Heap) : Prop := va_P D vwCl (zpl ad L (zent cy ad K len M)) H
def zA (ad : Nat → Nat) (L : List Nat) (sz : Nat) : Nat → Prop := fun q => (∃ a ∈ L, q = ad a) ∨ sz ≤ q
/-- an index into an array of kind t -/
def zok (K len : Nat → Nat) (a t : Nat) (i : Int32) : Bool := K a == t && (!decide (i < 0) && decide (i.toNatClampNeg < len a))
/-- go on if b holds -/
def zg {α : Type} (b : Bool) (x : Option α) : Option α := bif b then x else none
theorem zg_some {α : Type} {b : Bool} {x : Option α} {r : α} (h : zg b x = some r) : b = true ∧ x = some r := by
  cases b with
  | true => exact ⟨rfl, h⟩
  | false => cases h
theorem zg_t {α : Type} {b : Bool} {x : Option α} (h : b = true) : zg b x = x := by subst h; rfl
theorem zb_some {α β : Type} {x : Option α} {f : α → Option β} {r : β} (h : x.bind f = some r) : ∃ q, x = some q ∧ f q = some r := by
  cases x with
  | none => cases h
  | some q => exact ⟨q, rfl, h⟩
theorem zip {α : Type} {c : Prop} [Decidable c] {a b : Option α} {r : α} (hc : c) (h : (if c then a else b) = some r) : a = some r := by rw [if_pos hc] at h; exact h
theorem zin {α : Type} {c : Prop} [Decidable c] {a b : Option α} {r : α} (hc : ¬ c) (h : (if c then a else b) = some r) : b = some r := by rw [if_neg hc] at h; exact h
def zbp {α β γ : Type} (x : Option (α × β)) (f : α → β → Option γ) : Option γ := x.bind fun q => f q.1 q.2
theorem zbp_some {α β γ : Type} {x : Option (α × β)} {f : α → β → Option γ} {r : γ} (h : zbp x f = some r) : ∃ a b, x = some (a, b) ∧ f a b = some r := by
  cases x with
  | none => cases h
  | some q => exact ⟨q.1, q.2, rfl, h⟩
theorem zne_of {α : Type} [BEq α] [LawfulBEq α] {x y : α} (h : (!(x == y)) = true) : ¬ x = y := by
  intro e
  subst e
  simp at h
theorem zok_in {K len : Nat → Nat} {a t : Nat} {i : Int32} (h : zok K len a t i = true) : K a = t ∧ vp_in i (len a) := by
  simp only [zok, Bool.and_eq_true, beq_iff_eq, Bool.not_eq_true', decide_eq_false_iff_not, decide_eq_true_eq] at h
  exact ⟨h.1, fun q => q.elim h.2.1 (fun q => by omega)⟩
theorem zK_of {K : Nat → Nat} {a t : Nat} (h : (K a == t) = true) : K a = t := beq_iff_eq.mp h
theorem zent_obj {cy : Nat → ClassId} {ad : Nat → Nat} {K len : Nat → Nat} {M : ZM} {a ci : Nat} (h : K a = ci + 1) (h8 : ci < 8) : zent cy ad K len M a = .inr (ci, zfl ad M a 0 (ztl ci)) := by
  unfold zent
  rw [if_pos (by omega), h]
  rfl
theorem zent_I {cy : Nat → ClassId} {ad : Nat → Nat} {K len : Nat → Nat} {M : ZM} {a : Nat} (h : K a = 11) : zent cy ad K len M a = .inl (cy 0, len a, .inl (zI M a)) := by simp [zent, h]
theorem zent_J {cy : Nat → ClassId} {ad : Nat → Nat} {K len : Nat → Nat} {M : ZM} {a : Nat} (h : K a = 12) : zent cy ad K len M a = .inl (cy 1, len a, .inr (.inl (zJ M a))) := by simp [zent, h]
theorem zent_Z {cy : Nat → ClassId} {ad : Nat → Nat} {K len : Nat → Nat} {M : ZM} {a : Nat} (h : K a = 13) : zent cy ad K len M a = .inl (cy 2, len a, .inl (zI M a)) := by simp [zent, h]
theorem zent_D {cy : Nat → ClassId} {ad : Nat → Nat} {K len : Nat → Nat} {M : ZM} {a : Nat} (h : K a = 17) : zent cy ad K len M a = .inl (cy 6, len a, .inr (.inr (.inr (.inl (zD M a))))) := by simp [zent, h]
theorem zent_S {cy : Nat → ClassId} {ad : Nat → Nat} {K len : Nat → Nat} {M : ZM} {a : Nat} (h : K a = 14) : zent cy ad K len M a = .inl (cy 3, len a, .inr (.inr (.inr (.inr (fun j => (zR M a j).map ad))))) := by simp [zent, h]
theorem zent_II {cy : Nat → ClassId} {ad : Nat → Nat} {K len : Nat → Nat} {M : ZM} {a : Nat} (h : K a = 15) : zent cy ad K len M a = .inl (cy 4, len a, .inr (.inr (.inr (.inr (fun j => (zR M a j).map ad))))) := by simp [zent, h]
theorem zent_JJ {cy : Nat → ClassId} {ad : Nat → Nat} {K len : Nat → Nat} {M : ZM} {a : Nat} (h : K a = 16) : zent cy ad K len M a = .inl (cy 5, len a, .inr (.inr (.inr (.inr (fun j => (zR M a j).map ad))))) := by simp [zent, h]
theorem zfl_congr {ad : Nat → Nat} {M M' : ZM} {a : Nat} (h1 : ∀ j, zI M a j = zI M' a j) (h3 : ∀ j, zR M a j = zR M' a j) : ∀ (ts : List Bool) (k : Nat), zfl ad M a k ts = zfl ad M' a k ts
  | [], _ => rfl
  | t :: ts, k => by
    show zfv ad M a k t :: _ = zfv ad M' a k t :: _
    rw [zfl_congr h1 h3 ts (k + 1)]
    cases t <;> simp [zfv, h1, h3]
theorem zent_congr {cy : Nat → ClassId} {ad : Nat → Nat} {K len : Nat → Nat} {M M' : ZM} {a : Nat} (h1 : ∀ j, zI M a j = zI M' a j) (h2 : ∀ j, zJ M a j = zJ M' a j) (h3 : ∀ j, zR M a j = zR M' a j) (h4 : ∀ j, zD M a j = zD M' a j) : zent cy ad K len M a = zent cy ad K len M' a := by
  unfold zent
  rw [zfl_congr h1 h3, show zI M a = zI M' a from funext h1, show zJ M a = zJ M' a from funext h2, show (fun j => (zR M a j).map ad) = (fun j => (zR M' a j).map ad) from funext fun j => by rw [h3 j], show zD M a = zD M' a from funext h4]
theorem zfl_far {ad : Nat → Nat} {M M' : ZM} {a : Nat} {n : Nat} (h1 : ∀ j, n ≤ j → zI M a j = zI M' a j) (h3 : ∀ j, n ≤ j → zR M a j = zR M' a j) : ∀ (ts : List Bool) (k : Nat), n ≤ k → zfl ad M a k ts = zfl ad M' a k ts
  | [], _, _ => rfl
  | t :: ts, k, hk => by
    show zfv ad M a k t :: _ = zfv ad M' a k t :: _
    rw [zfl_far h1 h3 ts (k + 1) (by omega)]
    cases t <;> simp [zfv, h1 k hk, h3 k hk]
theorem zfl_set {ad : Nat → Nat} {M M' : ZM} {a k : Nat} {v : Value} (h1 : ∀ j, j ≠ k → zI M a j = zI M' a j) (h3 : ∀ j, j ≠ k → zR M a j = zR M' a j) : ∀ (ts : List Bool) (o i : Nat) (t : Bool), o + i = k → ts[i]? = some t → zfv ad M' a k t = v → (zfl ad M a o ts).set i v = zfl ad M' a o ts
  | [], _, _, _, _, h, _ => by cases h
  | t0 :: ts, o, 0, t, ho, h, hv => by
    have e : t0 = t := Option.some.inj h
    subst e
    have e2 : o = k := by omega
    subst e2
    show v :: zfl ad M a (o + 1) ts = zfv ad M' a o t0 :: zfl ad M' a (o + 1) ts
    rw [hv, zfl_far (n := o + 1) (fun j hj => h1 j (by omega)) (fun j hj => h3 j (by omega)) ts (o + 1) (Nat.le_refl _)]
  | t0 :: ts, o, i + 1, t, ho, h, hv => by
    show zfv ad M a o t0 :: (zfl ad M a (o + 1) ts).set i v = zfv ad M' a o t0 :: zfl ad M' a (o + 1) ts
    rw [zfl_set h1 h3 ts (o + 1) i t (by omega) h hv]
    cases t0 <;> simp [zfv, h1 o (by omega), h3 o (by omega)]
theorem zup_self {α : Type} {f : Nat → Nat → α} {a k : Nat} {v : α} : zup f a k v a k = v := if_pos ⟨rfl, rfl⟩
theorem zup_ne {α : Type} {f : Nat → Nat → α} {a k b j : Nat} {v : α} (h : ¬ (b = a ∧ j = k)) : zup f a k v b j = f b j := if_neg h
theorem zup_at {cy : Nat → ClassId} {ad : Nat → Nat} {K len : Nat → Nat} {M M' : ZM} {a : Nat} {e : va_E} (he : e = zent cy ad K len M' a) (h : ∀ b, b ≠ a → (∀ j, zI M b j = zI M' b j) ∧ (∀ j, zJ M b j = zJ M' b j) ∧ (∀ j, zR M b j = zR M' b j) ∧ (∀ j, zD M b j = zD M' b j)) : ∀ b, va_up (zent cy ad K len M) a e b = zent cy ad K len M' b := by
  intro b
  by_cases hb : b = a
  · subst hb
    rw [va_up_self]
    exact he
  · rw [va_up_ne _ _ hb]
    obtain ⟨h1, h2, h3, h4⟩ := h b hb
    exact zent_congr h1 h2 h3 h4
theorem zfar_I {M : ZM} {a k : Nat} {v : Int32} : ∀ b, b ≠ a → (∀ j, zI M b j = zI (zsI M a k v) b j) ∧ (∀ j, zJ M b j = zJ (zsI M a k v) b j) ∧ (∀ j, zR M b j = zR (zsI M a k v) b j) ∧ (∀ j, zD M b j = zD (zsI M a k v) b j) := fun b hb => ⟨fun j => (zup_ne (fun h => hb h.1)).symm, fun _ => rfl, fun _ => rfl, fun _ => rfl⟩
theorem zfar_J {M : ZM} {a k : Nat} {v : Int64} : ∀ b, b ≠ a → (∀ j, zI M b j = zI (zsJ M a k v) b j) ∧ (∀ j, zJ M b j = zJ (zsJ M a k v) b j) ∧ (∀ j, zR M b j = zR (zsJ M a k v) b j) ∧ (∀ j, zD M b j = zD (zsJ M a k v) b j) := fun b hb => ⟨fun _ => rfl, fun j => (zup_ne (fun h => hb h.1)).symm, fun _ => rfl, fun _ => rfl⟩
theorem zfar_R {M : ZM} {a k : Nat} {v : Option Nat} : ∀ b, b ≠ a → (∀ j, zI M b j = zI (zsR M a k v) b j) ∧ (∀ j, zJ M b j = zJ (zsR M a k v) b j) ∧ (∀ j, zR M b j = zR (zsR M a k v) b j) ∧ (∀ j, zD M b j = zD (zsR M a k v) b j) := fun b hb => ⟨fun _ => rfl, fun _ => rfl, fun j => (zup_ne (fun h => hb h.1)).symm, fun _ => rfl⟩
theorem zfar_D {M : ZM} {a k : Nat} {v : UInt64} : ∀ b, b ≠ a → (∀ j, zI M b j = zI (zsD M a k v) b j) ∧ (∀ j, zJ M b j = zJ (zsD M a k v) b j) ∧ (∀ j, zR M b j = zR (zsD M a k v) b j) ∧ (∀ j, zD M b j = zD (zsD M a k v) b j) := fun b hb => ⟨fun _ => rfl, fun _ => rfl, fun _ => rfl, fun j => (zup_ne (fun h => hb h.1)).symm⟩
theorem zpl_D {ad : Nat → Nat} {L : List Nat} {K : Nat → Nat} {sz : Nat} (hL : zSh ad L K) (f : Nat → va_E) : va_D (zA ad L sz) (zpl ad L f) := by
  have key : ∀ (k : Nat) (q : Nat × va_E), (zpl ad L f)[k]? = some q → ∃ r, L[k]? = some r ∧ q.1 = ad r := by
    intro k q h
    simp only [zpl, List.getElem?_map] at h
    cases hk : L[k]? with
    | none => rw [hk] at h; cases h
    | some b => rw [hk] at h; cases h; exact ⟨b, rfl, rfl⟩
  refine ⟨fun i j p q hi hj e => ?_, fun k q hk => ?_⟩
  · obtain ⟨r1, h1, e1⟩ := key i p hi
    obtain ⟨r2, h2, e2⟩ := key j q hj
    have h3 : r1 = r2 := hL.2.2 r1 (List.mem_of_getElem? h1) r2 (List.mem_of_getElem? h2) (e1.symm.trans (e.trans e2))
    subst h3
    exact (List.getElem?_inj (List.getElem?_eq_some_iff.mp h1).1 hL.1).mp (h1.trans h2.symm)
  · obtain ⟨r, h1, e1⟩ := key k q hk
    exact Or.inl ⟨r, List.mem_of_getElem? h1, e1⟩
theorem zpl_get {ad : Nat → Nat} {L : List Nat} {E : Nat → va_E} {a : Nat} (h : a ∈ L) : ∃ k : Nat, L[k]? = some a ∧ (zpl ad L E)[k]? = some (ad a, E a) := by
  obtain ⟨k, hk⟩ := List.getElem?_of_mem h
  exact ⟨k, hk, by simp [zpl, hk]⟩
theorem zpl_set {ad : Nat → Nat} {L : List Nat} {E : Nat → va_E} {a k : Nat} {e : va_E} (hn : L.Nodup) (hk : L[k]? = some a) : (zpl ad L E).set k (ad a, e) = zpl ad L (va_up E a e) := by
  have hl : k < L.length := (List.getElem?_eq_some_iff.mp hk).1
  apply List.ext_getElem?
  intro j
  by_cases hj : j = k
  · subst hj
    rw [List.getElem?_set_self (by simp [zpl, hl])]
    simp [zpl, hk, va_up]
  · rw [List.getElem?_set_ne (Ne.symm hj)]
    simp only [zpl, List.getElem?_map]
    cases hb : L[j]? with
    | none => rfl
    | some b =>
      have hba : b ≠ a := by
        intro hab
        subst hab
        exact hj ((List.getElem?_inj (List.getElem?_eq_some_iff.mp hb).1 hn).mp (hb.trans hk.symm))
      simp [va_up, hba]
theorem zpl_congr {ad : Nat → Nat} {L : List Nat} {f g : Nat → va_E} (h : ∀ a, f a = g a) : zpl ad L f = zpl ad L g := by
  unfold zpl
  exact List.map_congr_left (fun a _ => by rw [h a])
/-- the nest mates' links that the methods use -/
def znw : List Cond := [.methodLinkNest RX6 21 yX5_init "ArcLight", .methodLinkNest RX6 28 yX0_init "ArcLight", .methodLinkNest RX6 35 yX3_init "ArcLight", .methodLinkNest RX6 42 yX1_init "ArcLight", .methodLinkNest RX6 49 yX4_init "ArcLight", .methodLinkNest RX0 50 yX6_isPlace "ArcLight", .methodLinkNest RX1 67 yX6_isPlace "ArcLight", .methodLinkNest RX2 33 yX6_isPlace "ArcLight", .methodLinkNest RX3 47 yX6_isPlace "ArcLight", .methodLinkNest RX4 73 yX6_doCross "ArcLight", .methodLinkNest RX5 56 yX6_byDistance "ArcLight", .fieldLinkNest RX0 46 "ArcLight" "HEAD_VALUES" "[J" "ArcLight", .castable "java/lang/IndexOutOfBoundsException" "java/lang/IndexOutOfBoundsException", .castable "java/lang/IllegalArgumentException" "java/lang/IllegalArgumentException", .castable "java/lang/IllegalStateException" "java/lang/IllegalStateException", .declares (Bundle.initS "java/lang/RuntimeException"), .declares (Bundle.initS "java/lang/Exception"), .declares (Bundle.initS Bundle.tN)]
/-- the static row HEAD_VALUES -/
def zhv (j : Nat) : Int64 := [0, 16807, 2401, 343, 49, 7, 1].getD j 0
/-- the texts of the exceptions, by their places in ArcLight's pool -/
def zstr : List (Nat × String) := [(56, "no more sentences can be added"), (68, "the kind is out of range"), (75, "no more words can be added"), (92, "the weight is out of range"), (119, "the mark is out of range"), (124, "another arc to the word is forced"), (173, "the right heads are not all told, or make no tree"), (192, "nothing can be rolled back"), (199, "there is no such sentence"), (202, "there is no such word"), (204, "there is no such head"), (206, "head and word are the same"), (208, "there is no such feature"), (212, "there is no such tree"), (226, "there are not so many trees")]
/-- which exceptions are not which -/
def zncl : List (String × String) := [("java/lang/IndexOutOfBoundsException", "java/lang/IllegalArgumentException"), ("java/lang/IndexOutOfBoundsException", "java/lang/IllegalStateException"), ("java/lang/IllegalArgumentException", "java/lang/IndexOutOfBoundsException"), ("java/lang/IllegalArgumentException", "java/lang/IllegalStateException"), ("java/lang/IllegalStateException", "java/lang/IndexOutOfBoundsException"), ("java/lang/IllegalStateException", "java/lang/IllegalArgumentException")]
def zEnv (A : Nat → Prop) (U : State) (H : Heap) : Prop :=
  (∀ w ∈ znw, va_Nw w U) ∧ vx_Zq Bundle.tN "UNASSIGNED_STACK" Bundle.steD A U H ∧ vx_Zq Bundle.tN "SUPPRESSED_SENTINEL" Bundle.listD A U H ∧ (∀ q ∈ zstr, ∃ a, vk_R RX6 q.1 q.2 a U) ∧ (∀ q ∈ zncl, va_Nc q.1 q.2 U) ∧ (va_AO "ArcLight$Sentence" U ∧ va_AOA .int U ∧ va_AOA .long U) ∧ ∃ t, va_Z "ArcLight" "HEAD_VALUES" "[J" (.ref t) A U H ∧ va_T .long t 7 (fun j => .long (zhv j)) A U H
theorem zAOA_moved {t : FieldType} {u U : State} (hvm : u.vm.Alike U.vm) (h : va_AOA t u) : va_AOA t U := over_moved (a := #[]) (a' := #[]) hvm h
theorem zNw_warmD {x : MethodName} {s U : State} (hW : s.WarmedH U.vm) (hZ : va_Nw (.declares x) s) : va_Nw (.declares x) U := va_tabs rfl (rfl : (s.setVm U.vm).vm = U.vm) (by rw [Cond.declares_setVm hW.alike]; exact hZ)
theorem znw_tab : ∀ w ∈ znw, w.onTables = true := by decide +kernel
theorem znw_use {args : Array Value} {s : State} (h : ∀ w ∈ znw, va_Nw w s) : ∀ w ∈ znw, w.before args s = true := fun w hw => va_Nw.use (znw_tab w hw) (h w hw)
theorem znw_warm {s U : State} (hW : s.WarmedH U.vm) (h : ∀ w ∈ znw, va_Nw w s) : ∀ w ∈ znw, va_Nw w U := by
  intro w hw
  have h1 := h w hw
  simp only [znw, List.mem_cons, List.not_mem_nil, or_false] at hw
  rcases hw with rfl | rfl | rfl | rfl | rfl | rfl | rfl | rfl | rfl | rfl | rfl | rfl | rfl | rfl | rfl | rfl | rfl | rfl <;> first | exact va_Nw.warmM hW h1 | exact va_Nw.warmF hW h1 | exact va_Nw.warmC hW h1 | exact zNw_warmD hW h1
theorem zEnv.next {A A1 : Nat → Prop} {s U : State} {H : Heap} {locs : List Loc} (h : zEnv A s s.heap) (hW : s.WarmedH U.vm) (hS : va_S A s.heap H locs) (hA : ∀ q, A1 q → A q) : zEnv A1 U H := by
  obtain ⟨h1, h2, h3, h6, h7, h8, t, h4, h5⟩ := h
  have hk : ∀ a : Nat, a < s.heap.size → ¬ A a → H[a]? = s.heap[a]? := hS.2.1
  exact ⟨znw_warm hW h1, ((h2.kept hk).moved hW.alike).narrow hA, ((h3.kept hk).moved hW.alike).narrow hA, (fun q hq => (h6 q hq).elim fun a ha => ⟨a, vk_R.warm hW ha⟩), (fun q hq => (h7 q hq).moved hW.alike), ⟨va_AO.moved hW.alike h8.1, zAOA_moved hW.alike h8.2.1, zAOA_moved hW.alike h8.2.2⟩, t, ((h4.kept hk).moved hW.alike).narrow hA, ((h5.kept hk).moved hW.alike).narrow hA⟩
theorem zEnv.same {A : Nat → Prop} {u U : State} {H : Heap} (h : zEnv A u H) (hvm : u.vm = U.vm) : zEnv A U H := by
  have ha : u.vm.Alike U.vm := by rw [hvm]; exact Vm.Alike.refl _
  obtain ⟨h1, h2, h3, h6, h7, h8, t, h4, h5⟩ := h
  refine ⟨fun w hw => ?_, h2.moved ha, h3.moved ha, (fun q hq => (h6 q hq).elim fun a h9 => ⟨a, vk_R.same hvm.symm h9⟩), (fun q hq => (h7 q hq).moved ha), ⟨va_AO.moved ha h8.1, zAOA_moved ha h8.2.1, zAOA_moved ha h8.2.2⟩, t, h4.moved ha, h5.moved ha⟩
  have h9 := h1 w hw
  exact va_Nw.same (znw_tab w hw) hvm h9
/-- a method's start: the arguments, the heap's size, the memory, the tables, what stands outside -/
def zPre (D : va_G) (cy : Nat → ClassId) (ad : Nat → Nat) (L : List Nat) (K len : Nat → Nat) (sz : Nat) (av : List Value) (M : ZM) : Array Value → State → Prop := va_Pc av (fun U => U.heap.size = sz ∧ zWd D cy ad L K len M U.heap ∧ va_K D vwCl (ztys cy) U ∧ zEnv (zA ad L sz) U U.heap)
theorem zPre_blind {D : va_G} {cy : Nat → ClassId} {ad : Nat → Nat} {L : List Nat} {K len : Nat → Nat} {sz : Nat} {av : List Value} {M : ZM} : FrameBlind (zPre D cy ad L K len sz av M) := fun a U g mk q => ⟨q.1, q.2.1, q.2.2.1, va_K.moved (u := U) (U := U.calling g mk a) (Vm.Alike.refl U.vm) q.2.2.2.1, q.2.2.2.2.same rfl⟩
/-- what holds throughout a body -/
def zCx (p : Program) (s : State) (m : MethodId) (c : Code) (meth : Method) (args : Array Value) (cc : ByteArray) (nL : Nat) (Ts : List Cond) (own : String) (ret : Option FieldType) (D : va_G) (cy : Nat → ClassId) (ad : Nat → Nat) (L : List Nat) (K : Nat → Nat) : Prop :=
  p.tables.exec = Jvm.exec ∧ c.code = cc ∧ meth.sig.returnType = ret ∧ c.maxLocals = nL ∧ s.vm.findClass own = some m.cls ∧ (∀ w ∈ Ts, w.before args s = true) ∧ meth.locks = false ∧ va_K D vwCl (ztys cy) s ∧ zSh ad L K ∧ zEnv (zA ad L s.heap.size) s s.heap
def zQi (D : va_G) (cy : Nat → ClassId) (ad : Nat → Nat) (L : List Nat) (K len : Nat → Nat) (r : Int32) (M : ZM) (sz : Nat) : Array Value → State → Outcome → State → Prop := va_Qi (fun (x : Int32) (_ : Unit) => x = r) (fun _ t => zWd D cy ad L K len M t.heap) (zA ad L sz)
def zQl (D : va_G) (cy : Nat → ClassId) (ad : Nat → Nat) (L : List Nat) (K len : Nat → Nat) (r : Int64) (M : ZM) (sz : Nat) : Array Value → State → Outcome → State → Prop := va_Ql (fun (x : Int64) (_ : Unit) => x = r) (fun _ t => zWd D cy ad L K len M t.heap) (zA ad L sz)
def zQd (D : va_G) (cy : Nat → ClassId) (ad : Nat → Nat) (L : List Nat) (K len : Nat → Nat) (r : UInt64) (M : ZM) (sz : Nat) : Array Value → State → Outcome → State → Prop := va_Qd (fun (x : UInt64) (_ : Unit) => x = r) (fun _ t => zWd D cy ad L K len M t.heap) (zA ad L sz)
def zQr (D : va_G) (cy : Nat → ClassId) (ad : Nat → Nat) (L : List Nat) (K len : Nat → Nat) (r : Nat) (M : ZM) (sz : Nat) : Array Value → State → Outcome → State → Prop := va_Qq (fun (x : Option Nat) (_ : Unit) => x = some (ad r)) (fun _ t => zWd D cy ad L K len M t.heap) (zA ad L sz)
def zQv (D : va_G) (cy : Nat → ClassId) (ad : Nat → Nat) (L : List Nat) (K len : Nat → Nat) (M : ZM) (sz : Nat) : Array Value → State → Outcome → State → Prop := va_Qv (fun (_ : Unit) => True) (fun _ t => zWd D cy ad L K len M t.heap) (zA ad L sz)
section ZR
variable {p : Program} {l : Launch} {e : Env} {R : Room} {s : State} {m : MethodId} {args : Array Value} {below : List Frame} {meth : Method} {c : Code} {H : Heap} {locs : List Loc} {cells slots : Nat} {Q : State → Prop}
variable {cc : ByteArray} {pc : Nat} {ls : Array Slot} {rest : List Value} {D : va_G} {cy : Nat → ClassId} {ad : Nat → Nat} {L : List Nat} {K len : Nat → Nat} {a : Nat} {M : ZM}
theorem z_get (hx : p.tables.exec = Jvm.exec) (hb : c.code = cc) {own C : String} {T : u_T} {N ci index : Nat} {Ts : List Cond} (hts : ∀ w ∈ Ts, w.before args s = true) (hin : ∀ w ∈ u_ws C T N, w ∈ Ts) (hown : s.vm.findClass own = some m.cls) (hK : va_K D vwCl (ztys cy) s) (hL : zSh ad L K) (hW : zWd D cy ad L K len M H) (k : Nat) (hKa : K a = ci + 1) (hc : vwCl[ci]? = some (C, T, N)) (h8 : ci < 8) (hk : k < N) (hf : (T k).1 = C) (hlink : (Cond.fieldLink own index C (T k).2.1 (T k).2.2.1).before args s = true) {v : Value} (hv : (zfl ad M a 0 (ztl ci))[k]? = some v) (hdg : decode cc pc = .ok (.getfield index, 3))
    (kk : W p l e R s m args below meth c H locs cells slots Q (F0 m (pc + 3) ls (v :: rest))) : W p l e R s m args below meth c H locs cells slots Q (F0 m pc ls (.ref (ad a) :: rest)) := by
  obtain ⟨q0, -, he⟩ := zpl_get (E := zent cy ad K len M) (hL.2.1 a (by omega))
  rw [zent_obj hKa h8] at he
  exact va_get hx hb hts hin hown hK (show va_P D vwCl (zpl ad L (zent cy ad K len M)) H from hW) q0 he hc k hk hlink (fun x h => by rw [hf] at h; exact h) hv hdg kk
theorem z_put (hx : p.tables.exec = Jvm.exec) (hb : c.code = cc) {own C : String} {T : u_T} {N ci index : Nat} {Ts : List Cond} (hts : ∀ w ∈ Ts, w.before args s = true) (hin : ∀ w ∈ u_ws C T N, w ∈ Ts) (ty0 : Nat → FieldType) (hty : ∀ k, k < N → parseFieldDescriptor (T k).2.2.1 = some (ty0 k)) (hnm : ∀ a, a < N → ∀ b, b < N → a ≠ b → (T a).2.1 ≠ (T b).2.1) (hown : s.vm.findClass own = some m.cls) (hK : va_K D vwCl (ztys cy) s) (hL : zSh ad L K) (hW : zWd D cy ad L K len M H) (hS : va_S (zA ad L s.heap.size) s.heap H locs) (k : Nat) (hKa : K a = ci + 1) (hc : vwCl[ci]? = some (C, T, N)) (h8 : ci < 8) (hk : k < N) (hf : (T k).1 = C) (hlink : (Cond.fieldLink own index C (T k).2.1 (T k).2.2.1).before args s = true) (hfin : (T k).2.2.2 = false) {ty : FieldType} {v : Value} (hd : parseFieldDescriptor (T k).2.2.1 = some ty) (hn : narrow ty v = v) (hfit : fits ty v = true) (hl : k < (zfl ad M a 0 (ztl ci)).length) (hdg : decode cc pc = .ok (.putfield index, 3)) {M' : ZM}
    (hM : ∀ b, va_up (zent cy ad K len M) a (.inr (ci, (zfl ad M a 0 (ztl ci)).set k v)) b = zent cy ad K len M' b)
    (kk : ∀ (H : Heap) (locs : List Loc), zWd D cy ad L K len M' H → va_S (zA ad L s.heap.size) s.heap H locs → W p l e R s m args below meth c H locs cells slots Q (F0 m (pc + 3) ls rest)) : W p l e R s m args below meth c H locs cells slots Q (F0 m pc ls (v :: .ref (ad a) :: rest)) := by
  have ha : a ∈ L := hL.2.1 a (by omega)
  have hD : va_D (zA ad L s.heap.size) (zpl ad L (zent cy ad K len M)) := zpl_D hL _
  obtain ⟨q0, hq, he⟩ := zpl_get (E := zent cy ad K len M) ha
  have he2 := he
  rw [zent_obj hKa h8] at he2
  refine va_put hx hb hts hin ty0 hty hnm hown hK (show va_P D vwCl (zpl ad L (zent cy ad K len M)) H from hW) hD hS q0 he2 hc k hk hlink (fun x h => by rw [hf] at h; exact h) hfin hd hn hfit hl hdg (fun H1 locs1 hP1 _ hS1 => kk H1 locs1 ?_ hS1)
  rw [zpl_set hL.1 hq] at hP1
  show va_P D vwCl (zpl ad L (zent cy ad K len M')) H1
  rw [← zpl_congr hM]
  exact hP1
theorem zM_I {ci k : Nat} {x : Int32} (hKa : K a = ci + 1) (h8 : ci < 8) (ht : (ztl ci)[k]? = some true) : ∀ b, va_up (zent cy ad K len M) a (.inr (ci, (zfl ad M a 0 (ztl ci)).set k (.int x))) b = zent cy ad K len (zsI M a k x) b := by
  refine zup_at ?_ zfar_I
  rw [zent_obj hKa h8, zfl_set (M := M) (M' := zsI M a k x) (k := k) (fun j hj => (zup_ne (fun h => hj h.2)).symm) (fun _ _ => rfl) (ztl ci) 0 k true (by omega) ht (by show Value.int (zup M.1 a k x a k) = _; rw [zup_self])]
theorem zM_R {ci k : Nat} {x : Nat} (hKa : K a = ci + 1) (h8 : ci < 8) (ht : (ztl ci)[k]? = some false) : ∀ b, va_up (zent cy ad K len M) a (.inr (ci, (zfl ad M a 0 (ztl ci)).set k (.ref (ad x)))) b = zent cy ad K len (zsR M a k (some x)) b := by
  refine zup_at ?_ zfar_R
  rw [zent_obj hKa h8, zfl_set (M := M) (M' := zsR M a k (some x)) (k := k) (fun _ _ => rfl) (fun j hj => (zup_ne (fun h => hj h.2)).symm) (ztl ci) 0 k false (by omega) ht (by show va_rf ((zup M.2.2.1 a k (some x) a k).map ad) = _; rw [zup_self]; rfl)]
theorem z_iald (hx : p.tables.exec = Jvm.exec) (hb : c.code = cc) (hK : va_K D vwCl (ztys cy) s) (hL : zSh ad L K) (hW : zWd D cy ad L K len M H) {i : Int32} (h : zok K len a 11 i = true) (hdg : decode cc pc = .ok (.iaload, 1))
    (kk : W p l e R s m args below meth c H locs cells slots Q (F0 m (pc + 1) ls (.int (zI M a i.toNatClampNeg) :: rest))) : W p l e R s m args below meth c H locs cells slots Q (F0 m pc ls (.int i :: .ref (ad a) :: rest)) := by
  obtain ⟨hKa, hin⟩ := zok_in h
  obtain ⟨q0, -, he⟩ := zpl_get (E := zent cy ad K len M) (hL.2.1 a (by omega))
  rw [zent_I hKa] at he
  exact va_iald hx hb hK (show va_P D vwCl (zpl ad L (zent cy ad K len M)) H from hW) q0 0 he rfl hin hdg kk
theorem z_lald (hx : p.tables.exec = Jvm.exec) (hb : c.code = cc) (hK : va_K D vwCl (ztys cy) s) (hL : zSh ad L K) (hW : zWd D cy ad L K len M H) {i : Int32} (h : zok K len a 12 i = true) (hdg : decode cc pc = .ok (.laload, 1))
    (kk : W p l e R s m args below meth c H locs cells slots Q (F0 m (pc + 1) ls (.long (zJ M a i.toNatClampNeg) :: rest))) : W p l e R s m args below meth c H locs cells slots Q (F0 m pc ls (.int i :: .ref (ad a) :: rest)) := by
  obtain ⟨hKa, hin⟩ := zok_in h
  obtain ⟨q0, -, he⟩ := zpl_get (E := zent cy ad K len M) (hL.2.1 a (by omega))
  rw [zent_J hKa] at he
  exact va_lald hx hb hK (show va_P D vwCl (zpl ad L (zent cy ad K len M)) H from hW) q0 1 he rfl hin hdg kk
theorem z_aald (hx : p.tables.exec = Jvm.exec) (hb : c.code = cc) (hK : va_K D vwCl (ztys cy) s) (hL : zSh ad L K) (hW : zWd D cy ad L K len M H) {i : Int32} (t : Nat) (h : zok K len a t i = true) (ht : t = 14 ∨ t = 15 ∨ t = 16) (hdg : decode cc pc = .ok (.aaload, 1))
    (kk : W p l e R s m args below meth c H locs cells slots Q (F0 m (pc + 1) ls (va_rf ((zR M a i.toNatClampNeg).map ad) :: rest))) : W p l e R s m args below meth c H locs cells slots Q (F0 m pc ls (.int i :: .ref (ad a) :: rest)) := by
  obtain ⟨hKa, hin⟩ := zok_in h
  obtain ⟨q0, -, he⟩ := zpl_get (E := zent cy ad K len M) (hL.2.1 a (by omega))
  have hP : va_P D vwCl (zpl ad L (zent cy ad K len M)) H := hW
  have hlt : i.toNatClampNeg < len a := Nat.not_le.mp fun q => hin (Or.inr q)
  rcases ht with rfl | rfl | rfl
  · rw [zent_S hKa] at he
    exact W.aald (v := va_rf ((zR M a i.toNatClampNeg).map ad)) (ty := .object "ArcLight$Sentence") hx hb (hP q0 _ he) ((hK.2 3 (cy 3, .object "ArcLight$Sentence") rfl).1 (len a) (fun j => va_rf ((zR M a j).map ad))) rfl (fun q => by cases q) (by show ¬ (i < 0 ∨ (arrV _ _ _).slots.size ≤ _); rw [arrV_size]; exact hin) (by show (arrV _ _ _).slots[_]? = _; rw [arrV_read _ _ hlt]) rfl rfl hdg kk
  · rw [zent_II hKa] at he
    exact W.aald (v := va_rf ((zR M a i.toNatClampNeg).map ad)) (ty := .array .int) hx hb (hP q0 _ he) ((hK.2 4 (cy 4, .array .int) rfl).1 (len a) (fun j => va_rf ((zR M a j).map ad))) rfl (fun q => by cases q) (by show ¬ (i < 0 ∨ (arrV _ _ _).slots.size ≤ _); rw [arrV_size]; exact hin) (by show (arrV _ _ _).slots[_]? = _; rw [arrV_read _ _ hlt]) rfl rfl hdg kk
  · rw [zent_JJ hKa] at he
    exact W.aald (v := va_rf ((zR M a i.toNatClampNeg).map ad)) (ty := .array .long) hx hb (hP q0 _ he) ((hK.2 5 (cy 5, .array .long) rfl).1 (len a) (fun j => va_rf ((zR M a j).map ad))) rfl (fun q => by cases q) (by show ¬ (i < 0 ∨ (arrV _ _ _).slots.size ≤ _); rw [arrV_size]; exact hin) (by show (arrV _ _ _).slots[_]? = _; rw [arrV_read _ _ hlt]) rfl rfl hdg kk
theorem z_aaldN (hx : p.tables.exec = Jvm.exec) (hb : c.code = cc) (hK : va_K D vwCl (ztys cy) s) (hL : zSh ad L K) (hW : zWd D cy ad L K len M H) {i : Int32} (t : Nat) (h : zok K len a t i = true) (ht : t = 14 ∨ t = 15 ∨ t = 16) (hr : zR M a i.toNatClampNeg = none) (hdg : decode cc pc = .ok (.aaload, 1))
    (kk : W p l e R s m args below meth c H locs cells slots Q (F0 m (pc + 1) ls (.null :: rest))) : W p l e R s m args below meth c H locs cells slots Q (F0 m pc ls (.int i :: .ref (ad a) :: rest)) := by
  refine z_aald hx hb hK hL hW t h ht hdg ?_
  rw [hr]
  exact kk
theorem z_aaldS (hx : p.tables.exec = Jvm.exec) (hb : c.code = cc) (hK : va_K D vwCl (ztys cy) s) (hL : zSh ad L K) (hW : zWd D cy ad L K len M H) {i : Int32} (t : Nat) (h : zok K len a t i = true) (ht : t = 14 ∨ t = 15 ∨ t = 16) {b : Nat} (hr : zR M a i.toNatClampNeg = some b) (hdg : decode cc pc = .ok (.aaload, 1))
    (kk : W p l e R s m args below meth c H locs cells slots Q (F0 m (pc + 1) ls (.ref (ad b) :: rest))) : W p l e R s m args below meth c H locs cells slots Q (F0 m pc ls (.int i :: .ref (ad a) :: rest)) := by
  refine z_aald hx hb hK hL hW t h ht hdg ?_
  rw [hr]
  exact kk
theorem z_alen (hx : p.tables.exec = Jvm.exec) (hb : c.code = cc) (hK : va_K D vwCl (ztys cy) s) (hL : zSh ad L K) (hW : zWd D cy ad L K len M H) (h : (11 ≤ K a && K a ≤ 17) = true) (hdg : decode cc pc = .ok (.arraylength, 1))
    (kk : W p l e R s m args below meth c H locs cells slots Q (F0 m (pc + 1) ls (.int (Int32.ofNat (len a)) :: rest))) : W p l e R s m args below meth c H locs cells slots Q (F0 m pc ls (.ref (ad a) :: rest)) := by
  simp only [Bool.and_eq_true, decide_eq_true_eq] at h
  obtain ⟨q0, -, he⟩ := zpl_get (E := zent cy ad K len M) (hL.2.1 a (by omega))
  have hP : va_P D vwCl (zpl ad L (zent cy ad K len M)) H := hW
  have hc : K a = 11 ∨ K a = 12 ∨ K a = 13 ∨ K a = 14 ∨ K a = 15 ∨ K a = 16 ∨ K a = 17 := by omega
  rcases hc with hKa | hKa | hKa | hKa | hKa | hKa | hKa
  · rw [zent_I hKa] at he
    exact va_alen hx hb hK hP q0 0 he (ty := .int) rfl rfl hdg kk
  · rw [zent_J hKa] at he
    exact va_alen hx hb hK hP q0 1 he (ty := .long) rfl rfl hdg kk
  · rw [zent_Z hKa] at he
    exact va_alen hx hb hK hP q0 2 he (ty := .int) rfl rfl hdg kk
  · rw [zent_S hKa] at he
    exact va_alen hx hb hK hP q0 3 he (ty := .object "ArcLight$Sentence") rfl rfl hdg kk
  · rw [zent_II hKa] at he
    exact va_alen hx hb hK hP q0 4 he (ty := .array .int) rfl rfl hdg kk
  · rw [zent_JJ hKa] at he
    exact va_alen hx hb hK hP q0 5 he (ty := .array .long) rfl rfl hdg kk
  · rw [zent_D hKa] at he
    exact va_alen hx hb hK hP q0 6 he (ty := .int) rfl rfl hdg kk
theorem z_iast (hx : p.tables.exec = Jvm.exec) (hb : c.code = cc) (hK : va_K D vwCl (ztys cy) s) (hL : zSh ad L K) (hW : zWd D cy ad L K len M H) (hS : va_S (zA ad L s.heap.size) s.heap H locs) {i x : Int32} (h : zok K len a 11 i = true) (hdg : decode cc pc = .ok (.iastore, 1))
    (kk : ∀ (H : Heap) (locs : List Loc), zWd D cy ad L K len (zsI M a i.toNatClampNeg x) H → va_S (zA ad L s.heap.size) s.heap H locs → W p l e R s m args below meth c H locs cells slots Q (F0 m (pc + 1) ls rest)) : W p l e R s m args below meth c H locs cells slots Q (F0 m pc ls (.int x :: .int i :: .ref (ad a) :: rest)) := by
  obtain ⟨hKa, hin⟩ := zok_in h
  have ha : a ∈ L := hL.2.1 a (by omega)
  have hD : va_D (zA ad L s.heap.size) (zpl ad L (zent cy ad K len M)) := zpl_D hL _
  obtain ⟨q0, hq, he⟩ := zpl_get (E := zent cy ad K len M) ha
  have he2 := he
  rw [zent_I hKa] at he2
  refine va_iast hx hb hK (show va_P D vwCl (zpl ad L (zent cy ad K len M)) H from hW) hD hS q0 0 he2 rfl hin hdg (fun H1 locs1 hP1 _ hS1 => kk H1 locs1 ?_ hS1)
  rw [zpl_set hL.1 hq] at hP1
  show va_P D vwCl (zpl ad L (zent cy ad K len _)) H1
  rw [← zpl_congr (f := va_up (zent cy ad K len M) a (.inl (cy 0, len a, .inl (upd (zI M a) i.toNatClampNeg x)))) (zup_at (by rw [zent_I hKa, show zI (zsI M a i.toNatClampNeg x) a = upd (zI M a) i.toNatClampNeg x from funext fun j => by simp [upd, zI, zsI, zup]]) zfar_I)]
  exact hP1
theorem z_last (hx : p.tables.exec = Jvm.exec) (hb : c.code = cc) (hK : va_K D vwCl (ztys cy) s) (hL : zSh ad L K) (hW : zWd D cy ad L K len M H) (hS : va_S (zA ad L s.heap.size) s.heap H locs) {i : Int32} {x : Int64} (h : zok K len a 12 i = true) (hdg : decode cc pc = .ok (.lastore, 1))
    (kk : ∀ (H : Heap) (locs : List Loc), zWd D cy ad L K len (zsJ M a i.toNatClampNeg x) H → va_S (zA ad L s.heap.size) s.heap H locs → W p l e R s m args below meth c H locs cells slots Q (F0 m (pc + 1) ls rest)) : W p l e R s m args below meth c H locs cells slots Q (F0 m pc ls (.long x :: .int i :: .ref (ad a) :: rest)) := by
  obtain ⟨hKa, hin⟩ := zok_in h
  have ha : a ∈ L := hL.2.1 a (by omega)
  have hD : va_D (zA ad L s.heap.size) (zpl ad L (zent cy ad K len M)) := zpl_D hL _
  obtain ⟨q0, hq, he⟩ := zpl_get (E := zent cy ad K len M) ha
  have he2 := he
  rw [zent_J hKa] at he2
  refine va_last hx hb hK (show va_P D vwCl (zpl ad L (zent cy ad K len M)) H from hW) hD hS q0 1 he2 rfl hin hdg (fun H1 locs1 hP1 _ hS1 => kk H1 locs1 ?_ hS1)
  rw [zpl_set hL.1 hq] at hP1
  show va_P D vwCl (zpl ad L (zent cy ad K len _)) H1
  rw [← zpl_congr (f := va_up (zent cy ad K len M) a (.inl (cy 1, len a, .inr (.inl (vp_updL (zJ M a) i.toNatClampNeg x))))) (zup_at (by rw [zent_J hKa, show zJ (zsJ M a i.toNatClampNeg x) a = vp_updL (zJ M a) i.toNatClampNeg x from funext fun j => by simp [vp_updL, zJ, zsJ, zup]]) zfar_J)]
  exact hP1
end ZR
section ZC
variable {p : Program} {l : Launch} {e : Env} {R : Room} {s : State} {m : MethodId} {args : Array Value} {below : List Frame} {meth : Method} {c : Code} {H : Heap} {locs : List Loc} {cells slots : Nat} {Q : State → Prop}
variable {cc : ByteArray} {pc : Nat} {ls : Array Slot} {rest : List Value} {D : va_G} {cy : Nat → ClassId} {ad : Nat → Nat} {L : List Nat} {K len : Nat → Nat} {a : Nat} {M M' : ZM}
theorem zA_mono {sz sz' : Nat} (h : sz ≤ sz') : ∀ q, zA ad L sz' q → zA ad L sz q := fun _ h1 => h1.elim Or.inl (fun h2 => Or.inr (Nat.le_trans h h2))
theorem z_iret (hx : p.tables.exec = Jvm.exec) (hb : c.code = cc) (hr : meth.sig.returnType = some .int) (hlocks : meth.locks = false) (hW : zWd D cy ad L K len M H) (hS : va_S (zA ad L s.heap.size) s.heap H locs) {v r : Int32} (hv : v = r) (hM : M = M') (hdg : decode cc pc = .ok (.ireturn, 1)) : W p l e R s m args below meth c H locs cells slots (MQ below (zQi D cy ad L K len r M' s.heap.size) args s cells slots (zA ad L s.heap.size)) (F0 m pc ls [.int v]) := by
  subst hv; subst hM
  exact W.iret hx hb hr (fun t ht _ => ⟨⟨v, (), rfl, rfl, (congrArg (zWd D cy ad L K len M) ht).mpr hW⟩, hS.F ht⟩) hS.2.2 hdg hlocks
/-- 0 or 1 -/
def zbo (v : Int32) : Bool := v == 0 || v == 1
theorem zbo_nar {v : Int32} (h : zbo v = true) : narrow .boolean (.int v) = .int v := by
  simp only [zbo, Bool.or_eq_true, beq_iff_eq] at h
  rcases h with rfl | rfl <;> decide
theorem z_zret (hx : p.tables.exec = Jvm.exec) (hb : c.code = cc) (hr : meth.sig.returnType = some .boolean) (hlocks : meth.locks = false) (hW : zWd D cy ad L K len M H) (hS : va_S (zA ad L s.heap.size) s.heap H locs) {v r : Int32} (hn : zbo v = true) (hv : v = r) (hM : M = M') (hdg : decode cc pc = .ok (.ireturn, 1)) : W p l e R s m args below meth c H locs cells slots (MQ below (zQi D cy ad L K len r M' s.heap.size) args s cells slots (zA ad L s.heap.size)) (F0 m pc ls [.int v]) := by
  subst hv; subst hM
  exact W.zret hx hb hr (zbo_nar hn) (fun t ht _ => ⟨⟨v, (), rfl, rfl, (congrArg (zWd D cy ad L K len M) ht).mpr hW⟩, hS.F ht⟩) hS.2.2 hdg hlocks
theorem z_lret (hx : p.tables.exec = Jvm.exec) (hb : c.code = cc) (hr : meth.sig.returnType = some .long) (hlocks : meth.locks = false) (hW : zWd D cy ad L K len M H) (hS : va_S (zA ad L s.heap.size) s.heap H locs) {v r : Int64} (hv : v = r) (hM : M = M') (hdg : decode cc pc = .ok (.lreturn, 1)) : W p l e R s m args below meth c H locs cells slots (MQ below (zQl D cy ad L K len r M' s.heap.size) args s cells slots (zA ad L s.heap.size)) (F0 m pc ls [.long v]) := by
  subst hv; subst hM
  exact W.lret hx hb hr (fun t ht _ => ⟨⟨v, (), rfl, rfl, (congrArg (zWd D cy ad L K len M) ht).mpr hW⟩, hS.F ht⟩) hS.2.2 hdg hlocks
theorem z_dret (hx : p.tables.exec = Jvm.exec) (hb : c.code = cc) (hr : meth.sig.returnType = some .double) (hlocks : meth.locks = false) (hW : zWd D cy ad L K len M H) (hS : va_S (zA ad L s.heap.size) s.heap H locs) {v r : UInt64} (hv : v = r) (hM : M = M') (hdg : decode cc pc = .ok (.dreturn, 1)) : W p l e R s m args below meth c H locs cells slots (MQ below (zQd D cy ad L K len r M' s.heap.size) args s cells slots (zA ad L s.heap.size)) (F0 m pc ls [.double v]) := by
  subst hv; subst hM
  exact W.dret hx hb hr (fun t ht _ => ⟨⟨v, (), rfl, rfl, (congrArg (zWd D cy ad L K len M) ht).mpr hW⟩, hS.F ht⟩) hS.2.2 hdg hlocks
theorem z_aret (hx : p.tables.exec = Jvm.exec) (hb : c.code = cc) {C : String} (hr : meth.sig.returnType = some (.object C)) (hlocks : meth.locks = false) (hW : zWd D cy ad L K len M H) (hS : va_S (zA ad L s.heap.size) s.heap H locs) {v r : Nat} (hv : v = r) (hM : M = M') (hdg : decode cc pc = .ok (.areturn, 1)) : W p l e R s m args below meth c H locs cells slots (MQ below (zQr D cy ad L K len r M' s.heap.size) args s cells slots (zA ad L s.heap.size)) (F0 m pc ls [.ref (ad v)]) := by
  subst hv; subst hM
  exact W.aret hx hb hr (Or.inl ⟨_, rfl⟩) (Or.inr ⟨ad v, rfl⟩) (fun t ht _ => ⟨⟨some (ad v), (), rfl, rfl, (congrArg (zWd D cy ad L K len M) ht).mpr hW⟩, hS.F ht⟩) hS.2.2 hdg hlocks
theorem z_vret (hx : p.tables.exec = Jvm.exec) (hb : c.code = cc) (hr : meth.sig.returnType = none) (hlocks : meth.locks = false) (hW : zWd D cy ad L K len M H) (hS : va_S (zA ad L s.heap.size) s.heap H locs) (hM : M = M') (hdg : decode cc pc = .ok (.return_, 1)) : W p l e R s m args below meth c H locs cells slots (MQ below (zQv D cy ad L K len M' s.heap.size) args s cells slots (zA ad L s.heap.size)) (F0 m pc ls []) := by
  subst hM
  exact W.vret hx hb hr (fun t ht _ => ⟨⟨(), rfl, trivial, (congrArg (zWd D cy ad L K len M) ht).mpr hW⟩, hS.F ht⟩) hS.2.2 hdg hlocks
theorem z_calli (hS : va_S (zA ad L s.heap.size) s.heap H locs) {mc ms : Nat} {st0 : List Value} {r : Int32} {av : Array Value} (hr : va_Run p l e R s m args below meth c H locs cells slots mc ms (F0 m pc ls st0) rest (zQi D cy ad L K len r M' H.size av) (zA ad L H.size))
    (kk : ∀ (H : Heap) (locs : List Loc), zWd D cy ad L K len M' H → va_S (zA ad L s.heap.size) s.heap H locs → W p l e R s m args below meth c H locs (cells + mc) (slots + ms) Q (F0 m (pc + 3) ls (.int r :: rest))) : W p l e R s m args below meth c H locs cells slots Q (F0 m pc ls st0) :=
  va_calli hr hS (fun q _ h => zA_mono hS.1 q h) (fun q h => zA_mono hS.1 q h) (fun x _ t H1 locs1 ht _ hp hb _ _ hS1 => by subst hp; subst ht; exact kk _ _ hb hS1)
theorem z_calll (hS : va_S (zA ad L s.heap.size) s.heap H locs) {mc ms : Nat} {st0 : List Value} {r : Int64} {av : Array Value} (hr : va_Run p l e R s m args below meth c H locs cells slots mc ms (F0 m pc ls st0) rest (zQl D cy ad L K len r M' H.size av) (zA ad L H.size))
    (kk : ∀ (H : Heap) (locs : List Loc), zWd D cy ad L K len M' H → va_S (zA ad L s.heap.size) s.heap H locs → W p l e R s m args below meth c H locs (cells + mc) (slots + ms) Q (F0 m (pc + 3) ls (.long r :: rest))) : W p l e R s m args below meth c H locs cells slots Q (F0 m pc ls st0) :=
  va_calll hr hS (fun q _ h => zA_mono hS.1 q h) (fun q h => zA_mono hS.1 q h) (fun x _ t H1 locs1 ht _ hp hb _ _ hS1 => by subst hp; subst ht; exact kk _ _ hb hS1)
theorem z_calld (hS : va_S (zA ad L s.heap.size) s.heap H locs) {mc ms : Nat} {st0 : List Value} {r : UInt64} {av : Array Value} (hr : va_Run p l e R s m args below meth c H locs cells slots mc ms (F0 m pc ls st0) rest (zQd D cy ad L K len r M' H.size av) (zA ad L H.size))
    (kk : ∀ (H : Heap) (locs : List Loc), zWd D cy ad L K len M' H → va_S (zA ad L s.heap.size) s.heap H locs → W p l e R s m args below meth c H locs (cells + mc) (slots + ms) Q (F0 m (pc + 3) ls (.double r :: rest))) : W p l e R s m args below meth c H locs cells slots Q (F0 m pc ls st0) :=
  va_calld hr hS (fun q _ h => zA_mono hS.1 q h) (fun q h => zA_mono hS.1 q h) (fun x _ t H1 locs1 ht _ hp hb _ _ hS1 => by subst hp; subst ht; exact kk _ _ hb hS1)
theorem z_callv (hS : va_S (zA ad L s.heap.size) s.heap H locs) {mc ms : Nat} {st0 : List Value} {av : Array Value} (hr : va_Run p l e R s m args below meth c H locs cells slots mc ms (F0 m pc ls st0) rest (zQv D cy ad L K len M' H.size av) (zA ad L H.size))
    (kk : ∀ (H : Heap) (locs : List Loc), zWd D cy ad L K len M' H → va_S (zA ad L s.heap.size) s.heap H locs → W p l e R s m args below meth c H locs (cells + mc) (slots + ms) Q (F0 m (pc + 3) ls rest)) : W p l e R s m args below meth c H locs cells slots Q (F0 m pc ls st0) :=
  va_callv hr hS (fun q _ h => zA_mono hS.1 q h) (fun q h => zA_mono hS.1 q h) (fun _ t H1 locs1 ht _ _ hb _ _ hS1 => by subst ht; exact kk _ _ hb hS1)
theorem z_callr (hS : va_S (zA ad L s.heap.size) s.heap H locs) {mc ms : Nat} {st0 : List Value} {r : Nat} {av : Array Value} (hr : va_Run p l e R s m args below meth c H locs cells slots mc ms (F0 m pc ls st0) rest (zQr D cy ad L K len r M' H.size av) (zA ad L H.size))
    (kk : ∀ (H : Heap) (locs : List Loc), zWd D cy ad L K len M' H → va_S (zA ad L s.heap.size) s.heap H locs → W p l e R s m args below meth c H locs (cells + mc) (slots + ms) Q (F0 m (pc + 3) ls (.ref (ad r) :: rest))) : W p l e R s m args below meth c H locs cells slots Q (F0 m pc ls st0) :=
  va_callq hr hS (fun q _ h => zA_mono hS.1 q h) (fun q h => zA_mono hS.1 q h) (fun x _ t H1 locs1 ht _ hp hb _ _ hS1 => by subst hp; subst ht; exact kk _ _ hb hS1)
theorem z_preS (hK : va_K D vwCl (ztys cy) s) (hE : zEnv (zA ad L s.heap.size) s s.heap) (hW : zWd D cy ad L K len M H) (hS : va_S (zA ad L s.heap.size) s.heap H locs) (As : List Value) : PreS s H (zPre D cy ad L K len H.size As M) As :=
  ⟨zPre_blind, fun U hU hw => ⟨rfl, by rw [hU], by rw [hU]; exact hW, va_K.moved hw.alike hK, by rw [hU]; exact hE.next hw hS (zA_mono hS.1)⟩⟩
theorem z_preV (hK : va_K D vwCl (ztys cy) s) (hL : zSh ad L K) (hE : zEnv (zA ad L s.heap.size) s s.heap) (hW : zWd D cy ad L K len M H) (hS : va_S (zA ad L s.heap.size) s.heap H locs) {b ci : Nat} {q : vw_C} (hKb : K b = ci + 1) (h8 : ci < 8) (hc : vwCl[ci]? = some q) (As : List Value) : PreV s H q.1 (ad b) (zPre D cy ad L K len H.size (.ref (ad b) :: As) M) As := by
  obtain ⟨q0, -, he⟩ := zpl_get (E := zent cy ad K len M) (hL.2.1 b (by omega))
  rw [zent_obj hKb h8] at he
  exact ⟨zPre_blind, va_recv hK (show va_P D vwCl (zpl ad L (zent cy ad K len M)) H from hW) hc he, fun U hU hw => ⟨rfl, by rw [hU], by rw [hU]; exact hW, va_K.moved hw.alike hK, by rw [hU]; exact hE.next hw hS (zA_mono hS.1)⟩⟩
theorem z_lcmp {x y : Int64} : (lg_cmp x y = 0 ↔ x = y) ∧ (lg_cmp x y < 0 ↔ x < y) ∧ (lg_cmp x y ≤ 0 ↔ x ≤ y) ∧ (0 < lg_cmp x y ↔ y < x) ∧ (0 ≤ lg_cmp x y ↔ y ≤ x) := by
  unfold lg_cmp
  have t := Int64.le_total x y
  by_cases h : x > y
  · rw [if_pos h]
    have h1 : y < x := h
    rw [Int64.lt_iff_toInt_lt] at h1
    simp only [Int64.lt_iff_toInt_lt, Int64.le_iff_toInt_le, ← Int64.toInt_inj]
    refine ⟨⟨fun q => absurd q (by decide), fun q => by omega⟩, ⟨fun q => absurd q (by decide), fun q => by omega⟩, ⟨fun q => absurd q (by decide), fun q => by omega⟩, ⟨fun _ => h1, fun _ => by decide⟩, ⟨fun _ => by omega, fun _ => by decide⟩⟩
  · rw [if_neg h]
    have h1 : ¬ y < x := h
    by_cases h2 : x = y
    · rw [if_pos h2]
      subst h2
      refine ⟨⟨fun _ => rfl, fun _ => rfl⟩, ?_⟩
      simp only [Int64.lt_iff_toInt_lt, Int64.le_iff_toInt_le]
      exact ⟨⟨fun q => absurd q (by decide), fun q => by omega⟩, ⟨fun _ => by omega, fun _ => by decide⟩, ⟨fun q => absurd q (by decide), fun q => by omega⟩, ⟨fun _ => by omega, fun _ => by decide⟩⟩
    · rw [if_neg h2]
      rw [← Int64.toInt_inj] at h2
      rw [Int64.lt_iff_toInt_lt] at h1
      simp only [Int64.lt_iff_toInt_lt, Int64.le_iff_toInt_le, ← Int64.toInt_inj]
      exact ⟨⟨fun q => absurd q (by decide), fun q => by omega⟩, ⟨fun _ => by omega, fun _ => by decide⟩, ⟨fun _ => by omega, fun _ => by decide⟩, ⟨fun q => absurd q (by decide), fun q => by omega⟩, ⟨fun q => absurd q (by decide), fun q => by omega⟩⟩
theorem z_lc_eq (hx : p.tables.exec = Jvm.exec) (hb : c.code = cc) {x y : Int64} {off : Int} {tgt : Nat} (hd0 : decode cc pc = .ok (.lcmp, 1)) (hdg : decode cc (pc + 1) = .ok (.ifCond .eq off, 3)) (ht : ((pc + 1 : Nat) : Int) + off = (tgt : Int))
    (kt : x = y → W p l e R s m args below meth c H locs cells slots Q (F0 m tgt ls rest)) (kf : ¬ x = y → W p l e R s m args below meth c H locs cells slots Q (F0 m (pc + 4) ls rest)) : W p l e R s m args below meth c H locs cells slots Q (F0 m pc ls (.long y :: .long x :: rest)) :=
  W.lcmp hx hb hd0 (lv_if_eq hx hb hdg ht (fun h => kt (z_lcmp.1.mp h)) (fun h => kf (fun q => h (z_lcmp.1.mpr q))))
theorem z_lc_ne (hx : p.tables.exec = Jvm.exec) (hb : c.code = cc) {x y : Int64} {off : Int} {tgt : Nat} (hd0 : decode cc pc = .ok (.lcmp, 1)) (hdg : decode cc (pc + 1) = .ok (.ifCond .ne off, 3)) (ht : ((pc + 1 : Nat) : Int) + off = (tgt : Int))
    (kt : ¬ x = y → W p l e R s m args below meth c H locs cells slots Q (F0 m tgt ls rest)) (kf : x = y → W p l e R s m args below meth c H locs cells slots Q (F0 m (pc + 4) ls rest)) : W p l e R s m args below meth c H locs cells slots Q (F0 m pc ls (.long y :: .long x :: rest)) :=
  W.lcmp hx hb hd0 (lv_if_ne hx hb hdg ht (fun h => kt (fun q => h (z_lcmp.1.mpr q))) (fun h => kf (z_lcmp.1.mp h)))
theorem z_lc_lt (hx : p.tables.exec = Jvm.exec) (hb : c.code = cc) {x y : Int64} {off : Int} {tgt : Nat} (hd0 : decode cc pc = .ok (.lcmp, 1)) (hdg : decode cc (pc + 1) = .ok (.ifCond .lt off, 3)) (ht : ((pc + 1 : Nat) : Int) + off = (tgt : Int))
    (kt : x < y → W p l e R s m args below meth c H locs cells slots Q (F0 m tgt ls rest)) (kf : ¬ x < y → W p l e R s m args below meth c H locs cells slots Q (F0 m (pc + 4) ls rest)) : W p l e R s m args below meth c H locs cells slots Q (F0 m pc ls (.long y :: .long x :: rest)) :=
  W.lcmp hx hb hd0 (lv_if_lt hx hb hdg ht (fun h => kt (z_lcmp.2.1.mp h)) (fun h => kf (fun q => h (z_lcmp.2.1.mpr q))))
theorem z_lc_le (hx : p.tables.exec = Jvm.exec) (hb : c.code = cc) {x y : Int64} {off : Int} {tgt : Nat} (hd0 : decode cc pc = .ok (.lcmp, 1)) (hdg : decode cc (pc + 1) = .ok (.ifCond .le off, 3)) (ht : ((pc + 1 : Nat) : Int) + off = (tgt : Int))
    (kt : x ≤ y → W p l e R s m args below meth c H locs cells slots Q (F0 m tgt ls rest)) (kf : ¬ x ≤ y → W p l e R s m args below meth c H locs cells slots Q (F0 m (pc + 4) ls rest)) : W p l e R s m args below meth c H locs cells slots Q (F0 m pc ls (.long y :: .long x :: rest)) :=
  W.lcmp hx hb hd0 (lv_if_le hx hb hdg ht (fun h => kt (z_lcmp.2.2.1.mp h)) (fun h => kf (fun q => h (z_lcmp.2.2.1.mpr q))))
theorem z_lc_gt (hx : p.tables.exec = Jvm.exec) (hb : c.code = cc) {x y : Int64} {off : Int} {tgt : Nat} (hd0 : decode cc pc = .ok (.lcmp, 1)) (hdg : decode cc (pc + 1) = .ok (.ifCond .gt off, 3)) (ht : ((pc + 1 : Nat) : Int) + off = (tgt : Int))
    (kt : y < x → W p l e R s m args below meth c H locs cells slots Q (F0 m tgt ls rest)) (kf : ¬ y < x → W p l e R s m args below meth c H locs cells slots Q (F0 m (pc + 4) ls rest)) : W p l e R s m args below meth c H locs cells slots Q (F0 m pc ls (.long y :: .long x :: rest)) :=
  W.lcmp hx hb hd0 (lv_if_gt hx hb hdg ht (fun h => kt (z_lcmp.2.2.2.1.mp h)) (fun h => kf (fun q => h (z_lcmp.2.2.2.1.mpr q))))
theorem z_lc_ge (hx : p.tables.exec = Jvm.exec) (hb : c.code = cc) {x y : Int64} {off : Int} {tgt : Nat} (hd0 : decode cc pc = .ok (.lcmp, 1)) (hdg : decode cc (pc + 1) = .ok (.ifCond .ge off, 3)) (ht : ((pc + 1 : Nat) : Int) + off = (tgt : Int))
    (kt : y ≤ x → W p l e R s m args below meth c H locs cells slots Q (F0 m tgt ls rest)) (kf : ¬ y ≤ x → W p l e R s m args below meth c H locs cells slots Q (F0 m (pc + 4) ls rest)) : W p l e R s m args below meth c H locs cells slots Q (F0 m pc ls (.long y :: .long x :: rest)) :=
  W.lcmp hx hb hd0 (lv_if_ge hx hb hdg ht (fun h => kt (z_lcmp.2.2.2.2.mp h)) (fun h => kf (fun q => h (z_lcmp.2.2.2.2.mpr q))))
theorem zhvR {fs : List Value} {k : Nat} {r : Option Nat} {b : Nat} (e : r = some b) (h : fs[k]? = some (va_rf (r.map ad))) : fs[k]? = some (.ref (ad b)) := by subst e; exact h
end ZC
/-- a value gets a name -/
def zl {α β : Type} (x : α) (f : α → β) : β := f x
theorem zl_some {α β : Type} {x : α} {f : α → β} {r : β} (h : zl x f = r) : ∃ y, y = x ∧ f y = r := ⟨x, rfl, h⟩
theorem z_entry {l : Launch} {y : MethodName} {ws ws' : List Cond} {rm : Room} {cc : ByteArray} {nL : Nat} {ret : Option FieldType} {own : String} {D : va_G} {cy : Nat → ClassId} {ad : Nat → Nat} {L : List Nat} {K len : Nat → Nat} {av : List Value} {M : ZM} {Qf : Nat → Array Value → State → Outcome → State → Prop} {mc ms sz : Nat}
    (hy : plainName y.cls = true) (hw : ws = Cond.code y cc nL ret :: ws') (ho : y.cls = own) (hL : zSh ad L K) (hn : (lg_sl av).length ≤ nL)
    (body : ∀ (p : Program) (e : Env) (s : State) (m : MethodId) (args : Array Value) (below : List Frame) (meth : Method) (c : Code), zCx p s m c meth args cc nL ws own ret D cy ad L K → ∀ (H : Heap) (locs : List Loc) (ls : Array Slot), zWd D cy ad L K len M H → va_S (zA ad L s.heap.size) s.heap H locs → lv_has ls nL (lv_args 0 av) → W p l e (headSpec ws rm).room s m args below meth c H locs 0 0 (MQ below (Qf s.heap.size) args s mc ms (zA ad L s.heap.size)) (F0 m 0 ls [])) : Met l y ws rm (zPre D cy ad L K len sz av M) (Qf sz) mc ms (zA ad L sz) := by
  refine Met.ofW (cc := cc) (maxL := nL) (ret := ret) hy hw ?_
  intro p e s m args below meth c s₁ B hml hv
  obtain ⟨rfl, hsz, hW, hK, hE⟩ := hv
  subst hsz
  rw [lg_entry_eq]
  exact body p e s m _ below meth c ⟨B.exec, B.bytes, B.returns, hml, by rw [← ho]; exact findClass_of_methodNamed B.named, atoms_spec (ws := ws) B.pre, B.notSynchronized, hK, hL, hE⟩ s.heap [] _ hW va_S.rf (lv_entry av hn)
/-- as Met.ofW, for a method of a class that the machine's table of natives names, but not this method -/
theorem z_ofWF {l : Launch} {y : MethodName} {ws ws' : List Cond} {rm : Room} {Pc : Array Value → State → Prop} {Qc : Array Value → State → Outcome → State → Prop} {mc ms : Nat} {free : Addr → Prop} {cc : ByteArray} {maxL : Nat} {ret : Option FieldType}
    (hy : plainFor y = true) (hw : ws = Cond.code y cc maxL ret :: ws')
    (body : ∀ p e s m args below meth c s₁, BodyLoose p l y (headSpec ws rm) cc maxL ret e s m args below meth c s₁ → c.maxLocals = maxL → Pc args s →
      W p l e (headSpec ws rm).room s m args below meth c s.heap [] 0 0 (MQ below Qc args s mc ms free) (entryFrame m args maxL)) : Met l y ws rm Pc Qc mc ms free := by
  refine MetFree.of_bodySF (code := cc) (maxLocals := maxL) (ret := ret) hy ?_ ?_
  · intro args s m h hn
    obtain ⟨meth, c, h1, h2, h3, h4, h5, h6, -, -⟩ := Cond.code_spec hn (atoms_spec (ws := ws) h _ (by rw [hw]; exact List.mem_cons_self))
    exact ⟨meth, c, h1, h2, h3, h4, h5, h6⟩
  · intro p e s m args below meth c s₁ B hml hP _
    have hh0 : s₁.heap = s.heap := by rw [B.state]; rfl
    obtain ⟨t, a1, o, b1, b2, b3⟩ := body p e s m args below meth c s₁ B hml hP s₁ hh0 (Stand.of_body B)
    exact ⟨t, o, a1, b1, b2, ⟨b3.1, b3.2⟩⟩
theorem z_entryF {l : Launch} {y : MethodName} {ws ws' : List Cond} {rm : Room} {cc : ByteArray} {nL : Nat} {ret : Option FieldType} {own : String} {D : va_G} {cy : Nat → ClassId} {ad : Nat → Nat} {L : List Nat} {K len : Nat → Nat} {av : List Value} {M : ZM} {Qf : Nat → Array Value → State → Outcome → State → Prop} {mc ms sz : Nat}
    (hy : plainFor y = true) (hw : ws = Cond.code y cc nL ret :: ws') (ho : y.cls = own) (hL : zSh ad L K) (hn : (lg_sl av).length ≤ nL)
    (body : ∀ (p : Program) (e : Env) (s : State) (m : MethodId) (args : Array Value) (below : List Frame) (meth : Method) (c : Code), zCx p s m c meth args cc nL ws own ret D cy ad L K → ∀ (H : Heap) (locs : List Loc) (ls : Array Slot), zWd D cy ad L K len M H → va_S (zA ad L s.heap.size) s.heap H locs → lv_has ls nL (lv_args 0 av) → W p l e (headSpec ws rm).room s m args below meth c H locs 0 0 (MQ below (Qf s.heap.size) args s mc ms (zA ad L s.heap.size)) (F0 m 0 ls [])) : Met l y ws rm (zPre D cy ad L K len sz av M) (Qf sz) mc ms (zA ad L sz) := by
  refine z_ofWF (cc := cc) (maxL := nL) (ret := ret) hy hw ?_
  intro p e s m args below meth c s₁ B hml hv
  obtain ⟨rfl, hsz, hW, hK, hE⟩ := hv
  subst hsz
  rw [lg_entry_eq]
  exact body p e s m _ below meth c ⟨B.exec, B.bytes, B.returns, hml, by rw [← ho]; exact findClass_of_methodNamed B.named, atoms_spec (ws := ws) B.pre, B.notSynchronized, hK, hL, hE⟩ s.heap [] _ hW va_S.rf (lv_entry av hn)
/-- System.arraycopy: may it run, and the memory behind it -/
def zcp (K len : Nat → Nat) (t a0 a : Nat) (sp dp n : Int32) : Bool := K a0 == t && (K a == t && (!decide (sp < 0) && (!decide (dp < 0) && (!decide (n < 0) && (decide (sp.toNatClampNeg + n.toNatClampNeg ≤ len a0) && decide (dp.toNatClampNeg + n.toNatClampNeg ≤ len a))))))
theorem zcp_in {K len : Nat → Nat} {t a0 a : Nat} {sp dp n : Int32} (h : zcp K len t a0 a sp dp n = true) : K a0 = t ∧ K a = t ∧ ¬ sp < 0 ∧ ¬ dp < 0 ∧ ¬ n < 0 ∧ sp.toNatClampNeg + n.toNatClampNeg ≤ len a0 ∧ dp.toNatClampNeg + n.toNatClampNeg ≤ len a := by
  simp only [zcp, Bool.and_eq_true, beq_iff_eq, Bool.not_eq_true', decide_eq_false_iff_not, decide_eq_true_eq] at h
  exact h
def zcI (M : ZM) (a0 a sp dp n : Nat) : ZM := ((fun b j => if b = a ∧ dp ≤ j ∧ j < dp + n then zI M a0 (sp + (j - dp)) else M.1 b j), M.2)
def zcJ (M : ZM) (a0 a sp dp n : Nat) : ZM := (M.1, (fun b j => if b = a ∧ dp ≤ j ∧ j < dp + n then zJ M a0 (sp + (j - dp)) else M.2.1 b j), M.2.2)
section ZP
variable {p : Program} {l : Launch} {e : Env} {R : Room} {s : State} {m : MethodId} {args : Array Value} {below : List Frame} {meth : Method} {c : Code} {H : Heap} {locs : List Loc} {cells slots : Nat} {Q : State → Prop}
variable {cc : ByteArray} {pc : Nat} {ls : Array Slot} {rest : List Value} {D : va_G} {cy : Nat → ClassId} {ad : Nat → Nat} {L : List Nat} {K len : Nat → Nat} {a : Nat} {M : ZM}
theorem z_copyI (hx : p.tables.exec = Jvm.exec) (hb : c.code = cc) (hml : c.maxLocals = ls.size) {own : String} {index : Nat} (hown : s.vm.findClass own = some m.cls) (hlink : (Cond.methodLink own index arraycopyName).before args s = true) (hnat : (Cond.native arraycopyName).before args s = true) (hstat : (Cond.static arraycopyName).before args s = true) (hini : (Cond.initialized "java/lang/System").before args s = true)
    (hK : va_K D vwCl (ztys cy) s) (hL : zSh ad L K) (hW : zWd D cy ad L K len M H) (hS : va_S (zA ad L s.heap.size) s.heap H locs) {a0 : Nat} {sp dp n : Int32} (h : zcp K len 11 a0 a sp dp n = true)
    (hframes : 1 ≤ R.frames) (hlocals : (rest.map fun v => v.category).sum + (nativeFrameWords "java/lang/System" "arraycopy" 5 + 11) ≤ R.locals) (hdg : decode cc pc = .ok (.invokestatic index, 3))
    (kk : ∀ (H : Heap) (locs : List Loc), zWd D cy ad L K len (zcI M a0 a sp.toNatClampNeg dp.toNatClampNeg n.toNatClampNeg) H → va_S (zA ad L s.heap.size) s.heap H locs → W p l e R s m args below meth c H locs cells slots Q (F0 m (pc + 3) ls rest)) : W p l e R s m args below meth c H locs cells slots Q (F0 m pc ls (.int n :: .int dp :: .ref (ad a) :: .int sp :: .ref (ad a0) :: rest)) := by
  obtain ⟨hK0, hKa, h1, h2, h3, h4, h5⟩ := zcp_in h
  have ha : a ∈ L := hL.2.1 a (by omega)
  have hD : va_D (zA ad L s.heap.size) (zpl ad L (zent cy ad K len M)) := zpl_D hL _
  obtain ⟨q1, hq, he1⟩ := zpl_get (E := zent cy ad K len M) ha
  obtain ⟨q0, -, he0⟩ := zpl_get (E := zent cy ad K len M) (hL.2.1 a0 (by omega))
  have he2 := he1
  rw [zent_I hKa] at he2
  rw [zent_I hK0] at he0
  refine va_copyi hx hb hml hown hlink hnat hstat hini hK (show va_P D vwCl (zpl ad L (zent cy ad K len M)) H from hW) hD hS q0 q1 0 0 he0 he2 (ty := .int) rfl rfl rfl h1 h2 h3 h4 h5 (fun _ _ => rfl) hframes hlocals hdg (fun H1 locs1 hP1 _ hS1 => kk H1 locs1 ?_ hS1)
  rw [zpl_set hL.1 hq] at hP1
  show va_P D vwCl (zpl ad L (zent cy ad K len _)) H1
  rw [← zpl_congr (f := va_up (zent cy ad K len M) a (.inl (cy 0, len a, .inl (va_cpy (zI M a0) (zI M a) sp.toNatClampNeg dp.toNatClampNeg n.toNatClampNeg)))) (zup_at (M' := zcI M a0 a sp.toNatClampNeg dp.toNatClampNeg n.toNatClampNeg) (by rw [zent_I hKa, show zI (zcI M a0 a sp.toNatClampNeg dp.toNatClampNeg n.toNatClampNeg) a = va_cpy (zI M a0) (zI M a) sp.toNatClampNeg dp.toNatClampNeg n.toNatClampNeg from funext fun j => by simp [va_cpy, zI, zcI]]) (fun b hb => ⟨fun j => by simp [zI, zcI, hb], fun _ => rfl, fun _ => rfl, fun _ => rfl⟩))]
  exact hP1
theorem z_copyJ (hx : p.tables.exec = Jvm.exec) (hb : c.code = cc) (hml : c.maxLocals = ls.size) {own : String} {index : Nat} (hown : s.vm.findClass own = some m.cls) (hlink : (Cond.methodLink own index arraycopyName).before args s = true) (hnat : (Cond.native arraycopyName).before args s = true) (hstat : (Cond.static arraycopyName).before args s = true) (hini : (Cond.initialized "java/lang/System").before args s = true)
    (hK : va_K D vwCl (ztys cy) s) (hL : zSh ad L K) (hW : zWd D cy ad L K len M H) (hS : va_S (zA ad L s.heap.size) s.heap H locs) {a0 : Nat} {sp dp n : Int32} (h : zcp K len 12 a0 a sp dp n = true)
    (hframes : 1 ≤ R.frames) (hlocals : (rest.map fun v => v.category).sum + (nativeFrameWords "java/lang/System" "arraycopy" 5 + 11) ≤ R.locals) (hdg : decode cc pc = .ok (.invokestatic index, 3))
    (kk : ∀ (H : Heap) (locs : List Loc), zWd D cy ad L K len (zcJ M a0 a sp.toNatClampNeg dp.toNatClampNeg n.toNatClampNeg) H → va_S (zA ad L s.heap.size) s.heap H locs → W p l e R s m args below meth c H locs cells slots Q (F0 m (pc + 3) ls rest)) : W p l e R s m args below meth c H locs cells slots Q (F0 m pc ls (.int n :: .int dp :: .ref (ad a) :: .int sp :: .ref (ad a0) :: rest)) := by
  obtain ⟨hK0, hKa, h1, h2, h3, h4, h5⟩ := zcp_in h
  have ha : a ∈ L := hL.2.1 a (by omega)
  have hD : va_D (zA ad L s.heap.size) (zpl ad L (zent cy ad K len M)) := zpl_D hL _
  obtain ⟨q1, hq, he1⟩ := zpl_get (E := zent cy ad K len M) ha
  obtain ⟨q0, -, he0⟩ := zpl_get (E := zent cy ad K len M) (hL.2.1 a0 (by omega))
  have he2 := he1
  rw [zent_J hKa] at he2
  rw [zent_J hK0] at he0
  refine va_copyl hx hb hml hown hlink hnat hstat hini hK (show va_P D vwCl (zpl ad L (zent cy ad K len M)) H from hW) hD hS q0 q1 1 1 he0 he2 (ty := .long) rfl rfl rfl h1 h2 h3 h4 h5 (fun _ _ => rfl) hframes hlocals hdg (fun H1 locs1 hP1 _ hS1 => kk H1 locs1 ?_ hS1)
  rw [zpl_set hL.1 hq] at hP1
  show va_P D vwCl (zpl ad L (zent cy ad K len _)) H1
  rw [← zpl_congr (f := va_up (zent cy ad K len M) a (.inl (cy 1, len a, .inr (.inl (va_cpy (zJ M a0) (zJ M a) sp.toNatClampNeg dp.toNatClampNeg n.toNatClampNeg))))) (zup_at (M' := zcJ M a0 a sp.toNatClampNeg dp.toNatClampNeg n.toNatClampNeg) (by rw [zent_J hKa, show zJ (zcJ M a0 a sp.toNatClampNeg dp.toNatClampNeg n.toNatClampNeg) a = va_cpy (zJ M a0) (zJ M a) sp.toNatClampNeg dp.toNatClampNeg n.toNatClampNeg from funext fun j => by simp [va_cpy, zJ, zcJ]]) (fun b hb => ⟨fun _ => rfl, fun j => by simp [zJ, zcJ, hb], fun _ => rfl, fun _ => rfl⟩))]
  exact hP1
/-- an index into HEAD_VALUES -/
def zin7 (i : Int32) : Bool := !decide (i < 0) && decide (i.toNatClampNeg < 7)
theorem zin7_in {i : Int32} (h : zin7 i = true) : vp_in i 7 := by
  simp only [zin7, Bool.and_eq_true, Bool.not_eq_true', decide_eq_false_iff_not, decide_eq_true_eq] at h
  exact fun q => q.elim h.1 (fun q => by omega)
end ZP
