section LAYA
/-! the layer: ONE world of 67 cells (the class's 46, the reference's 20, the law's out); what they hold is a memory of ints by cell and slot, and out's longs; the addresses are a map of the cells' numbers -/
abbrev Mem : Type := Nat → Nat → Int32
abbrev GG : Type := (Nat → ClassId) × (Nat → Nat → Nat) × (Nat → Nat) × (Nat → ClassId)
def kdL : List Nat := [4, 3, 7, 7, 2, 8, 9, 0, 0, 0, 0, 0, 0, 0, 0, 0, 0, 1, 1, 1, 1, 1, 1, 1, 1, 2, 8, 9, 0, 0, 0, 0, 0, 0, 0, 0, 0, 0, 1, 1, 1, 1, 1, 1, 1, 1, 6, 7, 7, 7, 7, 7, 7, 7, 7, 7, 5, 7, 7, 7, 7, 5, 7, 7, 7, 7, 10]
def kd (k : Nat) : Nat := kdL.getD k 99
def lnL : List Nat := [0, 0, 12, 12, 0, 0, 0, 0, 0, 0, 0, 0, 0, 0, 0, 0, 0, 0, 0, 0, 0, 0, 0, 0, 0, 0, 0, 0, 0, 0, 0, 0, 0, 0, 0, 0, 0, 0, 0, 0, 0, 0, 0, 0, 0, 0, 0, 12, 12, 10, 10, 10, 8, 8, 8, 8, 0, 10, 8, 8, 8, 0, 10, 8, 8, 8, 0]
def ln (k : Nat) : Nat := lnL.getD k 0
def adr (G : GG) (k : Nat) : Nat := G.2.2.1 k
def u2 (M : Mem) (k i : Nat) (v : Int32) : Mem := fun a b => if a = k ∧ b = i then v else M a b
def ct (G : GG) (M : Mem) (o : Nat → Int64) (k : Nat) : va_E := match kd k with
  | 0 => .inr (0, [.int (M k 0), .int (M k 1), .int (M k 2), .int (M k 3)])
  | 1 => .inr (1, [.int (M k 0), .int (M k 1), .int (M k 2), .int (M k 3), .int (M k 4), .int (M k 5), .int (M k 6)])
  | 2 => .inr (2, [.int (M k 0), .int (M k 1), .int (M k 2), .ref (adr G (k + 1)), .ref (adr G (k + 2))])
  | 3 => .inr (3, [.ref (adr G (k + 1)), .ref (adr G (k + 2))])
  | 4 => .inr (4, [.ref (adr G 1), .ref (adr G 4), .ref (adr G 25)])
  | 5 => .inr (5, [.int (M k 0), .ref (adr G (k + 1)), .ref (adr G (k + 2)), .ref (adr G (k + 3)), .ref (adr G (k + 4)), .ref (adr G 46)])
  | 6 => .inr (6, [.int (M k 0), .int (M k 1), .int (M k 2), .ref (adr G 47), .ref (adr G 48), .ref (adr G 49), .ref (adr G 50), .ref (adr G 51), .ref (adr G 52), .ref (adr G 53), .ref (adr G 54), .ref (adr G 55), .ref (adr G 56), .ref (adr G 61)])
  | 7 => .inl (G.2.2.2 0, ln k, .inl (M k))
  | 8 => .inl (G.2.2.2 1, 10, .inr (.inr (.inr (.inr (fun i => some (adr G (k + 2 + i)))))))
  | 9 => .inl (G.2.2.2 2, 8, .inr (.inr (.inr (.inr (fun i => some (adr G (k + 11 + i)))))))
  | 10 => .inl (G.2.2.2 3, 1, .inr (.inl o))
  | _ => .inr (99, [])
theorem kd_lt {k c : Nat} (h : kd k = c) (hc : c < 99) : k < 67 := by
  rcases Nat.lt_or_ge k 67 with q | q
  · exact q
  · have : kd k = 99 := by
      unfold kd
      rw [List.getD_eq_getElem?_getD, List.getElem?_eq_none (by exact q)]
      rfl
    omega
theorem ct_0 {G : GG} {M : Mem} {o : Nat → Int64} {k : Nat} (h : kd k = 0) : ct G M o k = .inr (0, [.int (M k 0), .int (M k 1), .int (M k 2), .int (M k 3)]) := by unfold ct; rw [h]; rfl
theorem ct_1 {G : GG} {M : Mem} {o : Nat → Int64} {k : Nat} (h : kd k = 1) : ct G M o k = .inr (1, [.int (M k 0), .int (M k 1), .int (M k 2), .int (M k 3), .int (M k 4), .int (M k 5), .int (M k 6)]) := by unfold ct; rw [h]; rfl
theorem ct_2 {G : GG} {M : Mem} {o : Nat → Int64} {k : Nat} (h : kd k = 2) : ct G M o k = .inr (2, [.int (M k 0), .int (M k 1), .int (M k 2), .ref (adr G (k + 1)), .ref (adr G (k + 2))]) := by unfold ct; rw [h]; rfl
theorem ct_3 {G : GG} {M : Mem} {o : Nat → Int64} {k : Nat} (h : kd k = 3) : ct G M o k = .inr (3, [.ref (adr G (k + 1)), .ref (adr G (k + 2))]) := by unfold ct; rw [h]; rfl
theorem ct_4 {G : GG} {M : Mem} {o : Nat → Int64} {k : Nat} (h : kd k = 4) : ct G M o k = .inr (4, [.ref (adr G 1), .ref (adr G 4), .ref (adr G 25)]) := by unfold ct; rw [h]; rfl
theorem ct_5 {G : GG} {M : Mem} {o : Nat → Int64} {k : Nat} (h : kd k = 5) : ct G M o k = .inr (5, [.int (M k 0), .ref (adr G (k + 1)), .ref (adr G (k + 2)), .ref (adr G (k + 3)), .ref (adr G (k + 4)), .ref (adr G 46)]) := by unfold ct; rw [h]; rfl
theorem ct_6 {G : GG} {M : Mem} {o : Nat → Int64} {k : Nat} (h : kd k = 6) : ct G M o k = .inr (6, [.int (M k 0), .int (M k 1), .int (M k 2), .ref (adr G 47), .ref (adr G 48), .ref (adr G 49), .ref (adr G 50), .ref (adr G 51), .ref (adr G 52), .ref (adr G 53), .ref (adr G 54), .ref (adr G 55), .ref (adr G 56), .ref (adr G 61)]) := by unfold ct; rw [h]; rfl
theorem ct_7 {G : GG} {M : Mem} {o : Nat → Int64} {k : Nat} (h : kd k = 7) : ct G M o k = .inl (G.2.2.2 0, ln k, .inl (M k)) := by unfold ct; rw [h]; rfl
theorem ct_8 {G : GG} {M : Mem} {o : Nat → Int64} {k : Nat} (h : kd k = 8) : ct G M o k = .inl (G.2.2.2 1, 10, .inr (.inr (.inr (.inr (fun i => some (adr G (k + 2 + i))))))) := by unfold ct; rw [h]; rfl
theorem ct_9 {G : GG} {M : Mem} {o : Nat → Int64} {k : Nat} (h : kd k = 9) : ct G M o k = .inl (G.2.2.2 2, 8, .inr (.inr (.inr (.inr (fun i => some (adr G (k + 11 + i))))))) := by unfold ct; rw [h]; rfl
theorem ct_10 {G : GG} {M : Mem} {o : Nat → Int64} {k : Nat} (h : kd k = 10) : ct G M o k = .inl (G.2.2.2 3, 1, .inr (.inl o)) := by unfold ct; rw [h]; rfl
theorem ct_same {G : GG} {M M' : Mem} {o : Nat → Int64} {k : Nat} (h : M' k = M k) : ct G M' o k = ct G M o k := by unfold ct; rw [h]
theorem ct_out {G : GG} {M : Mem} {o o' : Nat → Int64} {k : Nat} (h : kd k ≠ 10) : ct G M o' k = ct G M o k := by
  unfold ct
  split <;> first | rfl | exact absurd (by assumption) h
theorem u2_ne {M : Mem} {k i j : Nat} {v : Int32} (h : j ≠ k) : u2 M k i v j = M j := by
  funext b
  unfold u2
  rw [if_neg (fun z => h z.1)]
theorem u2_row {M : Mem} {k i : Nat} {v : Int32} : u2 M k i v k = upd (M k) i v := by
  funext b
  unfold u2 upd
  by_cases hb : b = i
  · rw [if_pos ⟨rfl, hb⟩, if_pos hb]
  · rw [if_neg (fun z => hb z.2), if_neg hb]
theorem u2_at {M : Mem} {k i : Nat} {v : Int32} : u2 M k i v k i = v := by unfold u2; rw [if_pos ⟨rfl, rfl⟩]
theorem u2_sl {M : Mem} {k i j : Nat} {v : Int32} (h : j ≠ i) : u2 M k i v k j = M k j := by unfold u2; rw [if_neg (fun z => h z.2)]
theorem u2_id {M : Mem} {k i : Nat} : u2 M k i (M k i) = M := by
  funext a b
  unfold u2
  by_cases h : a = k ∧ b = i
  · rw [if_pos h, h.1, h.2]
  · rw [if_neg h]
def wld (G : GG) (M : Mem) (o : Nat → Int64) : va_W := (List.range 67).map (fun k => (adr G k, ct G M o k))
theorem wld_at {G : GG} {M : Mem} {o : Nat → Int64} {k : Nat} (hk : k < 67) : (wld G M o)[k]? = some (adr G k, ct G M o k) := by simp [wld, hk]
theorem wld_no {G : GG} {M : Mem} {o : Nat → Int64} {k : Nat} (hk : ¬ k < 67) : (wld G M o)[k]? = none := by simp [wld]; omega
theorem wld_get {G : GG} {M : Mem} {o : Nat → Int64} {k : Nat} {q : Nat × va_E} (h : (wld G M o)[k]? = some q) : k < 67 ∧ q = (adr G k, ct G M o k) := by
  by_cases hk : k < 67
  · rw [wld_at hk] at h
    exact ⟨hk, (Option.some.inj h).symm⟩
  · rw [wld_no hk] at h
    cases h
theorem wld_set {G : GG} {M M' : Mem} {o o' : Nat → Int64} {k : Nat} {e : va_E} (hk : k < 67) (he : ct G M' o' k = e) (ho : ∀ j, j ≠ k → ct G M' o' j = ct G M o j) : (wld G M o).set k (adr G k, e) = wld G M' o' := by
  apply List.ext_getElem?
  intro i
  by_cases h : k = i
  · subst h
    rw [List.getElem?_set_self (by simp [wld, hk]), wld_at hk, he]
  · rw [List.getElem?_set_ne h]
    by_cases hi : i < 67
    · rw [wld_at hi, wld_at hi, ho i (Ne.symm h)]
    · rw [wld_no hi, wld_no hi]
abbrev DG (G : GG) : va_G := (G.1, G.2.1)
abbrev PW (G : GG) (M : Mem) (o : Nat → Int64) (H : Heap) : Prop := va_P (DG G) vwCl (wld G M o) H
def tysG (G : GG) : List (ClassId × FieldType) := [(G.2.2.2 0, .int), (G.2.2.2 1, .object RX0), (G.2.2.2 2, .object RX1), (G.2.2.2 3, .long)]
def pA (G : GG) (sz : Nat) : Nat → Prop := fun q => (∃ k, k < 67 ∧ q = adr G k) ∨ sz ≤ q
def injG (G : GG) : Prop := ∀ i j, i < 67 → j < 67 → adr G i = adr G j → i = j
theorem wld_D {G : GG} {M : Mem} {o : Nat → Int64} {sz : Nat} (hI : injG G) : va_D (pA G sz) (wld G M o) := by
  refine ⟨fun i j p q hi hj hpq => ?_, fun k q hk => ?_⟩
  · obtain ⟨h1, rfl⟩ := wld_get hi
    obtain ⟨h2, rfl⟩ := wld_get hj
    exact hI i j h1 h2 hpq
  · obtain ⟨h1, rfl⟩ := wld_get hk
    exact Or.inl ⟨k, h1, rfl⟩
def nestF : List (String × Nat × String × String × String × String) := [("PinholeHouse$Room", 43, "PinholeHouse$Passer", "step", "I", "PinholeHouse"), ("PinholeHouse$Room", 54, "PinholeHouse$Passer", "bright", "I", "PinholeHouse"), ("PinholeHouse$Room", 61, "PinholeHouse$Passer", "tall", "I", "PinholeHouse"), ("PinholeHouse$Scene", 42, "PinholeHouse$Room", "step", "I", "PinholeHouse"), ("PinholeHouse$Scene", 49, "PinholeHouse$Passer", "step", "I", "PinholeHouse"), ("PinholeHouse$Scene", 62, "PinholeHouse$Room", "people", "I", "PinholeHouse"), ("PinholeHouse$Scene", 65, "PinholeHouse$Room", "pence", "I", "PinholeHouse"), ("PinholeHouse", 36, "PinholeHouse$Scene", "passersCome", "I", "PinholeHouse"), ("PinholeHouse", 43, "PinholeHouse$Scene", "passers", "[LPinholeHouse$Passer;", "PinholeHouse"), ("PinholeHouse", 63, "PinholeHouse$Sky", "light", "[I", "PinholeHouse"), ("PinholeHouse", 67, "PinholeHouse$Sky", "clouds", "[I", "PinholeHouse"), ("PinholeHouse", 70, "PinholeHouse$Scene", "roomsBuilt", "I", "PinholeHouse"), ("PinholeHouse", 76, "PinholeHouse$Scene", "rooms", "[LPinholeHouse$Room;", "PinholeHouse"), ("PinholeHouse", 90, "PinholeHouse$Room", "hole", "I", "PinholeHouse"), ("PinholeHouse", 93, "PinholeHouse$Room", "paint", "I", "PinholeHouse"), ("PinholeHouse", 96, "PinholeHouse$Room", "seats", "I", "PinholeHouse"), ("PinholeHouse", 99, "PinholeHouse$Room", "people", "I", "PinholeHouse"), ("PinholeHouse", 120, "PinholeHouse$Room", "step", "I", "PinholeHouse"), ("PinholeHouse", 151, "PinholeHouse$Scene", "minute", "I", "PinholeHouse"), ("PinholeHouse", 191, "PinholeHouse$Passer", "step", "I", "PinholeHouse"), ("PinholeHouse", 192, "PinholeHouse$Passer", "pace", "I", "PinholeHouse"), ("PinholeHouse", 195, "PinholeHouse$Passer", "tall", "I", "PinholeHouse"), ("PinholeHouse", 198, "PinholeHouse$Passer", "bright", "I", "PinholeHouse"), ("PinholeHouse", 204, "PinholeHouse$Room", "depth", "I", "PinholeHouse"), ("PinholeHouse", 207, "PinholeHouse$Room", "pence", "I", "PinholeHouse"), ("PinholeHouseModel$State", 42, "PinholeHouseModel", "light", "[I", "PinholeHouseModel"), ("PinholeHouseModel$State", 45, "PinholeHouseModel", "clouds", "[I", "PinholeHouseModel"), ("PinholeHouseModel$State", 48, "PinholeHouseModel", "place", "[I", "PinholeHouseModel"), ("PinholeHouseModel$State", 57, "PinholeHouseModel", "depth", "[I", "PinholeHouseModel"), ("PinholeHouseModel$State", 64, "PinholeHouseModel", "shine", "[I", "PinholeHouseModel"), ("PinholeHouseModel$State", 67, "PinholeHouseModel", "paint", "[I", "PinholeHouseModel"), ("PinholeHouseModel$State", 78, "PinholeHouseModel", "tall", "[I", "PinholeHouseModel"), ("PinholeHouseModel$State", 81, "PinholeHouseModel", "passers", "I", "PinholeHouseModel"), ("PinholeHouseModel$State", 87, "PinholeHouseModel", "pace", "[I", "PinholeHouseModel"), ("PinholeHouseModel$State", 94, "PinholeHouseModel", "rooms", "I", "PinholeHouseModel"), ("PinholeHouseModel$State", 106, "PinholeHouseModel", "seats", "[I", "PinholeHouseModel"), ("PinholeHouseModel", 67, "PinholeHouseModel$State", "step", "[I", "PinholeHouseModel"), ("PinholeHouseModel", 70, "PinholeHouseModel$State", "hole", "[I", "PinholeHouseModel"), ("PinholeHouseModel", 77, "PinholeHouseModel$State", "people", "[I", "PinholeHouseModel"), ("PinholeHouseModel", 94, "PinholeHouseModel$State", "paid", "[I", "PinholeHouseModel"), ("PinholeHouseModel", 106, "PinholeHouseModel$State", "minute", "I", "PinholeHouseModel")]
def nestM : List (String × Nat × MethodName × String) := [("PinholeHouse$Passer", 32, yX4_isStep, "PinholeHouse"), ("PinholeHouse$Room", 37, yX0_isGone, "PinholeHouse"), ("PinholeHouse$Scene", 23, yX0_init, "PinholeHouse"), ("PinholeHouse$Scene", 24, yX1_init, "PinholeHouse"), ("PinholeHouse$Scene", 35, yX0_copyFrom, "PinholeHouse"), ("PinholeHouse$Scene", 39, yX1_copyFrom, "PinholeHouse"), ("PinholeHouse$Scene", 45, yX0_isGone, "PinholeHouse"), ("PinholeHouse$Scene", 50, yX1_showsWell, "PinholeHouse"), ("PinholeHouse$Scene", 54, yX1_shows, "PinholeHouse"), ("PinholeHouse$Scene", 68, yX0_walk, "PinholeHouse"), ("PinholeHouse$Scene", 71, yX1_pay, "PinholeHouse"), ("PinholeHouse", 11, yX3_init, "PinholeHouse"), ("PinholeHouse", 18, yX2_init, "PinholeHouse"), ("PinholeHouse", 47, yX0_come, "PinholeHouse"), ("PinholeHouse", 59, yX3_entry, "PinholeHouse"), ("PinholeHouse", 73, yX2_hasHoleAt, "PinholeHouse"), ("PinholeHouse", 80, yX1_build, "PinholeHouse"), ("PinholeHouse", 116, yX1_reach, "PinholeHouse"), ("PinholeHouse", 123, yX2_passersAt, "PinholeHouse"), ("PinholeHouse", 126, yX1_shows, "PinholeHouse"), ("PinholeHouse", 133, yX1_brightnessOf, "PinholeHouse"), ("PinholeHouse", 147, yX2_copyFrom, "PinholeHouse"), ("PinholeHouse", 154, yX3_lightAt, "PinholeHouse"), ("PinholeHouse", 157, yX2_showIn, "PinholeHouse"), ("PinholeHouse", 161, yX2_passersWalk, "PinholeHouse"), ("PinholeHouse", 168, yX0_copyFrom, "PinholeHouse"), ("PinholeHouse", 171, yX2_wallsWith, "PinholeHouse"), ("PinholeHouse", 175, yX0_walk, "PinholeHouse"), ("PinholeHouse", 178, yX2_allPeople, "PinholeHouse"), ("PinholeHouse", 181, yX2_passersGone, "PinholeHouse"), ("PinholeHouse", 184, yX2_allPence, "PinholeHouse"), ("PinholeHouse", 201, yX2_roomsSeeingWell, "PinholeHouse"), ("PinholeHouse", 210, yX2_allShows, "PinholeHouse"), ("PinholeHouse", 218, yX2_roomsPay, "PinholeHouse"), ("PinholeHouse", 221, yX1_pay, "PinholeHouse"), ("PinholeHouseModel$State", 90, yX6_isIn, "PinholeHouseModel"), ("PinholeHouseModel", 39, yX5_init, "PinholeHouseModel")]
def nestD : List MethodName := [⟨"java/lang/RuntimeException", "<init>", "()V"⟩, ⟨"java/lang/Exception", "<init>", "()V"⟩, ⟨"java/lang/Throwable", "<init>", "()V"⟩]
def nestC : List String := ["java/lang/IllegalArgumentException", "java/lang/IllegalStateException", "java/lang/IndexOutOfBoundsException"]
def nestN : List (String × String) := [("java/lang/IllegalStateException", "java/lang/IllegalArgumentException"), ("java/lang/IllegalStateException", "java/lang/IndexOutOfBoundsException"), ("java/lang/IllegalArgumentException", "java/lang/IndexOutOfBoundsException"), ("java/lang/IndexOutOfBoundsException", "java/lang/IllegalArgumentException")]
def NX (U : State) : Prop := (∀ q ∈ nestF, va_Nw (.fieldLinkNest q.1 q.2.1 q.2.2.1 q.2.2.2.1 q.2.2.2.2.1 q.2.2.2.2.2) U) ∧ (∀ q ∈ nestM, va_Nw (.methodLinkNest q.1 q.2.1 q.2.2.1 q.2.2.2) U) ∧ (∀ x ∈ nestD, va_Nw (.declares x) U) ∧ (∀ E ∈ nestC, va_Nw (.castable E E) U) ∧ ∀ q ∈ nestN, va_Nc q.1 q.2 U
theorem NX.warm {s U : State} (hW : s.WarmedH U.vm) (h : NX s) : NX U := ⟨fun q hq => va_Nw.warmF hW (h.1 q hq), fun q hq => va_Nw.warmM hW (h.2.1 q hq), fun q hq => va_Nw.warmD hW (h.2.2.1 q hq), fun q hq => va_Nw.warmC hW (h.2.2.2.1 q hq), fun q hq => va_Nc.moved hW.alike (h.2.2.2.2 q hq)⟩
theorem NX.same {u U : State} (hvm : u.vm = U.vm) (h : NX u) : NX U := ⟨fun q hq => va_Nw.same rfl hvm (h.1 q hq), fun q hq => va_Nw.same rfl hvm (h.2.1 q hq), fun q hq => va_Nw.same rfl hvm (h.2.2.1 q hq), fun q hq => va_Nw.same rfl hvm (h.2.2.2.1 q hq), fun q hq => va_Nc.moved (by rw [hvm]; exact Vm.Alike.refl _) (h.2.2.2.2 q hq)⟩
def EV (G : GG) (sz : Nat) (U : State) : Prop := U.heap.size = sz ∧ va_K (DG G) vwCl (tysG G) U ∧ NX U ∧ injG G ∧ vx_Zq Bundle.tN "UNASSIGNED_STACK" Bundle.steD (pA G sz) U U.heap ∧ vx_Zq Bundle.tN "SUPPRESSED_SENTINEL" Bundle.listD (pA G sz) U U.heap
theorem EV.call {G : GG} {sz : Nat} {s U : State} {H : Heap} {locs : List Loc} (h : EV G sz s) (hS : va_S (pA G sz) s.heap H locs) (hU : U.heap = H) (hW : s.WarmedH U.vm) : EV G H.size U := by
  obtain ⟨h1, h2, h3, h4, h5, h6⟩ := h
  have hn : ∀ q, pA G H.size q → pA G sz q := fun q hq => hq.elim Or.inl (fun z => Or.inr (Nat.le_trans (by rw [← h1]; exact hS.1) z))
  subst hU
  exact ⟨rfl, va_K.moved hW.alike h2, h3.warm hW, h4, vx_Zq.moved hW.alike ((h5.kept hS.2.1).narrow hn), vx_Zq.moved hW.alike ((h6.kept hS.2.1).narrow hn)⟩
theorem EV.calling {G : GG} {sz : Nat} {U : State} {a : Array Value} {g : JFrame} {mk : MethodId} (h : EV G sz U) : EV G sz (U.calling g mk a) := by
  obtain ⟨h1, h2, h3, h4, h5, h6⟩ := h
  exact ⟨h1, va_K.moved (u := U) (U := U.calling g mk a) (Vm.Alike.refl U.vm) h2, h3.same (u := U) (U := U.calling g mk a) rfl, h4, vx_Zq.moved (u := U) (U := U.calling g mk a) (Vm.Alike.refl U.vm) h5, vx_Zq.moved (u := U) (U := U.calling g mk a) (Vm.Alike.refl U.vm) h6⟩
/-- the words: the good ones of the tables -/
def UU : List Cond := lw_tbl.filter goodWord
theorem UU_good : ∀ w ∈ UU, (w.onTables && w.keeps) = true ∨ ∃ ty, w = .arrayClass ty := fun w hw => good_of_word (List.mem_filter.mp hw).2
theorem UU_tbl : ∀ w ∈ UU, w ∈ lw_tbl := fun w hw => (List.mem_filter.mp hw).1
abbrev wsU (y : MethodName) (b : ByteArray) (n : Nat) (r : Option FieldType) : List Cond := Cond.code y b n r :: UU
abbrev wsW (y : MethodName) (b : ByteArray) (n : Nat) (r : Option FieldType) (hh : List (Nat × Nat × Nat × Nat)) : List Cond := Cond.codeWith y b n r hh :: UU
abbrev rmU (fr lo mc ms : Nat) : Room := { frames := fr, cells := mc, slots := ms, locals := lo }
def PCW (G : GG) (sz : Nat) (M : Mem) (o : Nat → Int64) (av : List Value) : Array Value → State → Prop := va_Pc av (fun U => EV G sz U ∧ PW G M o U.heap)
theorem PCW_blind {G : GG} {sz : Nat} {M : Mem} {o : Nat → Int64} {av : List Value} : FrameBlind (PCW G sz M o av) := fun _ _ _ _ h => ⟨h.1, h.2.1.calling, h.2.2⟩
abbrev QI (G : GG) (M' : Mem) (o' : Nat → Int64) (res : Int32) (sz : Nat) : Array Value → State → Outcome → State → Prop := va_Qi (fun (r' : Int32) (_ : Unit) => r' = res) (fun _ t => PW G M' o' t.heap) (pA G sz)
abbrev QL (G : GG) (M' : Mem) (o' : Nat → Int64) (res : Int64) (sz : Nat) : Array Value → State → Outcome → State → Prop := va_Ql (fun (r' : Int64) (_ : Unit) => r' = res) (fun _ t => PW G M' o' t.heap) (pA G sz)
abbrev QV (G : GG) (M' : Mem) (o' : Nat → Int64) (sz : Nat) : Array Value → State → Outcome → State → Prop := va_Qv (fun (_ : Unit) => True) (fun _ t => PW G M' o' t.heap) (pA G sz)
abbrev QN : Array Value → State → Outcome → State → Prop := fun _ _ _ _ => False
abbrev QX (G : GG) (M : Mem) (o : Nat → Int64) (E : String) (sz : Nat) : String → State → State → Prop := vx_X (fun (_ : Unit) => True) (fun E' _ t => E' = E ∧ PW G M o t.heap) (pA G sz)
def MI (l : Launch) (y : MethodName) (b : ByteArray) (n : Nat) (r : Option FieldType) (fr lo : Nat) (G : GG) (av : List Value) (M M' : Mem) (o o' : Nat → Int64) (res : Int32) (mc ms : Nat) : Prop := ∀ sz, Met l y (wsU y b n r) (rmU fr lo mc ms) (PCW G sz M o av) (QI G M' o' res sz) mc ms (pA G sz)
def ML (l : Launch) (y : MethodName) (b : ByteArray) (n : Nat) (r : Option FieldType) (fr lo : Nat) (G : GG) (av : List Value) (M M' : Mem) (o o' : Nat → Int64) (res : Int64) (mc ms : Nat) : Prop := ∀ sz, Met l y (wsU y b n r) (rmU fr lo mc ms) (PCW G sz M o av) (QL G M' o' res sz) mc ms (pA G sz)
def MV (l : Launch) (y : MethodName) (b : ByteArray) (n : Nat) (r : Option FieldType) (fr lo : Nat) (G : GG) (av : List Value) (M M' : Mem) (o o' : Nat → Int64) (mc ms : Nat) : Prop := ∀ sz, Met l y (wsU y b n r) (rmU fr lo mc ms) (PCW G sz M o av) (QV G M' o' sz) mc ms (pA G sz)
/-- it throws E, and nothing is changed but M to M' -/
def MX (l : Launch) (y : MethodName) (b : ByteArray) (n : Nat) (r : Option FieldType) (fr lo : Nat) (G : GG) (av : List Value) (M M' : Mem) (o o' : Nat → Int64) (E : String) (mc ms : Nat) : Prop := ∀ sz, vx_Met l y (wsU y b n r) (rmU fr lo mc ms) (PCW G sz M o av) QN (QX G M' o' E sz) mc ms (pA G sz)
/-- what stands in a body: the machine, the code, the class, the words, the surroundings -/
def CX (p : Program) (s : State) (m : MethodId) (args : Array Value) (meth : Method) (c : Code) (cc : ByteArray) (own : String) (nL : Nat) (G : GG) (sz : Nat) : Prop :=
  p.tables.exec = Jvm.exec ∧ c.code = cc ∧ c.maxLocals = nL ∧ s.vm.findClass own = some m.cls ∧ (∀ w ∈ UU, w.before args s = true) ∧ EV G sz s ∧ meth.locks = false
theorem MI_of {l : Launch} {y : MethodName} {b : ByteArray} {n : Nat} {r : Option FieldType} {fr lo : Nat} {G : GG} {av : List Value} {M M' : Mem} {o o' : Nat → Int64} {res : Int32} {mc ms : Nat} (own : String) (hown : y.cls = own) (hy : plainName y.cls = true) (hn : (lg_sl av).length ≤ n)
    (body : ∀ p e s m below meth c sz, CX p s m av.toArray meth c b own n G sz → meth.sig.returnType = r → PW G M o s.heap → ∀ ls, lv_has ls n (lv_args 0 av) →
      W p l e (rmU fr lo mc ms) s m av.toArray below meth c s.heap [] 0 0 (MQ below (QI G M' o' res sz) av.toArray s mc ms (pA G sz)) (F0 m 0 ls [])) : MI l y b n r fr lo G av M M' o o' res mc ms := by
  intro sz
  refine Met.ofW (cc := b) (maxL := n) (ret := r) hy rfl ?_
  intro p e s m args below meth c s₁ B hml hv
  obtain ⟨rfl, hE, hP⟩ := hv
  subst hown
  have hl := lv_entry av (n := n) hn
  rw [lg_entry_eq]
  generalize (lg_sl av ++ List.replicate (n - (lg_sl av).length) Slot.unset).toArray = ls at hl ⊢
  exact body p e s m below meth c sz ⟨B.exec, B.bytes, hml, findClass_of_methodNamed B.named, fun w hw => atoms_spec (ws := wsU y b n r) B.pre w (List.mem_cons_of_mem _ hw), hE, B.notSynchronized⟩ B.returns hP ls hl
theorem ML_of {l : Launch} {y : MethodName} {b : ByteArray} {n : Nat} {r : Option FieldType} {fr lo : Nat} {G : GG} {av : List Value} {M M' : Mem} {o o' : Nat → Int64} {res : Int64} {mc ms : Nat} (own : String) (hown : y.cls = own) (hy : plainName y.cls = true) (hn : (lg_sl av).length ≤ n)
    (body : ∀ p e s m below meth c sz, CX p s m av.toArray meth c b own n G sz → meth.sig.returnType = r → PW G M o s.heap → ∀ ls, lv_has ls n (lv_args 0 av) →
      W p l e (rmU fr lo mc ms) s m av.toArray below meth c s.heap [] 0 0 (MQ below (QL G M' o' res sz) av.toArray s mc ms (pA G sz)) (F0 m 0 ls [])) : ML l y b n r fr lo G av M M' o o' res mc ms := by
  intro sz
  refine Met.ofW (cc := b) (maxL := n) (ret := r) hy rfl ?_
  intro p e s m args below meth c s₁ B hml hv
  obtain ⟨rfl, hE, hP⟩ := hv
  subst hown
  have hl := lv_entry av (n := n) hn
  rw [lg_entry_eq]
  generalize (lg_sl av ++ List.replicate (n - (lg_sl av).length) Slot.unset).toArray = ls at hl ⊢
  exact body p e s m below meth c sz ⟨B.exec, B.bytes, hml, findClass_of_methodNamed B.named, fun w hw => atoms_spec (ws := wsU y b n r) B.pre w (List.mem_cons_of_mem _ hw), hE, B.notSynchronized⟩ B.returns hP ls hl
theorem MV_of {l : Launch} {y : MethodName} {b : ByteArray} {n : Nat} {r : Option FieldType} {fr lo : Nat} {G : GG} {av : List Value} {M M' : Mem} {o o' : Nat → Int64} {mc ms : Nat} (own : String) (hown : y.cls = own) (hy : plainName y.cls = true) (hn : (lg_sl av).length ≤ n)
    (body : ∀ p e s m below meth c sz, CX p s m av.toArray meth c b own n G sz → meth.sig.returnType = r → PW G M o s.heap → ∀ ls, lv_has ls n (lv_args 0 av) →
      W p l e (rmU fr lo mc ms) s m av.toArray below meth c s.heap [] 0 0 (MQ below (QV G M' o' sz) av.toArray s mc ms (pA G sz)) (F0 m 0 ls [])) : MV l y b n r fr lo G av M M' o o' mc ms := by
  intro sz
  refine Met.ofW (cc := b) (maxL := n) (ret := r) hy rfl ?_
  intro p e s m args below meth c s₁ B hml hv
  obtain ⟨rfl, hE, hP⟩ := hv
  subst hown
  have hl := lv_entry av (n := n) hn
  rw [lg_entry_eq]
  generalize (lg_sl av ++ List.replicate (n - (lg_sl av).length) Slot.unset).toArray = ls at hl ⊢
  exact body p e s m below meth c sz ⟨B.exec, B.bytes, hml, findClass_of_methodNamed B.named, fun w hw => atoms_spec (ws := wsU y b n r) B.pre w (List.mem_cons_of_mem _ hw), hE, B.notSynchronized⟩ B.returns hP ls hl
theorem MX_of {l : Launch} {y : MethodName} {b : ByteArray} {n : Nat} {r : Option FieldType} {fr lo : Nat} {G : GG} {av : List Value} {M M' : Mem} {o o' : Nat → Int64} {E : String} {mc ms : Nat} (own : String) (hown : y.cls = own) (hy : plainName y.cls = true) (hn : (lg_sl av).length ≤ n)
    (body : ∀ p e s m below meth c sz, CX p s m av.toArray meth c b own n G sz → (∀ x ∈ c.exceptionTable.toList, False) → PW G M o s.heap → ∀ ls, lv_has ls n (lv_args 0 av) →
      W p l e (rmU fr lo mc ms) s m av.toArray below meth c s.heap [] 0 0 (vx_MQ below QN (QX G M' o' E sz) av.toArray s mc ms (pA G sz)) (F0 m 0 ls [])) : MX l y b n r fr lo G av M M' o o' E mc ms := by
  intro sz
  refine vx_ofW (cc := b) (maxL := n) (ret := r) hy rfl ?_
  intro p e s m args below meth c s₁ B hml hx hv
  obtain ⟨rfl, hE, hP⟩ := hv
  subst hown
  have hl := lv_entry av (n := n) hn
  rw [lg_entry_eq]
  generalize (lg_sl av ++ List.replicate (n - (lg_sl av).length) Slot.unset).toArray = ls at hl ⊢
  exact body p e s m below meth c sz ⟨B.exec, B.bytes, hml, findClass_of_methodNamed B.named, fun w hw => atoms_spec (ws := wsU y b n r) B.pre w (List.mem_cons_of_mem _ hw), hE, B.notSynchronized⟩ hx hP ls hl
end LAYA
