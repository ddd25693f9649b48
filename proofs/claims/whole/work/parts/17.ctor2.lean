section CTI
variable {p : Program} {l : Launch} {e : Env} {R : Room} {s : State} {m : MethodId} {args : Array Value} {below : List Frame} {meth : Method} {c : Code} {H : Heap} {locs : List Loc} {cells slots : Nat} {Q : State → Prop} {cc : ByteArray} {pc : Nat} {ls : Array Slot} {rest : List Value} {own : String} {nL : Nat} {G : GG} {sz : Nat} {M : Mem} {o : Nat → Int64}
def M0 : Mem := fun a b => if kd a = 0 ∧ b = 0 then -1 else if (a = 2 ∨ a = 47) ∧ b < 12 then 50 else 0
abbrev FI (G : GG) (k : Nat) : Nat → va_E := fun p => ct G M0 (fun _ => 0) (k + p)
theorem M0_z {a b : Nat} (h : kd a ≠ 0 ∨ b ≠ 0) (h2 : a ≠ 2) (h3 : a ≠ 47) : M0 a b = 0 := by
  unfold M0
  rw [if_neg (fun z => h.elim (fun y => y z.1) (fun y => y z.2)), if_neg (fun z => z.1.elim h2 h3)]
theorem kd_2 {k c : Nat} (h : kd k = c) (hc : c ≠ 7) : k ≠ 2 ∧ k ≠ 47 := ⟨fun z => hc (by rw [← h, z]; decide), fun z => hc (by rw [← h, z]; decide)⟩
theorem FI_0 {o : Nat → Int64} {k : Nat} (h : kd k = 0) : ct G M0 o k = .inr (0, [.int (-1), .int 0, .int 0, .int 0]) := by
  have h2 := kd_2 h (by decide)
  rw [ct_0 h, M0_z (b := 1) (Or.inr (by decide)) h2.1 h2.2, M0_z (b := 2) (Or.inr (by decide)) h2.1 h2.2, M0_z (b := 3) (Or.inr (by decide)) h2.1 h2.2]
  unfold M0
  rw [if_pos ⟨h, rfl⟩]
theorem FI_1 {o : Nat → Int64} {k : Nat} (h : kd k = 1) : ct G M0 o k = .inr (1, [.int 0, .int 0, .int 0, .int 0, .int 0, .int 0, .int 0]) := by
  have h2 := kd_2 h (by decide)
  have h3 : ∀ b, M0 k b = 0 := fun b => M0_z (Or.inl (by rw [h]; decide)) h2.1 h2.2
  rw [ct_1 h, h3, h3, h3, h3, h3, h3, h3]
theorem FI_2 {o : Nat → Int64} {k : Nat} (h : kd k = 2) : ct G M0 o k = .inr (2, [.int 0, .int 0, .int 0, .ref (adr G (k + 1)), .ref (adr G (k + 2))]) := by
  have h2 := kd_2 h (by decide)
  have h3 : ∀ b, M0 k b = 0 := fun b => M0_z (Or.inl (by rw [h]; decide)) h2.1 h2.2
  rw [ct_2 h, h3, h3, h3]
theorem FI_5 {o : Nat → Int64} {k : Nat} (h : kd k = 5) : ct G M0 o k = .inr (5, [.int 0, .ref (adr G (k + 1)), .ref (adr G (k + 2)), .ref (adr G (k + 3)), .ref (adr G (k + 4)), .ref (adr G 46)]) := by
  have h2 := kd_2 h (by decide)
  have h3 : ∀ b, M0 k b = 0 := fun b => M0_z (Or.inl (by rw [h]; decide)) h2.1 h2.2
  rw [ct_5 h, h3]
theorem FI_7 {o : Nat → Int64} {k : Nat} (h : kd k = 7) (h2 : k ≠ 2) (h3 : k ≠ 47) : ct G M0 o k = .inl (G.2.2.2 0, ln k, .inl (fun _ => 0)) := by
  rw [ct_7 h]
  congr 4
  funext b
  exact M0_z (Or.inl (by rw [h]; decide)) h2 h3
theorem FI_7l {o : Nat → Int64} {k : Nat} (h : k = 2 ∨ k = 47) : ct G M0 o k = .inl (G.2.2.2 0, 12, .inl (fun b => if b < 12 then 50 else 0)) := by
  have hk : kd k = 7 := by rcases h with rfl | rfl <;> decide
  have hl : ln k = 12 := by rcases h with rfl | rfl <;> decide
  rw [ct_7 hk, hl]
  congr 4
  funext b
  unfold M0
  rw [if_neg (fun z => absurd (hk.symm.trans z.1) (by decide))]
  by_cases hb : b < 12
  · rw [if_pos ⟨h, hb⟩, if_pos hb]
  · rw [if_neg (fun z => hb z.2), if_neg hb]
theorem fill_s (j : Nat) : upd (fun b => if b < j then (50 : Int32) else 0) j 50 = fun b => if b < j + 1 then (50 : Int32) else 0 := by
  funext b
  unfold upd
  by_cases h : b = j
  · rw [if_pos h, if_pos (by omega)]
  · rw [if_neg h]
    by_cases h2 : b < j
    · simp only [h2, if_true, show b < j + 1 by omega]
    · simp only [h2, if_false, show ¬ b < j + 1 by omega]
theorem fill_0 : (fun b => if b < 0 then (50 : Int32) else 0) = fun _ => 0 := by
  funext b
  rw [if_neg (by omega)]
theorem ref_s (f : Nat → Nat) (j : Nat) : va_up (fun b => if b < j then some (f b) else none) j (some (f j)) = fun b => if b < j + 1 then some (f b) else none := by
  funext b
  unfold va_up
  by_cases h : b = j
  · subst h
    rw [if_pos rfl, if_pos (by omega)]
  · rw [if_neg h]
    by_cases h2 : b < j
    · simp only [h2, if_true, show b < j + 1 by omega]
    · simp only [h2, if_false, show ¬ b < j + 1 by omega]
theorem ref_0 (f : Nat → Nat) : (fun b => if b < 0 then some (f b) else none) = fun _ => none := by
  funext b
  rw [if_neg (by omega)]
theorem arr_end {a N : Nat} {cA : ClassId} {f : Nat → Nat} (h : va_at (DG G) vwCl (a, .inl (cA, N, .inr (.inr (.inr (.inr (fun b => if b < N then some (f b) else none)))))) H) : va_at (DG G) vwCl (a, .inl (cA, N, .inr (.inr (.inr (.inr (fun b => some (f b))))))) H := by
  have e : vp_cell cA (N, .inr (.inr (.inr (.inr (fun b => if b < N then some (f b) else none))))) = vp_cell cA (N, .inr (.inr (.inr (.inr (fun b => some (f b)))))) := by
    rw [vp_cell_q, vp_cell_q]
    unfold arrV
    congr 1
    congr 1
    funext j
    show va_rf (if j.val < N then _ else _) = _
    rw [if_pos j.isLt]
  have h2 : H[a]? = some (vp_cell cA (N, .inr (.inr (.inr (.inr (fun b => if b < N then some (f b) else none)))))) := h
  rw [e] at h2
  exact h2
theorem cl_X2_9 : Cond.classLink RX2 9 RX0 ∈ UU := List.mem_filter.mpr ⟨List.mem_append_right _ (List.mem_append_left _ (List.mem_of_getElem? (i := 46) rfl)), rfl⟩
theorem cl_X2_17 : Cond.classLink RX2 17 RX1 ∈ UU := List.mem_filter.mpr ⟨List.mem_append_right _ (List.mem_append_left _ (List.mem_of_getElem? (i := 48) rfl)), rfl⟩
theorem cl_X4_9 : Cond.classLink RX4 9 RX3 ∈ UU := List.mem_filter.mpr ⟨List.mem_append_right _ (List.mem_append_left _ (List.mem_of_getElem? (i := 24) rfl)), rfl⟩
theorem cl_X4_16 : Cond.classLink RX4 16 RX2 ∈ UU := List.mem_filter.mpr ⟨List.mem_append_right _ (List.mem_append_left _ (List.mem_of_getElem? (i := 40) rfl)), rfl⟩
theorem cl_X6_37 : Cond.classLink RX6 37 RX5 ∈ UU := List.mem_filter.mpr ⟨List.mem_append_right _ (List.mem_append_right _ (List.mem_append_right _ (List.mem_append_left _ (List.mem_of_getElem? (i := 58) rfl)))), rfl⟩
theorem in_X0 : Cond.instantiable RX0 4 ∈ UU := List.mem_filter.mpr ⟨List.mem_append_right _ (List.mem_append_left _ (List.mem_of_getElem? (i := 50) rfl)), rfl⟩
theorem ii_X0 : Cond.initialized RX0 ∈ UU := List.mem_filter.mpr ⟨List.mem_append_right _ (List.mem_append_left _ (List.mem_of_getElem? (i := 4) rfl)), rfl⟩
theorem df_X0 : ∀ j, j < 4 → defaultValue (tyX0 j) = vp_V [.int 0, .int 0, .int 0, .int 0] j := by decide +kernel
theorem mf_X0_init : MFI yX0_init cX0_init 1 0 := ⟨⟨List.mem_filter.mpr ⟨List.mem_append_right _ (List.mem_append_left _ (List.mem_of_getElem? (i := 53) rfl)), rfl⟩, List.mem_filter.mpr ⟨List.mem_append_right _ (List.mem_append_left _ (List.mem_of_getElem? (i := 52) rfl)), rfl⟩, List.mem_filter.mpr ⟨List.mem_append_right _ (List.mem_append_left _ (List.mem_of_getElem? (i := 4) rfl)), rfl⟩⟩, rfl, by decide +kernel, by decide +kernel, by decide +kernel⟩
theorem in_X1 : Cond.instantiable RX1 7 ∈ UU := List.mem_filter.mpr ⟨List.mem_append_right _ (List.mem_append_left _ (List.mem_of_getElem? (i := 76) rfl)), rfl⟩
theorem ii_X1 : Cond.initialized RX1 ∈ UU := List.mem_filter.mpr ⟨List.mem_append_right _ (List.mem_append_left _ (List.mem_of_getElem? (i := 5) rfl)), rfl⟩
theorem df_X1 : ∀ j, j < 7 → defaultValue (tyX1 j) = vp_V [.int 0, .int 0, .int 0, .int 0, .int 0, .int 0, .int 0] j := by decide +kernel
theorem mf_X1_init : MFI yX1_init cX1_init 1 0 := ⟨⟨List.mem_filter.mpr ⟨List.mem_append_right _ (List.mem_append_left _ (List.mem_of_getElem? (i := 79) rfl)), rfl⟩, List.mem_filter.mpr ⟨List.mem_append_right _ (List.mem_append_left _ (List.mem_of_getElem? (i := 78) rfl)), rfl⟩, List.mem_filter.mpr ⟨List.mem_append_right _ (List.mem_append_left _ (List.mem_of_getElem? (i := 5) rfl)), rfl⟩⟩, rfl, by decide +kernel, by decide +kernel, by decide +kernel⟩
theorem in_X2 : Cond.instantiable RX2 5 ∈ UU := List.mem_filter.mpr ⟨List.mem_append_right _ (List.mem_append_left _ (List.mem_of_getElem? (i := 41) rfl)), rfl⟩
theorem ii_X2 : Cond.initialized RX2 ∈ UU := List.mem_filter.mpr ⟨List.mem_append_right _ (List.mem_append_left _ (List.mem_of_getElem? (i := 3) rfl)), rfl⟩
theorem df_X2 : ∀ j, j < 5 → defaultValue (tyX2 j) = vp_V [.int 0, .int 0, .int 0, .null, .null] j := by decide +kernel
theorem mf_X2_init : MFI yX2_init cX2_init 2 0 := ⟨⟨List.mem_filter.mpr ⟨List.mem_append_right _ (List.mem_append_left _ (List.mem_of_getElem? (i := 44) rfl)), rfl⟩, List.mem_filter.mpr ⟨List.mem_append_right _ (List.mem_append_left _ (List.mem_of_getElem? (i := 43) rfl)), rfl⟩, List.mem_filter.mpr ⟨List.mem_append_right _ (List.mem_append_left _ (List.mem_of_getElem? (i := 3) rfl)), rfl⟩⟩, rfl, by decide +kernel, by decide +kernel, by decide +kernel⟩
theorem in_X3 : Cond.instantiable RX3 2 ∈ UU := List.mem_filter.mpr ⟨List.mem_append_right _ (List.mem_append_left _ (List.mem_of_getElem? (i := 25) rfl)), rfl⟩
theorem ii_X3 : Cond.initialized RX3 ∈ UU := List.mem_filter.mpr ⟨List.mem_append_right _ (List.mem_append_left _ (List.mem_of_getElem? (i := 2) rfl)), rfl⟩
theorem df_X3 : ∀ j, j < 2 → defaultValue (tyX3 j) = vp_V [.null, .null] j := by decide +kernel
theorem mf_X3_init : MFI yX3_init cX3_init 2 0 := ⟨⟨List.mem_filter.mpr ⟨List.mem_append_right _ (List.mem_append_left _ (List.mem_of_getElem? (i := 28) rfl)), rfl⟩, List.mem_filter.mpr ⟨List.mem_append_right _ (List.mem_append_left _ (List.mem_of_getElem? (i := 27) rfl)), rfl⟩, List.mem_filter.mpr ⟨List.mem_append_right _ (List.mem_append_left _ (List.mem_of_getElem? (i := 2) rfl)), rfl⟩⟩, rfl, by decide +kernel, by decide +kernel, by decide +kernel⟩
theorem in_X4 : Cond.instantiable RX4 3 ∈ UU := List.mem_filter.mpr ⟨List.mem_append_right _ (List.mem_append_left _ (List.mem_of_getElem? (i := 17) rfl)), rfl⟩
theorem ii_X4 : Cond.initialized RX4 ∈ UU := List.mem_filter.mpr ⟨List.mem_append_right _ (List.mem_append_left _ (List.mem_of_getElem? (i := 1) rfl)), rfl⟩
theorem df_X4 : ∀ j, j < 3 → defaultValue (tyX4 j) = vp_V [.null, .null, .null] j := by decide +kernel
theorem mf_X4_init : MFI yX4_init cX4_init 1 0 := ⟨⟨List.mem_filter.mpr ⟨List.mem_append_right _ (List.mem_append_left _ (List.mem_of_getElem? (i := 20) rfl)), rfl⟩, List.mem_filter.mpr ⟨List.mem_append_right _ (List.mem_append_left _ (List.mem_of_getElem? (i := 19) rfl)), rfl⟩, List.mem_filter.mpr ⟨List.mem_append_right _ (List.mem_append_left _ (List.mem_of_getElem? (i := 1) rfl)), rfl⟩⟩, rfl, by decide +kernel, by decide +kernel, by decide +kernel⟩
theorem in_X5 : Cond.instantiable RX5 6 ∈ UU := List.mem_filter.mpr ⟨List.mem_append_right _ (List.mem_append_right _ (List.mem_append_right _ (List.mem_append_left _ (List.mem_of_getElem? (i := 59) rfl)))), rfl⟩
theorem ii_X5 : Cond.initialized RX5 ∈ UU := List.mem_filter.mpr ⟨List.mem_append_right _ (List.mem_append_left _ (List.mem_of_getElem? (i := 7) rfl)), rfl⟩
theorem df_X5 : ∀ j, j < 6 → defaultValue (tyX5 j) = vp_V [.int 0, .null, .null, .null, .null, .null] j := by decide +kernel
theorem mf_X5_init : MFI yX5_init cX5_init 2 1 := ⟨⟨List.mem_filter.mpr ⟨List.mem_append_right _ (List.mem_append_right _ (List.mem_append_right _ (List.mem_append_left _ (List.mem_of_getElem? (i := 62) rfl)))), rfl⟩, List.mem_filter.mpr ⟨List.mem_append_right _ (List.mem_append_right _ (List.mem_append_right _ (List.mem_append_left _ (List.mem_of_getElem? (i := 61) rfl)))), rfl⟩, List.mem_filter.mpr ⟨List.mem_append_right _ (List.mem_append_left _ (List.mem_of_getElem? (i := 7) rfl)), rfl⟩⟩, rfl, by decide +kernel, by decide +kernel, by decide +kernel⟩
theorem in_X6 : Cond.instantiable RX6 14 ∈ UU := List.mem_filter.mpr ⟨List.mem_append_right _ (List.mem_append_right _ (List.mem_append_right _ (List.mem_append_left _ (List.mem_of_getElem? (i := 53) rfl)))), rfl⟩
theorem ii_X6 : Cond.initialized RX6 ∈ UU := List.mem_filter.mpr ⟨List.mem_append_right _ (List.mem_append_left _ (List.mem_of_getElem? (i := 6) rfl)), rfl⟩
theorem df_X6 : ∀ j, j < 14 → defaultValue (tyX6 j) = vp_V [.int 0, .int 0, .int 0, .null, .null, .null, .null, .null, .null, .null, .null, .null, .null, .null] j := by decide +kernel
theorem mf_X6_init : MFI yX6_init cX6_init 2 0 := ⟨⟨List.mem_filter.mpr ⟨List.mem_append_right _ (List.mem_append_right _ (List.mem_append_right _ (List.mem_append_left _ (List.mem_of_getElem? (i := 56) rfl)))), rfl⟩, List.mem_filter.mpr ⟨List.mem_append_right _ (List.mem_append_right _ (List.mem_append_right _ (List.mem_append_left _ (List.mem_of_getElem? (i := 55) rfl)))), rfl⟩, List.mem_filter.mpr ⟨List.mem_append_right _ (List.mem_append_left _ (List.mem_of_getElem? (i := 6) rfl)), rfl⟩⟩, rfl, by decide +kernel, by decide +kernel, by decide +kernel⟩
theorem ml_X0_3 : Cond.methodLink RX0 3 Lib.objectInit ∈ UU := List.mem_filter.mpr ⟨List.mem_append_right _ (List.mem_append_left _ (List.mem_of_getElem? (i := 54) rfl)), rfl⟩
theorem ml_X1_3 : Cond.methodLink RX1 3 Lib.objectInit ∈ UU := List.mem_filter.mpr ⟨List.mem_append_right _ (List.mem_append_left _ (List.mem_of_getElem? (i := 80) rfl)), rfl⟩
theorem ml_X2_3 : Cond.methodLink RX2 3 Lib.objectInit ∈ UU := List.mem_filter.mpr ⟨List.mem_append_right _ (List.mem_append_left _ (List.mem_of_getElem? (i := 45) rfl)), rfl⟩
theorem ml_X2_23 : (RX2, 23, yX0_init, "PinholeHouse") ∈ nestM := List.mem_of_getElem? (i := 2) rfl
theorem ml_X2_24 : (RX2, 24, yX1_init, "PinholeHouse") ∈ nestM := List.mem_of_getElem? (i := 3) rfl
theorem ml_X3_3 : Cond.methodLink RX3 3 Lib.objectInit ∈ UU := List.mem_filter.mpr ⟨List.mem_append_right _ (List.mem_append_left _ (List.mem_of_getElem? (i := 29) rfl)), rfl⟩
theorem ml_X4_3 : Cond.methodLink RX4 3 Lib.objectInit ∈ UU := List.mem_filter.mpr ⟨List.mem_append_right _ (List.mem_append_left _ (List.mem_of_getElem? (i := 21) rfl)), rfl⟩
theorem ml_X4_11 : (RX4, 11, yX3_init, "PinholeHouse") ∈ nestM := List.mem_of_getElem? (i := 11) rfl
theorem ml_X4_18 : (RX4, 18, yX2_init, "PinholeHouse") ∈ nestM := List.mem_of_getElem? (i := 12) rfl
theorem ml_X5_9 : Cond.methodLink RX5 9 Lib.objectInit ∈ UU := List.mem_filter.mpr ⟨List.mem_append_right _ (List.mem_append_right _ (List.mem_append_right _ (List.mem_append_left _ (List.mem_of_getElem? (i := 63) rfl)))), rfl⟩
theorem ml_X6_1 : Cond.methodLink RX6 1 Lib.objectInit ∈ UU := List.mem_filter.mpr ⟨List.mem_append_right _ (List.mem_append_right _ (List.mem_append_right _ (List.mem_append_left _ (List.mem_of_getElem? (i := 57) rfl)))), rfl⟩
theorem ml_X6_39 : (RX6, 39, yX5_init, "PinholeHouseModel") ∈ nestM := List.mem_of_getElem? (i := 36) rfl

theorem FI_7n {o : Nat → Int64} {k N : Nat} (h : kd k = 7) (h2 : k ≠ 2) (h3 : k ≠ 47) (hl : ln k = N) : ct G M0 o k = .inl (G.2.2.2 0, N, .inl (fun _ => 0)) := by
  rw [FI_7 h h2 h3, hl]
theorem apE_n {E E2 : Nat → va_E} {n : Nat} : apE E n E2 n = E2 0 := by
  unfold apE
  rw [if_neg (Nat.lt_irrefl _), Nat.sub_self]
theorem apE_lt {E E2 : Nat → va_E} {n p : Nat} (h : p < n) : apE E n E2 p = E p := by
  unfold apE
  rw [if_pos h]
def EH (G : GG) (k : Nat) (e : va_E) : Nat → va_E := fun p => if p = 0 then e else FI G k p
def EHl (G : GG) (k : Nat) (e : va_E) (j : Nat) : Nat → va_E := fun p => if p = 0 then e else if p = 1 then .inl (G.2.2.2 0, 12, .inl (fun b => if b < j then 50 else 0)) else FI G k p
theorem FI_sh {k n p : Nat} (h : n ≤ p) : FI G (k + n) (p - n) = FI G k p := by
  show ct G M0 _ (k + n + (p - n)) = ct G M0 _ (k + p)
  rw [show k + n + (p - n) = k + p by omega]
theorem EH_put {k n : Nat} {e e' : va_E} : ∀ p, p < n → upE (EH G k e) 0 e' p = EH G k e' p := by
  intro p _
  unfold upE EH
  by_cases h : p = 0
  · rw [if_pos h, if_pos h]
  · rw [if_neg h, if_neg h, if_neg h]
theorem EH_push {k n : Nat} {e x : va_E} (hn : 1 ≤ n) (hx : ct G M0 (fun _ => 0) (k + n) = x) : ∀ p, p < n + 1 → apE (EH G k e) n (fun _ => x) p = EH G k e p := by
  intro p hp
  by_cases h : p < n
  · rw [apE_lt h]
  · rw [show p = n by omega, apE_n]
    unfold EH
    rw [if_neg (by omega)]
    exact hx.symm
theorem EH_call {k n n2 : Nat} {e : va_E} {X : Nat → va_E} (hn : 1 ≤ n) : ∀ p, p < n + n2 → apE (apE (EH G k e) n X) n (FI G (k + n)) p = EH G k e p := by
  intro p hp
  by_cases h : p < n
  · rw [apE_lt h, apE_lt h]
  · unfold apE EH
    rw [if_neg h, if_neg (by omega)]
    exact FI_sh (by omega)
theorem EH_first {k : Nat} {e : va_E} : ∀ p, p < 1 → (fun _ => e) p = EH G k e p := by
  intro p hp
  rw [show p = 0 by omega]
  rfl
theorem EH_end {k n : Nat} {e : va_E} (he : ct G M0 (fun _ => 0) k = e) : ∀ p, p < n → EH G k e p = FI G k p := by
  intro p _
  unfold EH
  by_cases h : p = 0
  · rw [if_pos h, h]
    exact he.symm
  · rw [if_neg h]
theorem EL_put {k n j : Nat} {e e' : va_E} : ∀ p, p < n → upE (EHl G k e j) 0 e' p = EHl G k e' j p := by
  intro p _
  unfold upE EHl
  by_cases h : p = 0
  · rw [if_pos h, if_pos h]
  · rw [if_neg h, if_neg h, if_neg h]
theorem EL_push {k n j : Nat} {e x : va_E} (hn : 2 ≤ n) (hx : ct G M0 (fun _ => 0) (k + n) = x) : ∀ p, p < n + 1 → apE (EHl G k e j) n (fun _ => x) p = EHl G k e j p := by
  intro p hp
  by_cases h : p < n
  · rw [apE_lt h]
  · rw [show p = n by omega, apE_n]
    unfold EHl
    rw [if_neg (by omega), if_neg (by omega)]
    exact hx.symm
theorem EL_call {k n n2 j : Nat} {e : va_E} {X : Nat → va_E} (hn : 2 ≤ n) : ∀ p, p < n + n2 → apE (apE (EHl G k e j) n X) n (FI G (k + n)) p = EHl G k e j p := by
  intro p hp
  by_cases h : p < n
  · rw [apE_lt h, apE_lt h]
  · unfold apE EHl
    rw [if_neg h, if_neg (by omega), if_neg (by omega)]
    exact FI_sh (by omega)
theorem EL_first {k : Nat} {e : va_E} : ∀ p, p < 1 + 1 → apE (fun _ => e) 1 (fun _ => .inl (G.2.2.2 0, 12, .inl (fun _ => 0))) p = EHl G k e 0 p := by
  intro p hp
  rcases (show p = 0 ∨ p = 1 by omega) with rfl | rfl
  · rfl
  · exact congrArg (fun f => (.inl (G.2.2.2 0, 12, .inl f) : va_E)) fill_0.symm
theorem EL_fill {k n j : Nat} {e : va_E} : ∀ p, p < n → upE (EHl G k e j) 1 (.inl (G.2.2.2 0, 12, .inl (upd (fun b => if b < j then (50 : Int32) else 0) j 50))) p = EHl G k e (j + 1) p := by
  intro p _
  rw [fill_s]
  unfold upE EHl
  by_cases h : p = 1
  · subst h
    rfl
  · rw [if_neg h]
    by_cases h2 : p = 0
    · rw [if_pos h2, if_pos h2]
    · rw [if_neg h2, if_neg h2, if_neg h, if_neg h]
theorem EL_end {k n : Nat} {e : va_E} (he : ct G M0 (fun _ => 0) k = e) (hk : k + 1 = 2 ∨ k + 1 = 47) : ∀ p, p < n → EHl G k e 12 p = FI G k p := by
  intro p _
  unfold EHl
  by_cases h : p = 0
  · rw [if_pos h, h]
    exact he.symm
  · rw [if_neg h]
    by_cases h2 : p = 1
    · rw [if_pos h2, h2]
      exact (FI_7l hk).symm
    · rw [if_neg h2]
def ES (G : GG) (k i r : Nat) : Nat → va_E := fun p => if p = 0 then .inr (2, [.int 0, .int 0, .int 0, .ref (adr G (k + 1)), .ref (adr G (k + 2))]) else if p = 1 then .inl (G.2.2.2 1, 10, .inr (.inr (.inr (.inr (fun b => if b < i then some (adr G (k + 3 + b)) else none))))) else if p = 2 then .inl (G.2.2.2 2, 8, .inr (.inr (.inr (.inr (fun b => if b < r then some (adr G (k + 13 + b)) else none))))) else FI G k p
theorem ES_p {k i n : Nat} {X : Nat → va_E} (hn : n = 3 + i) : ∀ p, p < n + 1 → upE (apE (apE (ES G k i 0) n X) n (FI G (k + n))) 1 (.inl (G.2.2.2 1, 10, .inr (.inr (.inr (.inr (va_up (fun b => if b < i then some (adr G (k + 3 + b)) else none) i (some (adr G (k + n))))))))) p = ES G k (i + 1) 0 p := by
  intro p hp
  rw [show k + n = k + 3 + i by omega, ref_s (fun b => adr G (k + 3 + b)) i]
  unfold upE
  by_cases h1 : p = 1
  · subst h1
    rfl
  rw [if_neg h1]
  by_cases h2 : p < n
  · rw [apE_lt h2, apE_lt h2]
    unfold ES
    rw [if_neg h1, if_neg h1]
  · rw [show p = n by omega, apE_n]
    unfold ES
    rw [if_neg (by omega), if_neg (by omega), if_neg (by omega)]
    show ct G M0 _ (k + 3 + i + 0) = ct G M0 _ (k + n)
    rw [show k + 3 + i + 0 = k + n by omega]
theorem ES_r {k r n : Nat} {X : Nat → va_E} (hn : n = 13 + r) : ∀ p, p < n + 1 → upE (apE (apE (ES G k 10 r) n X) n (FI G (k + n))) 2 (.inl (G.2.2.2 2, 8, .inr (.inr (.inr (.inr (va_up (fun b => if b < r then some (adr G (k + 13 + b)) else none) r (some (adr G (k + n))))))))) p = ES G k 10 (r + 1) p := by
  intro p hp
  rw [show k + n = k + 13 + r by omega, ref_s (fun b => adr G (k + 13 + b)) r]
  unfold upE
  by_cases h1 : p = 2
  · subst h1
    rfl
  rw [if_neg h1]
  by_cases h2 : p < n
  · rw [apE_lt h2, apE_lt h2]
    unfold ES
    rw [if_neg h1, if_neg h1]
  · rw [show p = n by omega, apE_n]
    unfold ES
    rw [if_neg (by omega), if_neg (by omega), if_neg (by omega)]
    show ct G M0 _ (k + 13 + r + 0) = ct G M0 _ (k + n)
    rw [show k + 13 + r + 0 = k + n by omega]
theorem ES_end {k : Nat} (hk : k = 4 ∨ k = 25) (h : BZ G k (13 + 8) (ES G k 10 8) H) : BZ G k 21 (FI G k) H := by
  refine ⟨h.1, fun p hp => ?_⟩
  have hp2 := h.2 p hp
  by_cases h0 : p = 0
  · subst h0
    have e : FI G k 0 = ES G k 10 8 0 := FI_2 (kdS hk)
    rw [e]
    exact hp2
  by_cases h1 : p = 1
  · subst h1
    have e : FI G k 1 = .inl (G.2.2.2 1, 10, .inr (.inr (.inr (.inr (fun i => some (adr G (k + 3 + i))))))) := ct_8 (kdS1 hk)
    rw [e]
    exact arr_end hp2
  by_cases h2 : p = 2
  · subst h2
    have e : FI G k 2 = .inl (G.2.2.2 2, 8, .inr (.inr (.inr (.inr (fun i => some (adr G (k + 13 + i))))))) := ct_9 (kdS2 hk)
    rw [e]
    exact arr_end hp2
  have e : ES G k 10 8 p = FI G k p := by
    unfold ES
    rw [if_neg h0, if_neg h1, if_neg h2]
  rw [← e]
  exact hp2
set_option maxHeartbeats 4000000 in
set_option maxRecDepth 100000 in
theorem i_X0 (l : Launch) (G : GG) (k : Nat) (hk : kd k = 0) : MK l yX0_init cX0_init 1 1 20 G k (.inr (0, [.int 0, .int 0, .int 0, .int 0]) : va_E) 1 (FI G k) [.ref (adr G k)] 0 0 := by
  refine MK_of RX0 rfl rfl (by decide +kernel) (Nat.le_of_ble_eq_true rfl) ?_
  intro p e s m below meth c sz C0 hr hin2 hAO hL hB ls hl
  have hx := C0.1
  have hb := C0.2.1
  have hz : sz = adr G (k + 1) := C0.hz.symm.trans hB.1
  have hS : va_S (aK G k) s.heap s.heap [] := va_S.rf
  have hl : lv_has ls 1 [(0, .ref (adr G k))] := hl
  refine lv_aload_n hx hb dX0_init_0 rfl (lv_at hl 0 rfl) ?_
  refine z_obj C0 ml_X0_3 hl.1 ⟨by decide, by decide⟩ dX0_init_1 ?_
  refine lv_aload_n hx hb dX0_init_4 rfl (lv_at hl 0 rfl) ?_
  refine lv_iconst (v := -1) hx hb dX0_init_5 (by decide) ?_
  refine z_put C0 hL hB hS 0 (by omega) (ty := .int) (ci := 0) (fs := [.int 0, .int 0, .int 0, .int 0]) rfl inU_X0 rfl tyX0 tyX0_ok nmX0 (j := 0) (by decide) rfl fl_X0_9 rfl (by decide +kernel) (by decide) rfl (Nat.le_of_ble_eq_true rfl) dX0_init_6 (fun H locs hB hS => ?_)
  have hB := BZ_eq (n := 1) (E' := FI G k) (fun p hp => by
    rw [show p = 0 by omega]
    exact (FI_0 (G := G) (o := fun _ => 0) (k := k) hk).symm) hB
  exact z_end C0 hr hB hS (by decide) dX0_init_9
set_option maxHeartbeats 4000000 in
set_option maxRecDepth 100000 in
theorem i_X1 (l : Launch) (G : GG) (k : Nat) (hk : kd k = 1) : MK l yX1_init cX1_init 1 1 20 G k (.inr (1, [.int 0, .int 0, .int 0, .int 0, .int 0, .int 0, .int 0]) : va_E) 1 (FI G k) [.ref (adr G k)] 0 0 := by
  refine MK_of RX1 rfl rfl (by decide +kernel) (Nat.le_of_ble_eq_true rfl) ?_
  intro p e s m below meth c sz C0 hr hin2 hAO hL hB ls hl
  have hx := C0.1
  have hb := C0.2.1
  have hz : sz = adr G (k + 1) := C0.hz.symm.trans hB.1
  have hS : va_S (aK G k) s.heap s.heap [] := va_S.rf
  have hl : lv_has ls 1 [(0, .ref (adr G k))] := hl
  refine lv_aload_n hx hb dX1_init_0 rfl (lv_at hl 0 rfl) ?_
  refine z_obj C0 ml_X1_3 hl.1 ⟨by decide, by decide⟩ dX1_init_1 ?_
  have hB := BZ_eq (n := 1) (E' := FI G k) (fun p hp => by
    rw [show p = 0 by omega]
    exact (FI_1 (G := G) (o := fun _ => 0) (k := k) hk).symm) hB
  exact z_end C0 hr hB hS (by decide) dX1_init_4
set_option maxHeartbeats 4000000 in
set_option maxRecDepth 100000 in
theorem i_X3 (l : Launch) (G : GG)  : MK l yX3_init cX3_init 2 1 20 G 1 (.inr (3, [.null, .null]) : va_E) 3 (FI G 1) [.ref (adr G 1)] 2 24 := by
  refine MK_of RX3 rfl rfl (by decide +kernel) (Nat.le_of_ble_eq_true rfl) ?_
  intro p e s m below meth c sz C0 hr hin2 hAO hL hB ls hl
  have hx := C0.1
  have hb := C0.2.1
  have hz : sz = adr G (1 + 1) := C0.hz.symm.trans hB.1
  have hS : va_S (aK G 1) s.heap s.heap [] := va_S.rf
  have hl : lv_has ls 2 [(0, .ref (adr G 1))] := hl
  refine lv_aload_n hx hb dX3_init_0 rfl (lv_at hl 0 rfl) ?_
  refine z_obj C0 ml_X3_3 hl.1 ⟨by decide, by decide⟩ dX3_init_1 ?_
  refine lv_aload_n hx hb dX3_init_4 rfl (lv_at hl 0 rfl) ?_
  refine lv_bipush (v := 12) hx hb dX3_init_5 (by decide) ?_
  refine z_newa C0 hL hB hS (by decide) rfl (by decide) (by decide) (by decide) dX3_init_7 (fun H hB hS => ?_)
  have hB := BZ_eq (n := 2) (E' := EHl G 1 (.inr (3, [.null, .null]) : va_E) 0) (EL_first) hB
  refine z_putF C0 hin2 hL hB hS 0 (by omega) (ty := (.array .int)) (ci := 3) (fs := [.null, .null]) rfl inU_X3 rfl tyX3 tyX3_ok nmX3 (j := 0) (by decide) rfl fl_X3_9 rfl (by decide +kernel) rfl rfl (Nat.le_of_ble_eq_true rfl) dX3_init_9 (fun H locs hB hS => ?_)
  have hB := BZ_eq (n := 2) (E' := EHl G 1 (.inr (3, [.ref (adr G (1 + 1)), .null]) : va_E) 0) (EL_put) hB
  refine lv_aload_n hx hb dX3_init_12 rfl (lv_at hl 0 rfl) ?_
  refine lv_bipush (v := 12) hx hb dX3_init_13 (by decide) ?_
  refine z_newa C0 hL hB hS (by decide) rfl (by decide) (by decide) (by decide) dX3_init_15 (fun H hB hS => ?_)
  have hB := BZ_eq (n := 3) (E' := EHl G 1 (.inr (3, [.ref (adr G (1 + 1)), .null]) : va_E) 0) (EL_push (by omega) (FI_7n (by decide) (by decide) (by decide) (by decide) : ct G M0 (fun _ => 0) (1 + 2) = .inl (G.2.2.2 0, 12, .inl (fun _ => 0)))) hB
  refine z_putF C0 hin2 hL hB hS 0 (by omega) (ty := (.array .int)) (ci := 3) (fs := [.ref (adr G (1 + 1)), .null]) rfl inU_X3 rfl tyX3 tyX3_ok nmX3 (j := 1) (by decide) rfl fl_X3_15 rfl (by decide +kernel) rfl rfl (Nat.le_of_ble_eq_true rfl) dX3_init_17 (fun H locs hB hS => ?_)
  have hB := BZ_eq (n := 3) (E' := EHl G 1 (.inr (3, [.ref (adr G (1 + 1)), .ref (adr G (1 + 2))]) : va_E) 0) (EL_put) hB
  refine lv_iconst (v := 0) hx hb dX3_init_20 (by decide) ?_
  refine lv_istore_n (lv' := [(1, .int 0), (0, .ref (adr G 1))]) hx hb dX3_init_21 rfl hl (by decide) rfl (fun ls hl => ?_)
  have loop_22 : ∀ (fuel_22 j : Nat), 12 + 1 ≤ j + fuel_22 → j ≤ 12 → ∀ (H : Heap) (locs : List Loc), BZ G 1 3 (EHl G 1 (.inr (3, [.ref (adr G (1 + 1)), .ref (adr G (1 + 2))]) : va_E) j) H → va_S (aK G 1) s.heap H locs → ∀ ls : Array Slot, lv_has ls 2 [(1, .int (nI j)), (0, .ref (adr G 1))] → W p l e (rmU 1 20 2 24) s m ([.ref (adr G 1)] : List Value).toArray below meth c H locs 2 24 (MQ below (QK G 1 3 (FI G 1)) ([.ref (adr G 1)] : List Value).toArray s 2 24 (aK G 1)) (F0 m 22 ls []) := by
    intro fuel_22
    induction fuel_22 with
    | zero =>
      intro j hf hv
      exact absurd hf (by omega)
    | succ fuel_22 ih_22 =>
      intro j hf hv H locs hB hS ls hl
      refine lv_iload_n hx hb dX3_init_22 rfl (lv_at hl 0 rfl) ?_
      refine lv_bipush (v := 12) hx hb dX3_init_23 (by decide) ?_
      refine lv_icmp_ge (tgt := 42) hx hb dX3_init_25 (by decide) (fun c_1 => ?_) (fun c_1 => ?_)
      · have h9j := lp_ge (n := 12) c_1 (by omega) hv
        rw [h9j] at hB
        have hB := BZ_eq (n := 3) (E' := FI G 1) (EL_end (ct_3 (by decide)) (Or.inl rfl)) hB
        exact z_end C0 hr hB hS (by decide) dX3_init_42
      · have hltj := lp_lt (n := 12) c_1 (by omega) hv
        refine lv_aload_n hx hb dX3_init_28 rfl (lv_at hl 1 rfl) ?_
        refine z_get C0 hB 0 (by omega) (v := .ref (adr G (1 + 1))) rfl inU_X3 rfl (j := 0) (by decide) rfl fl_X3_9 rfl dX3_init_29 ?_
        refine lv_iload_n hx hb dX3_init_32 rfl (lv_at hl 0 rfl) ?_
        refine lv_bipush (v := 50) hx hb dX3_init_33 (by decide) ?_
        refine z_iast C0 hL hB hS 1 (by omega) (N := 12) (i := j) rfl (by omega) (by decide) dX3_init_35 (fun H locs hB hS => ?_)
        refine lv_iinc (v := nI (j + 1)) (lv' := [(1, .int (nI (j + 1))), (0, .ref (adr G 1))]) hx hb dX3_init_36 hl (k := 0) rfl (nI_1 j) (by decide) rfl (fun ls hl => ?_)
        refine lv_goto (tgt := 22) hx hb dX3_init_39 (by decide) ?_
        have hB := BZ_eq (n := 3) (E' := EHl G 1 (.inr (3, [.ref (adr G (1 + 1)), .ref (adr G (1 + 2))]) : va_E) (j + 1)) (EL_fill) hB
        exact ih_22 (j + 1) (by omega) (by omega) _ _ hB hS _ (lv_sub hl [0, 1] rfl)
  exact loop_22 (12 + 1) 0 (by omega) (by omega) _ _ hB hS _ (lv_sub hl [0, 1] rfl)
set_option maxHeartbeats 4000000 in
set_option maxRecDepth 100000 in
theorem i_X2 (l : Launch) (G : GG) (sc : Nat) (hsc : sc = 4 ∨ sc = 25) : MK l yX2_init cX2_init 2 2 40 G sc (.inr (2, [.int 0, .int 0, .int 0, .null, .null]) : va_E) 21 (FI G sc) [.ref (adr G sc)] 20 114 := by
  refine MK_of RX2 rfl rfl (by decide +kernel) (Nat.le_of_ble_eq_true rfl) ?_
  intro p e s m below meth c sz C0 hr hin2 hAO hL hB ls hl
  have hx := C0.1
  have hb := C0.2.1
  have hz : sz = adr G (sc + 1) := C0.hz.symm.trans hB.1
  have hS : va_S (aK G sc) s.heap s.heap [] := va_S.rf
  have hl : lv_has ls 2 [(0, .ref (adr G sc))] := hl
  refine lv_aload_n hx hb dX2_init_0 rfl (lv_at hl 0 rfl) ?_
  refine z_obj C0 ml_X2_3 hl.1 ⟨by decide, by decide⟩ dX2_init_1 ?_
  refine lv_aload_n hx hb dX2_init_4 rfl (lv_at hl 0 rfl) ?_
  refine lv_bipush (v := 10) hx hb dX2_init_5 (by decide) ?_
  refine z_newq (i := 1) C0 hL hB hS rfl cl_X2_9 hAO.1 (by decide) rfl (by decide) (by decide) (by decide) dX2_init_7 (fun H hB hS => ?_)
  refine z_putF C0 hin2 hL hB hS 0 (by omega) (ty := (.array (.object "PinholeHouse$Passer"))) (ci := 2) (fs := [.int 0, .int 0, .int 0, .null, .null]) rfl inU_X2 rfl tyX2 tyX2_ok nmX2 (j := 3) (by decide) rfl fl_X2_11 rfl (by decide +kernel) rfl rfl (Nat.le_of_ble_eq_true rfl) dX2_init_10 (fun H locs hB hS => ?_)
  refine lv_aload_n hx hb dX2_init_13 rfl (lv_at hl 0 rfl) ?_
  refine lv_bipush (v := 8) hx hb dX2_init_14 (by decide) ?_
  refine z_newq (i := 2) C0 hL hB hS rfl cl_X2_17 hAO.2 (by decide) rfl (by decide) (by decide) (by decide) dX2_init_16 (fun H hB hS => ?_)
  refine z_putF C0 hin2 hL hB hS 0 (by omega) (ty := (.array (.object "PinholeHouse$Room"))) (ci := 2) (fs := [.int 0, .int 0, .int 0, .ref (adr G (sc + 1)), .null]) rfl inU_X2 rfl tyX2 tyX2_ok nmX2 (j := 4) (by decide) rfl fl_X2_19 rfl (by decide +kernel) rfl rfl (Nat.le_of_ble_eq_true rfl) dX2_init_19 (fun H locs hB hS => ?_)
  refine lv_iconst (v := 0) hx hb dX2_init_22 (by decide) ?_
  refine lv_istore_n (lv' := [(1, .int 0), (0, .ref (adr G sc))]) hx hb dX2_init_23 rfl hl (by decide) rfl (fun ls hl => ?_)
  have hB := BZ_eq (n := 3) (E' := ES G sc 0 0) (fun p hp => by
    rcases (show p = 0 ∨ p = 1 ∨ p = 2 by omega) with rfl | rfl | rfl
    · rfl
    · exact congrArg (fun f => (.inl (G.2.2.2 1, 10, .inr (.inr (.inr (.inr f)))) : va_E)) (ref_0 (fun b => adr G (sc + 3 + b))).symm
    · exact congrArg (fun f => (.inl (G.2.2.2 2, 8, .inr (.inr (.inr (.inr f)))) : va_E)) (ref_0 (fun b => adr G (sc + 13 + b))).symm) hB
  have loop_24 : ∀ (fuel_24 i : Nat), 10 + 1 ≤ i + fuel_24 → i ≤ 10 → ∀ (H : Heap) (locs : List Loc), BZ G sc (3 + i) (ES G sc i 0) H → va_S (aK G sc) s.heap H locs → ∀ ls : Array Slot, lv_has ls 2 [(1, .int (nI i)), (0, .ref (adr G sc))] → W p l e (rmU 2 40 20 114) s m ([.ref (adr G sc)] : List Value).toArray below meth c H locs (2 + i) (18 + 4 * i) (MQ below (QK G sc 21 (FI G sc)) ([.ref (adr G sc)] : List Value).toArray s 20 114 (aK G sc)) (F0 m 24 ls []) := by
    intro fuel_24
    induction fuel_24 with
    | zero =>
      intro i hf hv
      exact absurd hf (by omega)
    | succ fuel_24 ih_24 =>
      intro i hf hv H locs hB hS ls hl
      refine lv_iload_n hx hb dX2_init_24 rfl (lv_at hl 0 rfl) ?_
      refine lv_bipush (v := 10) hx hb dX2_init_25 (by decide) ?_
      refine lv_icmp_ge (tgt := 49) hx hb dX2_init_27 (by decide) (fun c_1 => ?_) (fun c_1 => ?_)
      · have h9i := lp_ge (n := 10) c_1 (by omega) hv
        refine lv_iconst (v := 0) hx hb dX2_init_49 (by decide) ?_
        refine lv_istore_n (lv' := [(1, .int 0), (0, .ref (adr G sc))]) hx hb dX2_init_50 rfl hl (by decide) rfl (fun ls hl => ?_)
        rw [h9i] at hB
        have loop_51 : ∀ (fuel_51 r : Nat), 8 + 1 ≤ r + fuel_51 → r ≤ 8 → ∀ (H : Heap) (locs : List Loc), BZ G sc (13 + r) (ES G sc 10 r) H → va_S (aK G sc) s.heap H locs → ∀ ls : Array Slot, lv_has ls 2 [(1, .int (nI r)), (0, .ref (adr G sc))] → W p l e (rmU 2 40 20 114) s m ([.ref (adr G sc)] : List Value).toArray below meth c H locs (12 + r) (58 + 7 * r) (MQ below (QK G sc 21 (FI G sc)) ([.ref (adr G sc)] : List Value).toArray s 20 114 (aK G sc)) (F0 m 51 ls []) := by
          intro fuel_51
          induction fuel_51 with
          | zero =>
            intro r hf hv
            exact absurd hf (by omega)
          | succ fuel_51 ih_51 =>
            intro r hf hv H locs hB hS ls hl
            refine lv_iload_n hx hb dX2_init_51 rfl (lv_at hl 0 rfl) ?_
            refine lv_bipush (v := 8) hx hb dX2_init_52 (by decide) ?_
            refine lv_icmp_ge (tgt := 76) hx hb dX2_init_54 (by decide) (fun c_2 => ?_) (fun c_2 => ?_)
            · have h9r := lp_ge (n := 8) c_2 (by omega) hv
              rw [h9r] at hB
              replace hB := ES_end hsc hB
              exact z_end C0 hr hB hS ⟨by omega, by omega⟩ dX2_init_76
            · have hltr := lp_lt (n := 8) c_2 (by omega) hv
              refine lv_aload_n hx hb dX2_init_57 rfl (lv_at hl 1 rfl) ?_
              refine z_get C0 hB 0 (by omega) (v := .ref (adr G (sc + 2))) rfl inU_X2 rfl (j := 4) (by decide) rfl fl_X2_19 rfl dX2_init_58 ?_
              refine lv_iload_n hx hb dX2_init_61 rfl (lv_at hl 0 rfl) ?_
              refine z_new C0 hL hB hS inU_X1 (rfl : vwCl[1]? = _) tyX1 tyX1_ok cl_X2_17 in_X1 ii_X1 [.int 0, .int 0, .int 0, .int 0, .int 0, .int 0, .int 0] df_X1 (by show _ ≤ 20; omega) (by show _ ≤ 114; omega) dX2_init_62 (fun H hB hS => ?_)
              refine lv_dup hx hb dX2_init_65 rfl ?_
              refine z_callN C0 hAO hL (by omega) hz hB hS (As := []) (rest := [.ref (adr G (sc + (13 + r))), .int (nI r), .ref (adr G (sc + 2))]) (i_X1 l G (sc + (13 + r)) (by rw [← Nat.add_assoc]; exact kdSr hsc (by omega))) (e0 := (.inr (1, [.int 0, .int 0, .int 0, .int 0, .int 0, .int 0, .int 0]) : va_E)) apE_n mf_X1_init ml_X2_24 hl.1 (by decide) ⟨by show _ ≤ 20; omega, by show _ ≤ 114; omega⟩ (Nat.le_of_ble_eq_true rfl) rfl rfl dX2_init_66 (fun H locs hB hS => ?_)
              refine z_aast C0 hL hB hS 2 (13 + r) (by omega) (by omega) (N := 8) (i := r) (ti := 2) (by rw [apE_lt (by omega), apE_lt (by omega)]; rfl) (r := (RX1, TX1, 7)) rfl (by rw [apE_n]; exact FI_1 (by rw [← Nat.add_assoc]; exact kdSr hsc (by omega))) rfl (by omega) (by decide) dX2_init_69 (fun H locs hB hS => ?_)
              refine lv_iinc (v := nI (r + 1)) (lv' := [(1, .int (nI (r + 1))), (0, .ref (adr G sc))]) hx hb dX2_init_70 hl (k := 0) rfl (nI_1 r) (by decide) rfl (fun ls hl => ?_)
              refine lv_goto (tgt := 51) hx hb dX2_init_73 (by decide) ?_
              have hB := BZ_eq (n := 13 + (r + 1)) (E' := ES G sc 10 (r + 1)) (ES_r rfl) hB
              exact ih_51 (r + 1) (by omega) (by omega) _ _ hB hS _ (lv_sub hl [0, 1] rfl)
        refine W.widen (k := 12) (n := 58) (by omega) (by omega) ?_
        exact loop_51 (8 + 1) 0 (by omega) (by omega) _ _ hB hS _ (lv_sub hl [0, 1] rfl)
      · have hlti := lp_lt (n := 10) c_1 (by omega) hv
        refine lv_aload_n hx hb dX2_init_30 rfl (lv_at hl 1 rfl) ?_
        refine z_get C0 hB 0 (by omega) (v := .ref (adr G (sc + 1))) rfl inU_X2 rfl (j := 3) (by decide) rfl fl_X2_11 rfl dX2_init_31 ?_
        refine lv_iload_n hx hb dX2_init_34 rfl (lv_at hl 0 rfl) ?_
        refine z_new C0 hL hB hS inU_X0 (rfl : vwCl[0]? = _) tyX0 tyX0_ok cl_X2_9 in_X0 ii_X0 [.int 0, .int 0, .int 0, .int 0] df_X0 (by show _ ≤ 20; omega) (by show _ ≤ 114; omega) dX2_init_35 (fun H hB hS => ?_)
        refine lv_dup hx hb dX2_init_38 rfl ?_
        refine z_callN C0 hAO hL (by omega) hz hB hS (As := []) (rest := [.ref (adr G (sc + (3 + i))), .int (nI i), .ref (adr G (sc + 1))]) (i_X0 l G (sc + (3 + i)) (by rw [← Nat.add_assoc]; exact kdSp hsc (by omega))) (e0 := (.inr (0, [.int 0, .int 0, .int 0, .int 0]) : va_E)) apE_n mf_X0_init ml_X2_23 hl.1 (by decide) ⟨by show _ ≤ 20; omega, by show _ ≤ 114; omega⟩ (Nat.le_of_ble_eq_true rfl) rfl rfl dX2_init_39 (fun H locs hB hS => ?_)
        refine z_aast C0 hL hB hS 1 (3 + i) (by omega) (by omega) (N := 10) (i := i) (ti := 1) (by rw [apE_lt (by omega), apE_lt (by omega)]; rfl) (r := (RX0, TX0, 4)) rfl (by rw [apE_n]; exact FI_0 (by rw [← Nat.add_assoc]; exact kdSp hsc (by omega))) rfl (by omega) (by decide) dX2_init_42 (fun H locs hB hS => ?_)
        refine lv_iinc (v := nI (i + 1)) (lv' := [(1, .int (nI (i + 1))), (0, .ref (adr G sc))]) hx hb dX2_init_43 hl (k := 0) rfl (nI_1 i) (by decide) rfl (fun ls hl => ?_)
        refine lv_goto (tgt := 24) hx hb dX2_init_46 (by decide) ?_
        have hB := BZ_eq (n := 3 + (i + 1)) (E' := ES G sc (i + 1) 0) (ES_p rfl) hB
        exact ih_24 (i + 1) (by omega) (by omega) _ _ hB hS _ (lv_sub hl [0, 1] rfl)
  exact loop_24 (10 + 1) 0 (by omega) (by omega) _ _ hB hS _ (lv_sub hl [0, 1] rfl)
set_option maxHeartbeats 4000000 in
set_option maxRecDepth 100000 in
theorem i_X4 (l : Launch) (G : GG)  : MK l yX4_init cX4_init 1 3 61 G 0 (.inr (4, [.null, .null, .null]) : va_E) 46 (FI G 0) [.ref (adr G 0)] 45 264 := by
  refine MK_of RX4 rfl rfl (by decide +kernel) (Nat.le_of_ble_eq_true rfl) ?_
  intro p e s m below meth c sz C0 hr hin2 hAO hL hB ls hl
  have hx := C0.1
  have hb := C0.2.1
  have hz : sz = adr G (0 + 1) := C0.hz.symm.trans hB.1
  have hS : va_S (aK G 0) s.heap s.heap [] := va_S.rf
  have hl : lv_has ls 1 [(0, .ref (adr G 0))] := hl
  refine lv_aload_n hx hb dX4_init_0 rfl (lv_at hl 0 rfl) ?_
  refine z_obj C0 ml_X4_3 hl.1 ⟨by decide, by decide⟩ dX4_init_1 ?_
  refine lv_aload_n hx hb dX4_init_4 rfl (lv_at hl 0 rfl) ?_
  have hB := BZ_eq (n := 1) (E' := EH G 0 (.inr (4, [.null, .null, .null]) : va_E)) (EH_first) hB
  refine z_new C0 hL hB hS inU_X3 (rfl : vwCl[3]? = _) tyX3 tyX3_ok cl_X4_9 in_X3 ii_X3 [.null, .null] df_X3 (by decide) (by decide) dX4_init_5 (fun H hB hS => ?_)
  refine lv_dup hx hb dX4_init_8 rfl ?_
  refine z_callN C0 hAO hL (by decide) hz hB hS (As := []) (rest := [.ref (adr G (0 + 1)), .ref (adr G 0)]) (i_X3 l G) (e0 := (.inr (3, [.null, .null]) : va_E)) apE_n mf_X3_init ml_X4_11 hl.1 (by decide) (by decide) (Nat.le_of_ble_eq_true rfl) rfl rfl dX4_init_9 (fun H locs hB hS => ?_)
  have hB := BZ_eq (n := 4) (E' := EH G 0 (.inr (4, [.null, .null, .null]) : va_E)) (EH_call (G := G) (k := 0) (n := 1) (n2 := 3) (by decide)) hB
  refine z_putF C0 hin2 hL hB hS 0 (by omega) (ty := (.object "PinholeHouse$Sky")) (ci := 4) (fs := [.null, .null, .null]) rfl inU_X4 rfl tyX4 tyX4_ok nmX4 (j := 0) (by decide) rfl fl_X4_12 rfl (by decide +kernel) rfl rfl (Nat.le_of_ble_eq_true rfl) dX4_init_12 (fun H locs hB hS => ?_)
  have hB := BZ_eq (n := 4) (E' := EH G 0 (.inr (4, [.ref (adr G (0 + 1)), .null, .null]) : va_E)) (EH_put) hB
  refine lv_aload_n hx hb dX4_init_15 rfl (lv_at hl 0 rfl) ?_
  refine z_new C0 hL hB hS inU_X2 (rfl : vwCl[2]? = _) tyX2 tyX2_ok cl_X4_16 in_X2 ii_X2 [.int 0, .int 0, .int 0, .null, .null] df_X2 (by decide) (by decide) dX4_init_16 (fun H hB hS => ?_)
  refine lv_dup hx hb dX4_init_19 rfl ?_
  refine z_callN C0 hAO hL (by decide) hz hB hS (As := []) (rest := [.ref (adr G (0 + 4)), .ref (adr G 0)]) (i_X2 l G 4 (Or.inl rfl)) (e0 := (.inr (2, [.int 0, .int 0, .int 0, .null, .null]) : va_E)) apE_n mf_X2_init ml_X4_18 hl.1 (by decide) (by decide) (Nat.le_of_ble_eq_true rfl) rfl rfl dX4_init_20 (fun H locs hB hS => ?_)
  have hB := BZ_eq (n := 25) (E' := EH G 0 (.inr (4, [.ref (adr G (0 + 1)), .null, .null]) : va_E)) (EH_call (G := G) (k := 0) (n := 4) (n2 := 21) (by decide)) hB
  refine z_putF C0 hin2 hL hB hS 0 (by omega) (ty := (.object "PinholeHouse$Scene")) (ci := 4) (fs := [.ref (adr G (0 + 1)), .null, .null]) rfl inU_X4 rfl tyX4 tyX4_ok nmX4 (j := 1) (by decide) rfl fl_X4_19 rfl (by decide +kernel) rfl rfl (Nat.le_of_ble_eq_true rfl) dX4_init_23 (fun H locs hB hS => ?_)
  have hB := BZ_eq (n := 25) (E' := EH G 0 (.inr (4, [.ref (adr G (0 + 1)), .ref (adr G (0 + 4)), .null]) : va_E)) (EH_put) hB
  refine lv_aload_n hx hb dX4_init_26 rfl (lv_at hl 0 rfl) ?_
  refine z_new C0 hL hB hS inU_X2 (rfl : vwCl[2]? = _) tyX2 tyX2_ok cl_X4_16 in_X2 ii_X2 [.int 0, .int 0, .int 0, .null, .null] df_X2 (by decide) (by decide) dX4_init_27 (fun H hB hS => ?_)
  refine lv_dup hx hb dX4_init_30 rfl ?_
  refine z_callN C0 hAO hL (by decide) hz hB hS (As := []) (rest := [.ref (adr G (0 + 25)), .ref (adr G 0)]) (i_X2 l G 25 (Or.inr rfl)) (e0 := (.inr (2, [.int 0, .int 0, .int 0, .null, .null]) : va_E)) apE_n mf_X2_init ml_X4_18 hl.1 (by decide) (by decide) (Nat.le_of_ble_eq_true rfl) rfl rfl dX4_init_31 (fun H locs hB hS => ?_)
  have hB := BZ_eq (n := 46) (E' := EH G 0 (.inr (4, [.ref (adr G (0 + 1)), .ref (adr G (0 + 4)), .null]) : va_E)) (EH_call (G := G) (k := 0) (n := 25) (n2 := 21) (by decide)) hB
  refine z_putF C0 hin2 hL hB hS 0 (by omega) (ty := (.object "PinholeHouse$Scene")) (ci := 4) (fs := [.ref (adr G (0 + 1)), .ref (adr G (0 + 4)), .null]) rfl inU_X4 rfl tyX4 tyX4_ok nmX4 (j := 2) (by decide) rfl fl_X4_23 rfl (by decide +kernel) rfl rfl (Nat.le_of_ble_eq_true rfl) dX4_init_34 (fun H locs hB hS => ?_)
  have hB := BZ_eq (n := 46) (E' := EH G 0 (.inr (4, [.ref (adr G (0 + 1)), .ref (adr G (0 + 4)), .ref (adr G (0 + 25))]) : va_E)) (EH_put) hB
  have hB := BZ_eq (n := 46) (E' := FI G 0) (EH_end (ct_4 (by decide))) hB
  exact z_end C0 hr hB hS (by decide) dX4_init_37
set_option maxHeartbeats 4000000 in
set_option maxRecDepth 100000 in
theorem i_X5 (l : Launch) (G : GG) (t : Nat) (ht : t = 56 ∨ t = 61) : MK l yX5_init cX5_init 2 1 20 G t (.inr (5, [.int 0, .null, .null, .null, .null, .null]) : va_E) 5 (FI G t) [.ref (adr G t), .ref (adr G 46)] 4 34 := by
  refine MK_of RX5 rfl rfl (by decide +kernel) (Nat.le_of_ble_eq_true rfl) ?_
  intro p e s m below meth c sz C0 hr hin2 hAO hL hB ls hl
  have hx := C0.1
  have hb := C0.2.1
  have hz : sz = adr G (t + 1) := C0.hz.symm.trans hB.1
  have hS : va_S (aK G t) s.heap s.heap [] := va_S.rf
  have hl : lv_has ls 2 [(0, .ref (adr G t)), (1, .ref (adr G 46))] := hl
  have hB := BZ_eq (n := 1) (E' := EH G t (.inr (5, [.int 0, .null, .null, .null, .null, .null]) : va_E)) (EH_first) hB
  refine lv_aload_n hx hb dX5_init_0 rfl (lv_at hl 0 rfl) ?_
  refine lv_aload_n hx hb dX5_init_1 rfl (lv_at hl 1 rfl) ?_
  refine z_putF C0 hin2 hL hB hS 0 (by omega) (ty := (.object "PinholeHouseModel")) (ci := 5) (fs := [.int 0, .null, .null, .null, .null, .null]) rfl inU_X5 rfl tyX5 tyX5_ok nmX5 (j := 5) (by decide) rfl fl_X5_3 rfl (by decide +kernel) rfl rfl (Nat.le_of_ble_eq_true rfl) dX5_init_2 (fun H locs hB hS => ?_)
  have hB := BZ_eq (n := 1) (E' := EH G t (.inr (5, [.int 0, .null, .null, .null, .null, .ref (adr G 46)]) : va_E)) (EH_put) hB
  refine lv_aload_n hx hb dX5_init_5 rfl (lv_at hl 0 rfl) ?_
  refine z_obj C0 ml_X5_9 hl.1 ⟨by decide, by decide⟩ dX5_init_6 ?_
  refine lv_aload_n hx hb dX5_init_9 rfl (lv_at hl 0 rfl) ?_
  refine lv_bipush (v := 10) hx hb dX5_init_10 (by decide) ?_
  refine z_newa C0 hL hB hS (by decide) rfl (by decide) (by decide) (by decide) dX5_init_12 (fun H hB hS => ?_)
  have hB := BZ_eq (n := 2) (E' := EH G t (.inr (5, [.int 0, .null, .null, .null, .null, .ref (adr G 46)]) : va_E)) (EH_push (by omega) (FI_7n (kdT1 ht) (by omega) (by omega) (lnT1 ht) : ct G M0 (fun _ => 0) (t + 1) = .inl (G.2.2.2 0, 10, .inl (fun _ => 0)))) hB
  refine z_putF C0 hin2 hL hB hS 0 (by omega) (ty := (.array .int)) (ci := 5) (fs := [.int 0, .null, .null, .null, .null, .ref (adr G 46)]) rfl inU_X5 rfl tyX5 tyX5_ok nmX5 (j := 1) (by decide) rfl fl_X5_15 rfl (by decide +kernel) rfl rfl (Nat.le_of_ble_eq_true rfl) dX5_init_14 (fun H locs hB hS => ?_)
  have hB := BZ_eq (n := 2) (E' := EH G t (.inr (5, [.int 0, .ref (adr G (t + 1)), .null, .null, .null, .ref (adr G 46)]) : va_E)) (EH_put) hB
  refine lv_aload_n hx hb dX5_init_17 rfl (lv_at hl 0 rfl) ?_
  refine lv_bipush (v := 8) hx hb dX5_init_18 (by decide) ?_
  refine z_newa C0 hL hB hS (by decide) rfl (by decide) (by decide) (by decide) dX5_init_20 (fun H hB hS => ?_)
  have hB := BZ_eq (n := 3) (E' := EH G t (.inr (5, [.int 0, .ref (adr G (t + 1)), .null, .null, .null, .ref (adr G 46)]) : va_E)) (EH_push (by omega) (FI_7n (kdT2 ht) (by omega) (by omega) (lnT2 ht) : ct G M0 (fun _ => 0) (t + 2) = .inl (G.2.2.2 0, 8, .inl (fun _ => 0)))) hB
  refine z_putF C0 hin2 hL hB hS 0 (by omega) (ty := (.array .int)) (ci := 5) (fs := [.int 0, .ref (adr G (t + 1)), .null, .null, .null, .ref (adr G 46)]) rfl inU_X5 rfl tyX5 tyX5_ok nmX5 (j := 2) (by decide) rfl fl_X5_19 rfl (by decide +kernel) rfl rfl (Nat.le_of_ble_eq_true rfl) dX5_init_22 (fun H locs hB hS => ?_)
  have hB := BZ_eq (n := 3) (E' := EH G t (.inr (5, [.int 0, .ref (adr G (t + 1)), .ref (adr G (t + 2)), .null, .null, .ref (adr G 46)]) : va_E)) (EH_put) hB
  refine lv_aload_n hx hb dX5_init_25 rfl (lv_at hl 0 rfl) ?_
  refine lv_bipush (v := 8) hx hb dX5_init_26 (by decide) ?_
  refine z_newa C0 hL hB hS (by decide) rfl (by decide) (by decide) (by decide) dX5_init_28 (fun H hB hS => ?_)
  have hB := BZ_eq (n := 4) (E' := EH G t (.inr (5, [.int 0, .ref (adr G (t + 1)), .ref (adr G (t + 2)), .null, .null, .ref (adr G 46)]) : va_E)) (EH_push (by omega) (FI_7n (kdT3 ht) (by omega) (by omega) (lnT3 ht) : ct G M0 (fun _ => 0) (t + 3) = .inl (G.2.2.2 0, 8, .inl (fun _ => 0)))) hB
  refine z_putF C0 hin2 hL hB hS 0 (by omega) (ty := (.array .int)) (ci := 5) (fs := [.int 0, .ref (adr G (t + 1)), .ref (adr G (t + 2)), .null, .null, .ref (adr G 46)]) rfl inU_X5 rfl tyX5 tyX5_ok nmX5 (j := 3) (by decide) rfl fl_X5_22 rfl (by decide +kernel) rfl rfl (Nat.le_of_ble_eq_true rfl) dX5_init_30 (fun H locs hB hS => ?_)
  have hB := BZ_eq (n := 4) (E' := EH G t (.inr (5, [.int 0, .ref (adr G (t + 1)), .ref (adr G (t + 2)), .ref (adr G (t + 3)), .null, .ref (adr G 46)]) : va_E)) (EH_put) hB
  refine lv_aload_n hx hb dX5_init_33 rfl (lv_at hl 0 rfl) ?_
  refine lv_bipush (v := 8) hx hb dX5_init_34 (by decide) ?_
  refine z_newa C0 hL hB hS (by decide) rfl (by decide) (by decide) (by decide) dX5_init_36 (fun H hB hS => ?_)
  have hB := BZ_eq (n := 5) (E' := EH G t (.inr (5, [.int 0, .ref (adr G (t + 1)), .ref (adr G (t + 2)), .ref (adr G (t + 3)), .null, .ref (adr G 46)]) : va_E)) (EH_push (by omega) (FI_7n (kdT4 ht) (by omega) (by omega) (lnT4 ht) : ct G M0 (fun _ => 0) (t + 4) = .inl (G.2.2.2 0, 8, .inl (fun _ => 0)))) hB
  refine z_putF C0 hin2 hL hB hS 0 (by omega) (ty := (.array .int)) (ci := 5) (fs := [.int 0, .ref (adr G (t + 1)), .ref (adr G (t + 2)), .ref (adr G (t + 3)), .null, .ref (adr G 46)]) rfl inU_X5 rfl tyX5 tyX5_ok nmX5 (j := 4) (by decide) rfl fl_X5_25 rfl (by decide +kernel) rfl rfl (Nat.le_of_ble_eq_true rfl) dX5_init_38 (fun H locs hB hS => ?_)
  have hB := BZ_eq (n := 5) (E' := EH G t (.inr (5, [.int 0, .ref (adr G (t + 1)), .ref (adr G (t + 2)), .ref (adr G (t + 3)), .ref (adr G (t + 4)), .ref (adr G 46)]) : va_E)) (EH_put) hB
  have hB := BZ_eq (n := 5) (E' := FI G t) (EH_end (FI_5 (kdT ht))) hB
  exact z_end C0 hr hB hS (by decide) dX5_init_41
set_option maxHeartbeats 4000000 in
set_option maxRecDepth 100000 in
theorem i_X6 (l : Launch) (G : GG)  : MK l yX6_init cX6_init 2 2 41 G 46 (.inr (6, [.int 0, .int 0, .int 0, .null, .null, .null, .null, .null, .null, .null, .null, .null, .null, .null]) : va_E) 20 (FI G 46) [.ref (adr G 46)] 19 166 := by
  refine MK_of RX6 rfl rfl (by decide +kernel) (Nat.le_of_ble_eq_true rfl) ?_
  intro p e s m below meth c sz C0 hr hin2 hAO hL hB ls hl
  have hx := C0.1
  have hb := C0.2.1
  have hz : sz = adr G (46 + 1) := C0.hz.symm.trans hB.1
  have hS : va_S (aK G 46) s.heap s.heap [] := va_S.rf
  have hl : lv_has ls 2 [(0, .ref (adr G 46))] := hl
  refine lv_aload_n hx hb dX6_init_0 rfl (lv_at hl 0 rfl) ?_
  refine z_obj C0 ml_X6_1 hl.1 ⟨by decide, by decide⟩ dX6_init_1 ?_
  refine lv_aload_n hx hb dX6_init_4 rfl (lv_at hl 0 rfl) ?_
  refine lv_bipush (v := 12) hx hb dX6_init_5 (by decide) ?_
  refine z_newa C0 hL hB hS (by decide) rfl (by decide) (by decide) (by decide) dX6_init_7 (fun H hB hS => ?_)
  have hB := BZ_eq (n := 2) (E' := EHl G 46 (.inr (6, [.int 0, .int 0, .int 0, .null, .null, .null, .null, .null, .null, .null, .null, .null, .null, .null]) : va_E) 0) (EL_first) hB
  refine z_putF C0 hin2 hL hB hS 0 (by omega) (ty := (.array .int)) (ci := 6) (fs := [.int 0, .int 0, .int 0, .null, .null, .null, .null, .null, .null, .null, .null, .null, .null, .null]) rfl inU_X6 rfl tyX6 tyX6_ok nmX6 (j := 3) (by decide) rfl fl_X6_9 rfl (by decide +kernel) rfl rfl (Nat.le_of_ble_eq_true rfl) dX6_init_9 (fun H locs hB hS => ?_)
  have hB := BZ_eq (n := 2) (E' := EHl G 46 (.inr (6, [.int 0, .int 0, .int 0, .ref (adr G (46 + 1)), .null, .null, .null, .null, .null, .null, .null, .null, .null, .null]) : va_E) 0) (EL_put) hB
  refine lv_aload_n hx hb dX6_init_12 rfl (lv_at hl 0 rfl) ?_
  refine lv_bipush (v := 12) hx hb dX6_init_13 (by decide) ?_
  refine z_newa C0 hL hB hS (by decide) rfl (by decide) (by decide) (by decide) dX6_init_15 (fun H hB hS => ?_)
  have hB := BZ_eq (n := 3) (E' := EHl G 46 (.inr (6, [.int 0, .int 0, .int 0, .ref (adr G (46 + 1)), .null, .null, .null, .null, .null, .null, .null, .null, .null, .null]) : va_E) 0) (EL_push (by omega) (FI_7n (by decide) (by decide) (by decide) (by decide) : ct G M0 (fun _ => 0) (46 + 2) = .inl (G.2.2.2 0, 12, .inl (fun _ => 0)))) hB
  refine z_putF C0 hin2 hL hB hS 0 (by omega) (ty := (.array .int)) (ci := 6) (fs := [.int 0, .int 0, .int 0, .ref (adr G (46 + 1)), .null, .null, .null, .null, .null, .null, .null, .null, .null, .null]) rfl inU_X6 rfl tyX6 tyX6_ok nmX6 (j := 4) (by decide) rfl fl_X6_13 rfl (by decide +kernel) rfl rfl (Nat.le_of_ble_eq_true rfl) dX6_init_17 (fun H locs hB hS => ?_)
  have hB := BZ_eq (n := 3) (E' := EHl G 46 (.inr (6, [.int 0, .int 0, .int 0, .ref (adr G (46 + 1)), .ref (adr G (46 + 2)), .null, .null, .null, .null, .null, .null, .null, .null, .null]) : va_E) 0) (EL_put) hB
  refine lv_aload_n hx hb dX6_init_20 rfl (lv_at hl 0 rfl) ?_
  refine lv_bipush (v := 10) hx hb dX6_init_21 (by decide) ?_
  refine z_newa C0 hL hB hS (by decide) rfl (by decide) (by decide) (by decide) dX6_init_23 (fun H hB hS => ?_)
  have hB := BZ_eq (n := 4) (E' := EHl G 46 (.inr (6, [.int 0, .int 0, .int 0, .ref (adr G (46 + 1)), .ref (adr G (46 + 2)), .null, .null, .null, .null, .null, .null, .null, .null, .null]) : va_E) 0) (EL_push (by omega) (FI_7n (by decide) (by decide) (by decide) (by decide) : ct G M0 (fun _ => 0) (46 + 3) = .inl (G.2.2.2 0, 10, .inl (fun _ => 0)))) hB
  refine z_putF C0 hin2 hL hB hS 0 (by omega) (ty := (.array .int)) (ci := 6) (fs := [.int 0, .int 0, .int 0, .ref (adr G (46 + 1)), .ref (adr G (46 + 2)), .null, .null, .null, .null, .null, .null, .null, .null, .null]) rfl inU_X6 rfl tyX6 tyX6_ok nmX6 (j := 5) (by decide) rfl fl_X6_16 rfl (by decide +kernel) rfl rfl (Nat.le_of_ble_eq_true rfl) dX6_init_25 (fun H locs hB hS => ?_)
  have hB := BZ_eq (n := 4) (E' := EHl G 46 (.inr (6, [.int 0, .int 0, .int 0, .ref (adr G (46 + 1)), .ref (adr G (46 + 2)), .ref (adr G (46 + 3)), .null, .null, .null, .null, .null, .null, .null, .null]) : va_E) 0) (EL_put) hB
  refine lv_aload_n hx hb dX6_init_28 rfl (lv_at hl 0 rfl) ?_
  refine lv_bipush (v := 10) hx hb dX6_init_29 (by decide) ?_
  refine z_newa C0 hL hB hS (by decide) rfl (by decide) (by decide) (by decide) dX6_init_31 (fun H hB hS => ?_)
  have hB := BZ_eq (n := 5) (E' := EHl G 46 (.inr (6, [.int 0, .int 0, .int 0, .ref (adr G (46 + 1)), .ref (adr G (46 + 2)), .ref (adr G (46 + 3)), .null, .null, .null, .null, .null, .null, .null, .null]) : va_E) 0) (EL_push (by omega) (FI_7n (by decide) (by decide) (by decide) (by decide) : ct G M0 (fun _ => 0) (46 + 4) = .inl (G.2.2.2 0, 10, .inl (fun _ => 0)))) hB
  refine z_putF C0 hin2 hL hB hS 0 (by omega) (ty := (.array .int)) (ci := 6) (fs := [.int 0, .int 0, .int 0, .ref (adr G (46 + 1)), .ref (adr G (46 + 2)), .ref (adr G (46 + 3)), .null, .null, .null, .null, .null, .null, .null, .null]) rfl inU_X6 rfl tyX6 tyX6_ok nmX6 (j := 6) (by decide) rfl fl_X6_19 rfl (by decide +kernel) rfl rfl (Nat.le_of_ble_eq_true rfl) dX6_init_33 (fun H locs hB hS => ?_)
  have hB := BZ_eq (n := 5) (E' := EHl G 46 (.inr (6, [.int 0, .int 0, .int 0, .ref (adr G (46 + 1)), .ref (adr G (46 + 2)), .ref (adr G (46 + 3)), .ref (adr G (46 + 4)), .null, .null, .null, .null, .null, .null, .null]) : va_E) 0) (EL_put) hB
  refine lv_aload_n hx hb dX6_init_36 rfl (lv_at hl 0 rfl) ?_
  refine lv_bipush (v := 10) hx hb dX6_init_37 (by decide) ?_
  refine z_newa C0 hL hB hS (by decide) rfl (by decide) (by decide) (by decide) dX6_init_39 (fun H hB hS => ?_)
  have hB := BZ_eq (n := 6) (E' := EHl G 46 (.inr (6, [.int 0, .int 0, .int 0, .ref (adr G (46 + 1)), .ref (adr G (46 + 2)), .ref (adr G (46 + 3)), .ref (adr G (46 + 4)), .null, .null, .null, .null, .null, .null, .null]) : va_E) 0) (EL_push (by omega) (FI_7n (by decide) (by decide) (by decide) (by decide) : ct G M0 (fun _ => 0) (46 + 5) = .inl (G.2.2.2 0, 10, .inl (fun _ => 0)))) hB
  refine z_putF C0 hin2 hL hB hS 0 (by omega) (ty := (.array .int)) (ci := 6) (fs := [.int 0, .int 0, .int 0, .ref (adr G (46 + 1)), .ref (adr G (46 + 2)), .ref (adr G (46 + 3)), .ref (adr G (46 + 4)), .null, .null, .null, .null, .null, .null, .null]) rfl inU_X6 rfl tyX6 tyX6_ok nmX6 (j := 7) (by decide) rfl fl_X6_22 rfl (by decide +kernel) rfl rfl (Nat.le_of_ble_eq_true rfl) dX6_init_41 (fun H locs hB hS => ?_)
  have hB := BZ_eq (n := 6) (E' := EHl G 46 (.inr (6, [.int 0, .int 0, .int 0, .ref (adr G (46 + 1)), .ref (adr G (46 + 2)), .ref (adr G (46 + 3)), .ref (adr G (46 + 4)), .ref (adr G (46 + 5)), .null, .null, .null, .null, .null, .null]) : va_E) 0) (EL_put) hB
  refine lv_aload_n hx hb dX6_init_44 rfl (lv_at hl 0 rfl) ?_
  refine lv_bipush (v := 8) hx hb dX6_init_45 (by decide) ?_
  refine z_newa C0 hL hB hS (by decide) rfl (by decide) (by decide) (by decide) dX6_init_47 (fun H hB hS => ?_)
  have hB := BZ_eq (n := 7) (E' := EHl G 46 (.inr (6, [.int 0, .int 0, .int 0, .ref (adr G (46 + 1)), .ref (adr G (46 + 2)), .ref (adr G (46 + 3)), .ref (adr G (46 + 4)), .ref (adr G (46 + 5)), .null, .null, .null, .null, .null, .null]) : va_E) 0) (EL_push (by omega) (FI_7n (by decide) (by decide) (by decide) (by decide) : ct G M0 (fun _ => 0) (46 + 6) = .inl (G.2.2.2 0, 8, .inl (fun _ => 0)))) hB
  refine z_putF C0 hin2 hL hB hS 0 (by omega) (ty := (.array .int)) (ci := 6) (fs := [.int 0, .int 0, .int 0, .ref (adr G (46 + 1)), .ref (adr G (46 + 2)), .ref (adr G (46 + 3)), .ref (adr G (46 + 4)), .ref (adr G (46 + 5)), .null, .null, .null, .null, .null, .null]) rfl inU_X6 rfl tyX6 tyX6_ok nmX6 (j := 8) (by decide) rfl fl_X6_25 rfl (by decide +kernel) rfl rfl (Nat.le_of_ble_eq_true rfl) dX6_init_49 (fun H locs hB hS => ?_)
  have hB := BZ_eq (n := 7) (E' := EHl G 46 (.inr (6, [.int 0, .int 0, .int 0, .ref (adr G (46 + 1)), .ref (adr G (46 + 2)), .ref (adr G (46 + 3)), .ref (adr G (46 + 4)), .ref (adr G (46 + 5)), .ref (adr G (46 + 6)), .null, .null, .null, .null, .null]) : va_E) 0) (EL_put) hB
  refine lv_aload_n hx hb dX6_init_52 rfl (lv_at hl 0 rfl) ?_
  refine lv_bipush (v := 8) hx hb dX6_init_53 (by decide) ?_
  refine z_newa C0 hL hB hS (by decide) rfl (by decide) (by decide) (by decide) dX6_init_55 (fun H hB hS => ?_)
  have hB := BZ_eq (n := 8) (E' := EHl G 46 (.inr (6, [.int 0, .int 0, .int 0, .ref (adr G (46 + 1)), .ref (adr G (46 + 2)), .ref (adr G (46 + 3)), .ref (adr G (46 + 4)), .ref (adr G (46 + 5)), .ref (adr G (46 + 6)), .null, .null, .null, .null, .null]) : va_E) 0) (EL_push (by omega) (FI_7n (by decide) (by decide) (by decide) (by decide) : ct G M0 (fun _ => 0) (46 + 7) = .inl (G.2.2.2 0, 8, .inl (fun _ => 0)))) hB
  refine z_putF C0 hin2 hL hB hS 0 (by omega) (ty := (.array .int)) (ci := 6) (fs := [.int 0, .int 0, .int 0, .ref (adr G (46 + 1)), .ref (adr G (46 + 2)), .ref (adr G (46 + 3)), .ref (adr G (46 + 4)), .ref (adr G (46 + 5)), .ref (adr G (46 + 6)), .null, .null, .null, .null, .null]) rfl inU_X6 rfl tyX6 tyX6_ok nmX6 (j := 9) (by decide) rfl fl_X6_28 rfl (by decide +kernel) rfl rfl (Nat.le_of_ble_eq_true rfl) dX6_init_57 (fun H locs hB hS => ?_)
  have hB := BZ_eq (n := 8) (E' := EHl G 46 (.inr (6, [.int 0, .int 0, .int 0, .ref (adr G (46 + 1)), .ref (adr G (46 + 2)), .ref (adr G (46 + 3)), .ref (adr G (46 + 4)), .ref (adr G (46 + 5)), .ref (adr G (46 + 6)), .ref (adr G (46 + 7)), .null, .null, .null, .null]) : va_E) 0) (EL_put) hB
  refine lv_aload_n hx hb dX6_init_60 rfl (lv_at hl 0 rfl) ?_
  refine lv_bipush (v := 8) hx hb dX6_init_61 (by decide) ?_
  refine z_newa C0 hL hB hS (by decide) rfl (by decide) (by decide) (by decide) dX6_init_63 (fun H hB hS => ?_)
  have hB := BZ_eq (n := 9) (E' := EHl G 46 (.inr (6, [.int 0, .int 0, .int 0, .ref (adr G (46 + 1)), .ref (adr G (46 + 2)), .ref (adr G (46 + 3)), .ref (adr G (46 + 4)), .ref (adr G (46 + 5)), .ref (adr G (46 + 6)), .ref (adr G (46 + 7)), .null, .null, .null, .null]) : va_E) 0) (EL_push (by omega) (FI_7n (by decide) (by decide) (by decide) (by decide) : ct G M0 (fun _ => 0) (46 + 8) = .inl (G.2.2.2 0, 8, .inl (fun _ => 0)))) hB
  refine z_putF C0 hin2 hL hB hS 0 (by omega) (ty := (.array .int)) (ci := 6) (fs := [.int 0, .int 0, .int 0, .ref (adr G (46 + 1)), .ref (adr G (46 + 2)), .ref (adr G (46 + 3)), .ref (adr G (46 + 4)), .ref (adr G (46 + 5)), .ref (adr G (46 + 6)), .ref (adr G (46 + 7)), .null, .null, .null, .null]) rfl inU_X6 rfl tyX6 tyX6_ok nmX6 (j := 10) (by decide) rfl fl_X6_31 rfl (by decide +kernel) rfl rfl (Nat.le_of_ble_eq_true rfl) dX6_init_65 (fun H locs hB hS => ?_)
  have hB := BZ_eq (n := 9) (E' := EHl G 46 (.inr (6, [.int 0, .int 0, .int 0, .ref (adr G (46 + 1)), .ref (adr G (46 + 2)), .ref (adr G (46 + 3)), .ref (adr G (46 + 4)), .ref (adr G (46 + 5)), .ref (adr G (46 + 6)), .ref (adr G (46 + 7)), .ref (adr G (46 + 8)), .null, .null, .null]) : va_E) 0) (EL_put) hB
  refine lv_aload_n hx hb dX6_init_68 rfl (lv_at hl 0 rfl) ?_
  refine lv_bipush (v := 8) hx hb dX6_init_69 (by decide) ?_
  refine z_newa C0 hL hB hS (by decide) rfl (by decide) (by decide) (by decide) dX6_init_71 (fun H hB hS => ?_)
  have hB := BZ_eq (n := 10) (E' := EHl G 46 (.inr (6, [.int 0, .int 0, .int 0, .ref (adr G (46 + 1)), .ref (adr G (46 + 2)), .ref (adr G (46 + 3)), .ref (adr G (46 + 4)), .ref (adr G (46 + 5)), .ref (adr G (46 + 6)), .ref (adr G (46 + 7)), .ref (adr G (46 + 8)), .null, .null, .null]) : va_E) 0) (EL_push (by omega) (FI_7n (by decide) (by decide) (by decide) (by decide) : ct G M0 (fun _ => 0) (46 + 9) = .inl (G.2.2.2 0, 8, .inl (fun _ => 0)))) hB
  refine z_putF C0 hin2 hL hB hS 0 (by omega) (ty := (.array .int)) (ci := 6) (fs := [.int 0, .int 0, .int 0, .ref (adr G (46 + 1)), .ref (adr G (46 + 2)), .ref (adr G (46 + 3)), .ref (adr G (46 + 4)), .ref (adr G (46 + 5)), .ref (adr G (46 + 6)), .ref (adr G (46 + 7)), .ref (adr G (46 + 8)), .null, .null, .null]) rfl inU_X6 rfl tyX6 tyX6_ok nmX6 (j := 11) (by decide) rfl fl_X6_34 rfl (by decide +kernel) rfl rfl (Nat.le_of_ble_eq_true rfl) dX6_init_73 (fun H locs hB hS => ?_)
  have hB := BZ_eq (n := 10) (E' := EHl G 46 (.inr (6, [.int 0, .int 0, .int 0, .ref (adr G (46 + 1)), .ref (adr G (46 + 2)), .ref (adr G (46 + 3)), .ref (adr G (46 + 4)), .ref (adr G (46 + 5)), .ref (adr G (46 + 6)), .ref (adr G (46 + 7)), .ref (adr G (46 + 8)), .ref (adr G (46 + 9)), .null, .null]) : va_E) 0) (EL_put) hB
  refine lv_aload_n hx hb dX6_init_76 rfl (lv_at hl 0 rfl) ?_
  refine z_new C0 hL hB hS inU_X5 (rfl : vwCl[5]? = _) tyX5 tyX5_ok cl_X6_37 in_X5 ii_X5 [.int 0, .null, .null, .null, .null, .null] df_X5 (by decide) (by decide) dX6_init_77 (fun H hB hS => ?_)
  refine lv_dup hx hb dX6_init_80 rfl ?_
  refine lv_aload_n hx hb dX6_init_81 rfl (lv_at hl 0 rfl) ?_
  refine z_callN C0 hAO hL (by decide) hz hB hS (As := [.ref (adr G 46)]) (rest := [.ref (adr G (46 + 10)), .ref (adr G 46)]) (i_X5 l G 56 (Or.inl rfl)) (e0 := (.inr (5, [.int 0, .null, .null, .null, .null, .null]) : va_E)) apE_n mf_X5_init ml_X6_39 hl.1 (by decide) (by decide) (Nat.le_of_ble_eq_true rfl) rfl rfl dX6_init_82 (fun H locs hB hS => ?_)
  have hB := BZ_eq (n := 15) (E' := EHl G 46 (.inr (6, [.int 0, .int 0, .int 0, .ref (adr G (46 + 1)), .ref (adr G (46 + 2)), .ref (adr G (46 + 3)), .ref (adr G (46 + 4)), .ref (adr G (46 + 5)), .ref (adr G (46 + 6)), .ref (adr G (46 + 7)), .ref (adr G (46 + 8)), .ref (adr G (46 + 9)), .null, .null]) : va_E) 0) (EL_call (G := G) (k := 46) (n := 10) (n2 := 5) (by decide)) hB
  refine z_putF C0 hin2 hL hB hS 0 (by omega) (ty := (.object "PinholeHouseModel$State")) (ci := 6) (fs := [.int 0, .int 0, .int 0, .ref (adr G (46 + 1)), .ref (adr G (46 + 2)), .ref (adr G (46 + 3)), .ref (adr G (46 + 4)), .ref (adr G (46 + 5)), .ref (adr G (46 + 6)), .ref (adr G (46 + 7)), .ref (adr G (46 + 8)), .ref (adr G (46 + 9)), .null, .null]) rfl inU_X6 rfl tyX6 tyX6_ok nmX6 (j := 12) (by decide) rfl fl_X6_42 rfl (by decide +kernel) rfl rfl (Nat.le_of_ble_eq_true rfl) dX6_init_85 (fun H locs hB hS => ?_)
  have hB := BZ_eq (n := 15) (E' := EHl G 46 (.inr (6, [.int 0, .int 0, .int 0, .ref (adr G (46 + 1)), .ref (adr G (46 + 2)), .ref (adr G (46 + 3)), .ref (adr G (46 + 4)), .ref (adr G (46 + 5)), .ref (adr G (46 + 6)), .ref (adr G (46 + 7)), .ref (adr G (46 + 8)), .ref (adr G (46 + 9)), .ref (adr G (46 + 10)), .null]) : va_E) 0) (EL_put) hB
  refine lv_aload_n hx hb dX6_init_88 rfl (lv_at hl 0 rfl) ?_
  refine z_new C0 hL hB hS inU_X5 (rfl : vwCl[5]? = _) tyX5 tyX5_ok cl_X6_37 in_X5 ii_X5 [.int 0, .null, .null, .null, .null, .null] df_X5 (by decide) (by decide) dX6_init_89 (fun H hB hS => ?_)
  refine lv_dup hx hb dX6_init_92 rfl ?_
  refine lv_aload_n hx hb dX6_init_93 rfl (lv_at hl 0 rfl) ?_
  refine z_callN C0 hAO hL (by decide) hz hB hS (As := [.ref (adr G 46)]) (rest := [.ref (adr G (46 + 15)), .ref (adr G 46)]) (i_X5 l G 61 (Or.inr rfl)) (e0 := (.inr (5, [.int 0, .null, .null, .null, .null, .null]) : va_E)) apE_n mf_X5_init ml_X6_39 hl.1 (by decide) (by decide) (Nat.le_of_ble_eq_true rfl) rfl rfl dX6_init_94 (fun H locs hB hS => ?_)
  have hB := BZ_eq (n := 20) (E' := EHl G 46 (.inr (6, [.int 0, .int 0, .int 0, .ref (adr G (46 + 1)), .ref (adr G (46 + 2)), .ref (adr G (46 + 3)), .ref (adr G (46 + 4)), .ref (adr G (46 + 5)), .ref (adr G (46 + 6)), .ref (adr G (46 + 7)), .ref (adr G (46 + 8)), .ref (adr G (46 + 9)), .ref (adr G (46 + 10)), .null]) : va_E) 0) (EL_call (G := G) (k := 46) (n := 15) (n2 := 5) (by decide)) hB
  refine z_putF C0 hin2 hL hB hS 0 (by omega) (ty := (.object "PinholeHouseModel$State")) (ci := 6) (fs := [.int 0, .int 0, .int 0, .ref (adr G (46 + 1)), .ref (adr G (46 + 2)), .ref (adr G (46 + 3)), .ref (adr G (46 + 4)), .ref (adr G (46 + 5)), .ref (adr G (46 + 6)), .ref (adr G (46 + 7)), .ref (adr G (46 + 8)), .ref (adr G (46 + 9)), .ref (adr G (46 + 10)), .null]) rfl inU_X6 rfl tyX6 tyX6_ok nmX6 (j := 13) (by decide) rfl fl_X6_46 rfl (by decide +kernel) rfl rfl (Nat.le_of_ble_eq_true rfl) dX6_init_97 (fun H locs hB hS => ?_)
  have hB := BZ_eq (n := 20) (E' := EHl G 46 (.inr (6, [.int 0, .int 0, .int 0, .ref (adr G (46 + 1)), .ref (adr G (46 + 2)), .ref (adr G (46 + 3)), .ref (adr G (46 + 4)), .ref (adr G (46 + 5)), .ref (adr G (46 + 6)), .ref (adr G (46 + 7)), .ref (adr G (46 + 8)), .ref (adr G (46 + 9)), .ref (adr G (46 + 10)), .ref (adr G (46 + 15))]) : va_E) 0) (EL_put) hB
  refine lv_iconst (v := 0) hx hb dX6_init_100 (by decide) ?_
  refine lv_istore_n (lv' := [(1, .int 0), (0, .ref (adr G 46))]) hx hb dX6_init_101 rfl hl (by decide) rfl (fun ls hl => ?_)
  have loop_102 : ∀ (fuel_102 j : Nat), 12 + 1 ≤ j + fuel_102 → j ≤ 12 → ∀ (H : Heap) (locs : List Loc), BZ G 46 20 (EHl G 46 (.inr (6, [.int 0, .int 0, .int 0, .ref (adr G 47), .ref (adr G 48), .ref (adr G 49), .ref (adr G 50), .ref (adr G 51), .ref (adr G 52), .ref (adr G 53), .ref (adr G 54), .ref (adr G 55), .ref (adr G 56), .ref (adr G 61)]) : va_E) j) H → va_S (aK G 46) s.heap H locs → ∀ ls : Array Slot, lv_has ls 2 [(1, .int (nI j)), (0, .ref (adr G 46))] → W p l e (rmU 2 41 19 166) s m ([.ref (adr G 46)] : List Value).toArray below meth c H locs 19 166 (MQ below (QK G 46 20 (FI G 46)) ([.ref (adr G 46)] : List Value).toArray s 19 166 (aK G 46)) (F0 m 102 ls []) := by
    intro fuel_102
    induction fuel_102 with
    | zero =>
      intro j hf hv
      exact absurd hf (by omega)
    | succ fuel_102 ih_102 =>
      intro j hf hv H locs hB hS ls hl
      refine lv_iload_n hx hb dX6_init_102 rfl (lv_at hl 0 rfl) ?_
      refine lv_bipush (v := 12) hx hb dX6_init_103 (by decide) ?_
      refine lv_icmp_ge (tgt := 122) hx hb dX6_init_105 (by decide) (fun c_1 => ?_) (fun c_1 => ?_)
      · have h9j := lp_ge (n := 12) c_1 (by omega) hv
        rw [h9j] at hB
        have hB := BZ_eq (n := 20) (E' := FI G 46) (EL_end (ct_6 (by decide)) (Or.inr rfl)) hB
        exact z_end C0 hr hB hS (by decide) dX6_init_122
      · have hltj := lp_lt (n := 12) c_1 (by omega) hv
        refine lv_aload_n hx hb dX6_init_108 rfl (lv_at hl 1 rfl) ?_
        refine z_get C0 hB 0 (by omega) (v := .ref (adr G (46 + 1))) rfl inU_X6 rfl (j := 3) (by decide) rfl fl_X6_9 rfl dX6_init_109 ?_
        refine lv_iload_n hx hb dX6_init_112 rfl (lv_at hl 0 rfl) ?_
        refine lv_bipush (v := 50) hx hb dX6_init_113 (by decide) ?_
        refine z_iast C0 hL hB hS 1 (by omega) (N := 12) (i := j) rfl (by omega) (by decide) dX6_init_115 (fun H locs hB hS => ?_)
        refine lv_iinc (v := nI (j + 1)) (lv' := [(1, .int (nI (j + 1))), (0, .ref (adr G 46))]) hx hb dX6_init_116 hl (k := 0) rfl (nI_1 j) (by decide) rfl (fun ls hl => ?_)
        refine lv_goto (tgt := 102) hx hb dX6_init_119 (by decide) ?_
        have hB := BZ_eq (n := 20) (E' := EHl G 46 (.inr (6, [.int 0, .int 0, .int 0, .ref (adr G 47), .ref (adr G 48), .ref (adr G 49), .ref (adr G 50), .ref (adr G 51), .ref (adr G 52), .ref (adr G 53), .ref (adr G 54), .ref (adr G 55), .ref (adr G 56), .ref (adr G 61)]) : va_E) (j + 1)) (EL_fill) hB
        exact ih_102 (j + 1) (by omega) (by omega) _ _ hB hS _ (lv_sub hl [0, 1] rfl)
  exact loop_102 (12 + 1) 0 (by omega) (by omega) _ _ hB hS _ (lv_sub hl [0, 1] rfl)
end CTI
