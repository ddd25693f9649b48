section CLB
theorem rpM_0 {M : Mem} {sc np : Nat} {li : Int32} : rpM M sc li np 0 = M := by
  funext a b
  unfold rpM
  rw [if_neg (by omega)]
theorem rpM_sl {M : Mem} {sc np n a j : Nat} {li : Int32} (h : a < sc + 13 ∨ sc + 13 + n ≤ a) : rpM M sc li np n a j = M a j := by
  unfold rpM
  rw [if_neg (by omega)]
theorem rpM_st {M : Mem} {sc np n a j : Nat} {li : Int32} (h : j ≠ 5 ∧ j ≠ 6) : rpM M sc li np n a j = M a j := by
  unfold rpM
  rw [if_neg h.1, if_neg h.2, ite_self]
theorem siM_rp {M : Mem} {sc np n r : Nat} {li li2 : Int32} (hp : np ≤ 10) : siM (rpM M sc li np n) sc r li2 np = siM M sc r li2 np := by
  unfold siM
  refine cntF_congr (fun i hi => ?_)
  unfold wlM
  rw [rpM_sl (a := sc + 3 + i) (by omega), rpM_sl (a := sc + 3 + i) (by omega), rpM_sl (a := sc + 3 + i) (by omega), rpM_st (by omega), rpM_st (by omega), rpM_st (by omega), rpM_st (by omega)]
theorem rpM_s {M : Mem} {sc np i : Nat} {li : Int32} (hp : np ≤ 10) : pyM (rpM M sc li np i) (sc + 13 + i) (siM (rpM M sc li np i) sc (sc + 13 + i) li np) = rpM M sc li np (i + 1) := by
  funext a b
  rw [siM_rp hp]
  by_cases h : a = sc + 13 + i
  · subst h
    have e : ∀ j, rpM M sc li np i (sc + 13 + i) j = M (sc + 13 + i) j := fun j => rpM_sl (by omega)
    have e2 : rpM M sc li np (i + 1) (sc + 13 + i) b = (if b = 5 then ppF (siM M sc (sc + 13 + i) li np) (M (sc + 13 + i) 5) (M (sc + 13 + i) 4) else if b = 6 then M (sc + 13 + i) 6 + paF (siM M sc (sc + 13 + i) li np) (M (sc + 13 + i) 5) else M (sc + 13 + i) b) := by
      unfold rpM
      rw [if_pos ⟨by omega, by omega⟩]
    rw [e2]
    unfold pyM
    rw [if_pos rfl, e, e, e, e]
  · have e1 : pyM (rpM M sc li np i) (sc + 13 + i) (siM M sc (sc + 13 + i) li np) a b = rpM M sc li np i a b := by
      unfold pyM
      rw [if_neg h]
    rw [e1]
    unfold rpM
    by_cases h2 : sc + 13 ≤ a ∧ a < sc + 13 + i
    · rw [if_pos h2, if_pos (show sc + 13 ≤ a ∧ a < sc + 13 + (i + 1) by omega)]
    · rw [if_neg h2, if_neg (show ¬ (sc + 13 ≤ a ∧ a < sc + 13 + (i + 1)) by omega)]
theorem cpM_25 {M : Mem} {np nr j : Nat} (h : j < 3) : cpM M np nr 25 j = M 4 j := by
  unfold cpM
  rw [if_pos rfl, if_pos h]
theorem cpM_lo {M : Mem} {np nr a j : Nat} (h : a < 25 ∨ 46 ≤ a) (hp : np ≤ 10) (hr : nr ≤ 8) : cpM M np nr a j = M a j := by
  unfold cpM
  rw [if_neg (by omega), if_neg (by omega), if_neg (by omega)]
theorem cpM_0 {M : Mem} : u2 (u2 (u2 M 25 0 (M 4 0)) 25 1 (u2 M 25 0 (M 4 0) 4 1)) 25 2 (u2 (u2 M 25 0 (M 4 0)) 25 1 (u2 M 25 0 (M 4 0) 4 1) 4 2) = cpM M 0 0 := by
  funext a b
  unfold cpM
  by_cases h : a = 25
  · subst h
    rw [if_pos rfl]
    by_cases hb : b < 3
    · rcases (show b = 0 ∨ b = 1 ∨ b = 2 by omega) with rfl | rfl | rfl <;> simp [u2]
    · simp [u2, hb, show b ≠ 0 by omega, show b ≠ 1 by omega, show b ≠ 2 by omega]
  · rw [if_neg h, if_neg (by omega), if_neg (by omega)]
    simp [u2, h]
theorem cpM_p {M : Mem} {i : Nat} (hi : i < 10) : cmM (cpM M i 0) (25 + 3 + i) (cpM M i 0 (4 + 3 + i) 0) (cpM M i 0 (4 + 3 + i) 1) (cpM M i 0 (4 + 3 + i) 2) (cpM M i 0 (4 + 3 + i) 3) = cpM M (i + 1) 0 := by
  have e : ∀ j, cpM M i 0 (4 + 3 + i) j = M (4 + 3 + i) j := fun j => cpM_lo (by omega) (by omega) (by omega)
  rw [e, e, e, e]
  funext a b
  by_cases h : a = 25 + 3 + i
  · subst h
    by_cases hb : b < 4
    · have h2 : cpM M (i + 1) 0 (25 + 3 + i) b = M (4 + 3 + i) b := by
        unfold cpM
        rw [if_neg (by omega), if_pos (by omega)]
        congr 1
        omega
      rw [h2]
      rcases (show b = 0 ∨ b = 1 ∨ b = 2 ∨ b = 3 by omega) with rfl | rfl | rfl | rfl <;> simp [cmM, u2]
    · simp only [cmM, u2, show b ≠ 0 by omega, show b ≠ 1 by omega, show b ≠ 2 by omega, show b ≠ 3 by omega, and_false, if_false]
      unfold cpM
      repeat' split
      all_goals first | rfl | omega
  · simp only [cmM, u2, h, false_and, if_false]
    unfold cpM
    by_cases h5 : a = 25
    · rw [if_pos h5, if_pos h5]
    · rw [if_neg h5, if_neg h5]
      repeat' split
      all_goals first | rfl | omega
theorem cpM_r {M : Mem} {np j : Nat} (hj : j < 8) (hp : np ≤ 10) : (fun a b => if a = 25 + 13 + j ∧ b < 7 then cpM M np j (4 + 13 + j) b else cpM M np j a b) = cpM M np (j + 1) := by
  funext a b
  show (if a = 25 + 13 + j ∧ b < 7 then cpM M np j (4 + 13 + j) b else cpM M np j a b) = _
  by_cases h : a = 25 + 13 + j ∧ b < 7
  · obtain ⟨rfl, hb⟩ := h
    rw [if_pos ⟨rfl, hb⟩, cpM_lo (by omega) hp (by omega)]
    unfold cpM
    rw [if_neg (by omega), if_neg (by omega), if_pos (by omega)]
    congr 1
    omega
  · rw [if_neg h]
    unfold cpM
    by_cases h5 : a = 25
    · rw [if_pos h5, if_pos h5]
    · rw [if_neg h5, if_neg h5]
      by_cases h6 : (28 ≤ a ∧ a < 28 + np) ∧ b < 4
      · rw [if_pos h6, if_pos h6]
      · rw [if_neg h6, if_neg h6]
        by_cases h7 : (38 ≤ a ∧ a < 38 + j) ∧ b < 7
        · rw [if_pos h7, if_pos (by omega)]
        · rw [if_neg h7, if_neg (by omega)]
set_option maxHeartbeats 4000000 in
set_option maxRecDepth 100000 in
theorem c_X2_showIn (l : Launch) (G : GG) (M : Mem) (o : Nat → Int64) (sc r : Nat) (li : Int32) (n : Nat) (hsc : sc = 4 ∨ sc = 25) (hr0 : kd r = 1) (hn : M sc 1 = nI n) (hle : n ≤ 10) : MI l yX2_showIn cX2_showIn 5 (some .int) 3 64 G [.ref (adr G sc), .ref (adr G r), .int li] M M o o (siM M sc r li n) 0 0 := by
  refine MI_of RX2 rfl (by decide +kernel) (Nat.le_of_ble_eq_true rfl) ?_
  intro p e s m below meth c sz C0 hr hP ls hl
  have hx := C0.1
  have hb := C0.2.1
  have hS : va_S (pA G sz) s.heap s.heap [] := va_S.rf
  have hl : lv_has ls 5 [(0, .ref (adr G sc)), (1, .ref (adr G r)), (2, .int li)] := hl
  refine lv_iconst (v := 0) hx hb dX2_showIn_0 (by decide) ?_
  refine lv_istore_n (lv' := [(3, .int 0), (0, .ref (adr G sc)), (1, .ref (adr G r)), (2, .int li)]) hx hb dX2_showIn_1 rfl hl (by decide) rfl (fun ls hl => ?_)
  refine lv_iconst (v := 0) hx hb dX2_showIn_2 (by decide) ?_
  refine lv_istore (lv' := [(4, .int 0), (3, .int 0), (0, .ref (adr G sc)), (1, .ref (adr G r)), (2, .int li)]) hx hb dX2_showIn_3 hl (by decide) rfl (fun ls hl => ?_)
  have loop_5 : ∀ (fuel_5 : Nat) (i : Nat) (x : Int32), n + 1 ≤ i + fuel_5 → (i ≤ n) → (x = siM M sc r li i) → ∀ (H : Heap) (locs : List Loc), PW G M o H → va_S (pA G sz) s.heap H locs → ∀ ls : Array Slot, lv_has ls 5 [(4, .int (nI i)), (3, .int x), (0, .ref (adr G sc)), (1, .ref (adr G r)), (2, .int li)] → W p l e (rmU 3 64 0 0) s m ([.ref (adr G sc), .ref (adr G r), .int li] : List Value).toArray below meth c H locs 0 0 (MQ below (QI G M o (siM M sc r li n) sz) ([.ref (adr G sc), .ref (adr G r), .int li] : List Value).toArray s 0 0 (pA G sz)) (F0 m 5 ls []) := by
    intro fuel_5
    induction fuel_5 with
    | zero =>
      intro i x hf hi hxx
      exact absurd hf (by omega)
    | succ fuel_5 ih_5 =>
      intro i x hf hi hxx H locs hP hS ls hl
      refine lv_iload hx hb dX2_showIn_5 (lv_at hl 0 rfl) ?_
      refine lv_aload_n hx hb dX2_showIn_7 rfl (lv_at hl 2 rfl) ?_
      refine gf_X2_29 C0 hP (k := sc) (kdS hsc) dX2_showIn_8 ?_
      refine lv_icmp_ge (tgt := 38) hx hb dX2_showIn_11 (by decide) (fun c_1 => ?_) (fun c_1 => ?_)
      · rw [hn] at c_1
        have hi9 := lp_ge c_1 (by omega) hi
        refine lv_iload_n hx hb dX2_showIn_38 rfl (lv_at hl 1 rfl) ?_
        exact e_Ii C0 hr hP hS (by rw [hxx, hi9]) (by decide) dX2_showIn_39
      · rw [hn] at c_1
        have hlt := lp_lt c_1 (by omega) hi
        refine lv_aload_n hx hb dX2_showIn_14 rfl (lv_at hl 3 rfl) ?_
        refine lv_aload_n hx hb dX2_showIn_15 rfl (lv_at hl 2 rfl) ?_
        refine gf_X2_11 C0 hP (k := sc) (kdS hsc) dX2_showIn_16 ?_
        refine lv_iload hx hb dX2_showIn_19 (lv_at hl 0 rfl) ?_
        refine w_aldP C0 hP (k := sc + 1) (i := i) (kdS1 hsc) (by omega) dX2_showIn_21 ?_
        refine lv_iload_n hx hb dX2_showIn_22 rfl (lv_at hl 4 rfl) ?_
        refine k_VNI C0 hP hS (rest := []) (c_X1_showsWell l G M o r (sc + 3 + i) li hr0 (kdSp hsc (by omega))) mf_X1_showsWell ml_X2_50 (kd_lt hr0 (by decide)) (ct_1 hr0) rfl hl.1 (by decide) (by decide) (Nat.le_of_ble_eq_true rfl) rfl rfl dX2_showIn_23 (fun H locs hP hS => ?_)
        refine lv_if_eq (tgt := 32) hx hb dX2_showIn_26 (by decide) (fun c_2 => ?_) (fun c_2 => ?_)
        · refine lv_iinc (v := nI (i + 1)) (lv' := [(4, .int (nI (i + 1))), (3, .int x), (0, .ref (adr G sc)), (1, .ref (adr G r)), (2, .int li)]) hx hb dX2_showIn_32 hl (k := 0) rfl (nI_1 i) (by decide) rfl (fun ls hl => ?_)
          refine lv_goto (tgt := 5) hx hb dX2_showIn_35 (by decide) ?_
          exact ih_5 (i + 1) _ (by omega) (by omega) (by rw [hxx]; simp [siM, cntF, c_1, c_2]) _ _ hP hS _ (lv_sub hl [0, 1, 2, 3, 4] rfl)
        · refine lv_iinc (v := x + 1) (lv' := [(3, .int (x + 1)), (4, .int (nI i)), (0, .ref (adr G sc)), (1, .ref (adr G r)), (2, .int li)]) hx hb dX2_showIn_29 hl (k := 1) rfl rfl (by decide) rfl (fun ls hl => ?_)
          refine lv_iinc (v := nI (i + 1)) (lv' := [(4, .int (nI (i + 1))), (3, .int (x + 1)), (0, .ref (adr G sc)), (1, .ref (adr G r)), (2, .int li)]) hx hb dX2_showIn_32 hl (k := 1) rfl (nI_1 i) (by decide) rfl (fun ls hl => ?_)
          refine lv_goto (tgt := 5) hx hb dX2_showIn_35 (by decide) ?_
          exact ih_5 (i + 1) _ (by omega) (by omega) (by rw [hxx]; simp [siM, cntF, c_1, c_2]) _ _ hP hS _ (lv_sub hl [0, 1, 2, 3, 4] rfl)
  exact loop_5 (n + 1) 0 0 (by omega) (by omega) rfl _ _ hP hS _ (lv_sub hl [0, 1, 2, 3, 4] rfl)

set_option maxHeartbeats 4000000 in
set_option maxRecDepth 100000 in
theorem c_X2_roomsSeeingWell (l : Launch) (G : GG) (M : Mem) (o : Nat → Int64) (sc q : Nat) (li : Int32) (n : Nat) (hsc : sc = 4 ∨ sc = 25) (hq : kd q = 0) (hn : M sc 2 = nI n) (hle : n ≤ 8) : MI l yX2_roomsSeeingWell cX2_roomsSeeingWell 5 (some .int) 3 64 G [.ref (adr G sc), .ref (adr G q), .int li] M M o o (rsM M sc q li n) 0 0 := by
  refine MI_of RX2 rfl (by decide +kernel) (Nat.le_of_ble_eq_true rfl) ?_
  intro p e s m below meth c sz C0 hr hP ls hl
  have hx := C0.1
  have hb := C0.2.1
  have hS : va_S (pA G sz) s.heap s.heap [] := va_S.rf
  have hl : lv_has ls 5 [(0, .ref (adr G sc)), (1, .ref (adr G q)), (2, .int li)] := hl
  refine lv_iconst (v := 0) hx hb dX2_roomsSeeingWell_0 (by decide) ?_
  refine lv_istore_n (lv' := [(3, .int 0), (0, .ref (adr G sc)), (1, .ref (adr G q)), (2, .int li)]) hx hb dX2_roomsSeeingWell_1 rfl hl (by decide) rfl (fun ls hl => ?_)
  refine lv_iconst (v := 0) hx hb dX2_roomsSeeingWell_2 (by decide) ?_
  refine lv_istore (lv' := [(4, .int 0), (3, .int 0), (0, .ref (adr G sc)), (1, .ref (adr G q)), (2, .int li)]) hx hb dX2_roomsSeeingWell_3 hl (by decide) rfl (fun ls hl => ?_)
  have loop_5 : ∀ (fuel_5 : Nat) (i : Nat) (x : Int32), n + 1 ≤ i + fuel_5 → (i ≤ n) → (x = rsM M sc q li i) → ∀ (H : Heap) (locs : List Loc), PW G M o H → va_S (pA G sz) s.heap H locs → ∀ ls : Array Slot, lv_has ls 5 [(4, .int (nI i)), (3, .int x), (0, .ref (adr G sc)), (1, .ref (adr G q)), (2, .int li)] → W p l e (rmU 3 64 0 0) s m ([.ref (adr G sc), .ref (adr G q), .int li] : List Value).toArray below meth c H locs 0 0 (MQ below (QI G M o (rsM M sc q li n) sz) ([.ref (adr G sc), .ref (adr G q), .int li] : List Value).toArray s 0 0 (pA G sz)) (F0 m 5 ls []) := by
    intro fuel_5
    induction fuel_5 with
    | zero =>
      intro i x hf hi hxx
      exact absurd hf (by omega)
    | succ fuel_5 ih_5 =>
      intro i x hf hi hxx H locs hP hS ls hl
      refine lv_iload hx hb dX2_roomsSeeingWell_5 (lv_at hl 0 rfl) ?_
      refine lv_aload_n hx hb dX2_roomsSeeingWell_7 rfl (lv_at hl 2 rfl) ?_
      refine gf_X2_32 C0 hP (k := sc) (kdS hsc) dX2_roomsSeeingWell_8 ?_
      refine lv_icmp_ge (tgt := 38) hx hb dX2_roomsSeeingWell_11 (by decide) (fun c_1 => ?_) (fun c_1 => ?_)
      · rw [hn] at c_1
        have hi9 := lp_ge c_1 (by omega) hi
        refine lv_iload_n hx hb dX2_roomsSeeingWell_38 rfl (lv_at hl 1 rfl) ?_
        exact e_Ii C0 hr hP hS (by rw [hxx, hi9]) (by decide) dX2_roomsSeeingWell_39
      · rw [hn] at c_1
        have hlt := lp_lt c_1 (by omega) hi
        refine lv_aload_n hx hb dX2_roomsSeeingWell_14 rfl (lv_at hl 2 rfl) ?_
        refine gf_X2_19 C0 hP (k := sc) (kdS hsc) dX2_roomsSeeingWell_15 ?_
        refine lv_iload hx hb dX2_roomsSeeingWell_18 (lv_at hl 0 rfl) ?_
        refine w_aldR C0 hP (k := sc + 2) (i := i) (kdS2 hsc) (by omega) dX2_roomsSeeingWell_20 ?_
        refine lv_aload_n hx hb dX2_roomsSeeingWell_21 rfl (lv_at hl 3 rfl) ?_
        refine lv_iload_n hx hb dX2_roomsSeeingWell_22 rfl (lv_at hl 4 rfl) ?_
        refine k_VNI C0 hP hS (rest := []) (c_X1_showsWell l G M o (sc + 13 + i) q li (kdSr hsc (by omega)) hq) mf_X1_showsWell ml_X2_50 (kd_lt (kdSr hsc (by omega)) (by decide)) (ct_1 (kdSr hsc (by omega))) rfl hl.1 (by decide) (by decide) (Nat.le_of_ble_eq_true rfl) rfl rfl dX2_roomsSeeingWell_23 (fun H locs hP hS => ?_)
        refine lv_if_eq (tgt := 32) hx hb dX2_roomsSeeingWell_26 (by decide) (fun c_2 => ?_) (fun c_2 => ?_)
        · refine lv_iinc (v := nI (i + 1)) (lv' := [(4, .int (nI (i + 1))), (3, .int x), (0, .ref (adr G sc)), (1, .ref (adr G q)), (2, .int li)]) hx hb dX2_roomsSeeingWell_32 hl (k := 0) rfl (nI_1 i) (by decide) rfl (fun ls hl => ?_)
          refine lv_goto (tgt := 5) hx hb dX2_roomsSeeingWell_35 (by decide) ?_
          exact ih_5 (i + 1) _ (by omega) (by omega) (by rw [hxx]; simp [rsM, cntF, c_1, c_2]) _ _ hP hS _ (lv_sub hl [0, 1, 2, 3, 4] rfl)
        · refine lv_iinc (v := x + 1) (lv' := [(3, .int (x + 1)), (4, .int (nI i)), (0, .ref (adr G sc)), (1, .ref (adr G q)), (2, .int li)]) hx hb dX2_roomsSeeingWell_29 hl (k := 1) rfl rfl (by decide) rfl (fun ls hl => ?_)
          refine lv_iinc (v := nI (i + 1)) (lv' := [(4, .int (nI (i + 1))), (3, .int (x + 1)), (0, .ref (adr G sc)), (1, .ref (adr G q)), (2, .int li)]) hx hb dX2_roomsSeeingWell_32 hl (k := 1) rfl (nI_1 i) (by decide) rfl (fun ls hl => ?_)
          refine lv_goto (tgt := 5) hx hb dX2_roomsSeeingWell_35 (by decide) ?_
          exact ih_5 (i + 1) _ (by omega) (by omega) (by rw [hxx]; simp [rsM, cntF, c_1, c_2]) _ _ hP hS _ (lv_sub hl [0, 1, 2, 3, 4] rfl)
  exact loop_5 (n + 1) 0 0 (by omega) (by omega) rfl _ _ hP hS _ (lv_sub hl [0, 1, 2, 3, 4] rfl)

set_option maxHeartbeats 4000000 in
set_option maxRecDepth 100000 in
theorem c_X2_wallsWith (l : Launch) (G : GG) (M : Mem) (o : Nat → Int64) (sc q : Nat) (n : Nat) (hsc : sc = 4 ∨ sc = 25) (hq : kd q = 0) (hn : M sc 2 = nI n) (hle : n ≤ 8) : MI l yX2_wallsWith cX2_wallsWith 4 (some .int) 2 42 G [.ref (adr G sc), .ref (adr G q)] M M o o (waM M sc q n) 0 0 := by
  refine MI_of RX2 rfl (by decide +kernel) (Nat.le_of_ble_eq_true rfl) ?_
  intro p e s m below meth c sz C0 hr hP ls hl
  have hx := C0.1
  have hb := C0.2.1
  have hS : va_S (pA G sz) s.heap s.heap [] := va_S.rf
  have hl : lv_has ls 4 [(0, .ref (adr G sc)), (1, .ref (adr G q))] := hl
  refine lv_iconst (v := 0) hx hb dX2_wallsWith_0 (by decide) ?_
  refine lv_istore_n (lv' := [(2, .int 0), (0, .ref (adr G sc)), (1, .ref (adr G q))]) hx hb dX2_wallsWith_1 rfl hl (by decide) rfl (fun ls hl => ?_)
  refine lv_iconst (v := 0) hx hb dX2_wallsWith_2 (by decide) ?_
  refine lv_istore_n (lv' := [(3, .int 0), (2, .int 0), (0, .ref (adr G sc)), (1, .ref (adr G q))]) hx hb dX2_wallsWith_3 rfl hl (by decide) rfl (fun ls hl => ?_)
  have loop_4 : ∀ (fuel_4 : Nat) (i : Nat) (x : Int32), n + 1 ≤ i + fuel_4 → (i ≤ n) → (x = waM M sc q i) → ∀ (H : Heap) (locs : List Loc), PW G M o H → va_S (pA G sz) s.heap H locs → ∀ ls : Array Slot, lv_has ls 4 [(3, .int (nI i)), (2, .int x), (0, .ref (adr G sc)), (1, .ref (adr G q))] → W p l e (rmU 2 42 0 0) s m ([.ref (adr G sc), .ref (adr G q)] : List Value).toArray below meth c H locs 0 0 (MQ below (QI G M o (waM M sc q n) sz) ([.ref (adr G sc), .ref (adr G q)] : List Value).toArray s 0 0 (pA G sz)) (F0 m 4 ls []) := by
    intro fuel_4
    induction fuel_4 with
    | zero =>
      intro i x hf hi hxx
      exact absurd hf (by omega)
    | succ fuel_4 ih_4 =>
      intro i x hf hi hxx H locs hP hS ls hl
      refine lv_iload_n hx hb dX2_wallsWith_4 rfl (lv_at hl 0 rfl) ?_
      refine lv_aload_n hx hb dX2_wallsWith_5 rfl (lv_at hl 2 rfl) ?_
      refine gf_X2_32 C0 hP (k := sc) (kdS hsc) dX2_wallsWith_6 ?_
      refine lv_icmp_ge (tgt := 37) hx hb dX2_wallsWith_9 (by decide) (fun c_1 => ?_) (fun c_1 => ?_)
      · rw [hn] at c_1
        have hi9 := lp_ge c_1 (by omega) hi
        refine lv_iload_n hx hb dX2_wallsWith_37 rfl (lv_at hl 1 rfl) ?_
        exact e_Ii C0 hr hP hS (by rw [hxx, hi9]) (by decide) dX2_wallsWith_38
      · rw [hn] at c_1
        have hlt := lp_lt c_1 (by omega) hi
        refine lv_aload_n hx hb dX2_wallsWith_12 rfl (lv_at hl 2 rfl) ?_
        refine gf_X2_19 C0 hP (k := sc) (kdS hsc) dX2_wallsWith_13 ?_
        refine lv_iload_n hx hb dX2_wallsWith_16 rfl (lv_at hl 0 rfl) ?_
        refine w_aldR C0 hP (k := sc + 2) (i := i) (kdS2 hsc) (by omega) dX2_wallsWith_17 ?_
        refine lv_aload_n hx hb dX2_wallsWith_18 rfl (lv_at hl 3 rfl) ?_
        refine k_VNI C0 hP hS (rest := []) (c_X1_shows l G M o (sc + 13 + i) q (kdSr hsc (by omega)) hq) mf_X1_shows ml_X2_54 (kd_lt (kdSr hsc (by omega)) (by decide)) (ct_1 (kdSr hsc (by omega))) rfl hl.1 (by decide) (by decide) (Nat.le_of_ble_eq_true rfl) rfl rfl dX2_wallsWith_19 (fun H locs hP hS => ?_)
        refine lv_if_eq (tgt := 31) hx hb dX2_wallsWith_22 (by decide) (fun c_2 => ?_) (fun c_2 => ?_)
        · refine lv_iinc (v := nI (i + 1)) (lv' := [(3, .int (nI (i + 1))), (2, .int x), (0, .ref (adr G sc)), (1, .ref (adr G q))]) hx hb dX2_wallsWith_31 hl (k := 0) rfl (nI_1 i) (by decide) rfl (fun ls hl => ?_)
          refine lv_goto (tgt := 4) hx hb dX2_wallsWith_34 (by decide) ?_
          exact ih_4 (i + 1) _ (by omega) (by omega) (by rw [hxx]; simp [waM, setF, c_1, c_2]) _ _ hP hS _ (lv_sub hl [0, 1, 2, 3] rfl)
        · refine lv_iload_n hx hb dX2_wallsWith_25 rfl (lv_at hl 1 rfl) ?_
          refine lv_iconst (v := 1) hx hb dX2_wallsWith_26 (by decide) ?_
          refine lv_iload_n hx hb dX2_wallsWith_27 rfl (lv_at hl 0 rfl) ?_
          refine lv_ishl hx hb dX2_wallsWith_28 ?_
          refine lv_ior hx hb dX2_wallsWith_29 ?_
          refine lv_istore_n (lv' := [(2, .int (x ||| (1 <<< ((nI i) &&& 31)))), (3, .int (nI i)), (0, .ref (adr G sc)), (1, .ref (adr G q))]) hx hb dX2_wallsWith_30 rfl hl (by decide) rfl (fun ls hl => ?_)
          refine lv_iinc (v := nI (i + 1)) (lv' := [(3, .int (nI (i + 1))), (2, .int (x ||| (1 <<< ((nI i) &&& 31)))), (0, .ref (adr G sc)), (1, .ref (adr G q))]) hx hb dX2_wallsWith_31 hl (k := 1) rfl (nI_1 i) (by decide) rfl (fun ls hl => ?_)
          refine lv_goto (tgt := 4) hx hb dX2_wallsWith_34 (by decide) ?_
          exact ih_4 (i + 1) _ (by omega) (by omega) (by rw [hxx]; simp [waM, setF, c_1, c_2]) _ _ hP hS _ (lv_sub hl [0, 1, 2, 3] rfl)
  exact loop_4 (n + 1) 0 0 (by omega) (by omega) rfl _ _ hP hS _ (lv_sub hl [0, 1, 2, 3] rfl)

set_option maxHeartbeats 4000000 in
set_option maxRecDepth 100000 in
theorem c_X2_passersGone (l : Launch) (G : GG) (M : Mem) (o : Nat → Int64) (sc : Nat) (n : Nat) (hsc : sc = 4 ∨ sc = 25) (hn : M sc 1 = nI n) (hle : n ≤ 10) : MI l yX2_passersGone cX2_passersGone 3 (some .int) 1 20 G [.ref (adr G sc)] M M o o (goM M sc n) 0 0 := by
  refine MI_of RX2 rfl (by decide +kernel) (Nat.le_of_ble_eq_true rfl) ?_
  intro p e s m below meth c sz C0 hr hP ls hl
  have hx := C0.1
  have hb := C0.2.1
  have hS : va_S (pA G sz) s.heap s.heap [] := va_S.rf
  have hl : lv_has ls 3 [(0, .ref (adr G sc))] := hl
  refine lv_iconst (v := 0) hx hb dX2_passersGone_0 (by decide) ?_
  refine lv_istore_n (lv' := [(1, .int 0), (0, .ref (adr G sc))]) hx hb dX2_passersGone_1 rfl hl (by decide) rfl (fun ls hl => ?_)
  refine lv_iconst (v := 0) hx hb dX2_passersGone_2 (by decide) ?_
  refine lv_istore_n (lv' := [(2, .int 0), (1, .int 0), (0, .ref (adr G sc))]) hx hb dX2_passersGone_3 rfl hl (by decide) rfl (fun ls hl => ?_)
  have loop_4 : ∀ (fuel_4 : Nat) (i : Nat) (x : Int32), n + 1 ≤ i + fuel_4 → (i ≤ n) → (x = goM M sc i) → ∀ (H : Heap) (locs : List Loc), PW G M o H → va_S (pA G sz) s.heap H locs → ∀ ls : Array Slot, lv_has ls 3 [(2, .int (nI i)), (1, .int x), (0, .ref (adr G sc))] → W p l e (rmU 1 20 0 0) s m ([.ref (adr G sc)] : List Value).toArray below meth c H locs 0 0 (MQ below (QI G M o (goM M sc n) sz) ([.ref (adr G sc)] : List Value).toArray s 0 0 (pA G sz)) (F0 m 4 ls []) := by
    intro fuel_4
    induction fuel_4 with
    | zero =>
      intro i x hf hi hxx
      exact absurd hf (by omega)
    | succ fuel_4 ih_4 =>
      intro i x hf hi hxx H locs hP hS ls hl
      refine lv_iload_n hx hb dX2_passersGone_4 rfl (lv_at hl 0 rfl) ?_
      refine lv_aload_n hx hb dX2_passersGone_5 rfl (lv_at hl 2 rfl) ?_
      refine gf_X2_29 C0 hP (k := sc) (kdS hsc) dX2_passersGone_6 ?_
      refine lv_icmp_ge (tgt := 33) hx hb dX2_passersGone_9 (by decide) (fun c_1 => ?_) (fun c_1 => ?_)
      · rw [hn] at c_1
        have hi9 := lp_ge c_1 (by omega) hi
        refine lv_iload_n hx hb dX2_passersGone_33 rfl (lv_at hl 1 rfl) ?_
        exact e_Ii C0 hr hP hS (by rw [hxx, hi9]) (by decide) dX2_passersGone_34
      · rw [hn] at c_1
        have hlt := lp_lt c_1 (by omega) hi
        refine lv_aload_n hx hb dX2_passersGone_12 rfl (lv_at hl 2 rfl) ?_
        refine gf_X2_11 C0 hP (k := sc) (kdS hsc) dX2_passersGone_13 ?_
        refine lv_iload_n hx hb dX2_passersGone_16 rfl (lv_at hl 0 rfl) ?_
        refine w_aldP C0 hP (k := sc + 1) (i := i) (kdS1 hsc) (by omega) dX2_passersGone_17 ?_
        refine k_VNI C0 hP hS (rest := []) (c_X0_isGone l G M o (sc + 3 + i) (kdSp hsc (by omega))) mf_X0_isGone ml_X2_45 (kd_lt (kdSp hsc (by omega)) (by decide)) (ct_0 (kdSp hsc (by omega))) rfl hl.1 (by decide) (by decide) (Nat.le_of_ble_eq_true rfl) rfl rfl dX2_passersGone_18 (fun H locs hP hS => ?_)
        refine lv_if_eq (tgt := 27) hx hb dX2_passersGone_21 (by decide) (fun c_2 => ?_) (fun c_2 => ?_)
        · refine lv_iinc (v := nI (i + 1)) (lv' := [(2, .int (nI (i + 1))), (1, .int x), (0, .ref (adr G sc))]) hx hb dX2_passersGone_27 hl (k := 0) rfl (nI_1 i) (by decide) rfl (fun ls hl => ?_)
          refine lv_goto (tgt := 4) hx hb dX2_passersGone_30 (by decide) ?_
          exact ih_4 (i + 1) _ (by omega) (by omega) (by rw [hxx]; simp [goM, cntF, c_1, c_2]) _ _ hP hS _ (lv_sub hl [0, 1, 2] rfl)
        · refine lv_iinc (v := x + 1) (lv' := [(1, .int (x + 1)), (2, .int (nI i)), (0, .ref (adr G sc))]) hx hb dX2_passersGone_24 hl (k := 1) rfl rfl (by decide) rfl (fun ls hl => ?_)
          refine lv_iinc (v := nI (i + 1)) (lv' := [(2, .int (nI (i + 1))), (1, .int (x + 1)), (0, .ref (adr G sc))]) hx hb dX2_passersGone_27 hl (k := 1) rfl (nI_1 i) (by decide) rfl (fun ls hl => ?_)
          refine lv_goto (tgt := 4) hx hb dX2_passersGone_30 (by decide) ?_
          exact ih_4 (i + 1) _ (by omega) (by omega) (by rw [hxx]; simp [goM, cntF, c_1, c_2]) _ _ hP hS _ (lv_sub hl [0, 1, 2] rfl)
  exact loop_4 (n + 1) 0 0 (by omega) (by omega) rfl _ _ hP hS _ (lv_sub hl [0, 1, 2] rfl)

set_option maxHeartbeats 4000000 in
set_option maxRecDepth 100000 in
theorem c_X2_passersAt (l : Launch) (G : GG) (M : Mem) (o : Nat → Int64) (sc : Nat) (v : Int32) (n : Nat) (hsc : sc = 4 ∨ sc = 25) (hn : M sc 1 = nI n) (hle : n ≤ 10) : MI l yX2_passersAt cX2_passersAt 4 (some .int) 1 20 G [.ref (adr G sc), .int v] M M o o (paM M sc v n) 0 0 := by
  refine MI_of RX2 rfl (by decide +kernel) (Nat.le_of_ble_eq_true rfl) ?_
  intro p e s m below meth c sz C0 hr hP ls hl
  have hx := C0.1
  have hb := C0.2.1
  have hS : va_S (pA G sz) s.heap s.heap [] := va_S.rf
  have hl : lv_has ls 4 [(0, .ref (adr G sc)), (1, .int v)] := hl
  refine lv_iconst (v := 0) hx hb dX2_passersAt_0 (by decide) ?_
  refine lv_istore_n (lv' := [(2, .int 0), (0, .ref (adr G sc)), (1, .int v)]) hx hb dX2_passersAt_1 rfl hl (by decide) rfl (fun ls hl => ?_)
  refine lv_iconst (v := 0) hx hb dX2_passersAt_2 (by decide) ?_
  refine lv_istore_n (lv' := [(3, .int 0), (2, .int 0), (0, .ref (adr G sc)), (1, .int v)]) hx hb dX2_passersAt_3 rfl hl (by decide) rfl (fun ls hl => ?_)
  have loop_4 : ∀ (fuel_4 : Nat) (i : Nat) (x : Int32), n + 1 ≤ i + fuel_4 → (i ≤ n) → (x = paM M sc v i) → ∀ (H : Heap) (locs : List Loc), PW G M o H → va_S (pA G sz) s.heap H locs → ∀ ls : Array Slot, lv_has ls 4 [(3, .int (nI i)), (2, .int x), (0, .ref (adr G sc)), (1, .int v)] → W p l e (rmU 1 20 0 0) s m ([.ref (adr G sc), .int v] : List Value).toArray below meth c H locs 0 0 (MQ below (QI G M o (paM M sc v n) sz) ([.ref (adr G sc), .int v] : List Value).toArray s 0 0 (pA G sz)) (F0 m 4 ls []) := by
    intro fuel_4
    induction fuel_4 with
    | zero =>
      intro i x hf hi hxx
      exact absurd hf (by omega)
    | succ fuel_4 ih_4 =>
      intro i x hf hi hxx H locs hP hS ls hl
      refine lv_iload_n hx hb dX2_passersAt_4 rfl (lv_at hl 0 rfl) ?_
      refine lv_aload_n hx hb dX2_passersAt_5 rfl (lv_at hl 2 rfl) ?_
      refine gf_X2_29 C0 hP (k := sc) (kdS hsc) dX2_passersAt_6 ?_
      refine lv_icmp_ge (tgt := 46) hx hb dX2_passersAt_9 (by decide) (fun c_1 => ?_) (fun c_1 => ?_)
      · rw [hn] at c_1
        have hi9 := lp_ge c_1 (by omega) hi
        refine lv_iload_n hx hb dX2_passersAt_46 rfl (lv_at hl 1 rfl) ?_
        exact e_Ii C0 hr hP hS (by rw [hxx, hi9]) (by decide) dX2_passersAt_47
      · rw [hn] at c_1
        have hlt := lp_lt c_1 (by omega) hi
        refine lv_aload_n hx hb dX2_passersAt_12 rfl (lv_at hl 2 rfl) ?_
        refine gf_X2_11 C0 hP (k := sc) (kdS hsc) dX2_passersAt_13 ?_
        refine lv_iload_n hx hb dX2_passersAt_16 rfl (lv_at hl 0 rfl) ?_
        refine w_aldP C0 hP (k := sc + 1) (i := i) (kdS1 hsc) (by omega) dX2_passersAt_17 ?_
        refine k_VNI C0 hP hS (rest := []) (c_X0_isGone l G M o (sc + 3 + i) (kdSp hsc (by omega))) mf_X0_isGone ml_X2_45 (kd_lt (kdSp hsc (by omega)) (by decide)) (ct_0 (kdSp hsc (by omega))) rfl hl.1 (by decide) (by decide) (Nat.le_of_ble_eq_true rfl) rfl rfl dX2_passersAt_18 (fun H locs hP hS => ?_)
        refine lv_if_ne (tgt := 40) hx hb dX2_passersAt_21 (by decide) (fun c_2 => ?_) (fun c_2 => ?_)
        · refine lv_iinc (v := nI (i + 1)) (lv' := [(3, .int (nI (i + 1))), (2, .int x), (0, .ref (adr G sc)), (1, .int v)]) hx hb dX2_passersAt_40 hl (k := 0) rfl (nI_1 i) (by decide) rfl (fun ls hl => ?_)
          refine lv_goto (tgt := 4) hx hb dX2_passersAt_43 (by decide) ?_
          exact ih_4 (i + 1) _ (by omega) (by omega) (by rw [hxx]; simp [paM, cntF, atF, c_1, c_2]) _ _ hP hS _ (lv_sub hl [0, 1, 2, 3] rfl)
        · refine lv_aload_n hx hb dX2_passersAt_24 rfl (lv_at hl 2 rfl) ?_
          refine gf_X2_11 C0 hP (k := sc) (kdS hsc) dX2_passersAt_25 ?_
          refine lv_iload_n hx hb dX2_passersAt_28 rfl (lv_at hl 0 rfl) ?_
          refine w_aldP C0 hP (k := sc + 1) (i := i) (kdS1 hsc) (by omega) dX2_passersAt_29 ?_
          refine gf_X2_49 C0 hP (k := sc + 3 + i) (kdSp hsc (by omega)) dX2_passersAt_30 ?_
          refine lv_iload_n hx hb dX2_passersAt_33 rfl (lv_at hl 3 rfl) ?_
          refine lv_icmp_ne (tgt := 40) hx hb dX2_passersAt_34 (by decide) (fun c_3 => ?_) (fun c_3 => ?_)
          · refine lv_iinc (v := nI (i + 1)) (lv' := [(3, .int (nI (i + 1))), (2, .int x), (0, .ref (adr G sc)), (1, .int v)]) hx hb dX2_passersAt_40 hl (k := 0) rfl (nI_1 i) (by decide) rfl (fun ls hl => ?_)
            refine lv_goto (tgt := 4) hx hb dX2_passersAt_43 (by decide) ?_
            exact ih_4 (i + 1) _ (by omega) (by omega) (by rw [hxx]; simp [paM, cntF, atF, c_1, c_2, c_3]) _ _ hP hS _ (lv_sub hl [0, 1, 2, 3] rfl)
          · replace c_3 := eq_true c_3
            refine lv_iinc (v := x + 1) (lv' := [(2, .int (x + 1)), (3, .int (nI i)), (0, .ref (adr G sc)), (1, .int v)]) hx hb dX2_passersAt_37 hl (k := 1) rfl rfl (by decide) rfl (fun ls hl => ?_)
            refine lv_iinc (v := nI (i + 1)) (lv' := [(3, .int (nI (i + 1))), (2, .int (x + 1)), (0, .ref (adr G sc)), (1, .int v)]) hx hb dX2_passersAt_40 hl (k := 1) rfl (nI_1 i) (by decide) rfl (fun ls hl => ?_)
            refine lv_goto (tgt := 4) hx hb dX2_passersAt_43 (by decide) ?_
            exact ih_4 (i + 1) _ (by omega) (by omega) (by rw [hxx]; simp [paM, cntF, atF, c_1, c_2, c_3]) _ _ hP hS _ (lv_sub hl [0, 1, 2, 3] rfl)
  exact loop_4 (n + 1) 0 0 (by omega) (by omega) rfl _ _ hP hS _ (lv_sub hl [0, 1, 2, 3] rfl)

set_option maxHeartbeats 4000000 in
set_option maxRecDepth 100000 in
theorem c_X2_allPeople (l : Launch) (G : GG) (M : Mem) (o : Nat → Int64) (sc : Nat) (n : Nat) (hsc : sc = 4 ∨ sc = 25) (hn : M sc 2 = nI n) (hle : n ≤ 8) : MI l yX2_allPeople cX2_allPeople 3 (some .int) 0 0 G [.ref (adr G sc)] M M o o (peM M sc n) 0 0 := by
  refine MI_of RX2 rfl (by decide +kernel) (Nat.le_of_ble_eq_true rfl) ?_
  intro p e s m below meth c sz C0 hr hP ls hl
  have hx := C0.1
  have hb := C0.2.1
  have hS : va_S (pA G sz) s.heap s.heap [] := va_S.rf
  have hl : lv_has ls 3 [(0, .ref (adr G sc))] := hl
  refine lv_iconst (v := 0) hx hb dX2_allPeople_0 (by decide) ?_
  refine lv_istore_n (lv' := [(1, .int 0), (0, .ref (adr G sc))]) hx hb dX2_allPeople_1 rfl hl (by decide) rfl (fun ls hl => ?_)
  refine lv_iconst (v := 0) hx hb dX2_allPeople_2 (by decide) ?_
  refine lv_istore_n (lv' := [(2, .int 0), (1, .int 0), (0, .ref (adr G sc))]) hx hb dX2_allPeople_3 rfl hl (by decide) rfl (fun ls hl => ?_)
  have loop_4 : ∀ (fuel_4 : Nat) (i : Nat) (x : Int32), n + 1 ≤ i + fuel_4 → (i ≤ n) → (x = peM M sc i) → ∀ (H : Heap) (locs : List Loc), PW G M o H → va_S (pA G sz) s.heap H locs → ∀ ls : Array Slot, lv_has ls 3 [(2, .int (nI i)), (1, .int x), (0, .ref (adr G sc))] → W p l e (rmU 0 0 0 0) s m ([.ref (adr G sc)] : List Value).toArray below meth c H locs 0 0 (MQ below (QI G M o (peM M sc n) sz) ([.ref (adr G sc)] : List Value).toArray s 0 0 (pA G sz)) (F0 m 4 ls []) := by
    intro fuel_4
    induction fuel_4 with
    | zero =>
      intro i x hf hi hxx
      exact absurd hf (by omega)
    | succ fuel_4 ih_4 =>
      intro i x hf hi hxx H locs hP hS ls hl
      refine lv_iload_n hx hb dX2_allPeople_4 rfl (lv_at hl 0 rfl) ?_
      refine lv_aload_n hx hb dX2_allPeople_5 rfl (lv_at hl 2 rfl) ?_
      refine gf_X2_32 C0 hP (k := sc) (kdS hsc) dX2_allPeople_6 ?_
      refine lv_icmp_ge (tgt := 30) hx hb dX2_allPeople_9 (by decide) (fun c_1 => ?_) (fun c_1 => ?_)
      · rw [hn] at c_1
        have hi9 := lp_ge c_1 (by omega) hi
        refine lv_iload_n hx hb dX2_allPeople_30 rfl (lv_at hl 1 rfl) ?_
        exact e_Ii C0 hr hP hS (by rw [hxx, hi9]) (by decide) dX2_allPeople_31
      · rw [hn] at c_1
        have hlt := lp_lt c_1 (by omega) hi
        refine lv_iload_n hx hb dX2_allPeople_12 rfl (lv_at hl 1 rfl) ?_
        refine lv_aload_n hx hb dX2_allPeople_13 rfl (lv_at hl 2 rfl) ?_
        refine gf_X2_19 C0 hP (k := sc) (kdS hsc) dX2_allPeople_14 ?_
        refine lv_iload_n hx hb dX2_allPeople_17 rfl (lv_at hl 0 rfl) ?_
        refine w_aldR C0 hP (k := sc + 2) (i := i) (kdS2 hsc) (by omega) dX2_allPeople_18 ?_
        refine gf_X2_62 C0 hP (k := sc + 13 + i) (kdSr hsc (by omega)) dX2_allPeople_19 ?_
        refine lv_iadd hx hb dX2_allPeople_22 ?_
        refine lv_istore_n (lv' := [(1, .int (x + (M (sc + 13 + i) 5))), (2, .int (nI i)), (0, .ref (adr G sc))]) hx hb dX2_allPeople_23 rfl hl (by decide) rfl (fun ls hl => ?_)
        refine lv_iinc (v := nI (i + 1)) (lv' := [(2, .int (nI (i + 1))), (1, .int (x + (M (sc + 13 + i) 5))), (0, .ref (adr G sc))]) hx hb dX2_allPeople_24 hl (k := 1) rfl (nI_1 i) (by decide) rfl (fun ls hl => ?_)
        refine lv_goto (tgt := 4) hx hb dX2_allPeople_27 (by decide) ?_
        exact ih_4 (i + 1) _ (by omega) (by omega) (by rw [hxx]; simp [peM, sumF, c_1]) _ _ hP hS _ (lv_sub hl [0, 1, 2] rfl)
  exact loop_4 (n + 1) 0 0 (by omega) (by omega) rfl _ _ hP hS _ (lv_sub hl [0, 1, 2] rfl)

set_option maxHeartbeats 4000000 in
set_option maxRecDepth 100000 in
theorem c_X2_allPence (l : Launch) (G : GG) (M : Mem) (o : Nat → Int64) (sc : Nat) (n : Nat) (hsc : sc = 4 ∨ sc = 25) (hn : M sc 2 = nI n) (hle : n ≤ 8) : MI l yX2_allPence cX2_allPence 3 (some .int) 0 0 G [.ref (adr G sc)] M M o o (pnM M sc n) 0 0 := by
  refine MI_of RX2 rfl (by decide +kernel) (Nat.le_of_ble_eq_true rfl) ?_
  intro p e s m below meth c sz C0 hr hP ls hl
  have hx := C0.1
  have hb := C0.2.1
  have hS : va_S (pA G sz) s.heap s.heap [] := va_S.rf
  have hl : lv_has ls 3 [(0, .ref (adr G sc))] := hl
  refine lv_iconst (v := 0) hx hb dX2_allPence_0 (by decide) ?_
  refine lv_istore_n (lv' := [(1, .int 0), (0, .ref (adr G sc))]) hx hb dX2_allPence_1 rfl hl (by decide) rfl (fun ls hl => ?_)
  refine lv_iconst (v := 0) hx hb dX2_allPence_2 (by decide) ?_
  refine lv_istore_n (lv' := [(2, .int 0), (1, .int 0), (0, .ref (adr G sc))]) hx hb dX2_allPence_3 rfl hl (by decide) rfl (fun ls hl => ?_)
  have loop_4 : ∀ (fuel_4 : Nat) (i : Nat) (x : Int32), n + 1 ≤ i + fuel_4 → (i ≤ n) → (x = pnM M sc i) → ∀ (H : Heap) (locs : List Loc), PW G M o H → va_S (pA G sz) s.heap H locs → ∀ ls : Array Slot, lv_has ls 3 [(2, .int (nI i)), (1, .int x), (0, .ref (adr G sc))] → W p l e (rmU 0 0 0 0) s m ([.ref (adr G sc)] : List Value).toArray below meth c H locs 0 0 (MQ below (QI G M o (pnM M sc n) sz) ([.ref (adr G sc)] : List Value).toArray s 0 0 (pA G sz)) (F0 m 4 ls []) := by
    intro fuel_4
    induction fuel_4 with
    | zero =>
      intro i x hf hi hxx
      exact absurd hf (by omega)
    | succ fuel_4 ih_4 =>
      intro i x hf hi hxx H locs hP hS ls hl
      refine lv_iload_n hx hb dX2_allPence_4 rfl (lv_at hl 0 rfl) ?_
      refine lv_aload_n hx hb dX2_allPence_5 rfl (lv_at hl 2 rfl) ?_
      refine gf_X2_32 C0 hP (k := sc) (kdS hsc) dX2_allPence_6 ?_
      refine lv_icmp_ge (tgt := 30) hx hb dX2_allPence_9 (by decide) (fun c_1 => ?_) (fun c_1 => ?_)
      · rw [hn] at c_1
        have hi9 := lp_ge c_1 (by omega) hi
        refine lv_iload_n hx hb dX2_allPence_30 rfl (lv_at hl 1 rfl) ?_
        exact e_Ii C0 hr hP hS (by rw [hxx, hi9]) (by decide) dX2_allPence_31
      · rw [hn] at c_1
        have hlt := lp_lt c_1 (by omega) hi
        refine lv_iload_n hx hb dX2_allPence_12 rfl (lv_at hl 1 rfl) ?_
        refine lv_aload_n hx hb dX2_allPence_13 rfl (lv_at hl 2 rfl) ?_
        refine gf_X2_19 C0 hP (k := sc) (kdS hsc) dX2_allPence_14 ?_
        refine lv_iload_n hx hb dX2_allPence_17 rfl (lv_at hl 0 rfl) ?_
        refine w_aldR C0 hP (k := sc + 2) (i := i) (kdS2 hsc) (by omega) dX2_allPence_18 ?_
        refine gf_X2_65 C0 hP (k := sc + 13 + i) (kdSr hsc (by omega)) dX2_allPence_19 ?_
        refine lv_iadd hx hb dX2_allPence_22 ?_
        refine lv_istore_n (lv' := [(1, .int (x + (M (sc + 13 + i) 6))), (2, .int (nI i)), (0, .ref (adr G sc))]) hx hb dX2_allPence_23 rfl hl (by decide) rfl (fun ls hl => ?_)
        refine lv_iinc (v := nI (i + 1)) (lv' := [(2, .int (nI (i + 1))), (1, .int (x + (M (sc + 13 + i) 6))), (0, .ref (adr G sc))]) hx hb dX2_allPence_24 hl (k := 1) rfl (nI_1 i) (by decide) rfl (fun ls hl => ?_)
        refine lv_goto (tgt := 4) hx hb dX2_allPence_27 (by decide) ?_
        exact ih_4 (i + 1) _ (by omega) (by omega) (by rw [hxx]; simp [pnM, sumF, c_1]) _ _ hP hS _ (lv_sub hl [0, 1, 2] rfl)
  exact loop_4 (n + 1) 0 0 (by omega) (by omega) rfl _ _ hP hS _ (lv_sub hl [0, 1, 2] rfl)

set_option maxHeartbeats 4000000 in
set_option maxRecDepth 100000 in
theorem c_X2_allShows (l : Launch) (G : GG) (M : Mem) (o : Nat → Int64) (sc : Nat) (li : Int32) (np n : Nat) (hsc : sc = 4 ∨ sc = 25) (hnp : M sc 1 = nI np) (hple : np ≤ 10) (hn : M sc 2 = nI n) (hle : n ≤ 8) : MI l yX2_allShows cX2_allShows 4 (some .int) 4 88 G [.ref (adr G sc), .int li] M M o o (asM M sc li np n) 0 0 := by
  refine MI_of RX2 rfl (by decide +kernel) (Nat.le_of_ble_eq_true rfl) ?_
  intro p e s m below meth c sz C0 hr hP ls hl
  have hx := C0.1
  have hb := C0.2.1
  have hS : va_S (pA G sz) s.heap s.heap [] := va_S.rf
  have hl : lv_has ls 4 [(0, .ref (adr G sc)), (1, .int li)] := hl
  refine lv_iconst (v := 0) hx hb dX2_allShows_0 (by decide) ?_
  refine lv_istore_n (lv' := [(2, .int 0), (0, .ref (adr G sc)), (1, .int li)]) hx hb dX2_allShows_1 rfl hl (by decide) rfl (fun ls hl => ?_)
  refine lv_iconst (v := 0) hx hb dX2_allShows_2 (by decide) ?_
  refine lv_istore_n (lv' := [(3, .int 0), (2, .int 0), (0, .ref (adr G sc)), (1, .int li)]) hx hb dX2_allShows_3 rfl hl (by decide) rfl (fun ls hl => ?_)
  have loop_4 : ∀ (fuel_4 : Nat) (i : Nat) (x : Int32), n + 1 ≤ i + fuel_4 → (i ≤ n) → (x = asM M sc li np i) → ∀ (H : Heap) (locs : List Loc), PW G M o H → va_S (pA G sz) s.heap H locs → ∀ ls : Array Slot, lv_has ls 4 [(3, .int (nI i)), (2, .int x), (0, .ref (adr G sc)), (1, .int li)] → W p l e (rmU 4 88 0 0) s m ([.ref (adr G sc), .int li] : List Value).toArray below meth c H locs 0 0 (MQ below (QI G M o (asM M sc li np n) sz) ([.ref (adr G sc), .int li] : List Value).toArray s 0 0 (pA G sz)) (F0 m 4 ls []) := by
    intro fuel_4
    induction fuel_4 with
    | zero =>
      intro i x hf hi hxx
      exact absurd hf (by omega)
    | succ fuel_4 ih_4 =>
      intro i x hf hi hxx H locs hP hS ls hl
      refine lv_iload_n hx hb dX2_allShows_4 rfl (lv_at hl 0 rfl) ?_
      refine lv_aload_n hx hb dX2_allShows_5 rfl (lv_at hl 2 rfl) ?_
      refine gf_X2_32 C0 hP (k := sc) (kdS hsc) dX2_allShows_6 ?_
      refine lv_icmp_ge (tgt := 32) hx hb dX2_allShows_9 (by decide) (fun c_1 => ?_) (fun c_1 => ?_)
      · rw [hn] at c_1
        have hi9 := lp_ge c_1 (by omega) hi
        refine lv_iload_n hx hb dX2_allShows_32 rfl (lv_at hl 1 rfl) ?_
        exact e_Ii C0 hr hP hS (by rw [hxx, hi9]) (by decide) dX2_allShows_33
      · rw [hn] at c_1
        have hlt := lp_lt c_1 (by omega) hi
        refine lv_iload_n hx hb dX2_allShows_12 rfl (lv_at hl 1 rfl) ?_
        refine lv_aload_n hx hb dX2_allShows_13 rfl (lv_at hl 2 rfl) ?_
        refine lv_aload_n hx hb dX2_allShows_14 rfl (lv_at hl 2 rfl) ?_
        refine gf_X2_19 C0 hP (k := sc) (kdS hsc) dX2_allShows_15 ?_
        refine lv_iload_n hx hb dX2_allShows_18 rfl (lv_at hl 0 rfl) ?_
        refine w_aldR C0 hP (k := sc + 2) (i := i) (kdS2 hsc) (by omega) dX2_allShows_19 ?_
        refine lv_iload_n hx hb dX2_allShows_20 rfl (lv_at hl 3 rfl) ?_
        refine k_VI C0 hP hS (rest := [.int x]) (c_X2_showIn l G M o sc (sc + 13 + i) li np hsc (kdSr hsc (by omega)) hnp hple) mf_X2_showIn ml_X2_58 (kd_lt (kdS hsc) (by decide)) (ct_2 (kdS hsc)) rfl hl.1 (by decide) (by decide) (Nat.le_of_ble_eq_true rfl) rfl rfl dX2_allShows_21 (fun H locs hP hS => ?_)
        refine lv_iadd hx hb dX2_allShows_24 ?_
        refine lv_istore_n (lv' := [(2, .int (x + (siM M sc (sc + 13 + i) li np))), (3, .int (nI i)), (0, .ref (adr G sc)), (1, .int li)]) hx hb dX2_allShows_25 rfl hl (by decide) rfl (fun ls hl => ?_)
        refine lv_iinc (v := nI (i + 1)) (lv' := [(3, .int (nI (i + 1))), (2, .int (x + (siM M sc (sc + 13 + i) li np))), (0, .ref (adr G sc)), (1, .int li)]) hx hb dX2_allShows_26 hl (k := 1) rfl (nI_1 i) (by decide) rfl (fun ls hl => ?_)
        refine lv_goto (tgt := 4) hx hb dX2_allShows_29 (by decide) ?_
        exact ih_4 (i + 1) _ (by omega) (by omega) (by rw [hxx]; simp [asM, sumF, c_1]) _ _ hP hS _ (lv_sub hl [0, 1, 2, 3] rfl)
  exact loop_4 (n + 1) 0 0 (by omega) (by omega) rfl _ _ hP hS _ (lv_sub hl [0, 1, 2, 3] rfl)

set_option maxHeartbeats 4000000 in
set_option maxRecDepth 100000 in
theorem c_X2_hasHoleAt (l : Launch) (G : GG) (M : Mem) (o : Nat → Int64) (sc : Nat) (v : Int32) (n : Nat) (hsc : sc = 4 ∨ sc = 25) (hn : M sc 2 = nI n) (hle : n ≤ 8) : MI l yX2_hasHoleAt cX2_hasHoleAt 3 (some .boolean) 0 0 G [.ref (adr G sc), .int v] M M o o (hhM M sc v n) 0 0 := by
  refine MI_of RX2 rfl (by decide +kernel) (Nat.le_of_ble_eq_true rfl) ?_
  intro p e s m below meth c sz C0 hr hP ls hl
  have hx := C0.1
  have hb := C0.2.1
  have hS : va_S (pA G sz) s.heap s.heap [] := va_S.rf
  have hl : lv_has ls 3 [(0, .ref (adr G sc)), (1, .int v)] := hl
  refine lv_iconst (v := 0) hx hb dX2_hasHoleAt_0 (by decide) ?_
  refine lv_istore_n (lv' := [(2, .int 0), (0, .ref (adr G sc)), (1, .int v)]) hx hb dX2_hasHoleAt_1 rfl hl (by decide) rfl (fun ls hl => ?_)
  have loop_2 : ∀ (fuel_2 : Nat) (i : Nat), n + 1 ≤ i + fuel_2 → (i ≤ n) → (∀ j, j < i → hhF (M (sc + 13 + j) 0) v = 0) → ∀ (H : Heap) (locs : List Loc), PW G M o H → va_S (pA G sz) s.heap H locs → ∀ ls : Array Slot, lv_has ls 3 [(2, .int (nI i)), (0, .ref (adr G sc)), (1, .int v)] → W p l e (rmU 0 0 0 0) s m ([.ref (adr G sc), .int v] : List Value).toArray below meth c H locs 0 0 (MQ below (QI G M o (hhM M sc v n) sz) ([.ref (adr G sc), .int v] : List Value).toArray s 0 0 (pA G sz)) (F0 m 2 ls []) := by
    intro fuel_2
    induction fuel_2 with
    | zero =>
      intro i hf hi hno
      exact absurd hf (by omega)
    | succ fuel_2 ih_2 =>
      intro i hf hi hno H locs hP hS ls hl
      refine lv_iload_n hx hb dX2_hasHoleAt_2 rfl (lv_at hl 0 rfl) ?_
      refine lv_aload_n hx hb dX2_hasHoleAt_3 rfl (lv_at hl 1 rfl) ?_
      refine gf_X2_32 C0 hP (k := sc) (kdS hsc) dX2_hasHoleAt_4 ?_
      refine lv_icmp_ge (tgt := 31) hx hb dX2_hasHoleAt_7 (by decide) (fun c_1 => ?_) (fun c_1 => ?_)
      · rw [hn] at c_1
        have hi9 := lp_ge c_1 (by omega) hi
        refine lv_iconst (v := 0) hx hb dX2_hasHoleAt_31 (by decide) ?_
        exact e_I (ty := .boolean) C0 hr (by decide +kernel) hP hS (by rw [hhM, anyF_no (fun j hj => hno j (by omega))]) (by decide) dX2_hasHoleAt_32
      · rw [hn] at c_1
        have hlt := lp_lt c_1 (by omega) hi
        refine lv_aload_n hx hb dX2_hasHoleAt_10 rfl (lv_at hl 1 rfl) ?_
        refine gf_X2_19 C0 hP (k := sc) (kdS hsc) dX2_hasHoleAt_11 ?_
        refine lv_iload_n hx hb dX2_hasHoleAt_14 rfl (lv_at hl 0 rfl) ?_
        refine w_aldR C0 hP (k := sc + 2) (i := i) (kdS2 hsc) (by omega) dX2_hasHoleAt_15 ?_
        refine gf_X2_42 C0 hP (k := sc + 13 + i) (kdSr hsc (by omega)) dX2_hasHoleAt_16 ?_
        refine lv_iload_n hx hb dX2_hasHoleAt_19 rfl (lv_at hl 2 rfl) ?_
        refine lv_icmp_ne (tgt := 25) hx hb dX2_hasHoleAt_20 (by decide) (fun c_2 => ?_) (fun c_2 => ?_)
        · refine lv_iinc (v := nI (i + 1)) (lv' := [(2, .int (nI (i + 1))), (0, .ref (adr G sc)), (1, .int v)]) hx hb dX2_hasHoleAt_25 hl (k := 0) rfl (nI_1 i) (by decide) rfl (fun ls hl => ?_)
          refine lv_goto (tgt := 2) hx hb dX2_hasHoleAt_28 (by decide) ?_
          exact ih_2 (i + 1) (by omega) (by omega) (fun j hj => by rcases Nat.lt_succ_iff_lt_or_eq.mp hj with z | z; exact hno j z; subst z; simp [hhF, c_1, c_2]) _ _ hP hS _ (lv_sub hl [0, 1, 2] rfl)
        · refine lv_iconst (v := 1) hx hb dX2_hasHoleAt_23 (by decide) ?_
          exact e_I (ty := .boolean) C0 hr (by decide +kernel) hP hS (by rw [hhM, anyF_hit (i := i) (by simp [hhF, c_1, c_2]) hlt]) (by decide) dX2_hasHoleAt_24
  exact loop_2 (n + 1) 0 (by omega) (by omega) (fun j hj => absurd hj (Nat.not_lt_zero j)) _ _ hP hS _ (lv_sub hl [0, 1, 2] rfl)

set_option maxHeartbeats 4000000 in
set_option maxRecDepth 100000 in
theorem c_X2_passersWalk (l : Launch) (G : GG) (M : Mem) (o : Nat → Int64) (sc : Nat) (n : Nat) (hsc : sc = 4 ∨ sc = 25) (hn : M sc 1 = nI n) (hle : n ≤ 10) : MV l yX2_passersWalk cX2_passersWalk 2 none 2 40 G [.ref (adr G sc)] M (pwM M sc n) o o 0 0 := by
  refine MV_of RX2 rfl (by decide +kernel) (Nat.le_of_ble_eq_true rfl) ?_
  intro p e s m below meth c sz C0 hr hP ls hl
  have hx := C0.1
  have hb := C0.2.1
  have hS : va_S (pA G sz) s.heap s.heap [] := va_S.rf
  have hl : lv_has ls 2 [(0, .ref (adr G sc))] := hl
  refine lv_iconst (v := 0) hx hb dX2_passersWalk_0 (by decide) ?_
  refine lv_istore_n (lv' := [(1, .int 0), (0, .ref (adr G sc))]) hx hb dX2_passersWalk_1 rfl hl (by decide) rfl (fun ls hl => ?_)
  have loop_2 : ∀ (fuel_2 : Nat) (i : Nat), n + 1 ≤ i + fuel_2 → (i ≤ n) → ∀ (H : Heap) (locs : List Loc), PW G (pwM M sc i) o H → va_S (pA G sz) s.heap H locs → ∀ ls : Array Slot, lv_has ls 2 [(1, .int (nI i)), (0, .ref (adr G sc))] → W p l e (rmU 2 40 0 0) s m ([.ref (adr G sc)] : List Value).toArray below meth c H locs 0 0 (MQ below (QV G (pwM M sc n) o sz) ([.ref (adr G sc)] : List Value).toArray s 0 0 (pA G sz)) (F0 m 2 ls []) := by
    intro fuel_2
    induction fuel_2 with
    | zero =>
      intro i hf hi
      exact absurd hf (by omega)
    | succ fuel_2 ih_2 =>
      intro i hf hi H locs hP hS ls hl
      refine lv_iload_n hx hb dX2_passersWalk_2 rfl (lv_at hl 0 rfl) ?_
      refine lv_aload_n hx hb dX2_passersWalk_3 rfl (lv_at hl 1 rfl) ?_
      refine gf_X2_29 C0 hP (k := sc) (kdS hsc) dX2_passersWalk_4 ?_
      refine lv_icmp_ge (tgt := 25) hx hb dX2_passersWalk_7 (by decide) (fun c_1 => ?_) (fun c_1 => ?_)
      · rw [pwM_sl (by omega), hn] at c_1
        have hi9 := lp_ge c_1 (by omega) hi
        have hP := PW_eq (M' := pwM M sc n) (by rw [hi9]) hP
        exact e_V C0 hr hP hS (by decide) dX2_passersWalk_25
      · rw [pwM_sl (by omega), hn] at c_1
        have hlt := lp_lt c_1 (by omega) hi
        refine lv_aload_n hx hb dX2_passersWalk_10 rfl (lv_at hl 1 rfl) ?_
        refine gf_X2_11 C0 hP (k := sc) (kdS hsc) dX2_passersWalk_11 ?_
        refine lv_iload_n hx hb dX2_passersWalk_14 rfl (lv_at hl 0 rfl) ?_
        refine w_aldP C0 hP (k := sc + 1) (i := i) (kdS1 hsc) (by omega) dX2_passersWalk_15 ?_
        refine k_VNV C0 hP hS (rest := []) (c_X0_walk l G (pwM M sc i) o (sc + 3 + i) (kdSp hsc (by omega))) mf_X0_walk ml_X2_68 (kd_lt (kdSp hsc (by omega)) (by decide)) (ct_0 (kdSp hsc (by omega))) rfl hl.1 (by decide) (by decide) (Nat.le_of_ble_eq_true rfl) rfl rfl dX2_passersWalk_16 (fun H locs hP hS => ?_)
        refine lv_iinc (v := nI (i + 1)) (lv' := [(1, .int (nI (i + 1))), (0, .ref (adr G sc))]) hx hb dX2_passersWalk_19 hl (k := 0) rfl (nI_1 i) (by decide) rfl (fun ls hl => ?_)
        refine lv_goto (tgt := 2) hx hb dX2_passersWalk_22 (by decide) ?_
        have hP := PW_eq (M' := pwM M sc (i + 1)) pwM_s hP
        exact ih_2 (i + 1) (by omega) (by omega) _ _ hP hS _ (lv_sub hl [0, 1] rfl)
  have hP := PW_eq (M' := pwM M sc 0) pwM_0.symm hP
  exact loop_2 (n + 1) 0 (by omega) (by omega) _ _ hP hS _ (lv_sub hl [0, 1] rfl)

set_option maxHeartbeats 4000000 in
set_option maxRecDepth 100000 in
theorem c_X2_roomsPay (l : Launch) (G : GG) (M : Mem) (o : Nat → Int64) (sc : Nat) (li : Int32) (np n : Nat) (hsc : sc = 4 ∨ sc = 25) (hnp : M sc 1 = nI np) (hple : np ≤ 10) (hn : M sc 2 = nI n) (hle : n ≤ 8) : MI l yX2_roomsPay cX2_roomsPay 4 (some .int) 4 88 G [.ref (adr G sc), .int li] M (rpM M sc li np n) o o (rpS M sc li np n) 0 0 := by
  refine MI_of RX2 rfl (by decide +kernel) (Nat.le_of_ble_eq_true rfl) ?_
  intro p e s m below meth c sz C0 hr hP ls hl
  have hx := C0.1
  have hb := C0.2.1
  have hS : va_S (pA G sz) s.heap s.heap [] := va_S.rf
  have hl : lv_has ls 4 [(0, .ref (adr G sc)), (1, .int li)] := hl
  refine lv_iconst (v := 0) hx hb dX2_roomsPay_0 (by decide) ?_
  refine lv_istore_n (lv' := [(2, .int 0), (0, .ref (adr G sc)), (1, .int li)]) hx hb dX2_roomsPay_1 rfl hl (by decide) rfl (fun ls hl => ?_)
  refine lv_iconst (v := 0) hx hb dX2_roomsPay_2 (by decide) ?_
  refine lv_istore_n (lv' := [(3, .int 0), (2, .int 0), (0, .ref (adr G sc)), (1, .int li)]) hx hb dX2_roomsPay_3 rfl hl (by decide) rfl (fun ls hl => ?_)
  have loop_4 : ∀ (fuel_4 : Nat) (i : Nat) (x : Int32), n + 1 ≤ i + fuel_4 → (i ≤ n) → (x = rpS M sc li np i) → ∀ (H : Heap) (locs : List Loc), PW G (rpM M sc li np i) o H → va_S (pA G sz) s.heap H locs → ∀ ls : Array Slot, lv_has ls 4 [(3, .int (nI i)), (2, .int x), (0, .ref (adr G sc)), (1, .int li)] → W p l e (rmU 4 88 0 0) s m ([.ref (adr G sc), .int li] : List Value).toArray below meth c H locs 0 0 (MQ below (QI G (rpM M sc li np n) o (rpS M sc li np n) sz) ([.ref (adr G sc), .int li] : List Value).toArray s 0 0 (pA G sz)) (F0 m 4 ls []) := by
    intro fuel_4
    induction fuel_4 with
    | zero =>
      intro i x hf hi hxx
      exact absurd hf (by omega)
    | succ fuel_4 ih_4 =>
      intro i x hf hi hxx H locs hP hS ls hl
      refine lv_iload_n hx hb dX2_roomsPay_4 rfl (lv_at hl 0 rfl) ?_
      refine lv_aload_n hx hb dX2_roomsPay_5 rfl (lv_at hl 2 rfl) ?_
      refine gf_X2_32 C0 hP (k := sc) (kdS hsc) dX2_roomsPay_6 ?_
      refine lv_icmp_ge (tgt := 41) hx hb dX2_roomsPay_9 (by decide) (fun c_1 => ?_) (fun c_1 => ?_)
      · rw [rpM_sl (by omega), hn] at c_1
        have hi9 := lp_ge c_1 (by omega) hi
        refine lv_iload_n hx hb dX2_roomsPay_41 rfl (lv_at hl 1 rfl) ?_
        have hP := PW_eq (M' := rpM M sc li np n) (by rw [hi9]) hP
        exact e_Ii C0 hr hP hS (by rw [hxx, hi9]) (by decide) dX2_roomsPay_42
      · rw [rpM_sl (by omega), hn] at c_1
        have hlt := lp_lt c_1 (by omega) hi
        refine lv_iload_n hx hb dX2_roomsPay_12 rfl (lv_at hl 1 rfl) ?_
        refine lv_aload_n hx hb dX2_roomsPay_13 rfl (lv_at hl 2 rfl) ?_
        refine gf_X2_19 C0 hP (k := sc) (kdS hsc) dX2_roomsPay_14 ?_
        refine lv_iload_n hx hb dX2_roomsPay_17 rfl (lv_at hl 0 rfl) ?_
        refine w_aldR C0 hP (k := sc + 2) (i := i) (kdS2 hsc) (by omega) dX2_roomsPay_18 ?_
        refine lv_aload_n hx hb dX2_roomsPay_19 rfl (lv_at hl 2 rfl) ?_
        refine lv_aload_n hx hb dX2_roomsPay_20 rfl (lv_at hl 2 rfl) ?_
        refine gf_X2_19 C0 hP (k := sc) (kdS hsc) dX2_roomsPay_21 ?_
        refine lv_iload_n hx hb dX2_roomsPay_24 rfl (lv_at hl 0 rfl) ?_
        refine w_aldR C0 hP (k := sc + 2) (i := i) (kdS2 hsc) (by omega) dX2_roomsPay_25 ?_
        refine lv_iload_n hx hb dX2_roomsPay_26 rfl (lv_at hl 3 rfl) ?_
        refine k_VI C0 hP hS (rest := [.ref (adr G (sc + 13 + i)), .int x]) (c_X2_showIn l G (rpM M sc li np i) o sc (sc + 13 + i) li np hsc (kdSr hsc (by omega)) (by rw [rpM_sl (by omega)]; exact hnp) hple) mf_X2_showIn ml_X2_58 (kd_lt (kdS hsc) (by decide)) (ct_2 (kdS hsc)) rfl hl.1 (by decide) (by decide) (Nat.le_of_ble_eq_true rfl) rfl rfl dX2_roomsPay_27 (fun H locs hP hS => ?_)
        refine k_VNI C0 hP hS (rest := [.int x]) (c_X1_pay l G (rpM M sc li np i) o (sc + 13 + i) (siM (rpM M sc li np i) sc (sc + 13 + i) li np) (kdSr hsc (by omega))) mf_X1_pay ml_X2_71 (kd_lt (kdSr hsc (by omega)) (by decide)) (ct_1 (kdSr hsc (by omega))) rfl hl.1 (by decide) (by decide) (Nat.le_of_ble_eq_true rfl) rfl rfl dX2_roomsPay_30 (fun H locs hP hS => ?_)
        refine lv_iadd hx hb dX2_roomsPay_33 ?_
        refine lv_istore_n (lv' := [(2, .int (x + (paF (siM (rpM M sc li np i) sc (sc + 13 + i) li np) ((rpM M sc li np i) (sc + 13 + i) 5)))), (3, .int (nI i)), (0, .ref (adr G sc)), (1, .int li)]) hx hb dX2_roomsPay_34 rfl hl (by decide) rfl (fun ls hl => ?_)
        refine lv_iinc (v := nI (i + 1)) (lv' := [(3, .int (nI (i + 1))), (2, .int (x + (paF (siM (rpM M sc li np i) sc (sc + 13 + i) li np) ((rpM M sc li np i) (sc + 13 + i) 5)))), (0, .ref (adr G sc)), (1, .int li)]) hx hb dX2_roomsPay_35 hl (k := 1) rfl (nI_1 i) (by decide) rfl (fun ls hl => ?_)
        refine lv_goto (tgt := 4) hx hb dX2_roomsPay_38 (by decide) ?_
        have hP := PW_eq (M' := rpM M sc li np (i + 1)) (rpM_s hple) hP
        exact ih_4 (i + 1) _ (by omega) (by omega) (by rw [hxx, siM_rp hple, rpM_sl (by omega)]; rfl) _ _ hP hS _ (lv_sub hl [0, 1, 2, 3] rfl)
  have hP := PW_eq (M' := rpM M sc li np 0) rpM_0.symm hP
  exact loop_4 (n + 1) 0 0 (by omega) (by omega) rfl _ _ hP hS _ (lv_sub hl [0, 1, 2, 3] rfl)

set_option maxHeartbeats 4000000 in
set_option maxRecDepth 100000 in
theorem c_X2_copyFrom (l : Launch) (G : GG) (M : Mem) (o : Nat → Int64) (np nr : Nat) (hnp : M 4 1 = nI np) (hple : np ≤ 10) (hnr : M 4 2 = nI nr) (hrle : nr ≤ 8) : MV l yX2_copyFrom cX2_copyFrom 3 none 2 45 G [.ref (adr G 25), .ref (adr G 4)] M (cpM M np nr) o o 0 0 := by
  refine MV_of RX2 rfl (by decide +kernel) (Nat.le_of_ble_eq_true rfl) ?_
  intro p e s m below meth c sz C0 hr hP ls hl
  have hx := C0.1
  have hb := C0.2.1
  have hS : va_S (pA G sz) s.heap s.heap [] := va_S.rf
  have hl : lv_has ls 3 [(0, .ref (adr G 25)), (1, .ref (adr G 4))] := hl
  refine lv_aload_n hx hb dX2_copyFrom_0 rfl (lv_at hl 0 rfl) ?_
  refine lv_aload_n hx hb dX2_copyFrom_1 rfl (lv_at hl 1 rfl) ?_
  refine gf_X2_25 C0 hP (k := 4) (show kd 4 = 2 by decide) dX2_copyFrom_2 ?_
  refine pf_X2_25 C0 hP hS (k := 25) (show kd 25 = 2 by decide) dX2_copyFrom_5 (fun H locs hP hS => ?_)
  refine lv_aload_n hx hb dX2_copyFrom_8 rfl (lv_at hl 0 rfl) ?_
  refine lv_aload_n hx hb dX2_copyFrom_9 rfl (lv_at hl 1 rfl) ?_
  refine gf_X2_29 C0 hP (k := 4) (show kd 4 = 2 by decide) dX2_copyFrom_10 ?_
  refine pf_X2_29 C0 hP hS (k := 25) (show kd 25 = 2 by decide) dX2_copyFrom_13 (fun H locs hP hS => ?_)
  refine lv_aload_n hx hb dX2_copyFrom_16 rfl (lv_at hl 0 rfl) ?_
  refine lv_aload_n hx hb dX2_copyFrom_17 rfl (lv_at hl 1 rfl) ?_
  refine gf_X2_32 C0 hP (k := 4) (show kd 4 = 2 by decide) dX2_copyFrom_18 ?_
  refine pf_X2_32 C0 hP hS (k := 25) (show kd 25 = 2 by decide) dX2_copyFrom_21 (fun H locs hP hS => ?_)
  refine lv_iconst (v := 0) hx hb dX2_copyFrom_24 (by decide) ?_
  refine lv_istore_n (lv' := [(2, .int 0), (0, .ref (adr G 25)), (1, .ref (adr G 4))]) hx hb dX2_copyFrom_25 rfl hl (by decide) rfl (fun ls hl => ?_)
  have loop_26 : ∀ (fuel_26 : Nat) (i : Nat), np + 1 ≤ i + fuel_26 → (i ≤ np) → ∀ (H : Heap) (locs : List Loc), PW G (cpM M i 0) o H → va_S (pA G sz) s.heap H locs → ∀ ls : Array Slot, lv_has ls 3 [(2, .int (nI i)), (0, .ref (adr G 25)), (1, .ref (adr G 4))] → W p l e (rmU 2 45 0 0) s m ([.ref (adr G 25), .ref (adr G 4)] : List Value).toArray below meth c H locs 0 0 (MQ below (QV G (cpM M np nr) o sz) ([.ref (adr G 25), .ref (adr G 4)] : List Value).toArray s 0 0 (pA G sz)) (F0 m 26 ls []) := by
    intro fuel_26
    induction fuel_26 with
    | zero =>
      intro i hf hi
      exact absurd hf (by omega)
    | succ fuel_26 ih_26 =>
      intro i hf hi H locs hP hS ls hl
      refine lv_iload_n hx hb dX2_copyFrom_26 rfl (lv_at hl 0 rfl) ?_
      refine lv_aload_n hx hb dX2_copyFrom_27 rfl (lv_at hl 1 rfl) ?_
      refine gf_X2_29 C0 hP (k := 25) (show kd 25 = 2 by decide) dX2_copyFrom_28 ?_
      refine lv_icmp_ge (tgt := 55) hx hb dX2_copyFrom_31 (by decide) (fun c_1 => ?_) (fun c_1 => ?_)
      · rw [cpM_25 (by decide), hnp] at c_1
        have hi9 := lp_ge c_1 (by omega) hi
        refine lv_iconst (v := 0) hx hb dX2_copyFrom_55 (by decide) ?_
        refine lv_istore_n (lv' := [(2, .int 0), (0, .ref (adr G 25)), (1, .ref (adr G 4))]) hx hb dX2_copyFrom_56 rfl hl (by decide) rfl (fun ls hl => ?_)
        have loop_57 : ∀ (fuel_57 : Nat) (j : Nat), nr + 1 ≤ j + fuel_57 → (j ≤ nr) → ∀ (H : Heap) (locs : List Loc), PW G (cpM M np j) o H → va_S (pA G sz) s.heap H locs → ∀ ls : Array Slot, lv_has ls 3 [(2, .int (nI j)), (0, .ref (adr G 25)), (1, .ref (adr G 4))] → W p l e (rmU 2 45 0 0) s m ([.ref (adr G 25), .ref (adr G 4)] : List Value).toArray below meth c H locs 0 0 (MQ below (QV G (cpM M np nr) o sz) ([.ref (adr G 25), .ref (adr G 4)] : List Value).toArray s 0 0 (pA G sz)) (F0 m 57 ls []) := by
          intro fuel_57
          induction fuel_57 with
          | zero =>
            intro j hf hj
            exact absurd hf (by omega)
          | succ fuel_57 ih_57 =>
            intro j hf hj H locs hP hS ls hl
            refine lv_iload_n hx hb dX2_copyFrom_57 rfl (lv_at hl 0 rfl) ?_
            refine lv_aload_n hx hb dX2_copyFrom_58 rfl (lv_at hl 1 rfl) ?_
            refine gf_X2_32 C0 hP (k := 25) (show kd 25 = 2 by decide) dX2_copyFrom_59 ?_
            refine lv_icmp_ge (tgt := 86) hx hb dX2_copyFrom_62 (by decide) (fun c_2 => ?_) (fun c_2 => ?_)
            · rw [cpM_25 (by decide), hnr] at c_2
              have hj9 := lp_ge c_2 (by omega) hj
              have hP := PW_eq (M' := cpM M np nr) (by rw [hj9]) hP
              exact e_V C0 hr hP hS (by decide) dX2_copyFrom_86
            · rw [cpM_25 (by decide), hnr] at c_2
              have hjt := lp_lt c_2 (by omega) hj
              refine lv_aload_n hx hb dX2_copyFrom_65 rfl (lv_at hl 1 rfl) ?_
              refine gf_X2_19 C0 hP (k := 25) (show kd 25 = 2 by decide) dX2_copyFrom_66 ?_
              refine lv_iload_n hx hb dX2_copyFrom_69 rfl (lv_at hl 0 rfl) ?_
              refine w_aldR C0 hP (k := 25 + 2) (i := j) (kdS2 (Or.inr rfl)) (by omega) dX2_copyFrom_70 ?_
              refine lv_aload_n hx hb dX2_copyFrom_71 rfl (lv_at hl 2 rfl) ?_
              refine gf_X2_19 C0 hP (k := 4) (show kd 4 = 2 by decide) dX2_copyFrom_72 ?_
              refine lv_iload_n hx hb dX2_copyFrom_75 rfl (lv_at hl 0 rfl) ?_
              refine w_aldR C0 hP (k := 4 + 2) (i := j) (kdS2 (Or.inl rfl)) (by omega) dX2_copyFrom_76 ?_
              refine k_VNV C0 hP hS (rest := []) (c_X1_copyFrom l G (cpM M np j) o (25 + 13 + j) (4 + 13 + j) (kdSr (Or.inr rfl) (by omega)) (kdSr (Or.inl rfl) (by omega)) (by omega)) mf_X1_copyFrom ml_X2_39 (kd_lt (kdSr (Or.inr rfl) (by omega)) (by decide)) (ct_1 (kdSr (Or.inr rfl) (by omega))) rfl hl.1 (by decide) (by decide) (Nat.le_of_ble_eq_true rfl) rfl rfl dX2_copyFrom_77 (fun H locs hP hS => ?_)
              refine lv_iinc (v := nI (j + 1)) (lv' := [(2, .int (nI (j + 1))), (0, .ref (adr G 25)), (1, .ref (adr G 4))]) hx hb dX2_copyFrom_80 hl (k := 0) rfl (nI_1 j) (by decide) rfl (fun ls hl => ?_)
              refine lv_goto (tgt := 57) hx hb dX2_copyFrom_83 (by decide) ?_
              have hP := PW_eq (M' := cpM M np (j + 1)) (cpM_r (by omega) hple) hP
              exact ih_57 (j + 1) (by omega) (by omega) _ _ hP hS _ (lv_sub hl [0, 1, 2] rfl)
        have hP := PW_eq (M' := cpM M np 0) (by rw [hi9]) hP
        exact loop_57 (nr + 1) 0 (by omega) (by omega) _ _ hP hS _ (lv_sub hl [0, 1, 2] rfl)
      · rw [cpM_25 (by decide), hnp] at c_1
        have hlt := lp_lt c_1 (by omega) hi
        refine lv_aload_n hx hb dX2_copyFrom_34 rfl (lv_at hl 1 rfl) ?_
        refine gf_X2_11 C0 hP (k := 25) (show kd 25 = 2 by decide) dX2_copyFrom_35 ?_
        refine lv_iload_n hx hb dX2_copyFrom_38 rfl (lv_at hl 0 rfl) ?_
        refine w_aldP C0 hP (k := 25 + 1) (i := i) (kdS1 (Or.inr rfl)) (by omega) dX2_copyFrom_39 ?_
        refine lv_aload_n hx hb dX2_copyFrom_40 rfl (lv_at hl 2 rfl) ?_
        refine gf_X2_11 C0 hP (k := 4) (show kd 4 = 2 by decide) dX2_copyFrom_41 ?_
        refine lv_iload_n hx hb dX2_copyFrom_44 rfl (lv_at hl 0 rfl) ?_
        refine w_aldP C0 hP (k := 4 + 1) (i := i) (kdS1 (Or.inl rfl)) (by omega) dX2_copyFrom_45 ?_
        refine k_VNV C0 hP hS (rest := []) (c_X0_copyFrom l G (cpM M i 0) o (25 + 3 + i) (4 + 3 + i) (kdSp (Or.inr rfl) (by omega)) (kdSp (Or.inl rfl) (by omega))) mf_X0_copyFrom ml_X2_35 (kd_lt (kdSp (Or.inr rfl) (by omega)) (by decide)) (ct_0 (kdSp (Or.inr rfl) (by omega))) rfl hl.1 (by decide) (by decide) (Nat.le_of_ble_eq_true rfl) rfl rfl dX2_copyFrom_46 (fun H locs hP hS => ?_)
        refine lv_iinc (v := nI (i + 1)) (lv' := [(2, .int (nI (i + 1))), (0, .ref (adr G 25)), (1, .ref (adr G 4))]) hx hb dX2_copyFrom_49 hl (k := 0) rfl (nI_1 i) (by decide) rfl (fun ls hl => ?_)
        refine lv_goto (tgt := 26) hx hb dX2_copyFrom_52 (by decide) ?_
        have hP := PW_eq (M' := cpM M (i + 1) 0) (cpM_p (by omega)) hP
        exact ih_26 (i + 1) (by omega) (by omega) _ _ hP hS _ (lv_sub hl [0, 1, 2] rfl)
  have hP := PW_eq (M' := cpM M 0 0) cpM_0 hP
  exact loop_26 (np + 1) 0 (by omega) (by omega) _ _ hP hS _ (lv_sub hl [0, 1, 2] rfl)
end CLB
