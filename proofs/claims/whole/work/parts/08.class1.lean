section CLA
theorem crM {M : Mem} {r q : Nat} (h : q ≠ r) : u2 (u2 (u2 (u2 (bdM M r (M q 0) (M q 1) (M q 4)) r 2 (bdM M r (M q 0) (M q 1) (M q 4) q 2)) r 3 (u2 (bdM M r (M q 0) (M q 1) (M q 4)) r 2 (bdM M r (M q 0) (M q 1) (M q 4) q 2) q 3)) r 5 (u2 (u2 (bdM M r (M q 0) (M q 1) (M q 4)) r 2 (bdM M r (M q 0) (M q 1) (M q 4) q 2)) r 3 (u2 (bdM M r (M q 0) (M q 1) (M q 4)) r 2 (bdM M r (M q 0) (M q 1) (M q 4) q 2) q 3) q 5)) r 6 (u2 (u2 (u2 (bdM M r (M q 0) (M q 1) (M q 4)) r 2 (bdM M r (M q 0) (M q 1) (M q 4) q 2)) r 3 (u2 (bdM M r (M q 0) (M q 1) (M q 4)) r 2 (bdM M r (M q 0) (M q 1) (M q 4) q 2) q 3)) r 5 (u2 (u2 (bdM M r (M q 0) (M q 1) (M q 4)) r 2 (bdM M r (M q 0) (M q 1) (M q 4) q 2)) r 3 (u2 (bdM M r (M q 0) (M q 1) (M q 4)) r 2 (bdM M r (M q 0) (M q 1) (M q 4) q 2) q 3) q 5) q 6) = (fun a b => if a = r ∧ b < 7 then M q b else M a b) := by
  funext a b
  by_cases h1 : a = r
  · subst h1
    by_cases hb : b < 7
    · rcases (show b = 0 ∨ b = 1 ∨ b = 2 ∨ b = 3 ∨ b = 4 ∨ b = 5 ∨ b = 6 by omega) with rfl | rfl | rfl | rfl | rfl | rfl | rfl <;> simp [bdM, u2, h]
    · simp [bdM, u2, hb, show b ≠ 0 by omega, show b ≠ 1 by omega, show b ≠ 2 by omega, show b ≠ 3 by omega, show b ≠ 4 by omega, show b ≠ 5 by omega, show b ≠ 6 by omega]
  · simp [bdM, u2, h1]
set_option maxHeartbeats 4000000 in
set_option maxRecDepth 100000 in
theorem c_X0_come (l : Launch) (G : GG) (M : Mem) (o : Nat → Int64) (h : Nat) (hh : kd h = 0) (a1 a2 a3 a4 : Int32) : MV l yX0_come cX0_come 5 none 0 0 G [.ref (adr G h), .int a1, .int a2, .int a3, .int a4] M (cmM M h a1 a2 a3 a4) o o 0 0 := by
  refine MV_of RX0 rfl (by decide +kernel) (Nat.le_of_ble_eq_true rfl) ?_
  intro p e s m below meth c sz C0 hr hP ls hl
  have hx := C0.1
  have hb := C0.2.1
  have hS : va_S (pA G sz) s.heap s.heap [] := va_S.rf
  have hl : lv_has ls 5 [(0, .ref (adr G h)), (1, .int a1), (2, .int a2), (3, .int a3), (4, .int a4)] := hl
  refine lv_aload_n hx hb dX0_come_0 rfl (lv_at hl 0 rfl) ?_
  refine lv_iload_n hx hb dX0_come_1 rfl (lv_at hl 1 rfl) ?_
  refine pf_X0_9 C0 hP hS (k := h) hh dX0_come_2 (fun H locs hP hS => ?_)
  refine lv_aload_n hx hb dX0_come_5 rfl (lv_at hl 0 rfl) ?_
  refine lv_iload_n hx hb dX0_come_6 rfl (lv_at hl 2 rfl) ?_
  refine pf_X0_15 C0 hP hS (k := h) hh dX0_come_7 (fun H locs hP hS => ?_)
  refine lv_aload_n hx hb dX0_come_10 rfl (lv_at hl 0 rfl) ?_
  refine lv_iload_n hx hb dX0_come_11 rfl (lv_at hl 3 rfl) ?_
  refine pf_X0_18 C0 hP hS (k := h) hh dX0_come_12 (fun H locs hP hS => ?_)
  refine lv_aload_n hx hb dX0_come_15 rfl (lv_at hl 0 rfl) ?_
  refine lv_iload hx hb dX0_come_16 (lv_at hl 4 rfl) ?_
  refine pf_X0_21 C0 hP hS (k := h) hh dX0_come_18 (fun H locs hP hS => ?_)
  exact e_V C0 hr hP hS (by decide) dX0_come_21

set_option maxHeartbeats 4000000 in
set_option maxRecDepth 100000 in
theorem c_X0_copyFrom (l : Launch) (G : GG) (M : Mem) (o : Nat → Int64) (h q : Nat) (hh : kd h = 0) (hq : kd q = 0) : MV l yX0_copyFrom cX0_copyFrom 2 none 1 24 G [.ref (adr G h), .ref (adr G q)] M (cmM M h (M q 0) (M q 1) (M q 2) (M q 3)) o o 0 0 := by
  refine MV_of RX0 rfl (by decide +kernel) (Nat.le_of_ble_eq_true rfl) ?_
  intro p e s m below meth c sz C0 hr hP ls hl
  have hx := C0.1
  have hb := C0.2.1
  have hS : va_S (pA G sz) s.heap s.heap [] := va_S.rf
  have hl : lv_has ls 2 [(0, .ref (adr G h)), (1, .ref (adr G q))] := hl
  refine lv_aload_n hx hb dX0_copyFrom_0 rfl (lv_at hl 0 rfl) ?_
  refine lv_aload_n hx hb dX0_copyFrom_1 rfl (lv_at hl 1 rfl) ?_
  refine gf_X0_9 C0 hP (k := q) hq dX0_copyFrom_2 ?_
  refine lv_aload_n hx hb dX0_copyFrom_5 rfl (lv_at hl 1 rfl) ?_
  refine gf_X0_15 C0 hP (k := q) hq dX0_copyFrom_6 ?_
  refine lv_aload_n hx hb dX0_copyFrom_9 rfl (lv_at hl 1 rfl) ?_
  refine gf_X0_18 C0 hP (k := q) hq dX0_copyFrom_10 ?_
  refine lv_aload_n hx hb dX0_copyFrom_13 rfl (lv_at hl 1 rfl) ?_
  refine gf_X0_21 C0 hP (k := q) hq dX0_copyFrom_14 ?_
  refine k_VV C0 hP hS (rest := []) (c_X0_come l G M o h hh (M q 0) (M q 1) (M q 2) (M q 3)) mf_X0_come ml_X0_24 (kd_lt hh (by decide)) (ct_0 hh) rfl hl.1 (by decide) (by decide) (Nat.le_of_ble_eq_true rfl) rfl rfl dX0_copyFrom_17 (fun H locs hP hS => ?_)
  exact e_V C0 hr hP hS (by decide) dX0_copyFrom_20

set_option maxHeartbeats 4000000 in
set_option maxRecDepth 100000 in
theorem c_X0_isGone (l : Launch) (G : GG) (M : Mem) (o : Nat → Int64) (h : Nat) (hh : kd h = 0) : MI l yX0_isGone cX0_isGone 1 (some .boolean) 0 0 G [.ref (adr G h)] M M o o (gn (M h 0)) 0 0 := by
  refine MI_of RX0 rfl (by decide +kernel) (Nat.le_of_ble_eq_true rfl) ?_
  intro p e s m below meth c sz C0 hr hP ls hl
  have hx := C0.1
  have hb := C0.2.1
  have hS : va_S (pA G sz) s.heap s.heap [] := va_S.rf
  have hl : lv_has ls 1 [(0, .ref (adr G h))] := hl
  refine lv_aload_n hx hb dX0_isGone_0 rfl (lv_at hl 0 rfl) ?_
  refine gf_X0_9 C0 hP (k := h) hh dX0_isGone_1 ?_
  refine lv_iconst (v := -1) hx hb dX0_isGone_4 (by decide) ?_
  refine lv_icmp_ne (tgt := 12) hx hb dX0_isGone_5 (by decide) (fun c_1 => ?_) (fun c_1 => ?_)
  · refine lv_iconst (v := 0) hx hb dX0_isGone_12 (by decide) ?_
    exact e_I (ty := .boolean) C0 hr (by decide +kernel) hP hS (by simp [gn, c_1]) (by decide) dX0_isGone_13
  · refine lv_iconst (v := 1) hx hb dX0_isGone_8 (by decide) ?_
    refine lv_goto (tgt := 13) hx hb dX0_isGone_9 (by decide) ?_
    exact e_I (ty := .boolean) C0 hr (by decide +kernel) hP hS (by simp [gn, c_1]) (by decide) dX0_isGone_13

set_option maxHeartbeats 4000000 in
set_option maxRecDepth 100000 in
theorem c_X4_isStep (l : Launch) (G : GG) (M : Mem) (o : Nat → Int64) (v : Int32) : MI l yX4_isStep cX4_isStep 1 (some .boolean) 0 0 G [.int v] M M o o (stp v) 0 0 := by
  refine MI_of RX4 rfl (by decide +kernel) (Nat.le_of_ble_eq_true rfl) ?_
  intro p e s m below meth c sz C0 hr hP ls hl
  have hx := C0.1
  have hb := C0.2.1
  have hS : va_S (pA G sz) s.heap s.heap [] := va_S.rf
  have hl : lv_has ls 1 [(0, .int v)] := hl
  refine lv_iload_n hx hb dX4_isStep_0 rfl (lv_at hl 0 rfl) ?_
  refine lv_if_lt (tgt := 14) hx hb dX4_isStep_1 (by decide) (fun c_1 => ?_) (fun c_1 => ?_)
  · refine lv_iconst (v := 0) hx hb dX4_isStep_14 (by decide) ?_
    exact e_I (ty := .boolean) C0 hr (by decide +kernel) hP hS (by simp [stp, c_1]) (by decide) dX4_isStep_15
  · refine lv_iload_n hx hb dX4_isStep_4 rfl (lv_at hl 0 rfl) ?_
    refine lv_bipush (v := 60) hx hb dX4_isStep_5 (by decide) ?_
    refine lv_icmp_ge (tgt := 14) hx hb dX4_isStep_7 (by decide) (fun c_2 => ?_) (fun c_2 => ?_)
    · refine lv_iconst (v := 0) hx hb dX4_isStep_14 (by decide) ?_
      exact e_I (ty := .boolean) C0 hr (by decide +kernel) hP hS (by simp [stp, c_1, c_2]) (by decide) dX4_isStep_15
    · refine lv_iconst (v := 1) hx hb dX4_isStep_10 (by decide) ?_
      refine lv_goto (tgt := 15) hx hb dX4_isStep_11 (by decide) ?_
      exact e_I (ty := .boolean) C0 hr (by decide +kernel) hP hS (by simp [stp, c_1, c_2]) (by decide) dX4_isStep_15

set_option maxHeartbeats 4000000 in
set_option maxRecDepth 100000 in
theorem c_X0_walk (l : Launch) (G : GG) (M : Mem) (o : Nat → Int64) (h : Nat) (hh : kd h = 0) : MV l yX0_walk cX0_walk 1 none 1 20 G [.ref (adr G h)] M (u2 M h 0 (wk (M h 0) (M h 1))) o o 0 0 := by
  refine MV_of RX0 rfl (by decide +kernel) (Nat.le_of_ble_eq_true rfl) ?_
  intro p e s m below meth c sz C0 hr hP ls hl
  have hx := C0.1
  have hb := C0.2.1
  have hS : va_S (pA G sz) s.heap s.heap [] := va_S.rf
  have hl : lv_has ls 1 [(0, .ref (adr G h))] := hl
  refine lv_aload_n hx hb dX0_walk_0 rfl (lv_at hl 0 rfl) ?_
  refine k_VI C0 hP hS (rest := []) (c_X0_isGone l G M o h hh) mf_X0_isGone ml_X0_28 (kd_lt hh (by decide)) (ct_0 hh) rfl hl.1 (by decide) (by decide) (Nat.le_of_ble_eq_true rfl) rfl rfl dX0_walk_1 (fun H locs hP hS => ?_)
  refine lv_if_ne (tgt := 39) hx hb dX0_walk_4 (by decide) (fun c_1 => ?_) (fun c_1 => ?_)
  · have hP := PW_eq (M' := u2 M h 0 (wk (M h 0) (M h 1))) (by simp [wk, u2_id, c_1]) hP
    exact e_V C0 hr hP hS (by decide) dX0_walk_39
  · refine lv_aload_n hx hb dX0_walk_7 rfl (lv_at hl 0 rfl) ?_
    refine lv_aload_n hx hb dX0_walk_8 rfl (lv_at hl 0 rfl) ?_
    refine gf_X0_9 C0 hP (k := h) hh dX0_walk_9 ?_
    refine lv_aload_n hx hb dX0_walk_12 rfl (lv_at hl 0 rfl) ?_
    refine gf_X0_15 C0 hP (k := h) hh dX0_walk_13 ?_
    refine lv_iadd hx hb dX0_walk_16 ?_
    refine k_SNI C0 hP hS (rest := [.ref (adr G h)]) (c_X4_isStep l G M o ((M h 0) + (M h 1))) mf_X4_isStep ml_X0_32 hl.1 (by decide) (by decide) (Nat.le_of_ble_eq_true rfl) rfl rfl dX0_walk_17 (fun H locs hP hS => ?_)
    refine lv_if_eq (tgt := 35) hx hb dX0_walk_20 (by decide) (fun c_2 => ?_) (fun c_2 => ?_)
    · refine lv_iconst (v := -1) hx hb dX0_walk_35 (by decide) ?_
      refine pf_X0_9 C0 hP hS (k := h) hh dX0_walk_36 (fun H locs hP hS => ?_)
      have hP := PW_eq (M' := u2 M h 0 (wk (M h 0) (M h 1))) (by simp [wk, u2_id, c_1, c_2]) hP
      exact e_V C0 hr hP hS (by decide) dX0_walk_39
    · refine lv_aload_n hx hb dX0_walk_23 rfl (lv_at hl 0 rfl) ?_
      refine gf_X0_9 C0 hP (k := h) hh dX0_walk_24 ?_
      refine lv_aload_n hx hb dX0_walk_27 rfl (lv_at hl 0 rfl) ?_
      refine gf_X0_15 C0 hP (k := h) hh dX0_walk_28 ?_
      refine lv_iadd hx hb dX0_walk_31 ?_
      refine lv_goto (tgt := 36) hx hb dX0_walk_32 (by decide) ?_
      refine pf_X0_9 C0 hP hS (k := h) hh dX0_walk_36 (fun H locs hP hS => ?_)
      have hP := PW_eq (M' := u2 M h 0 (wk (M h 0) (M h 1))) (by simp [wk, u2_id, c_1, c_2]) hP
      exact e_V C0 hr hP hS (by decide) dX0_walk_39

set_option maxHeartbeats 4000000 in
set_option maxRecDepth 100000 in
theorem c_X1_build (l : Launch) (G : GG) (M : Mem) (o : Nat → Int64) (r : Nat) (hr0 : kd r = 1) (a1 a2 a3 : Int32) : MV l yX1_build cX1_build 4 none 0 0 G [.ref (adr G r), .int a1, .int a2, .int a3] M (bdM M r a1 a2 a3) o o 0 0 := by
  refine MV_of RX1 rfl (by decide +kernel) (Nat.le_of_ble_eq_true rfl) ?_
  intro p e s m below meth c sz C0 hr hP ls hl
  have hx := C0.1
  have hb := C0.2.1
  have hS : va_S (pA G sz) s.heap s.heap [] := va_S.rf
  have hl : lv_has ls 4 [(0, .ref (adr G r)), (1, .int a1), (2, .int a2), (3, .int a3)] := hl
  refine lv_aload_n hx hb dX1_build_0 rfl (lv_at hl 0 rfl) ?_
  refine lv_iload_n hx hb dX1_build_1 rfl (lv_at hl 1 rfl) ?_
  refine pf_X1_9 C0 hP hS (k := r) hr0 dX1_build_2 (fun H locs hP hS => ?_)
  refine lv_aload_n hx hb dX1_build_5 rfl (lv_at hl 0 rfl) ?_
  refine lv_iload_n hx hb dX1_build_6 rfl (lv_at hl 2 rfl) ?_
  refine pf_X1_15 C0 hP hS (k := r) hr0 dX1_build_7 (fun H locs hP hS => ?_)
  refine lv_aload_n hx hb dX1_build_10 rfl (lv_at hl 0 rfl) ?_
  refine lv_iload_n hx hb dX1_build_11 rfl (lv_at hl 3 rfl) ?_
  refine pf_X1_18 C0 hP hS (k := r) hr0 dX1_build_12 (fun H locs hP hS => ?_)
  refine lv_aload_n hx hb dX1_build_15 rfl (lv_at hl 0 rfl) ?_
  refine lv_iconst (v := 3) hx hb dX1_build_16 (by decide) ?_
  refine pf_X1_21 C0 hP hS (k := r) hr0 dX1_build_17 (fun H locs hP hS => ?_)
  exact e_V C0 hr hP hS (by decide) dX1_build_20

set_option maxHeartbeats 4000000 in
set_option maxRecDepth 100000 in
theorem c_X1_copyFrom (l : Launch) (G : GG) (M : Mem) (o : Nat → Int64) (r q : Nat) (hr0 : kd r = 1) (hq : kd q = 1) (hrq : q ≠ r) : MV l yX1_copyFrom cX1_copyFrom 2 none 1 23 G [.ref (adr G r), .ref (adr G q)] M (fun a b => if a = r ∧ b < 7 then M q b else M a b) o o 0 0 := by
  refine MV_of RX1 rfl (by decide +kernel) (Nat.le_of_ble_eq_true rfl) ?_
  intro p e s m below meth c sz C0 hr hP ls hl
  have hx := C0.1
  have hb := C0.2.1
  have hS : va_S (pA G sz) s.heap s.heap [] := va_S.rf
  have hl : lv_has ls 2 [(0, .ref (adr G r)), (1, .ref (adr G q))] := hl
  refine lv_aload_n hx hb dX1_copyFrom_0 rfl (lv_at hl 0 rfl) ?_
  refine lv_aload_n hx hb dX1_copyFrom_1 rfl (lv_at hl 1 rfl) ?_
  refine gf_X1_9 C0 hP (k := q) hq dX1_copyFrom_2 ?_
  refine lv_aload_n hx hb dX1_copyFrom_5 rfl (lv_at hl 1 rfl) ?_
  refine gf_X1_15 C0 hP (k := q) hq dX1_copyFrom_6 ?_
  refine lv_aload_n hx hb dX1_copyFrom_9 rfl (lv_at hl 1 rfl) ?_
  refine gf_X1_18 C0 hP (k := q) hq dX1_copyFrom_10 ?_
  refine k_VV C0 hP hS (rest := []) (c_X1_build l G M o r hr0 (M q 0) (M q 1) (M q 4)) mf_X1_build ml_X1_24 (kd_lt hr0 (by decide)) (ct_1 hr0) rfl hl.1 (by decide) (by decide) (Nat.le_of_ble_eq_true rfl) rfl rfl dX1_copyFrom_13 (fun H locs hP hS => ?_)
  refine lv_aload_n hx hb dX1_copyFrom_16 rfl (lv_at hl 0 rfl) ?_
  refine lv_aload_n hx hb dX1_copyFrom_17 rfl (lv_at hl 1 rfl) ?_
  refine gf_X1_21 C0 hP (k := q) hq dX1_copyFrom_18 ?_
  refine pf_X1_21 C0 hP hS (k := r) hr0 dX1_copyFrom_21 (fun H locs hP hS => ?_)
  refine lv_aload_n hx hb dX1_copyFrom_24 rfl (lv_at hl 0 rfl) ?_
  refine lv_aload_n hx hb dX1_copyFrom_25 rfl (lv_at hl 1 rfl) ?_
  refine gf_X1_28 C0 hP (k := q) hq dX1_copyFrom_26 ?_
  refine pf_X1_28 C0 hP hS (k := r) hr0 dX1_copyFrom_29 (fun H locs hP hS => ?_)
  refine lv_aload_n hx hb dX1_copyFrom_32 rfl (lv_at hl 0 rfl) ?_
  refine lv_aload_n hx hb dX1_copyFrom_33 rfl (lv_at hl 1 rfl) ?_
  refine gf_X1_31 C0 hP (k := q) hq dX1_copyFrom_34 ?_
  refine pf_X1_31 C0 hP hS (k := r) hr0 dX1_copyFrom_37 (fun H locs hP hS => ?_)
  refine lv_aload_n hx hb dX1_copyFrom_40 rfl (lv_at hl 0 rfl) ?_
  refine lv_aload_n hx hb dX1_copyFrom_41 rfl (lv_at hl 1 rfl) ?_
  refine gf_X1_34 C0 hP (k := q) hq dX1_copyFrom_42 ?_
  refine pf_X1_34 C0 hP hS (k := r) hr0 dX1_copyFrom_45 (fun H locs hP hS => ?_)
  have hP := PW_eq (crM hrq) hP
  exact e_V C0 hr hP hS (by decide) dX1_copyFrom_48

set_option maxHeartbeats 4000000 in
set_option maxRecDepth 100000 in
theorem c_X1_reach (l : Launch) (G : GG) (M : Mem) (o : Nat → Int64) (r : Nat) (hr0 : kd r = 1) : MI l yX1_reach cX1_reach 1 (some .int) 0 0 G [.ref (adr G r)] M M o o (4 * M r 1) 0 0 := by
  refine MI_of RX1 rfl (by decide +kernel) (Nat.le_of_ble_eq_true rfl) ?_
  intro p e s m below meth c sz C0 hr hP ls hl
  have hx := C0.1
  have hb := C0.2.1
  have hS : va_S (pA G sz) s.heap s.heap [] := va_S.rf
  have hl : lv_has ls 1 [(0, .ref (adr G r))] := hl
  refine lv_iconst (v := 4) hx hb dX1_reach_0 (by decide) ?_
  refine lv_aload_n hx hb dX1_reach_1 rfl (lv_at hl 0 rfl) ?_
  refine gf_X1_15 C0 hP (k := r) hr0 dX1_reach_2 ?_
  refine lv_imul hx hb dX1_reach_5 ?_
  exact e_Ii C0 hr hP hS rfl (by decide) dX1_reach_6

set_option maxHeartbeats 4000000 in
set_option maxRecDepth 100000 in
theorem c_X1_shows (l : Launch) (G : GG) (M : Mem) (o : Nat → Int64) (r q : Nat) (hr0 : kd r = 1) (hq : kd q = 0) : MI l yX1_shows cX1_shows 2 (some .boolean) 1 21 G [.ref (adr G r), .ref (adr G q)] M M o o (shM M r q) 0 0 := by
  refine MI_of RX1 rfl (by decide +kernel) (Nat.le_of_ble_eq_true rfl) ?_
  intro p e s m below meth c sz C0 hr hP ls hl
  have hx := C0.1
  have hb := C0.2.1
  have hS : va_S (pA G sz) s.heap s.heap [] := va_S.rf
  have hl : lv_has ls 2 [(0, .ref (adr G r)), (1, .ref (adr G q))] := hl
  refine lv_aload_n hx hb dX1_shows_0 rfl (lv_at hl 1 rfl) ?_
  refine k_VNI C0 hP hS (rest := []) (c_X0_isGone l G M o q hq) mf_X0_isGone ml_X1_37 (kd_lt hq (by decide)) (ct_0 hq) rfl hl.1 (by decide) (by decide) (Nat.le_of_ble_eq_true rfl) rfl rfl dX1_shows_1 (fun H locs hP hS => ?_)
  refine lv_if_ne (tgt := 30) hx hb dX1_shows_4 (by decide) (fun c_1 => ?_) (fun c_1 => ?_)
  · refine lv_iconst (v := 0) hx hb dX1_shows_30 (by decide) ?_
    exact e_I (ty := .boolean) C0 hr (by decide +kernel) hP hS (by simp [shM, shF, c_1]) (by decide) dX1_shows_31
  · refine lv_aload_n hx hb dX1_shows_7 rfl (lv_at hl 1 rfl) ?_
    refine gf_X1_43 C0 hP (k := q) hq dX1_shows_8 ?_
    refine lv_aload_n hx hb dX1_shows_11 rfl (lv_at hl 0 rfl) ?_
    refine gf_X1_9 C0 hP (k := r) hr0 dX1_shows_12 ?_
    refine lv_isub hx hb dX1_shows_15 ?_
    refine m_abs C0 ml_X1_44 hl.1 ⟨Nat.le_of_ble_eq_true rfl, by decide, by decide⟩ (by decide) dX1_shows_16 ?_
    refine lv_aload_n hx hb dX1_shows_19 rfl (lv_at hl 0 rfl) ?_
    refine k_VI C0 hP hS (rest := [.int (ab ((M q 0) - (M r 0)))]) (c_X1_reach l G M o r hr0) mf_X1_reach ml_X1_50 (kd_lt hr0 (by decide)) (ct_1 hr0) rfl hl.1 (by decide) (by decide) (Nat.le_of_ble_eq_true rfl) rfl rfl dX1_shows_20 (fun H locs hP hS => ?_)
    refine lv_icmp_gt (tgt := 30) hx hb dX1_shows_23 (by decide) (fun c_2 => ?_) (fun c_2 => ?_)
    · refine lv_iconst (v := 0) hx hb dX1_shows_30 (by decide) ?_
      exact e_I (ty := .boolean) C0 hr (by decide +kernel) hP hS (by simp [shM, shF, c_1, c_2]) (by decide) dX1_shows_31
    · refine lv_iconst (v := 1) hx hb dX1_shows_26 (by decide) ?_
      refine lv_goto (tgt := 31) hx hb dX1_shows_27 (by decide) ?_
      exact e_I (ty := .boolean) C0 hr (by decide +kernel) hP hS (by simp [shM, shF, c_1, c_2]) (by decide) dX1_shows_31

set_option maxHeartbeats 4000000 in
set_option maxRecDepth 100000 in
theorem c_X1_brightnessOf (l : Launch) (G : GG) (M : Mem) (o : Nat → Int64) (r q : Nat) (li : Int32) (hr0 : kd r = 1) (hq : kd q = 0) : MI l yX1_brightnessOf cX1_brightnessOf 4 (some .int) 0 0 G [.ref (adr G r), .ref (adr G q), .int li] M M o o (brM M r q li) 0 0 := by
  refine MI_of RX1 rfl (by decide +kernel) (Nat.le_of_ble_eq_true rfl) ?_
  intro p e s m below meth c sz C0 hr hP ls hl
  have hx := C0.1
  have hb := C0.2.1
  have hS : va_S (pA G sz) s.heap s.heap [] := va_S.rf
  have hl : lv_has ls 4 [(0, .ref (adr G r)), (1, .ref (adr G q)), (2, .int li)] := hl
  refine lv_bipush (v := 10) hx hb dX1_brightnessOf_0 (by decide) ?_
  refine lv_aload_n hx hb dX1_brightnessOf_2 rfl (lv_at hl 0 rfl) ?_
  refine gf_X1_15 C0 hP (k := r) hr0 dX1_brightnessOf_3 ?_
  refine lv_imul hx hb dX1_brightnessOf_6 ?_
  refine lv_aload_n hx hb dX1_brightnessOf_7 rfl (lv_at hl 0 rfl) ?_
  refine gf_X1_15 C0 hP (k := r) hr0 dX1_brightnessOf_8 ?_
  refine lv_imul hx hb dX1_brightnessOf_11 ?_
  refine lv_istore_n (lv' := [(3, .int ((10 * (M r 1)) * (M r 1))), (0, .ref (adr G r)), (1, .ref (adr G q)), (2, .int li)]) hx hb dX1_brightnessOf_12 rfl hl (by decide) rfl (fun ls hl => ?_)
  refine lv_iload_n hx hb dX1_brightnessOf_13 rfl (lv_at hl 0 rfl) ?_
  refine lv_if_ne (tgt := 19) hx hb dX1_brightnessOf_14 (by decide) (fun c_1 => ?_) (fun c_1 => ?_)
  · refine lv_iload_n hx hb dX1_brightnessOf_19 rfl (lv_at hl 3 rfl) ?_
    refine lv_aload_n hx hb dX1_brightnessOf_20 rfl (lv_at hl 2 rfl) ?_
    refine gf_X1_54 C0 hP (k := q) hq dX1_brightnessOf_21 ?_
    refine lv_imul hx hb dX1_brightnessOf_24 ?_
    refine lv_aload_n hx hb dX1_brightnessOf_25 rfl (lv_at hl 1 rfl) ?_
    refine gf_X1_21 C0 hP (k := r) hr0 dX1_brightnessOf_26 ?_
    refine lv_imul hx hb dX1_brightnessOf_29 ?_
    refine lv_aload_n hx hb dX1_brightnessOf_30 rfl (lv_at hl 1 rfl) ?_
    refine gf_X1_21 C0 hP (k := r) hr0 dX1_brightnessOf_31 ?_
    refine lv_imul hx hb dX1_brightnessOf_34 ?_
    refine lv_iload_n hx hb dX1_brightnessOf_35 rfl (lv_at hl 0 rfl) ?_
    refine lv_idiv hx hb dX1_brightnessOf_36 c_1 ?_
    refine lv_bipush (v := 10) hx hb dX1_brightnessOf_37 (by decide) ?_
    refine lv_aload_n hx hb dX1_brightnessOf_39 rfl (lv_at hl 1 rfl) ?_
    refine gf_X1_28 C0 hP (k := r) hr0 dX1_brightnessOf_40 ?_
    refine lv_isub hx hb dX1_brightnessOf_43 ?_
    refine lv_imul hx hb dX1_brightnessOf_44 ?_
    refine lv_bipush (v := 10) hx hb dX1_brightnessOf_45 (by decide) ?_
    refine lv_idiv hx hb dX1_brightnessOf_47 (by decide) ?_
    exact e_Ii C0 hr hP hS rfl (by decide) dX1_brightnessOf_48
  · refine lv_iconst (v := 0) hx hb dX1_brightnessOf_17 (by decide) ?_
    exact e_Ii C0 hr hP hS (by simp [brM, brF, c_1]) (by decide) dX1_brightnessOf_18

set_option maxHeartbeats 4000000 in
set_option maxRecDepth 100000 in
theorem c_X1_showsWell (l : Launch) (G : GG) (M : Mem) (o : Nat → Int64) (r q : Nat) (li : Int32) (hr0 : kd r = 1) (hq : kd q = 0) : MI l yX1_showsWell cX1_showsWell 3 (some .boolean) 2 42 G [.ref (adr G r), .ref (adr G q), .int li] M M o o (wlM M r q li) 0 0 := by
  refine MI_of RX1 rfl (by decide +kernel) (Nat.le_of_ble_eq_true rfl) ?_
  intro p e s m below meth c sz C0 hr hP ls hl
  have hx := C0.1
  have hb := C0.2.1
  have hS : va_S (pA G sz) s.heap s.heap [] := va_S.rf
  have hl : lv_has ls 3 [(0, .ref (adr G r)), (1, .ref (adr G q)), (2, .int li)] := hl
  refine lv_aload_n hx hb dX1_showsWell_0 rfl (lv_at hl 0 rfl) ?_
  refine lv_aload_n hx hb dX1_showsWell_1 rfl (lv_at hl 1 rfl) ?_
  refine k_VI C0 hP hS (rest := []) (c_X1_shows l G M o r q hr0 hq) mf_X1_shows ml_X1_57 (kd_lt hr0 (by decide)) (ct_1 hr0) rfl hl.1 (by decide) (by decide) (Nat.le_of_ble_eq_true rfl) rfl rfl dX1_showsWell_2 (fun H locs hP hS => ?_)
  refine lv_if_eq (tgt := 40) hx hb dX1_showsWell_5 (by decide) (fun c_1 => ?_) (fun c_1 => ?_)
  · unfold shM at c_1
    refine lv_iconst (v := 0) hx hb dX1_showsWell_40 (by decide) ?_
    exact e_I (ty := .boolean) C0 hr (by decide +kernel) hP hS (by simp [wlM, wlF, c_1]) (by decide) dX1_showsWell_41
  · unfold shM at c_1
    refine lv_aload_n hx hb dX1_showsWell_8 rfl (lv_at hl 0 rfl) ?_
    refine gf_X1_21 C0 hP (k := r) hr0 dX1_showsWell_9 ?_
    refine lv_aload_n hx hb dX1_showsWell_12 rfl (lv_at hl 0 rfl) ?_
    refine gf_X1_15 C0 hP (k := r) hr0 dX1_showsWell_13 ?_
    refine lv_imul hx hb dX1_showsWell_16 ?_
    refine lv_iconst (v := 3) hx hb dX1_showsWell_17 (by decide) ?_
    refine lv_idiv hx hb dX1_showsWell_18 (by decide) ?_
    refine lv_aload_n hx hb dX1_showsWell_19 rfl (lv_at hl 1 rfl) ?_
    refine gf_X1_61 C0 hP (k := q) hq dX1_showsWell_20 ?_
    refine lv_icmp_gt (tgt := 40) hx hb dX1_showsWell_23 (by decide) (fun c_2 => ?_) (fun c_2 => ?_)
    · refine lv_iconst (v := 0) hx hb dX1_showsWell_40 (by decide) ?_
      exact e_I (ty := .boolean) C0 hr (by decide +kernel) hP hS (by simp [wlM, wlF, c_1, c_2]) (by decide) dX1_showsWell_41
    · refine lv_aload_n hx hb dX1_showsWell_26 rfl (lv_at hl 0 rfl) ?_
      refine lv_aload_n hx hb dX1_showsWell_27 rfl (lv_at hl 1 rfl) ?_
      refine lv_iload_n hx hb dX1_showsWell_28 rfl (lv_at hl 2 rfl) ?_
      refine k_VI C0 hP hS (rest := []) (c_X1_brightnessOf l G M o r q li hr0 hq) mf_X1_brightnessOf ml_X1_64 (kd_lt hr0 (by decide)) (ct_1 hr0) rfl hl.1 (by decide) (by decide) (Nat.le_of_ble_eq_true rfl) rfl rfl dX1_showsWell_29 (fun H locs hP hS => ?_)
      refine lv_iconst (v := 5) hx hb dX1_showsWell_32 (by decide) ?_
      refine lv_icmp_lt (tgt := 40) hx hb dX1_showsWell_33 (by decide) (fun c_3 => ?_) (fun c_3 => ?_)
      · unfold brM at c_3
        refine lv_iconst (v := 0) hx hb dX1_showsWell_40 (by decide) ?_
        exact e_I (ty := .boolean) C0 hr (by decide +kernel) hP hS (by simp [wlM, wlF, c_1, c_2, c_3]) (by decide) dX1_showsWell_41
      · unfold brM at c_3
        refine lv_iconst (v := 1) hx hb dX1_showsWell_36 (by decide) ?_
        refine lv_goto (tgt := 41) hx hb dX1_showsWell_37 (by decide) ?_
        exact e_I (ty := .boolean) C0 hr (by decide +kernel) hP hS (by simp [wlM, wlF, c_1, c_2, c_3]) (by decide) dX1_showsWell_41

set_option maxHeartbeats 4000000 in
set_option maxRecDepth 100000 in
theorem c_X1_pay (l : Launch) (G : GG) (M : Mem) (o : Nat → Int64) (r : Nat) (sh : Int32) (hr0 : kd r = 1) : MI l yX1_pay cX1_pay 3 (some .int) 1 21 G [.ref (adr G r), .int sh] M (pyM M r sh) o o (paF sh (M r 5)) 0 0 := by
  refine MI_of RX1 rfl (by decide +kernel) (Nat.le_of_ble_eq_true rfl) ?_
  intro p e s m below meth c sz C0 hr hP ls hl
  have hx := C0.1
  have hb := C0.2.1
  have hS : va_S (pA G sz) s.heap s.heap [] := va_S.rf
  have hl : lv_has ls 3 [(0, .ref (adr G r)), (1, .int sh)] := hl
  refine lv_iload_n hx hb dX1_pay_0 rfl (lv_at hl 1 rfl) ?_
  refine lv_if_ne (tgt := 20) hx hb dX1_pay_1 (by decide) (fun c_1 => ?_) (fun c_1 => ?_)
  · refine lv_aload_n hx hb dX1_pay_20 rfl (lv_at hl 0 rfl) ?_
    refine gf_X1_31 C0 hP (k := r) hr0 dX1_pay_21 ?_
    refine lv_iload_n hx hb dX1_pay_24 rfl (lv_at hl 1 rfl) ?_
    refine lv_iconst (v := 2) hx hb dX1_pay_25 (by decide) ?_
    refine m_min C0 ml_X1_72 hl.1 ⟨Nat.le_of_ble_eq_true rfl, by decide, by decide⟩ (by decide) dX1_pay_26 ?_
    refine lv_imul hx hb dX1_pay_29 ?_
    refine lv_istore_n (lv' := [(2, .int ((M r 5) * (mn sh 2))), (0, .ref (adr G r)), (1, .int sh)]) hx hb dX1_pay_30 rfl hl (by decide) rfl (fun ls hl => ?_)
    refine lv_aload_n hx hb dX1_pay_31 rfl (lv_at hl 1 rfl) ?_
    refine lv_dup hx hb dX1_pay_32 rfl ?_
    refine gf_X1_34 C0 hP (k := r) hr0 dX1_pay_33 ?_
    refine lv_iload_n hx hb dX1_pay_36 rfl (lv_at hl 0 rfl) ?_
    refine lv_iadd hx hb dX1_pay_37 ?_
    refine pf_X1_34 C0 hP hS (k := r) hr0 dX1_pay_38 (fun H locs hP hS => ?_)
    refine lv_iload_n hx hb dX1_pay_41 rfl (lv_at hl 2 rfl) ?_
    refine lv_iconst (v := 2) hx hb dX1_pay_42 (by decide) ?_
    refine lv_icmp_lt (tgt := 67) hx hb dX1_pay_43 (by decide) (fun c_2 => ?_) (fun c_2 => ?_)
    · refine lv_iload_n hx hb dX1_pay_67 rfl (lv_at hl 0 rfl) ?_
      have hP := PW_eq (M' := pyM M r sh) (by
          funext a9 b9
          by_cases h1 : a9 = r
          · subst h1
            by_cases h5 : b9 = 5
            · subst h5; simp [pyM, u2, ppF, paF, c_1, c_2]
            · by_cases h6 : b9 = 6
              · subst h6; simp [pyM, u2, ppF, paF, c_1, c_2]
              · simp [pyM, u2, h5, h6]
          · simp [pyM, u2, h1]) hP
      exact e_Ii C0 hr hP hS (by simp [paF, c_1, c_2]) (by decide) dX1_pay_68
    · refine lv_aload_n hx hb dX1_pay_46 rfl (lv_at hl 1 rfl) ?_
      refine gf_X1_31 C0 hP (k := r) hr0 dX1_pay_47 ?_
      refine lv_aload_n hx hb dX1_pay_50 rfl (lv_at hl 1 rfl) ?_
      refine gf_X1_18 C0 hP (k := r) hr0 dX1_pay_51 ?_
      refine lv_icmp_ge (tgt := 67) hx hb dX1_pay_54 (by decide) (fun c_3 => ?_) (fun c_3 => ?_)
      · rw [u2_sl (by decide), u2_sl (by decide)] at c_3
        refine lv_iload_n hx hb dX1_pay_67 rfl (lv_at hl 0 rfl) ?_
        have hP := PW_eq (M' := pyM M r sh) (by
            funext a9 b9
            by_cases h1 : a9 = r
            · subst h1
              by_cases h5 : b9 = 5
              · subst h5; simp [pyM, u2, ppF, paF, c_1, c_2, c_3]
              · by_cases h6 : b9 = 6
                · subst h6; simp [pyM, u2, ppF, paF, c_1, c_2, c_3]
                · simp [pyM, u2, h5, h6]
            · simp [pyM, u2, h1]) hP
        exact e_Ii C0 hr hP hS (by simp [paF, c_1, c_2, c_3]) (by decide) dX1_pay_68
      · rw [u2_sl (by decide), u2_sl (by decide)] at c_3
        refine lv_aload_n hx hb dX1_pay_57 rfl (lv_at hl 1 rfl) ?_
        refine lv_dup hx hb dX1_pay_58 rfl ?_
        refine gf_X1_31 C0 hP (k := r) hr0 dX1_pay_59 ?_
        refine lv_iconst (v := 1) hx hb dX1_pay_62 (by decide) ?_
        refine lv_iadd hx hb dX1_pay_63 ?_
        refine pf_X1_31 C0 hP hS (k := r) hr0 dX1_pay_64 (fun H locs hP hS => ?_)
        refine lv_iload_n hx hb dX1_pay_67 rfl (lv_at hl 0 rfl) ?_
        have hP := PW_eq (M' := pyM M r sh) (by
            funext a9 b9
            by_cases h1 : a9 = r
            · subst h1
              by_cases h5 : b9 = 5
              · subst h5; simp [pyM, u2, ppF, paF, c_1, c_2, c_3]
              · by_cases h6 : b9 = 6
                · subst h6; simp [pyM, u2, ppF, paF, c_1, c_2, c_3]
                · simp [pyM, u2, h5, h6]
            · simp [pyM, u2, h1]) hP
        exact e_Ii C0 hr hP hS (by simp [paF, c_1, c_2, c_3]) (by decide) dX1_pay_68
  · refine lv_aload_n hx hb dX1_pay_4 rfl (lv_at hl 0 rfl) ?_
    refine lv_aload_n hx hb dX1_pay_5 rfl (lv_at hl 0 rfl) ?_
    refine gf_X1_31 C0 hP (k := r) hr0 dX1_pay_6 ?_
    refine lv_iconst (v := 1) hx hb dX1_pay_9 (by decide) ?_
    refine lv_isub hx hb dX1_pay_10 ?_
    refine lv_iconst (v := 0) hx hb dX1_pay_11 (by decide) ?_
    refine m_max C0 ml_X1_68 hl.1 ⟨Nat.le_of_ble_eq_true rfl, by decide, by decide⟩ (by decide) dX1_pay_12 ?_
    refine pf_X1_31 C0 hP hS (k := r) hr0 dX1_pay_15 (fun H locs hP hS => ?_)
    refine lv_iconst (v := 0) hx hb dX1_pay_18 (by decide) ?_
    have hP := PW_eq (M' := pyM M r sh) (by
        funext a9 b9
        by_cases h1 : a9 = r
        · subst h1
          by_cases h5 : b9 = 5
          · subst h5; simp [pyM, u2, ppF, paF, c_1]
          · by_cases h6 : b9 = 6
            · subst h6; simp [pyM, u2, ppF, paF, c_1]
            · simp [pyM, u2, h5, h6]
        · simp [pyM, u2, h1]) hP
    exact e_Ii C0 hr hP hS (by simp [paF, c_1]) (by decide) dX1_pay_19

set_option maxHeartbeats 4000000 in
set_option maxRecDepth 100000 in
theorem c_X3_entry (l : Launch) (G : GG) (M : Mem) (o : Nat → Int64) (k : Nat) (hk : k < 12) : MI l yX3_entry cX3_entry 2 (some .int) 0 0 G [.ref (adr G 1), .int (nI k)] M M o o (10 * M 2 k + M 3 k) 0 0 := by
  refine MI_of RX3 rfl (by decide +kernel) (Nat.le_of_ble_eq_true rfl) ?_
  intro p e s m below meth c sz C0 hr hP ls hl
  have hx := C0.1
  have hb := C0.2.1
  have hS : va_S (pA G sz) s.heap s.heap [] := va_S.rf
  have hl : lv_has ls 2 [(0, .ref (adr G 1)), (1, .int (nI k))] := hl
  refine lv_bipush (v := 10) hx hb dX3_entry_0 (by decide) ?_
  refine lv_aload_n hx hb dX3_entry_2 rfl (lv_at hl 0 rfl) ?_
  refine gf_X3_9 C0 hP (k := 1) (show kd 1 = 3 by decide) dX3_entry_3 ?_
  refine lv_iload_n hx hb dX3_entry_6 rfl (lv_at hl 1 rfl) ?_
  refine w_ialdN C0 hP (k := 2) (i := k) (show kd 2 = 7 by decide) (show k < 12 by omega) (by omega) dX3_entry_7 ?_
  refine lv_imul hx hb dX3_entry_8 ?_
  refine lv_aload_n hx hb dX3_entry_9 rfl (lv_at hl 0 rfl) ?_
  refine gf_X3_15 C0 hP (k := 1) (show kd 1 = 3 by decide) dX3_entry_10 ?_
  refine lv_iload_n hx hb dX3_entry_13 rfl (lv_at hl 1 rfl) ?_
  refine w_ialdN C0 hP (k := 3) (i := k) (show kd 3 = 7 by decide) (show k < 12 by omega) (by omega) dX3_entry_14 ?_
  refine lv_iadd hx hb dX3_entry_15 ?_
  exact e_Ii C0 hr hP hS rfl (by decide) dX3_entry_16

set_option maxHeartbeats 4000000 in
set_option maxRecDepth 100000 in
theorem c_X3_lightAt (l : Launch) (G : GG) (M : Mem) (o : Nat → Int64) (k : Nat) (hk : k ≤ 720) : MI l yX3_lightAt cX3_lightAt 3 (some .int) 0 0 G [.ref (adr G 1), .int (nI k)] M M o o (ltF (M 2) (M 3) k) 0 0 := by
  refine MI_of RX3 rfl (by decide +kernel) (Nat.le_of_ble_eq_true rfl) ?_
  intro p e s m below meth c sz C0 hr hP ls hl
  have hx := C0.1
  have hb := C0.2.1
  have hS : va_S (pA G sz) s.heap s.heap [] := va_S.rf
  have hl : lv_has ls 3 [(0, .ref (adr G 1)), (1, .int (nI k))] := hl
  refine lv_iload_n hx hb dX3_lightAt_0 rfl (lv_at hl 1 rfl) ?_
  refine lv_if_lt (tgt := 11) hx hb dX3_lightAt_1 (by decide) (fun c_1 => ?_) (fun c_1 => ?_)
  · exact absurd c_1 (nI_pos (by omega))
  · refine lv_iload_n hx hb dX3_lightAt_4 rfl (lv_at hl 1 rfl) ?_
    refine lv_sipush (v := 720) hx hb dX3_lightAt_5 (by decide) ?_
    refine lv_icmp_lt (tgt := 13) hx hb dX3_lightAt_8 (by decide) (fun c_2 => ?_) (fun c_2 => ?_)
    · have hk2 : k < 720 := by
        rcases Nat.lt_or_ge k 720 with z | z
        · exact z
        · exact absurd c_2 (nI_nlt (a := k) (b := 720) z (by omega))
      refine lv_iload_n hx hb dX3_lightAt_13 rfl (lv_at hl 1 rfl) ?_
      refine lv_bipush (v := 60) hx hb dX3_lightAt_14 (by decide) ?_
      refine lv_idiv hx hb dX3_lightAt_16 (by decide) ?_
      rw [show (nI k / 60 : Int32) = nI (k / 60) from pk_div (by omega) (by decide) (by decide)]
      refine lv_istore_n (lv' := [(2, .int (nI (k / 60))), (0, .ref (adr G 1)), (1, .int (nI k))]) hx hb dX3_lightAt_17 rfl hl (by decide) rfl (fun ls hl => ?_)
      refine lv_aload_n hx hb dX3_lightAt_18 rfl (lv_at hl 1 rfl) ?_
      refine gf_X3_9 C0 hP (k := 1) (show kd 1 = 3 by decide) dX3_lightAt_19 ?_
      refine lv_iload_n hx hb dX3_lightAt_22 rfl (lv_at hl 0 rfl) ?_
      refine w_ialdN C0 hP (k := 2) (i := (k / 60)) (show kd 2 = 7 by decide) (show (k / 60) < 12 by omega) (by omega) dX3_lightAt_23 ?_
      refine lv_bipush (v := 10) hx hb dX3_lightAt_24 (by decide) ?_
      refine lv_aload_n hx hb dX3_lightAt_26 rfl (lv_at hl 1 rfl) ?_
      refine gf_X3_15 C0 hP (k := 1) (show kd 1 = 3 by decide) dX3_lightAt_27 ?_
      refine lv_iload_n hx hb dX3_lightAt_30 rfl (lv_at hl 0 rfl) ?_
      refine w_ialdN C0 hP (k := 3) (i := (k / 60)) (show kd 3 = 7 by decide) (show (k / 60) < 12 by omega) (by omega) dX3_lightAt_31 ?_
      refine lv_isub hx hb dX3_lightAt_32 ?_
      refine lv_imul hx hb dX3_lightAt_33 ?_
      refine lv_bipush (v := 10) hx hb dX3_lightAt_34 (by decide) ?_
      refine lv_idiv hx hb dX3_lightAt_36 (by decide) ?_
      exact e_Ii C0 hr hP hS (by simp [ltF, hk2]) (by decide) dX3_lightAt_37
    · have hk2 : ¬ k < 720 := fun z => c_2 (nI_lt (a := k) (b := 720) z (by omega))
      refine lv_iconst (v := 0) hx hb dX3_lightAt_11 (by decide) ?_
      exact e_Ii C0 hr hP hS (by simp [ltF, hk2]) (by decide) dX3_lightAt_12
end CLA
