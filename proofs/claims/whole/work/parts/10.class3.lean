section CLC
def otn (v : Int32) : Int32 := if v < 1 then 0 else if 9 < v then 0 else 1
def ztn (v : Int32) : Int32 := if v < 0 then 0 else if 9 < v then 0 else 1
/-- np passers-by, nr rooms, the minute k -/
def OKM (M : Mem) (np nr k : Nat) : Prop := M 4 1 = nI np ∧ np ≤ 10 ∧ M 4 2 = nI nr ∧ nr ≤ 8 ∧ M 4 0 = nI k ∧ k ≤ 720
def bdP (a1 a2 a3 a4 : Int32) : Prop := stp a1 = 0 ∨ a2 < -3 ∨ 3 < a2 ∨ otn a3 = 0 ∨ otn a4 = 0
def bdL (a2 a3 : Int32) : Prop := a2 < 0 ∨ 100 < a2 ∨ ztn a3 = 0
def bdR (a1 a2 a3 : Int32) : Prop := stp a1 = 0 ∨ otn a2 = 0 ∨ a3 < 0 ∨ ¬ a3 ≤ 20
def bdS (a2 : Int32) : Prop := a2 < 1 ∨ ¬ a2 ≤ 20
def bdW (a2 dp : Int32) : Prop := a2 < -(4 * dp) ∨ ¬ a2 ≤ 4 * dp
def pfF (M : Mem) (nr k i : Nat) : Nat → Int32
  | 0 => M (4 + 3 + i) 0
  | 1 => M (4 + 3 + i) 1
  | 2 => M (4 + 3 + i) 2
  | 3 => M (4 + 3 + i) 3
  | _ => rsM M 4 (4 + 3 + i) (ltF (M 2) (M 3) k) nr
def rfF (M : Mem) (np k i : Nat) : Nat → Int32
  | 0 => M (4 + 13 + i) 0
  | 1 => M (4 + 13 + i) 1
  | 2 => M (4 + 13 + i) 2
  | 3 => M (4 + 13 + i) 3
  | 4 => M (4 + 13 + i) 4
  | 5 => M (4 + 13 + i) 5
  | 6 => siM M 4 (4 + 13 + i) (ltF (M 2) (M 3) k) np
  | _ => M (4 + 13 + i) 6
def hfF (M : Mem) (np nr k : Nat) : Nat → Int32
  | 0 => nI k
  | 1 => ltF (M 2) (M 3) k
  | 2 => nI np
  | 3 => goM M 4 np
  | 4 => nI nr
  | 5 => peM M 4 nr
  | 6 => asM M 4 (ltF (M 2) (M 3) k) np nr
  | 7 => pnM M 4 nr
  | _ => if k < 720 then 0 else 1
theorem cmM_lo {M : Mem} {h a j : Nat} {a1 a2 a3 a4 : Int32} (hne : a ≠ h) : cmM M h a1 a2 a3 a4 a j = M a j := by
  unfold cmM
  rw [u2_ne hne, u2_ne hne, u2_ne hne, u2_ne hne]
theorem bdM_lo {M : Mem} {h a j : Nat} {a1 a2 a3 : Int32} (hne : a ≠ h) : bdM M h a1 a2 a3 a j = M a j := by
  unfold bdM
  rw [u2_ne hne, u2_ne hne, u2_ne hne, u2_ne hne]
section TOPE
variable {p : Program} {l : Launch} {e : Env} {R : Room} {s : State} {m : MethodId} {args : Array Value} {below : List Frame} {meth : Method} {c : Code} {H : Heap} {locs : List Loc} {cells slots : Nat} {Q : State → Prop} {pc : Nat} {ls : Array Slot} {rest : List Value}
theorem lv_topE {x y : Int32} (h : x = y) (k : W p l e R s m args below meth c H locs cells slots Q (F0 m pc ls (.int y :: rest))) : W p l e R s m args below meth c H locs cells slots Q (F0 m pc ls (.int x :: rest)) := by
  rw [h]
  exact k
end TOPE
theorem kl_X4_187 : Cond.constantLong RX4 187 853 ∈ UU := List.mem_filter.mpr ⟨List.mem_append_right _ (List.mem_append_left _ (List.mem_of_getElem? (i := 156) rfl)), rfl⟩
theorem kl_X4_189 : Cond.constantLong RX4 189 31 ∈ UU := List.mem_filter.mpr ⟨List.mem_append_right _ (List.mem_append_left _ (List.mem_of_getElem? (i := 157) rfl)), rfl⟩
theorem kl_X6_135 : Cond.constantLong RX6 135 853 ∈ UU := List.mem_filter.mpr ⟨List.mem_append_right _ (List.mem_append_right _ (List.mem_append_right _ (List.mem_append_right _ (List.mem_of_getElem? (i := 66) rfl)))), rfl⟩
theorem kl_X6_137 : Cond.constantLong RX6 137 31 ∈ UU := List.mem_filter.mpr ⟨List.mem_append_right _ (List.mem_append_right _ (List.mem_append_right _ (List.mem_append_right _ (List.mem_of_getElem? (i := 67) rfl)))), rfl⟩
set_option maxHeartbeats 4000000 in
set_option maxRecDepth 100000 in
theorem c_X4_isOneToNine (l : Launch) (G : GG) (M : Mem) (o : Nat → Int64) (v : Int32) : MI l yX4_isOneToNine cX4_isOneToNine 1 (some .boolean) 0 0 G [.int v] M M o o (otn v) 0 0 := by
  refine MI_of RX4 rfl (by decide +kernel) (Nat.le_of_ble_eq_true rfl) ?_
  intro p e s m below meth c sz C0 hr hP ls hl
  have hx := C0.1
  have hb := C0.2.1
  have hS : va_S (pA G sz) s.heap s.heap [] := va_S.rf
  have hl : lv_has ls 1 [(0, .int v)] := hl
  refine lv_iload_n hx hb dX4_isOneToNine_0 rfl (lv_at hl 0 rfl) ?_
  refine lv_iconst (v := 1) hx hb dX4_isOneToNine_1 (by decide) ?_
  refine lv_icmp_lt (tgt := 15) hx hb dX4_isOneToNine_2 (by decide) (fun c_1 => ?_) (fun c_1 => ?_)
  · refine lv_iconst (v := 0) hx hb dX4_isOneToNine_15 (by decide) ?_
    exact e_I (ty := .boolean) C0 hr (by decide +kernel) hP hS (by simp [otn, c_1]) (by decide) dX4_isOneToNine_16
  · refine lv_iload_n hx hb dX4_isOneToNine_5 rfl (lv_at hl 0 rfl) ?_
    refine lv_bipush (v := 9) hx hb dX4_isOneToNine_6 (by decide) ?_
    refine lv_icmp_gt (tgt := 15) hx hb dX4_isOneToNine_8 (by decide) (fun c_2 => ?_) (fun c_2 => ?_)
    · refine lv_iconst (v := 0) hx hb dX4_isOneToNine_15 (by decide) ?_
      exact e_I (ty := .boolean) C0 hr (by decide +kernel) hP hS (by simp [otn, c_1, c_2]) (by decide) dX4_isOneToNine_16
    · refine lv_iconst (v := 1) hx hb dX4_isOneToNine_11 (by decide) ?_
      refine lv_goto (tgt := 16) hx hb dX4_isOneToNine_12 (by decide) ?_
      exact e_I (ty := .boolean) C0 hr (by decide +kernel) hP hS (by simp [otn, c_1, c_2]) (by decide) dX4_isOneToNine_16

set_option maxHeartbeats 4000000 in
set_option maxRecDepth 100000 in
theorem c_X4_isZeroToNine (l : Launch) (G : GG) (M : Mem) (o : Nat → Int64) (v : Int32) : MI l yX4_isZeroToNine cX4_isZeroToNine 1 (some .boolean) 0 0 G [.int v] M M o o (ztn v) 0 0 := by
  refine MI_of RX4 rfl (by decide +kernel) (Nat.le_of_ble_eq_true rfl) ?_
  intro p e s m below meth c sz C0 hr hP ls hl
  have hx := C0.1
  have hb := C0.2.1
  have hS : va_S (pA G sz) s.heap s.heap [] := va_S.rf
  have hl : lv_has ls 1 [(0, .int v)] := hl
  refine lv_iload_n hx hb dX4_isZeroToNine_0 rfl (lv_at hl 0 rfl) ?_
  refine lv_if_lt (tgt := 14) hx hb dX4_isZeroToNine_1 (by decide) (fun c_1 => ?_) (fun c_1 => ?_)
  · refine lv_iconst (v := 0) hx hb dX4_isZeroToNine_14 (by decide) ?_
    exact e_I (ty := .boolean) C0 hr (by decide +kernel) hP hS (by simp [ztn, c_1]) (by decide) dX4_isZeroToNine_15
  · refine lv_iload_n hx hb dX4_isZeroToNine_4 rfl (lv_at hl 0 rfl) ?_
    refine lv_bipush (v := 9) hx hb dX4_isZeroToNine_5 (by decide) ?_
    refine lv_icmp_gt (tgt := 14) hx hb dX4_isZeroToNine_7 (by decide) (fun c_2 => ?_) (fun c_2 => ?_)
    · refine lv_iconst (v := 0) hx hb dX4_isZeroToNine_14 (by decide) ?_
      exact e_I (ty := .boolean) C0 hr (by decide +kernel) hP hS (by simp [ztn, c_1, c_2]) (by decide) dX4_isZeroToNine_15
    · refine lv_iconst (v := 1) hx hb dX4_isZeroToNine_10 (by decide) ?_
      refine lv_goto (tgt := 15) hx hb dX4_isZeroToNine_11 (by decide) ?_
      exact e_I (ty := .boolean) C0 hr (by decide +kernel) hP hS (by simp [ztn, c_1, c_2]) (by decide) dX4_isZeroToNine_15

set_option maxHeartbeats 4000000 in
set_option maxRecDepth 100000 in
theorem c_X4_needBelow (l : Launch) (G : GG) (M : Mem) (o : Nat → Int64) (a1 a2 : Nat) (h1 : a1 < a2) (h2 : a2 < 64) : MV l yX4_needBelow cX4_needBelow 2 none 0 0 G [.int (nI a1), .int (nI a2)] M M o o 0 0 := by
  refine MV_of RX4 rfl (by decide +kernel) (Nat.le_of_ble_eq_true rfl) ?_
  intro p e s m below meth c sz C0 hr hP ls hl
  have hx := C0.1
  have hb := C0.2.1
  have hS : va_S (pA G sz) s.heap s.heap [] := va_S.rf
  have hl : lv_has ls 2 [(0, .int (nI a1)), (1, .int (nI a2))] := hl
  refine lv_iload_n hx hb dX4_needBelow_0 rfl (lv_at hl 0 rfl) ?_
  refine lv_if_lt (tgt := 9) hx hb dX4_needBelow_1 (by decide) (fun c_1 => ?_) (fun c_1 => ?_)
  · exact absurd c_1 (nI_pos (by omega))
  · refine lv_iload_n hx hb dX4_needBelow_4 rfl (lv_at hl 0 rfl) ?_
    refine lv_iload_n hx hb dX4_needBelow_5 rfl (lv_at hl 1 rfl) ?_
    refine lv_icmp_lt (tgt := 17) hx hb dX4_needBelow_6 (by decide) (fun c_2 => ?_) (fun c_2 => ?_)
    · exact e_V C0 hr hP hS (by decide) dX4_needBelow_17
    · exact absurd (nI_lt h1 (by omega)) c_2

set_option maxHeartbeats 4000000 in
set_option maxRecDepth 100000 in
theorem c_X4_needBelow_x (l : Launch) (G : GG) (M : Mem) (o : Nat → Int64) (hst : l.stackTraces = false) (x1 x2 : Int32) (hbd : x1 < 0 ∨ ¬ x1 < x2) : MX l yX4_needBelow cX4_needBelow 2 none 6 89 G [.int x1, .int x2] M M o o "java/lang/IndexOutOfBoundsException" 1 6 := by
  refine MX_of RX4 rfl (by decide +kernel) (Nat.le_of_ble_eq_true rfl) ?_
  intro p e s m below meth c sz C0 hx0 hP ls hl
  have hx := C0.1
  have hb := C0.2.1
  have hS : va_S (pA G sz) s.heap s.heap [] := va_S.rf
  have hl : lv_has ls 2 [(0, .int x1), (1, .int x2)] := hl
  refine lv_iload_n hx hb dX4_needBelow_0 rfl (lv_at hl 0 rfl) ?_
  refine lv_if_lt (tgt := 9) hx hb dX4_needBelow_1 (by decide) (fun c_1 => ?_) (fun c_1 => ?_)
  · exact th_IOE C0 hst hx0 hP hS hl.1 dX4_needBelow_9 dX4_needBelow_12 dX4_needBelow_13 dX4_needBelow_16 ⟨by decide, Nat.le_of_ble_eq_true rfl, by decide, by decide⟩ (by decide)
  · refine lv_iload_n hx hb dX4_needBelow_4 rfl (lv_at hl 0 rfl) ?_
    refine lv_iload_n hx hb dX4_needBelow_5 rfl (lv_at hl 1 rfl) ?_
    refine lv_icmp_lt (tgt := 17) hx hb dX4_needBelow_6 (by decide) (fun c_2 => ?_) (fun c_2 => ?_)
    · exact absurd hbd (by simp [c_1, c_2])
    · exact th_IOE C0 hst hx0 hP hS hl.1 dX4_needBelow_9 dX4_needBelow_12 dX4_needBelow_13 dX4_needBelow_16 ⟨by decide, Nat.le_of_ble_eq_true rfl, by decide, by decide⟩ (by decide)

set_option maxHeartbeats 4000000 in
set_option maxRecDepth 100000 in
theorem c_X4_needMinutes (l : Launch) (G : GG) (M : Mem) (o : Nat → Int64) (a1 a2 : Nat) (h0 : 1 ≤ a1) (h1 : a1 ≤ a2) (h2 : a2 < 1000) : MV l yX4_needMinutes cX4_needMinutes 2 none 0 0 G [.int (nI a1), .int (nI a2)] M M o o 0 0 := by
  refine MV_of RX4 rfl (by decide +kernel) (Nat.le_of_ble_eq_true rfl) ?_
  intro p e s m below meth c sz C0 hr hP ls hl
  have hx := C0.1
  have hb := C0.2.1
  have hS : va_S (pA G sz) s.heap s.heap [] := va_S.rf
  have hl : lv_has ls 2 [(0, .int (nI a1)), (1, .int (nI a2))] := hl
  refine lv_iload_n hx hb dX4_needMinutes_0 rfl (lv_at hl 0 rfl) ?_
  refine lv_iconst (v := 1) hx hb dX4_needMinutes_1 (by decide) ?_
  refine lv_icmp_lt (tgt := 10) hx hb dX4_needMinutes_2 (by decide) (fun c_1 => ?_) (fun c_1 => ?_)
  · exact absurd c_1 (nI_nlt (a := a1) (b := 1) h0 (by omega))
  · refine lv_iload_n hx hb dX4_needMinutes_5 rfl (lv_at hl 0 rfl) ?_
    refine lv_iload_n hx hb dX4_needMinutes_6 rfl (lv_at hl 1 rfl) ?_
    refine lv_icmp_le (tgt := 18) hx hb dX4_needMinutes_7 (by decide) (fun c_2 => ?_) (fun c_2 => ?_)
    · exact e_V C0 hr hP hS (by decide) dX4_needMinutes_18
    · exact absurd (nI_le h1 (by omega)) c_2

set_option maxHeartbeats 4000000 in
set_option maxRecDepth 100000 in
theorem c_X4_needMinutes_x (l : Launch) (G : GG) (M : Mem) (o : Nat → Int64) (hst : l.stackTraces = false) (x1 x2 : Int32) (hbd : x1 < 1 ∨ ¬ x1 ≤ x2) : MX l yX4_needMinutes cX4_needMinutes 2 none 6 89 G [.int x1, .int x2] M M o o "java/lang/IllegalArgumentException" 1 6 := by
  refine MX_of RX4 rfl (by decide +kernel) (Nat.le_of_ble_eq_true rfl) ?_
  intro p e s m below meth c sz C0 hx0 hP ls hl
  have hx := C0.1
  have hb := C0.2.1
  have hS : va_S (pA G sz) s.heap s.heap [] := va_S.rf
  have hl : lv_has ls 2 [(0, .int x1), (1, .int x2)] := hl
  refine lv_iload_n hx hb dX4_needMinutes_0 rfl (lv_at hl 0 rfl) ?_
  refine lv_iconst (v := 1) hx hb dX4_needMinutes_1 (by decide) ?_
  refine lv_icmp_lt (tgt := 10) hx hb dX4_needMinutes_2 (by decide) (fun c_1 => ?_) (fun c_1 => ?_)
  · exact th_IAE C0 hst hx0 hP hS hl.1 dX4_needMinutes_10 dX4_needMinutes_13 dX4_needMinutes_14 dX4_needMinutes_17 ⟨by decide, Nat.le_of_ble_eq_true rfl, by decide, by decide⟩ (by decide)
  · refine lv_iload_n hx hb dX4_needMinutes_5 rfl (lv_at hl 0 rfl) ?_
    refine lv_iload_n hx hb dX4_needMinutes_6 rfl (lv_at hl 1 rfl) ?_
    refine lv_icmp_le (tgt := 18) hx hb dX4_needMinutes_7 (by decide) (fun c_2 => ?_) (fun c_2 => ?_)
    · exact absurd hbd (by simp [c_1, c_2])
    · exact th_IAE C0 hst hx0 hP hS hl.1 dX4_needMinutes_10 dX4_needMinutes_13 dX4_needMinutes_14 dX4_needMinutes_17 ⟨by decide, Nat.le_of_ble_eq_true rfl, by decide, by decide⟩ (by decide)

set_option maxHeartbeats 4000000 in
set_option maxRecDepth 100000 in
theorem c_X4_needPasser (l : Launch) (G : GG) (M : Mem) (o : Nat → Int64) (np nr k : Nat) (hO : OKM M np nr k) (i : Nat) (hi : i < np) : MV l yX4_needPasser cX4_needPasser 2 none 1 21 G [.ref (adr G 0), .int (nI i)] M M o o 0 0 := by
  refine MV_of RX4 rfl (by decide +kernel) (Nat.le_of_ble_eq_true rfl) ?_
  intro p e s m below meth c sz C0 hr hP ls hl
  have hx := C0.1
  have hb := C0.2.1
  have hS : va_S (pA G sz) s.heap s.heap [] := va_S.rf
  have hl : lv_has ls 2 [(0, .ref (adr G 0)), (1, .int (nI i))] := hl
  obtain ⟨hnp, hple, hnr, hrle, hk0, hkle⟩ := id hO
  refine lv_iload_n hx hb dX4_needPasser_0 rfl (lv_at hl 1 rfl) ?_
  refine lv_aload_n hx hb dX4_needPasser_1 rfl (lv_at hl 0 rfl) ?_
  refine gf_X4_19 C0 hP (k := 0) (show kd 0 = 4 by decide) dX4_needPasser_2 ?_
  refine gf_X4_36 C0 hP (k := 4) (show kd 4 = 2 by decide) dX4_needPasser_5 ?_
  refine lv_topE hnp ?_
  refine k_SV C0 hP hS (rest := []) (c_X4_needBelow l G M o i np (by omega) (by omega)) mf_X4_needBelow rfl ml_X4_105 hl.1 (by decide) (by decide) (Nat.le_of_ble_eq_true rfl) rfl rfl dX4_needPasser_8 (fun H locs hP hS => ?_)
  exact e_V C0 hr hP hS (by decide) dX4_needPasser_11

set_option maxHeartbeats 4000000 in
set_option maxRecDepth 100000 in
theorem c_X4_needPasser_x (l : Launch) (G : GG) (M : Mem) (o : Nat → Int64) (hst : l.stackTraces = false) (np nr k : Nat) (hO : OKM M np nr k) (x1 : Int32) (hbd : x1 < 0 ∨ ¬ x1 < nI np) : MX l yX4_needPasser cX4_needPasser 2 none 7 110 G [.ref (adr G 0), .int x1] M M o o "java/lang/IndexOutOfBoundsException" 1 6 := by
  refine MX_of RX4 rfl (by decide +kernel) (Nat.le_of_ble_eq_true rfl) ?_
  intro p e s m below meth c sz C0 hx0 hP ls hl
  have hx := C0.1
  have hb := C0.2.1
  have hS : va_S (pA G sz) s.heap s.heap [] := va_S.rf
  have hl : lv_has ls 2 [(0, .ref (adr G 0)), (1, .int x1)] := hl
  obtain ⟨hnp, hple, hnr, hrle, hk0, hkle⟩ := id hO
  refine lv_iload_n hx hb dX4_needPasser_0 rfl (lv_at hl 1 rfl) ?_
  refine lv_aload_n hx hb dX4_needPasser_1 rfl (lv_at hl 0 rfl) ?_
  refine gf_X4_19 C0 hP (k := 0) (show kd 0 = 4 by decide) dX4_needPasser_2 ?_
  refine gf_X4_36 C0 hP (k := 4) (show kd 4 = 2 by decide) dX4_needPasser_5 ?_
  refine lv_topE hnp ?_
  refine k_SX C0 hP hS (rest := []) (c_X4_needBelow_x l G M o hst x1 (nI np) hbd) mf_X4_needBelow rfl ml_X4_105 hl.1 (by decide) (by decide) (Nat.le_of_ble_eq_true rfl) rfl rfl dX4_needPasser_8 (fun ce q9 H locs hP hS hce hcv hcl => ?_)
  exact e_X C0 hx0 hP hS hce hcv hcl (by decide)

set_option maxHeartbeats 4000000 in
set_option maxRecDepth 100000 in
theorem c_X4_needRoom (l : Launch) (G : GG) (M : Mem) (o : Nat → Int64) (np nr k : Nat) (hO : OKM M np nr k) (i : Nat) (hi : i < nr) : MV l yX4_needRoom cX4_needRoom 2 none 1 21 G [.ref (adr G 0), .int (nI i)] M M o o 0 0 := by
  refine MV_of RX4 rfl (by decide +kernel) (Nat.le_of_ble_eq_true rfl) ?_
  intro p e s m below meth c sz C0 hr hP ls hl
  have hx := C0.1
  have hb := C0.2.1
  have hS : va_S (pA G sz) s.heap s.heap [] := va_S.rf
  have hl : lv_has ls 2 [(0, .ref (adr G 0)), (1, .int (nI i))] := hl
  obtain ⟨hnp, hple, hnr, hrle, hk0, hkle⟩ := id hO
  refine lv_iload_n hx hb dX4_needRoom_0 rfl (lv_at hl 1 rfl) ?_
  refine lv_aload_n hx hb dX4_needRoom_1 rfl (lv_at hl 0 rfl) ?_
  refine gf_X4_19 C0 hP (k := 0) (show kd 0 = 4 by decide) dX4_needRoom_2 ?_
  refine gf_X4_70 C0 hP (k := 4) (show kd 4 = 2 by decide) dX4_needRoom_5 ?_
  refine lv_topE hnr ?_
  refine k_SV C0 hP hS (rest := []) (c_X4_needBelow l G M o i nr (by omega) (by omega)) mf_X4_needBelow rfl ml_X4_105 hl.1 (by decide) (by decide) (Nat.le_of_ble_eq_true rfl) rfl rfl dX4_needRoom_8 (fun H locs hP hS => ?_)
  exact e_V C0 hr hP hS (by decide) dX4_needRoom_11

set_option maxHeartbeats 4000000 in
set_option maxRecDepth 100000 in
theorem c_X4_needRoom_x (l : Launch) (G : GG) (M : Mem) (o : Nat → Int64) (hst : l.stackTraces = false) (np nr k : Nat) (hO : OKM M np nr k) (x1 : Int32) (hbd : x1 < 0 ∨ ¬ x1 < nI nr) : MX l yX4_needRoom cX4_needRoom 2 none 7 110 G [.ref (adr G 0), .int x1] M M o o "java/lang/IndexOutOfBoundsException" 1 6 := by
  refine MX_of RX4 rfl (by decide +kernel) (Nat.le_of_ble_eq_true rfl) ?_
  intro p e s m below meth c sz C0 hx0 hP ls hl
  have hx := C0.1
  have hb := C0.2.1
  have hS : va_S (pA G sz) s.heap s.heap [] := va_S.rf
  have hl : lv_has ls 2 [(0, .ref (adr G 0)), (1, .int x1)] := hl
  obtain ⟨hnp, hple, hnr, hrle, hk0, hkle⟩ := id hO
  refine lv_iload_n hx hb dX4_needRoom_0 rfl (lv_at hl 1 rfl) ?_
  refine lv_aload_n hx hb dX4_needRoom_1 rfl (lv_at hl 0 rfl) ?_
  refine gf_X4_19 C0 hP (k := 0) (show kd 0 = 4 by decide) dX4_needRoom_2 ?_
  refine gf_X4_70 C0 hP (k := 4) (show kd 4 = 2 by decide) dX4_needRoom_5 ?_
  refine lv_topE hnr ?_
  refine k_SX C0 hP hS (rest := []) (c_X4_needBelow_x l G M o hst x1 (nI nr) hbd) mf_X4_needBelow rfl ml_X4_105 hl.1 (by decide) (by decide) (Nat.le_of_ble_eq_true rfl) rfl rfl dX4_needRoom_8 (fun ce q9 H locs hP hS hce hcv hcl => ?_)
  exact e_X C0 hx0 hP hS hce hcv hcl (by decide)

set_option maxHeartbeats 4000000 in
set_option maxRecDepth 100000 in
theorem c_X4_lightNow (l : Launch) (G : GG) (M : Mem) (o : Nat → Int64) (np nr k : Nat) (hO : OKM M np nr k)  : MI l yX4_lightNow cX4_lightNow 1 (some .int) 1 22 G [.ref (adr G 0)] M M o o (ltF (M 2) (M 3) k) 0 0 := by
  refine MI_of RX4 rfl (by decide +kernel) (Nat.le_of_ble_eq_true rfl) ?_
  intro p e s m below meth c sz C0 hr hP ls hl
  have hx := C0.1
  have hb := C0.2.1
  have hS : va_S (pA G sz) s.heap s.heap [] := va_S.rf
  have hl : lv_has ls 1 [(0, .ref (adr G 0))] := hl
  obtain ⟨hnp, hple, hnr, hrle, hk0, hkle⟩ := id hO
  refine lv_aload_n hx hb dX4_lightNow_0 rfl (lv_at hl 0 rfl) ?_
  refine gf_X4_12 C0 hP (k := 0) (show kd 0 = 4 by decide) dX4_lightNow_1 ?_
  refine lv_aload_n hx hb dX4_lightNow_4 rfl (lv_at hl 0 rfl) ?_
  refine gf_X4_19 C0 hP (k := 0) (show kd 0 = 4 by decide) dX4_lightNow_5 ?_
  refine gf_X4_151 C0 hP (k := 4) (show kd 4 = 2 by decide) dX4_lightNow_8 ?_
  refine lv_topE hk0 ?_
  refine k_VNI C0 hP hS (rest := []) (c_X3_lightAt l G M o k hkle) mf_X3_lightAt ml_X4_154 (kd_lt (show kd 1 = 3 by decide) (by decide)) (ct_3 (show kd 1 = 3 by decide)) rfl hl.1 (by decide) (by decide) (Nat.le_of_ble_eq_true rfl) rfl rfl dX4_lightNow_11 (fun H locs hP hS => ?_)
  exact e_Ii C0 hr hP hS rfl (by decide) dX4_lightNow_14

set_option maxHeartbeats 4000000 in
set_option maxRecDepth 100000 in
theorem c_X4_passerFact (l : Launch) (G : GG) (M : Mem) (o : Nat → Int64) (np nr k : Nat) (hO : OKM M np nr k) (i w : Nat) (hi : i < np) (hw : w < 5) : MI l yX4_passerFact cX4_passerFact 4 (some .int) 4 88 G [.ref (adr G 0), .int (nI i), .int (nI w)] M M o o (pfF M nr k i w) 0 0 := by
  refine MI_of RX4 rfl (by decide +kernel) (Nat.le_of_ble_eq_true rfl) ?_
  intro p e s m below meth c sz C0 hr hP ls hl
  have hx := C0.1
  have hb := C0.2.1
  have hS : va_S (pA G sz) s.heap s.heap [] := va_S.rf
  have hl : lv_has ls 4 [(0, .ref (adr G 0)), (1, .int (nI i)), (2, .int (nI w))] := hl
  obtain ⟨hnp, hple, hnr, hrle, hk0, hkle⟩ := id hO
  refine lv_aload_n hx hb dX4_passerFact_0 rfl (lv_at hl 0 rfl) ?_
  refine gf_X4_19 C0 hP (k := 0) (show kd 0 = 4 by decide) dX4_passerFact_1 ?_
  refine gf_X4_43 C0 hP (k := 4) (show kd 4 = 2 by decide) dX4_passerFact_4 ?_
  refine lv_iload_n hx hb dX4_passerFact_7 rfl (lv_at hl 1 rfl) ?_
  refine w_aldP C0 hP (k := 4 + 1) (i := i) (kdS1 (Or.inl rfl)) (by omega) dX4_passerFact_8 ?_
  refine lv_astore_n (lv' := [(3, .ref (adr G (4 + 3 + i))), (0, .ref (adr G 0)), (1, .int (nI i)), (2, .int (nI w))]) hx hb dX4_passerFact_9 rfl hl (by decide) rfl (fun ls hl => ?_)
  refine lv_iload_n hx hb dX4_passerFact_10 rfl (lv_at hl 3 rfl) ?_
  rcases (show w = 0 ∨ w = 1 ∨ w = 2 ∨ w = 3 ∨ w = 4 by omega) with h9 | h9 | h9 | h9 | h9
  · subst h9
    refine lv_tableIn (off := 29) (tgt := 40) hx hb dX4_passerFact_11 (by decide) (by decide) (by decide +kernel) (by decide) ?_
    refine lv_aload_n hx hb dX4_passerFact_40 rfl (lv_at hl 0 rfl) ?_
    refine gf_X4_191 C0 hP (k := 4 + 3 + i) (kdSp (Or.inl rfl) (by omega)) dX4_passerFact_41 ?_
    exact e_Ii C0 hr hP hS rfl (by decide) dX4_passerFact_44
  · subst h9
    refine lv_tableIn (off := 34) (tgt := 45) hx hb dX4_passerFact_11 (by decide) (by decide) (by decide +kernel) (by decide) ?_
    refine lv_aload_n hx hb dX4_passerFact_45 rfl (lv_at hl 0 rfl) ?_
    refine gf_X4_192 C0 hP (k := 4 + 3 + i) (kdSp (Or.inl rfl) (by omega)) dX4_passerFact_46 ?_
    exact e_Ii C0 hr hP hS rfl (by decide) dX4_passerFact_49
  · subst h9
    refine lv_tableIn (off := 39) (tgt := 50) hx hb dX4_passerFact_11 (by decide) (by decide) (by decide +kernel) (by decide) ?_
    refine lv_aload_n hx hb dX4_passerFact_50 rfl (lv_at hl 0 rfl) ?_
    refine gf_X4_195 C0 hP (k := 4 + 3 + i) (kdSp (Or.inl rfl) (by omega)) dX4_passerFact_51 ?_
    exact e_Ii C0 hr hP hS rfl (by decide) dX4_passerFact_54
  · subst h9
    refine lv_tableIn (off := 44) (tgt := 55) hx hb dX4_passerFact_11 (by decide) (by decide) (by decide +kernel) (by decide) ?_
    refine lv_aload_n hx hb dX4_passerFact_55 rfl (lv_at hl 0 rfl) ?_
    refine gf_X4_198 C0 hP (k := 4 + 3 + i) (kdSp (Or.inl rfl) (by omega)) dX4_passerFact_56 ?_
    exact e_Ii C0 hr hP hS rfl (by decide) dX4_passerFact_59
  · subst h9
    refine lv_tableOut (tgt := 60) hx hb dX4_passerFact_11 (by decide) (by decide) ?_
    refine lv_aload_n hx hb dX4_passerFact_60 rfl (lv_at hl 1 rfl) ?_
    refine gf_X4_19 C0 hP (k := 0) (show kd 0 = 4 by decide) dX4_passerFact_61 ?_
    refine lv_aload_n hx hb dX4_passerFact_64 rfl (lv_at hl 0 rfl) ?_
    refine lv_aload_n hx hb dX4_passerFact_65 rfl (lv_at hl 1 rfl) ?_
    refine k_VI C0 hP hS (rest := [.ref (adr G (4 + 3 + i)), .ref (adr G 4)]) (c_X4_lightNow l G M o np nr k hO) mf_X4_lightNow ml_X4_130 (kd_lt (show kd 0 = 4 by decide) (by decide)) (ct_4 (show kd 0 = 4 by decide)) rfl hl.1 (by decide) (by decide) (Nat.le_of_ble_eq_true rfl) rfl rfl dX4_passerFact_66 (fun H locs hP hS => ?_)
    refine k_VNI C0 hP hS (rest := []) (c_X2_roomsSeeingWell l G M o 4 (4 + 3 + i) (ltF (M 2) (M 3) k) nr (Or.inl rfl) (kdSp (Or.inl rfl) (by omega)) hnr hrle) mf_X2_roomsSeeingWell ml_X4_201 (kd_lt (show kd 4 = 2 by decide) (by decide)) (ct_2 (show kd 4 = 2 by decide)) rfl hl.1 (by decide) (by decide) (Nat.le_of_ble_eq_true rfl) rfl rfl dX4_passerFact_69 (fun H locs hP hS => ?_)
    exact e_Ii C0 hr hP hS rfl (by decide) dX4_passerFact_72

set_option maxHeartbeats 4000000 in
set_option maxRecDepth 100000 in
theorem c_X4_roomFact (l : Launch) (G : GG) (M : Mem) (o : Nat → Int64) (np nr k : Nat) (hO : OKM M np nr k) (i w : Nat) (hi : i < nr) (hw : w < 8) : MI l yX4_roomFact cX4_roomFact 4 (some .int) 4 88 G [.ref (adr G 0), .int (nI i), .int (nI w)] M M o o (rfF M np k i w) 0 0 := by
  refine MI_of RX4 rfl (by decide +kernel) (Nat.le_of_ble_eq_true rfl) ?_
  intro p e s m below meth c sz C0 hr hP ls hl
  have hx := C0.1
  have hb := C0.2.1
  have hS : va_S (pA G sz) s.heap s.heap [] := va_S.rf
  have hl : lv_has ls 4 [(0, .ref (adr G 0)), (1, .int (nI i)), (2, .int (nI w))] := hl
  obtain ⟨hnp, hple, hnr, hrle, hk0, hkle⟩ := id hO
  refine lv_aload_n hx hb dX4_roomFact_0 rfl (lv_at hl 0 rfl) ?_
  refine gf_X4_19 C0 hP (k := 0) (show kd 0 = 4 by decide) dX4_roomFact_1 ?_
  refine gf_X4_76 C0 hP (k := 4) (show kd 4 = 2 by decide) dX4_roomFact_4 ?_
  refine lv_iload_n hx hb dX4_roomFact_7 rfl (lv_at hl 1 rfl) ?_
  refine w_aldR C0 hP (k := 4 + 2) (i := i) (kdS2 (Or.inl rfl)) (by omega) dX4_roomFact_8 ?_
  refine lv_astore_n (lv' := [(3, .ref (adr G (4 + 13 + i))), (0, .ref (adr G 0)), (1, .int (nI i)), (2, .int (nI w))]) hx hb dX4_roomFact_9 rfl hl (by decide) rfl (fun ls hl => ?_)
  refine lv_iload_n hx hb dX4_roomFact_10 rfl (lv_at hl 3 rfl) ?_
  rcases (show w = 0 ∨ w = 1 ∨ w = 2 ∨ w = 3 ∨ w = 4 ∨ w = 5 ∨ w = 6 ∨ w = 7 by omega) with h9 | h9 | h9 | h9 | h9 | h9 | h9 | h9
  · subst h9
    refine lv_tableIn (off := 41) (tgt := 52) hx hb dX4_roomFact_11 (by decide) (by decide) (by decide +kernel) (by decide) ?_
    refine lv_aload_n hx hb dX4_roomFact_52 rfl (lv_at hl 0 rfl) ?_
    refine gf_X4_120 C0 hP (k := 4 + 13 + i) (kdSr (Or.inl rfl) (by omega)) dX4_roomFact_53 ?_
    exact e_Ii C0 hr hP hS rfl (by decide) dX4_roomFact_56
  · subst h9
    refine lv_tableIn (off := 46) (tgt := 57) hx hb dX4_roomFact_11 (by decide) (by decide) (by decide +kernel) (by decide) ?_
    refine lv_aload_n hx hb dX4_roomFact_57 rfl (lv_at hl 0 rfl) ?_
    refine gf_X4_204 C0 hP (k := 4 + 13 + i) (kdSr (Or.inl rfl) (by omega)) dX4_roomFact_58 ?_
    exact e_Ii C0 hr hP hS rfl (by decide) dX4_roomFact_61
  · subst h9
    refine lv_tableIn (off := 51) (tgt := 62) hx hb dX4_roomFact_11 (by decide) (by decide) (by decide +kernel) (by decide) ?_
    refine lv_aload_n hx hb dX4_roomFact_62 rfl (lv_at hl 0 rfl) ?_
    refine gf_X4_90 C0 hP (k := 4 + 13 + i) (kdSr (Or.inl rfl) (by omega)) dX4_roomFact_63 ?_
    exact e_Ii C0 hr hP hS rfl (by decide) dX4_roomFact_66
  · subst h9
    refine lv_tableIn (off := 56) (tgt := 67) hx hb dX4_roomFact_11 (by decide) (by decide) (by decide +kernel) (by decide) ?_
    refine lv_aload_n hx hb dX4_roomFact_67 rfl (lv_at hl 0 rfl) ?_
    refine gf_X4_93 C0 hP (k := 4 + 13 + i) (kdSr (Or.inl rfl) (by omega)) dX4_roomFact_68 ?_
    exact e_Ii C0 hr hP hS rfl (by decide) dX4_roomFact_71
  · subst h9
    refine lv_tableIn (off := 61) (tgt := 72) hx hb dX4_roomFact_11 (by decide) (by decide) (by decide +kernel) (by decide) ?_
    refine lv_aload_n hx hb dX4_roomFact_72 rfl (lv_at hl 0 rfl) ?_
    refine gf_X4_96 C0 hP (k := 4 + 13 + i) (kdSr (Or.inl rfl) (by omega)) dX4_roomFact_73 ?_
    exact e_Ii C0 hr hP hS rfl (by decide) dX4_roomFact_76
  · subst h9
    refine lv_tableIn (off := 66) (tgt := 77) hx hb dX4_roomFact_11 (by decide) (by decide) (by decide +kernel) (by decide) ?_
    refine lv_aload_n hx hb dX4_roomFact_77 rfl (lv_at hl 0 rfl) ?_
    refine gf_X4_99 C0 hP (k := 4 + 13 + i) (kdSr (Or.inl rfl) (by omega)) dX4_roomFact_78 ?_
    exact e_Ii C0 hr hP hS rfl (by decide) dX4_roomFact_81
  · subst h9
    refine lv_tableIn (off := 71) (tgt := 82) hx hb dX4_roomFact_11 (by decide) (by decide) (by decide +kernel) (by decide) ?_
    refine lv_aload_n hx hb dX4_roomFact_82 rfl (lv_at hl 1 rfl) ?_
    refine gf_X4_19 C0 hP (k := 0) (show kd 0 = 4 by decide) dX4_roomFact_83 ?_
    refine lv_aload_n hx hb dX4_roomFact_86 rfl (lv_at hl 0 rfl) ?_
    refine lv_aload_n hx hb dX4_roomFact_87 rfl (lv_at hl 1 rfl) ?_
    refine k_VI C0 hP hS (rest := [.ref (adr G (4 + 13 + i)), .ref (adr G 4)]) (c_X4_lightNow l G M o np nr k hO) mf_X4_lightNow ml_X4_130 (kd_lt (show kd 0 = 4 by decide) (by decide)) (ct_4 (show kd 0 = 4 by decide)) rfl hl.1 (by decide) (by decide) (Nat.le_of_ble_eq_true rfl) rfl rfl dX4_roomFact_88 (fun H locs hP hS => ?_)
    refine k_VNI C0 hP hS (rest := []) (c_X2_showIn l G M o 4 (4 + 13 + i) (ltF (M 2) (M 3) k) np (Or.inl rfl) (kdSr (Or.inl rfl) (by omega)) hnp hple) mf_X2_showIn ml_X4_157 (kd_lt (show kd 4 = 2 by decide) (by decide)) (ct_2 (show kd 4 = 2 by decide)) rfl hl.1 (by decide) (by decide) (Nat.le_of_ble_eq_true rfl) rfl rfl dX4_roomFact_91 (fun H locs hP hS => ?_)
    exact e_Ii C0 hr hP hS rfl (by decide) dX4_roomFact_94
  · subst h9
    refine lv_tableOut (tgt := 95) hx hb dX4_roomFact_11 (by decide) (by decide) ?_
    refine lv_aload_n hx hb dX4_roomFact_95 rfl (lv_at hl 0 rfl) ?_
    refine gf_X4_207 C0 hP (k := 4 + 13 + i) (kdSr (Or.inl rfl) (by omega)) dX4_roomFact_96 ?_
    exact e_Ii C0 hr hP hS rfl (by decide) dX4_roomFact_99

set_option maxHeartbeats 4000000 in
set_option maxRecDepth 100000 in
theorem c_X4_houseFact (l : Launch) (G : GG) (M : Mem) (o : Nat → Int64) (np nr k : Nat) (hO : OKM M np nr k) (w : Nat) (hw : w < 9) : MI l yX4_houseFact cX4_houseFact 2 (some .int) 5 111 G [.ref (adr G 0), .int (nI w)] M M o o (hfF M np nr k w) 0 0 := by
  refine MI_of RX4 rfl (by decide +kernel) (Nat.le_of_ble_eq_true rfl) ?_
  intro p e s m below meth c sz C0 hr hP ls hl
  have hx := C0.1
  have hb := C0.2.1
  have hS : va_S (pA G sz) s.heap s.heap [] := va_S.rf
  have hl : lv_has ls 2 [(0, .ref (adr G 0)), (1, .int (nI w))] := hl
  obtain ⟨hnp, hple, hnr, hrle, hk0, hkle⟩ := id hO
  refine lv_iload_n hx hb dX4_houseFact_0 rfl (lv_at hl 1 rfl) ?_
  rcases (show w = 0 ∨ w = 1 ∨ w = 2 ∨ w = 3 ∨ w = 4 ∨ w = 5 ∨ w = 6 ∨ w = 7 ∨ w = 8 by omega) with h9 | h9 | h9 | h9 | h9 | h9 | h9 | h9 | h9
  · subst h9
    refine lv_tableIn (off := 47) (tgt := 48) hx hb dX4_houseFact_1 (by decide) (by decide) (by decide +kernel) (by decide) ?_
    refine lv_aload_n hx hb dX4_houseFact_48 rfl (lv_at hl 0 rfl) ?_
    refine gf_X4_19 C0 hP (k := 0) (show kd 0 = 4 by decide) dX4_houseFact_49 ?_
    refine gf_X4_151 C0 hP (k := 4) (show kd 4 = 2 by decide) dX4_houseFact_52 ?_
    exact e_Ii C0 hr hP hS hk0 (by decide) dX4_houseFact_55
  · subst h9
    refine lv_tableIn (off := 55) (tgt := 56) hx hb dX4_houseFact_1 (by decide) (by decide) (by decide +kernel) (by decide) ?_
    refine lv_aload_n hx hb dX4_houseFact_56 rfl (lv_at hl 0 rfl) ?_
    refine k_VI C0 hP hS (rest := []) (c_X4_lightNow l G M o np nr k hO) mf_X4_lightNow ml_X4_130 (kd_lt (show kd 0 = 4 by decide) (by decide)) (ct_4 (show kd 0 = 4 by decide)) rfl hl.1 (by decide) (by decide) (Nat.le_of_ble_eq_true rfl) rfl rfl dX4_houseFact_57 (fun H locs hP hS => ?_)
    exact e_Ii C0 hr hP hS rfl (by decide) dX4_houseFact_60
  · subst h9
    refine lv_tableIn (off := 60) (tgt := 61) hx hb dX4_houseFact_1 (by decide) (by decide) (by decide +kernel) (by decide) ?_
    refine lv_aload_n hx hb dX4_houseFact_61 rfl (lv_at hl 0 rfl) ?_
    refine gf_X4_19 C0 hP (k := 0) (show kd 0 = 4 by decide) dX4_houseFact_62 ?_
    refine gf_X4_36 C0 hP (k := 4) (show kd 4 = 2 by decide) dX4_houseFact_65 ?_
    exact e_Ii C0 hr hP hS hnp (by decide) dX4_houseFact_68
  · subst h9
    refine lv_tableIn (off := 68) (tgt := 69) hx hb dX4_houseFact_1 (by decide) (by decide) (by decide +kernel) (by decide) ?_
    refine lv_aload_n hx hb dX4_houseFact_69 rfl (lv_at hl 0 rfl) ?_
    refine gf_X4_19 C0 hP (k := 0) (show kd 0 = 4 by decide) dX4_houseFact_70 ?_
    refine k_VNI C0 hP hS (rest := []) (c_X2_passersGone l G M o 4 np (Or.inl rfl) hnp hple) mf_X2_passersGone ml_X4_181 (kd_lt (show kd 4 = 2 by decide) (by decide)) (ct_2 (show kd 4 = 2 by decide)) rfl hl.1 (by decide) (by decide) (Nat.le_of_ble_eq_true rfl) rfl rfl dX4_houseFact_73 (fun H locs hP hS => ?_)
    exact e_Ii C0 hr hP hS rfl (by decide) dX4_houseFact_76
  · subst h9
    refine lv_tableIn (off := 76) (tgt := 77) hx hb dX4_houseFact_1 (by decide) (by decide) (by decide +kernel) (by decide) ?_
    refine lv_aload_n hx hb dX4_houseFact_77 rfl (lv_at hl 0 rfl) ?_
    refine gf_X4_19 C0 hP (k := 0) (show kd 0 = 4 by decide) dX4_houseFact_78 ?_
    refine gf_X4_70 C0 hP (k := 4) (show kd 4 = 2 by decide) dX4_houseFact_81 ?_
    exact e_Ii C0 hr hP hS hnr (by decide) dX4_houseFact_84
  · subst h9
    refine lv_tableIn (off := 84) (tgt := 85) hx hb dX4_houseFact_1 (by decide) (by decide) (by decide +kernel) (by decide) ?_
    refine lv_aload_n hx hb dX4_houseFact_85 rfl (lv_at hl 0 rfl) ?_
    refine gf_X4_19 C0 hP (k := 0) (show kd 0 = 4 by decide) dX4_houseFact_86 ?_
    refine k_VNI C0 hP hS (rest := []) (c_X2_allPeople l G M o 4 nr (Or.inl rfl) hnr hrle) mf_X2_allPeople ml_X4_178 (kd_lt (show kd 4 = 2 by decide) (by decide)) (ct_2 (show kd 4 = 2 by decide)) rfl hl.1 (by decide) (by decide) (Nat.le_of_ble_eq_true rfl) rfl rfl dX4_houseFact_89 (fun H locs hP hS => ?_)
    exact e_Ii C0 hr hP hS rfl (by decide) dX4_houseFact_92
  · subst h9
    refine lv_tableIn (off := 92) (tgt := 93) hx hb dX4_houseFact_1 (by decide) (by decide) (by decide +kernel) (by decide) ?_
    refine lv_aload_n hx hb dX4_houseFact_93 rfl (lv_at hl 0 rfl) ?_
    refine gf_X4_19 C0 hP (k := 0) (show kd 0 = 4 by decide) dX4_houseFact_94 ?_
    refine lv_aload_n hx hb dX4_houseFact_97 rfl (lv_at hl 0 rfl) ?_
    refine k_VI C0 hP hS (rest := [.ref (adr G 4)]) (c_X4_lightNow l G M o np nr k hO) mf_X4_lightNow ml_X4_130 (kd_lt (show kd 0 = 4 by decide) (by decide)) (ct_4 (show kd 0 = 4 by decide)) rfl hl.1 (by decide) (by decide) (Nat.le_of_ble_eq_true rfl) rfl rfl dX4_houseFact_98 (fun H locs hP hS => ?_)
    refine k_VNI C0 hP hS (rest := []) (c_X2_allShows l G M o 4 (ltF (M 2) (M 3) k) np nr (Or.inl rfl) hnp hple hnr hrle) mf_X2_allShows ml_X4_210 (kd_lt (show kd 4 = 2 by decide) (by decide)) (ct_2 (show kd 4 = 2 by decide)) rfl hl.1 (by decide) (by decide) (Nat.le_of_ble_eq_true rfl) rfl rfl dX4_houseFact_101 (fun H locs hP hS => ?_)
    exact e_Ii C0 hr hP hS rfl (by decide) dX4_houseFact_104
  · subst h9
    refine lv_tableIn (off := 104) (tgt := 105) hx hb dX4_houseFact_1 (by decide) (by decide) (by decide +kernel) (by decide) ?_
    refine lv_aload_n hx hb dX4_houseFact_105 rfl (lv_at hl 0 rfl) ?_
    refine gf_X4_19 C0 hP (k := 0) (show kd 0 = 4 by decide) dX4_houseFact_106 ?_
    refine k_VNI C0 hP hS (rest := []) (c_X2_allPence l G M o 4 nr (Or.inl rfl) hnr hrle) mf_X2_allPence ml_X4_184 (kd_lt (show kd 4 = 2 by decide) (by decide)) (ct_2 (show kd 4 = 2 by decide)) rfl hl.1 (by decide) (by decide) (Nat.le_of_ble_eq_true rfl) rfl rfl dX4_houseFact_109 (fun H locs hP hS => ?_)
    exact e_Ii C0 hr hP hS rfl (by decide) dX4_houseFact_112
  · subst h9
    refine lv_tableOut (tgt := 113) hx hb dX4_houseFact_1 (by decide) (by decide) ?_
    refine lv_aload_n hx hb dX4_houseFact_113 rfl (lv_at hl 0 rfl) ?_
    refine gf_X4_19 C0 hP (k := 0) (show kd 0 = 4 by decide) dX4_houseFact_114 ?_
    refine gf_X4_151 C0 hP (k := 4) (show kd 4 = 2 by decide) dX4_houseFact_117 ?_
    refine lv_sipush (v := 720) hx hb dX4_houseFact_120 (by decide) ?_
    refine lv_icmp_lt (tgt := 130) hx hb dX4_houseFact_123 (by decide) (fun c_1 => ?_) (fun c_1 => ?_)
    · rw [hk0] at c_1
      have hk2 : k < 720 := by
        rcases Nat.lt_or_ge k 720 with z | z
        · exact z
        · exact absurd c_1 (nI_nlt (a := k) (b := 720) z (by omega))
      refine lv_iconst (v := 0) hx hb dX4_houseFact_130 (by decide) ?_
      exact e_Ii C0 hr hP hS (by simp [hfF, hk2]) (by decide) dX4_houseFact_131
    · rw [hk0] at c_1
      have hk2 : ¬ k < 720 := fun z => c_1 (nI_lt (a := k) (b := 720) z (by omega))
      refine lv_iconst (v := 1) hx hb dX4_houseFact_126 (by decide) ?_
      refine lv_goto (tgt := 131) hx hb dX4_houseFact_127 (by decide) ?_
      exact e_Ii C0 hr hP hS (by simp [hfF, hk2]) (by decide) dX4_houseFact_131

set_option maxHeartbeats 4000000 in
set_option maxRecDepth 100000 in
theorem c_X4_pass (l : Launch) (G : GG) (M : Mem) (o : Nat → Int64) (np nr k : Nat) (hO : OKM M np nr k) (a1 a2 a3 a4 : Int32) (hbd : ¬ bdP a1 a2 a3 a4) (hroom : np < 10) : MI l yX4_pass cX4_pass 6 (some .int) 1 24 G [.ref (adr G 0), .int a1, .int a2, .int a3, .int a4] M (u2 (cmM M (4 + 3 + np) a1 a2 a3 a4) 4 1 (nI (np + 1))) o o (nI np) 0 0 := by
  refine MI_of RX4 rfl (by decide +kernel) (Nat.le_of_ble_eq_true rfl) ?_
  intro p e s m below meth c sz C0 hr hP ls hl
  have hx := C0.1
  have hb := C0.2.1
  have hS : va_S (pA G sz) s.heap s.heap [] := va_S.rf
  have hl : lv_has ls 6 [(0, .ref (adr G 0)), (1, .int a1), (2, .int a2), (3, .int a3), (4, .int a4)] := hl
  obtain ⟨hnp, hple, hnr, hrle, hk0, hkle⟩ := id hO
  refine lv_iload_n hx hb dX4_pass_0 rfl (lv_at hl 1 rfl) ?_
  refine k_SI C0 hP hS (rest := []) (c_X4_isStep l G M o a1) mf_X4_isStep rfl ml_X4_26 hl.1 (by decide) (by decide) (Nat.le_of_ble_eq_true rfl) rfl rfl dX4_pass_1 (fun H locs hP hS => ?_)
  refine lv_if_eq (tgt := 33) hx hb dX4_pass_4 (by decide) (fun c_1 => ?_) (fun c_1 => ?_)
  · exact (hbd (by simp [bdP, c_1])).elim
  · refine lv_iload_n hx hb dX4_pass_7 rfl (lv_at hl 2 rfl) ?_
    refine lv_bipush (v := -3) hx hb dX4_pass_8 (by decide) ?_
    refine lv_icmp_lt (tgt := 33) hx hb dX4_pass_10 (by decide) (fun c_2 => ?_) (fun c_2 => ?_)
    · exact (hbd (by simp [bdP, c_1, c_2])).elim
    · refine lv_iload_n hx hb dX4_pass_13 rfl (lv_at hl 2 rfl) ?_
      refine lv_iconst (v := 3) hx hb dX4_pass_14 (by decide) ?_
      refine lv_icmp_gt (tgt := 33) hx hb dX4_pass_15 (by decide) (fun c_3 => ?_) (fun c_3 => ?_)
      · exact (hbd (by simp [bdP, c_1, c_2, c_3])).elim
      · refine lv_iload_n hx hb dX4_pass_18 rfl (lv_at hl 3 rfl) ?_
        refine k_SI C0 hP hS (rest := []) (c_X4_isOneToNine l G M o a3) mf_X4_isOneToNine rfl ml_X4_30 hl.1 (by decide) (by decide) (Nat.le_of_ble_eq_true rfl) rfl rfl dX4_pass_19 (fun H locs hP hS => ?_)
        refine lv_if_eq (tgt := 33) hx hb dX4_pass_22 (by decide) (fun c_4 => ?_) (fun c_4 => ?_)
        · exact (hbd (by simp [bdP, c_1, c_2, c_3, c_4])).elim
        · refine lv_iload hx hb dX4_pass_25 (lv_at hl 4 rfl) ?_
          refine k_SI C0 hP hS (rest := []) (c_X4_isOneToNine l G M o a4) mf_X4_isOneToNine rfl ml_X4_30 hl.1 (by decide) (by decide) (Nat.le_of_ble_eq_true rfl) rfl rfl dX4_pass_27 (fun H locs hP hS => ?_)
          refine lv_if_ne (tgt := 41) hx hb dX4_pass_30 (by decide) (fun c_5 => ?_) (fun c_5 => ?_)
          · refine lv_aload_n hx hb dX4_pass_41 rfl (lv_at hl 0 rfl) ?_
            refine gf_X4_19 C0 hP (k := 0) (show kd 0 = 4 by decide) dX4_pass_42 ?_
            refine gf_X4_36 C0 hP (k := 4) (show kd 4 = 2 by decide) dX4_pass_45 ?_
            refine lv_topE hnp ?_
            refine lv_bipush (v := 10) hx hb dX4_pass_48 (by decide) ?_
            refine lv_icmp_lt (tgt := 61) hx hb dX4_pass_50 (by decide) (fun c_6 => ?_) (fun c_6 => ?_)
            · refine lv_aload_n hx hb dX4_pass_61 rfl (lv_at hl 0 rfl) ?_
              refine gf_X4_19 C0 hP (k := 0) (show kd 0 = 4 by decide) dX4_pass_62 ?_
              refine gf_X4_36 C0 hP (k := 4) (show kd 4 = 2 by decide) dX4_pass_65 ?_
              refine lv_topE hnp ?_
              refine lv_istore (lv' := [(5, .int (nI np)), (0, .ref (adr G 0)), (1, .int a1), (2, .int a2), (3, .int a3), (4, .int a4)]) hx hb dX4_pass_68 hl (by decide) rfl (fun ls hl => ?_)
              refine lv_aload_n hx hb dX4_pass_70 rfl (lv_at hl 1 rfl) ?_
              refine gf_X4_19 C0 hP (k := 0) (show kd 0 = 4 by decide) dX4_pass_71 ?_
              refine gf_X4_43 C0 hP (k := 4) (show kd 4 = 2 by decide) dX4_pass_74 ?_
              refine lv_iload hx hb dX4_pass_77 (lv_at hl 0 rfl) ?_
              refine w_aldP C0 hP (k := 4 + 1) (i := np) (kdS1 (Or.inl rfl)) (by omega) dX4_pass_79 ?_
              refine lv_iload_n hx hb dX4_pass_80 rfl (lv_at hl 2 rfl) ?_
              refine lv_iload_n hx hb dX4_pass_81 rfl (lv_at hl 3 rfl) ?_
              refine lv_iload_n hx hb dX4_pass_82 rfl (lv_at hl 4 rfl) ?_
              refine lv_iload hx hb dX4_pass_83 (lv_at hl 5 rfl) ?_
              refine k_VNV C0 hP hS (rest := []) (c_X0_come l G M o (4 + 3 + np) (kdSp (Or.inl rfl) (by omega)) a1 a2 a3 a4) mf_X0_come ml_X4_47 (kd_lt (kdSp (Or.inl rfl) (by omega)) (by decide)) (ct_0 (kdSp (Or.inl rfl) (by omega))) rfl hl.1 (by decide) (by decide) (Nat.le_of_ble_eq_true rfl) rfl rfl dX4_pass_85 (fun H locs hP hS => ?_)
              refine lv_aload_n hx hb dX4_pass_88 rfl (lv_at hl 1 rfl) ?_
              refine gf_X4_19 C0 hP (k := 0) (show kd 0 = 4 by decide) dX4_pass_89 ?_
              refine lv_dup hx hb dX4_pass_92 rfl ?_
              refine gf_X4_36 C0 hP (k := 4) (show kd 4 = 2 by decide) dX4_pass_93 ?_
              refine lv_iconst (v := 1) hx hb dX4_pass_96 (by decide) ?_
              refine lv_iadd hx hb dX4_pass_97 ?_
              refine lv_topE (y := nI (np + 1)) (by rw [cmM_lo (by omega), hnp]; exact nI_1 np) ?_
              refine pf_X4_36 C0 hP hS (k := 4) (show kd 4 = 2 by decide) dX4_pass_98 (fun H locs hP hS => ?_)
              refine lv_iload hx hb dX4_pass_101 (lv_at hl 0 rfl) ?_
              exact e_Ii C0 hr hP hS rfl (by decide) dX4_pass_103
            · exact absurd (nI_lt (a := np) (b := 10) hroom (by omega)) c_6
          · exact (hbd (by simp [bdP, c_1, c_2, c_3, c_4, c_5])).elim

set_option maxHeartbeats 4000000 in
set_option maxRecDepth 100000 in
theorem c_X4_pass_a (l : Launch) (G : GG) (M : Mem) (o : Nat → Int64) (hst : l.stackTraces = false) (np nr k : Nat) (hO : OKM M np nr k) (a1 a2 a3 a4 : Int32) (hbd : bdP a1 a2 a3 a4) : MX l yX4_pass cX4_pass 6 (some .int) 6 89 G [.ref (adr G 0), .int a1, .int a2, .int a3, .int a4] M M o o "java/lang/IllegalArgumentException" 1 6 := by
  refine MX_of RX4 rfl (by decide +kernel) (Nat.le_of_ble_eq_true rfl) ?_
  intro p e s m below meth c sz C0 hx0 hP ls hl
  have hx := C0.1
  have hb := C0.2.1
  have hS : va_S (pA G sz) s.heap s.heap [] := va_S.rf
  have hl : lv_has ls 6 [(0, .ref (adr G 0)), (1, .int a1), (2, .int a2), (3, .int a3), (4, .int a4)] := hl
  obtain ⟨hnp, hple, hnr, hrle, hk0, hkle⟩ := id hO
  refine lv_iload_n hx hb dX4_pass_0 rfl (lv_at hl 1 rfl) ?_
  refine k_SI C0 hP hS (rest := []) (c_X4_isStep l G M o a1) mf_X4_isStep rfl ml_X4_26 hl.1 (by decide) (by decide) (Nat.le_of_ble_eq_true rfl) rfl rfl dX4_pass_1 (fun H locs hP hS => ?_)
  refine lv_if_eq (tgt := 33) hx hb dX4_pass_4 (by decide) (fun c_1 => ?_) (fun c_1 => ?_)
  · exact th_IAE C0 hst hx0 hP hS hl.1 dX4_pass_33 dX4_pass_36 dX4_pass_37 dX4_pass_40 ⟨by decide, Nat.le_of_ble_eq_true rfl, by decide, by decide⟩ (by decide)
  · refine lv_iload_n hx hb dX4_pass_7 rfl (lv_at hl 2 rfl) ?_
    refine lv_bipush (v := -3) hx hb dX4_pass_8 (by decide) ?_
    refine lv_icmp_lt (tgt := 33) hx hb dX4_pass_10 (by decide) (fun c_2 => ?_) (fun c_2 => ?_)
    · exact th_IAE C0 hst hx0 hP hS hl.1 dX4_pass_33 dX4_pass_36 dX4_pass_37 dX4_pass_40 ⟨by decide, Nat.le_of_ble_eq_true rfl, by decide, by decide⟩ (by decide)
    · refine lv_iload_n hx hb dX4_pass_13 rfl (lv_at hl 2 rfl) ?_
      refine lv_iconst (v := 3) hx hb dX4_pass_14 (by decide) ?_
      refine lv_icmp_gt (tgt := 33) hx hb dX4_pass_15 (by decide) (fun c_3 => ?_) (fun c_3 => ?_)
      · exact th_IAE C0 hst hx0 hP hS hl.1 dX4_pass_33 dX4_pass_36 dX4_pass_37 dX4_pass_40 ⟨by decide, Nat.le_of_ble_eq_true rfl, by decide, by decide⟩ (by decide)
      · refine lv_iload_n hx hb dX4_pass_18 rfl (lv_at hl 3 rfl) ?_
        refine k_SI C0 hP hS (rest := []) (c_X4_isOneToNine l G M o a3) mf_X4_isOneToNine rfl ml_X4_30 hl.1 (by decide) (by decide) (Nat.le_of_ble_eq_true rfl) rfl rfl dX4_pass_19 (fun H locs hP hS => ?_)
        refine lv_if_eq (tgt := 33) hx hb dX4_pass_22 (by decide) (fun c_4 => ?_) (fun c_4 => ?_)
        · exact th_IAE C0 hst hx0 hP hS hl.1 dX4_pass_33 dX4_pass_36 dX4_pass_37 dX4_pass_40 ⟨by decide, Nat.le_of_ble_eq_true rfl, by decide, by decide⟩ (by decide)
        · refine lv_iload hx hb dX4_pass_25 (lv_at hl 4 rfl) ?_
          refine k_SI C0 hP hS (rest := []) (c_X4_isOneToNine l G M o a4) mf_X4_isOneToNine rfl ml_X4_30 hl.1 (by decide) (by decide) (Nat.le_of_ble_eq_true rfl) rfl rfl dX4_pass_27 (fun H locs hP hS => ?_)
          refine lv_if_ne (tgt := 41) hx hb dX4_pass_30 (by decide) (fun c_5 => ?_) (fun c_5 => ?_)
          · exact absurd hbd (by simp [bdP, c_1, c_2, c_3, c_4, c_5])
          · exact th_IAE C0 hst hx0 hP hS hl.1 dX4_pass_33 dX4_pass_36 dX4_pass_37 dX4_pass_40 ⟨by decide, Nat.le_of_ble_eq_true rfl, by decide, by decide⟩ (by decide)

set_option maxHeartbeats 4000000 in
set_option maxRecDepth 100000 in
theorem c_X4_pass_s (l : Launch) (G : GG) (M : Mem) (o : Nat → Int64) (hst : l.stackTraces = false) (np nr k : Nat) (hO : OKM M np nr k) (a1 a2 a3 a4 : Int32) (hbd : ¬ bdP a1 a2 a3 a4) (hroom : ¬ np < 10) : MX l yX4_pass cX4_pass 6 (some .int) 6 89 G [.ref (adr G 0), .int a1, .int a2, .int a3, .int a4] M M o o "java/lang/IllegalStateException" 1 6 := by
  refine MX_of RX4 rfl (by decide +kernel) (Nat.le_of_ble_eq_true rfl) ?_
  intro p e s m below meth c sz C0 hx0 hP ls hl
  have hx := C0.1
  have hb := C0.2.1
  have hS : va_S (pA G sz) s.heap s.heap [] := va_S.rf
  have hl : lv_has ls 6 [(0, .ref (adr G 0)), (1, .int a1), (2, .int a2), (3, .int a3), (4, .int a4)] := hl
  obtain ⟨hnp, hple, hnr, hrle, hk0, hkle⟩ := id hO
  refine lv_iload_n hx hb dX4_pass_0 rfl (lv_at hl 1 rfl) ?_
  refine k_SI C0 hP hS (rest := []) (c_X4_isStep l G M o a1) mf_X4_isStep rfl ml_X4_26 hl.1 (by decide) (by decide) (Nat.le_of_ble_eq_true rfl) rfl rfl dX4_pass_1 (fun H locs hP hS => ?_)
  refine lv_if_eq (tgt := 33) hx hb dX4_pass_4 (by decide) (fun c_1 => ?_) (fun c_1 => ?_)
  · exact (hbd (by simp [bdP, c_1])).elim
  · refine lv_iload_n hx hb dX4_pass_7 rfl (lv_at hl 2 rfl) ?_
    refine lv_bipush (v := -3) hx hb dX4_pass_8 (by decide) ?_
    refine lv_icmp_lt (tgt := 33) hx hb dX4_pass_10 (by decide) (fun c_2 => ?_) (fun c_2 => ?_)
    · exact (hbd (by simp [bdP, c_1, c_2])).elim
    · refine lv_iload_n hx hb dX4_pass_13 rfl (lv_at hl 2 rfl) ?_
      refine lv_iconst (v := 3) hx hb dX4_pass_14 (by decide) ?_
      refine lv_icmp_gt (tgt := 33) hx hb dX4_pass_15 (by decide) (fun c_3 => ?_) (fun c_3 => ?_)
      · exact (hbd (by simp [bdP, c_1, c_2, c_3])).elim
      · refine lv_iload_n hx hb dX4_pass_18 rfl (lv_at hl 3 rfl) ?_
        refine k_SI C0 hP hS (rest := []) (c_X4_isOneToNine l G M o a3) mf_X4_isOneToNine rfl ml_X4_30 hl.1 (by decide) (by decide) (Nat.le_of_ble_eq_true rfl) rfl rfl dX4_pass_19 (fun H locs hP hS => ?_)
        refine lv_if_eq (tgt := 33) hx hb dX4_pass_22 (by decide) (fun c_4 => ?_) (fun c_4 => ?_)
        · exact (hbd (by simp [bdP, c_1, c_2, c_3, c_4])).elim
        · refine lv_iload hx hb dX4_pass_25 (lv_at hl 4 rfl) ?_
          refine k_SI C0 hP hS (rest := []) (c_X4_isOneToNine l G M o a4) mf_X4_isOneToNine rfl ml_X4_30 hl.1 (by decide) (by decide) (Nat.le_of_ble_eq_true rfl) rfl rfl dX4_pass_27 (fun H locs hP hS => ?_)
          refine lv_if_ne (tgt := 41) hx hb dX4_pass_30 (by decide) (fun c_5 => ?_) (fun c_5 => ?_)
          · refine lv_aload_n hx hb dX4_pass_41 rfl (lv_at hl 0 rfl) ?_
            refine gf_X4_19 C0 hP (k := 0) (show kd 0 = 4 by decide) dX4_pass_42 ?_
            refine gf_X4_36 C0 hP (k := 4) (show kd 4 = 2 by decide) dX4_pass_45 ?_
            refine lv_topE hnp ?_
            refine lv_bipush (v := 10) hx hb dX4_pass_48 (by decide) ?_
            refine lv_icmp_lt (tgt := 61) hx hb dX4_pass_50 (by decide) (fun c_6 => ?_) (fun c_6 => ?_)
            · exact absurd c_6 (nI_nlt (a := np) (b := 10) (by omega) (by omega))
            · exact th_ISE C0 hst hx0 hP hS hl.1 dX4_pass_53 dX4_pass_56 dX4_pass_57 dX4_pass_60 ⟨by decide, Nat.le_of_ble_eq_true rfl, by decide, by decide⟩ (by decide)
          · exact (hbd (by simp [bdP, c_1, c_2, c_3, c_4, c_5])).elim

set_option maxHeartbeats 4000000 in
set_option maxRecDepth 100000 in
theorem c_X4_setLight (l : Launch) (G : GG) (M : Mem) (o : Nat → Int64) (np nr k : Nat) (hO : OKM M np nr k) (h : Nat) (hh : h < 12) (a2 a3 : Int32) (hbd : ¬ bdL a2 a3) : MI l yX4_setLight cX4_setLight 5 (some .int) 1 21 G [.ref (adr G 0), .int (nI h), .int a2, .int a3] M (u2 (u2 M 2 h a2) 3 h a3) o o (10 * M 2 h + M 3 h) 0 0 := by
  refine MI_of RX4 rfl (by decide +kernel) (Nat.le_of_ble_eq_true rfl) ?_
  intro p e s m below meth c sz C0 hr hP ls hl
  have hx := C0.1
  have hb := C0.2.1
  have hS : va_S (pA G sz) s.heap s.heap [] := va_S.rf
  have hl : lv_has ls 5 [(0, .ref (adr G 0)), (1, .int (nI h)), (2, .int a2), (3, .int a3)] := hl
  obtain ⟨hnp, hple, hnr, hrle, hk0, hkle⟩ := id hO
  refine lv_iload_n hx hb dX4_setLight_0 rfl (lv_at hl 1 rfl) ?_
  refine lv_if_lt (tgt := 10) hx hb dX4_setLight_1 (by decide) (fun c_1 => ?_) (fun c_1 => ?_)
  · exact absurd c_1 (nI_pos (by omega))
  · refine lv_iload_n hx hb dX4_setLight_4 rfl (lv_at hl 1 rfl) ?_
    refine lv_bipush (v := 12) hx hb dX4_setLight_5 (by decide) ?_
    refine lv_icmp_lt (tgt := 18) hx hb dX4_setLight_7 (by decide) (fun c_2 => ?_) (fun c_2 => ?_)
    · refine lv_iload_n hx hb dX4_setLight_18 rfl (lv_at hl 2 rfl) ?_
      refine lv_if_lt (tgt := 35) hx hb dX4_setLight_19 (by decide) (fun c_3 => ?_) (fun c_3 => ?_)
      · exact (hbd (by simp [bdL, c_1, c_2, c_3])).elim
      · refine lv_iload_n hx hb dX4_setLight_22 rfl (lv_at hl 2 rfl) ?_
        refine lv_bipush (v := 100) hx hb dX4_setLight_23 (by decide) ?_
        refine lv_icmp_gt (tgt := 35) hx hb dX4_setLight_25 (by decide) (fun c_4 => ?_) (fun c_4 => ?_)
        · exact (hbd (by simp [bdL, c_1, c_2, c_3, c_4])).elim
        · refine lv_iload_n hx hb dX4_setLight_28 rfl (lv_at hl 3 rfl) ?_
          refine k_SI C0 hP hS (rest := []) (c_X4_isZeroToNine l G M o a3) mf_X4_isZeroToNine rfl ml_X4_56 hl.1 (by decide) (by decide) (Nat.le_of_ble_eq_true rfl) rfl rfl dX4_setLight_29 (fun H locs hP hS => ?_)
          refine lv_if_ne (tgt := 43) hx hb dX4_setLight_32 (by decide) (fun c_5 => ?_) (fun c_5 => ?_)
          · refine lv_aload_n hx hb dX4_setLight_43 rfl (lv_at hl 0 rfl) ?_
            refine gf_X4_12 C0 hP (k := 0) (show kd 0 = 4 by decide) dX4_setLight_44 ?_
            refine lv_iload_n hx hb dX4_setLight_47 rfl (lv_at hl 1 rfl) ?_
            refine k_VNI C0 hP hS (rest := []) (c_X3_entry l G M o h (by omega)) mf_X3_entry ml_X4_59 (kd_lt (show kd 1 = 3 by decide) (by decide)) (ct_3 (show kd 1 = 3 by decide)) rfl hl.1 (by decide) (by decide) (Nat.le_of_ble_eq_true rfl) rfl rfl dX4_setLight_48 (fun H locs hP hS => ?_)
            refine lv_istore (lv' := [(4, .int (10 * M 2 h + M 3 h)), (0, .ref (adr G 0)), (1, .int (nI h)), (2, .int a2), (3, .int a3)]) hx hb dX4_setLight_51 hl (by decide) rfl (fun ls hl => ?_)
            refine lv_aload_n hx hb dX4_setLight_53 rfl (lv_at hl 1 rfl) ?_
            refine gf_X4_12 C0 hP (k := 0) (show kd 0 = 4 by decide) dX4_setLight_54 ?_
            refine gf_X4_63 C0 hP (k := 1) (show kd 1 = 3 by decide) dX4_setLight_57 ?_
            refine lv_iload_n hx hb dX4_setLight_60 rfl (lv_at hl 2 rfl) ?_
            refine lv_iload_n hx hb dX4_setLight_61 rfl (lv_at hl 3 rfl) ?_
            refine w_iastN C0 hP hS (k := 2) (i := h) (show kd 2 = 7 by decide) (show h < 12 by omega) (by omega) dX4_setLight_62 (fun H locs hP hS => ?_)
            refine lv_aload_n hx hb dX4_setLight_63 rfl (lv_at hl 1 rfl) ?_
            refine gf_X4_12 C0 hP (k := 0) (show kd 0 = 4 by decide) dX4_setLight_64 ?_
            refine gf_X4_67 C0 hP (k := 1) (show kd 1 = 3 by decide) dX4_setLight_67 ?_
            refine lv_iload_n hx hb dX4_setLight_70 rfl (lv_at hl 2 rfl) ?_
            refine lv_iload_n hx hb dX4_setLight_71 rfl (lv_at hl 4 rfl) ?_
            refine w_iastN C0 hP hS (k := 3) (i := h) (show kd 3 = 7 by decide) (show h < 12 by omega) (by omega) dX4_setLight_72 (fun H locs hP hS => ?_)
            refine lv_iload hx hb dX4_setLight_73 (lv_at hl 0 rfl) ?_
            exact e_Ii C0 hr hP hS rfl (by decide) dX4_setLight_75
          · exact (hbd (by simp [bdL, c_1, c_2, c_3, c_4, c_5])).elim
    · exact absurd (nI_lt (a := h) (b := 12) hh (by omega)) c_2

set_option maxHeartbeats 4000000 in
set_option maxRecDepth 100000 in
theorem c_X4_setLight_i (l : Launch) (G : GG) (M : Mem) (o : Nat → Int64) (hst : l.stackTraces = false) (np nr k : Nat) (hO : OKM M np nr k) (x1 a2 a3 : Int32) (hbd : x1 < 0 ∨ ¬ x1 < 12) : MX l yX4_setLight cX4_setLight 5 (some .int) 6 89 G [.ref (adr G 0), .int x1, .int a2, .int a3] M M o o "java/lang/IndexOutOfBoundsException" 1 6 := by
  refine MX_of RX4 rfl (by decide +kernel) (Nat.le_of_ble_eq_true rfl) ?_
  intro p e s m below meth c sz C0 hx0 hP ls hl
  have hx := C0.1
  have hb := C0.2.1
  have hS : va_S (pA G sz) s.heap s.heap [] := va_S.rf
  have hl : lv_has ls 5 [(0, .ref (adr G 0)), (1, .int x1), (2, .int a2), (3, .int a3)] := hl
  obtain ⟨hnp, hple, hnr, hrle, hk0, hkle⟩ := id hO
  refine lv_iload_n hx hb dX4_setLight_0 rfl (lv_at hl 1 rfl) ?_
  refine lv_if_lt (tgt := 10) hx hb dX4_setLight_1 (by decide) (fun c_1 => ?_) (fun c_1 => ?_)
  · exact th_IOE C0 hst hx0 hP hS hl.1 dX4_setLight_10 dX4_setLight_13 dX4_setLight_14 dX4_setLight_17 ⟨by decide, Nat.le_of_ble_eq_true rfl, by decide, by decide⟩ (by decide)
  · refine lv_iload_n hx hb dX4_setLight_4 rfl (lv_at hl 1 rfl) ?_
    refine lv_bipush (v := 12) hx hb dX4_setLight_5 (by decide) ?_
    refine lv_icmp_lt (tgt := 18) hx hb dX4_setLight_7 (by decide) (fun c_2 => ?_) (fun c_2 => ?_)
    · exact absurd hbd (by simp [c_1, c_2])
    · exact th_IOE C0 hst hx0 hP hS hl.1 dX4_setLight_10 dX4_setLight_13 dX4_setLight_14 dX4_setLight_17 ⟨by decide, Nat.le_of_ble_eq_true rfl, by decide, by decide⟩ (by decide)

set_option maxHeartbeats 4000000 in
set_option maxRecDepth 100000 in
theorem c_X4_setLight_a (l : Launch) (G : GG) (M : Mem) (o : Nat → Int64) (hst : l.stackTraces = false) (np nr k : Nat) (hO : OKM M np nr k) (h : Nat) (hh : h < 12) (a2 a3 : Int32) (hbd : bdL a2 a3) : MX l yX4_setLight cX4_setLight 5 (some .int) 6 89 G [.ref (adr G 0), .int (nI h), .int a2, .int a3] M M o o "java/lang/IllegalArgumentException" 1 6 := by
  refine MX_of RX4 rfl (by decide +kernel) (Nat.le_of_ble_eq_true rfl) ?_
  intro p e s m below meth c sz C0 hx0 hP ls hl
  have hx := C0.1
  have hb := C0.2.1
  have hS : va_S (pA G sz) s.heap s.heap [] := va_S.rf
  have hl : lv_has ls 5 [(0, .ref (adr G 0)), (1, .int (nI h)), (2, .int a2), (3, .int a3)] := hl
  obtain ⟨hnp, hple, hnr, hrle, hk0, hkle⟩ := id hO
  refine lv_iload_n hx hb dX4_setLight_0 rfl (lv_at hl 1 rfl) ?_
  refine lv_if_lt (tgt := 10) hx hb dX4_setLight_1 (by decide) (fun c_1 => ?_) (fun c_1 => ?_)
  · exact absurd c_1 (nI_pos (by omega))
  · refine lv_iload_n hx hb dX4_setLight_4 rfl (lv_at hl 1 rfl) ?_
    refine lv_bipush (v := 12) hx hb dX4_setLight_5 (by decide) ?_
    refine lv_icmp_lt (tgt := 18) hx hb dX4_setLight_7 (by decide) (fun c_2 => ?_) (fun c_2 => ?_)
    · refine lv_iload_n hx hb dX4_setLight_18 rfl (lv_at hl 2 rfl) ?_
      refine lv_if_lt (tgt := 35) hx hb dX4_setLight_19 (by decide) (fun c_3 => ?_) (fun c_3 => ?_)
      · exact th_IAE C0 hst hx0 hP hS hl.1 dX4_setLight_35 dX4_setLight_38 dX4_setLight_39 dX4_setLight_42 ⟨by decide, Nat.le_of_ble_eq_true rfl, by decide, by decide⟩ (by decide)
      · refine lv_iload_n hx hb dX4_setLight_22 rfl (lv_at hl 2 rfl) ?_
        refine lv_bipush (v := 100) hx hb dX4_setLight_23 (by decide) ?_
        refine lv_icmp_gt (tgt := 35) hx hb dX4_setLight_25 (by decide) (fun c_4 => ?_) (fun c_4 => ?_)
        · exact th_IAE C0 hst hx0 hP hS hl.1 dX4_setLight_35 dX4_setLight_38 dX4_setLight_39 dX4_setLight_42 ⟨by decide, Nat.le_of_ble_eq_true rfl, by decide, by decide⟩ (by decide)
        · refine lv_iload_n hx hb dX4_setLight_28 rfl (lv_at hl 3 rfl) ?_
          refine k_SI C0 hP hS (rest := []) (c_X4_isZeroToNine l G M o a3) mf_X4_isZeroToNine rfl ml_X4_56 hl.1 (by decide) (by decide) (Nat.le_of_ble_eq_true rfl) rfl rfl dX4_setLight_29 (fun H locs hP hS => ?_)
          refine lv_if_ne (tgt := 43) hx hb dX4_setLight_32 (by decide) (fun c_5 => ?_) (fun c_5 => ?_)
          · exact absurd hbd (by simp [bdL, c_1, c_2, c_3, c_4, c_5])
          · exact th_IAE C0 hst hx0 hP hS hl.1 dX4_setLight_35 dX4_setLight_38 dX4_setLight_39 dX4_setLight_42 ⟨by decide, Nat.le_of_ble_eq_true rfl, by decide, by decide⟩ (by decide)
    · exact absurd (nI_lt (a := h) (b := 12) hh (by omega)) c_2

set_option maxHeartbeats 4000000 in
set_option maxRecDepth 100000 in
theorem c_X4_addRoom (l : Launch) (G : GG) (M : Mem) (o : Nat → Int64) (np nr k : Nat) (hO : OKM M np nr k) (a1 a2 a3 : Int32) (hbd : ¬ bdR a1 a2 a3) (hroom : nr < 8) (hfree : hhM M 4 a1 nr = 0) : MI l yX4_addRoom cX4_addRoom 5 (some .int) 1 23 G [.ref (adr G 0), .int a1, .int a2, .int a3] M (u2 (bdM M (4 + 13 + nr) a1 a2 a3) 4 2 (nI (nr + 1))) o o (nI nr) 0 0 := by
  refine MI_of RX4 rfl (by decide +kernel) (Nat.le_of_ble_eq_true rfl) ?_
  intro p e s m below meth c sz C0 hr hP ls hl
  have hx := C0.1
  have hb := C0.2.1
  have hS : va_S (pA G sz) s.heap s.heap [] := va_S.rf
  have hl : lv_has ls 5 [(0, .ref (adr G 0)), (1, .int a1), (2, .int a2), (3, .int a3)] := hl
  obtain ⟨hnp, hple, hnr, hrle, hk0, hkle⟩ := id hO
  refine lv_iload_n hx hb dX4_addRoom_0 rfl (lv_at hl 1 rfl) ?_
  refine k_SI C0 hP hS (rest := []) (c_X4_isStep l G M o a1) mf_X4_isStep rfl ml_X4_26 hl.1 (by decide) (by decide) (Nat.le_of_ble_eq_true rfl) rfl rfl dX4_addRoom_1 (fun H locs hP hS => ?_)
  refine lv_if_eq (tgt := 24) hx hb dX4_addRoom_4 (by decide) (fun c_1 => ?_) (fun c_1 => ?_)
  · exact (hbd (by simp [bdR, c_1])).elim
  · refine lv_iload_n hx hb dX4_addRoom_7 rfl (lv_at hl 2 rfl) ?_
    refine k_SI C0 hP hS (rest := []) (c_X4_isOneToNine l G M o a2) mf_X4_isOneToNine rfl ml_X4_30 hl.1 (by decide) (by decide) (Nat.le_of_ble_eq_true rfl) rfl rfl dX4_addRoom_8 (fun H locs hP hS => ?_)
    refine lv_if_eq (tgt := 24) hx hb dX4_addRoom_11 (by decide) (fun c_2 => ?_) (fun c_2 => ?_)
    · exact (hbd (by simp [bdR, c_1, c_2])).elim
    · refine lv_iload_n hx hb dX4_addRoom_14 rfl (lv_at hl 3 rfl) ?_
      refine lv_if_lt (tgt := 24) hx hb dX4_addRoom_15 (by decide) (fun c_3 => ?_) (fun c_3 => ?_)
      · exact (hbd (by simp [bdR, c_1, c_2, c_3])).elim
      · refine lv_iload_n hx hb dX4_addRoom_18 rfl (lv_at hl 3 rfl) ?_
        refine lv_bipush (v := 20) hx hb dX4_addRoom_19 (by decide) ?_
        refine lv_icmp_le (tgt := 32) hx hb dX4_addRoom_21 (by decide) (fun c_4 => ?_) (fun c_4 => ?_)
        · refine lv_aload_n hx hb dX4_addRoom_32 rfl (lv_at hl 0 rfl) ?_
          refine gf_X4_19 C0 hP (k := 0) (show kd 0 = 4 by decide) dX4_addRoom_33 ?_
          refine gf_X4_70 C0 hP (k := 4) (show kd 4 = 2 by decide) dX4_addRoom_36 ?_
          refine lv_topE hnr ?_
          refine lv_bipush (v := 8) hx hb dX4_addRoom_39 (by decide) ?_
          refine lv_icmp_ge (tgt := 55) hx hb dX4_addRoom_41 (by decide) (fun c_5 => ?_) (fun c_5 => ?_)
          · exact absurd c_5 (nI_ge (a := nr) (b := 8) hroom (by omega))
          · refine lv_aload_n hx hb dX4_addRoom_44 rfl (lv_at hl 0 rfl) ?_
            refine gf_X4_19 C0 hP (k := 0) (show kd 0 = 4 by decide) dX4_addRoom_45 ?_
            refine lv_iload_n hx hb dX4_addRoom_48 rfl (lv_at hl 1 rfl) ?_
            refine k_VNI C0 hP hS (rest := []) (c_X2_hasHoleAt l G M o 4 a1 nr (Or.inl rfl) hnr hrle) mf_X2_hasHoleAt ml_X4_73 (kd_lt (show kd 4 = 2 by decide) (by decide)) (ct_2 (show kd 4 = 2 by decide)) rfl hl.1 (by decide) (by decide) (Nat.le_of_ble_eq_true rfl) rfl rfl dX4_addRoom_49 (fun H locs hP hS => ?_)
            refine lv_if_eq (tgt := 63) hx hb dX4_addRoom_52 (by decide) (fun c_6 => ?_) (fun c_6 => ?_)
            · refine lv_aload_n hx hb dX4_addRoom_63 rfl (lv_at hl 0 rfl) ?_
              refine gf_X4_19 C0 hP (k := 0) (show kd 0 = 4 by decide) dX4_addRoom_64 ?_
              refine gf_X4_70 C0 hP (k := 4) (show kd 4 = 2 by decide) dX4_addRoom_67 ?_
              refine lv_topE hnr ?_
              refine lv_istore (lv' := [(4, .int (nI nr)), (0, .ref (adr G 0)), (1, .int a1), (2, .int a2), (3, .int a3)]) hx hb dX4_addRoom_70 hl (by decide) rfl (fun ls hl => ?_)
              refine lv_aload_n hx hb dX4_addRoom_72 rfl (lv_at hl 1 rfl) ?_
              refine gf_X4_19 C0 hP (k := 0) (show kd 0 = 4 by decide) dX4_addRoom_73 ?_
              refine gf_X4_76 C0 hP (k := 4) (show kd 4 = 2 by decide) dX4_addRoom_76 ?_
              refine lv_iload hx hb dX4_addRoom_79 (lv_at hl 0 rfl) ?_
              refine w_aldR C0 hP (k := 4 + 2) (i := nr) (kdS2 (Or.inl rfl)) (by omega) dX4_addRoom_81 ?_
              refine lv_iload_n hx hb dX4_addRoom_82 rfl (lv_at hl 2 rfl) ?_
              refine lv_iload_n hx hb dX4_addRoom_83 rfl (lv_at hl 3 rfl) ?_
              refine lv_iload_n hx hb dX4_addRoom_84 rfl (lv_at hl 4 rfl) ?_
              refine k_VNV C0 hP hS (rest := []) (c_X1_build l G M o (4 + 13 + nr) (kdSr (Or.inl rfl) (by omega)) a1 a2 a3) mf_X1_build ml_X4_80 (kd_lt (kdSr (Or.inl rfl) (by omega)) (by decide)) (ct_1 (kdSr (Or.inl rfl) (by omega))) rfl hl.1 (by decide) (by decide) (Nat.le_of_ble_eq_true rfl) rfl rfl dX4_addRoom_85 (fun H locs hP hS => ?_)
              refine lv_aload_n hx hb dX4_addRoom_88 rfl (lv_at hl 1 rfl) ?_
              refine gf_X4_19 C0 hP (k := 0) (show kd 0 = 4 by decide) dX4_addRoom_89 ?_
              refine lv_dup hx hb dX4_addRoom_92 rfl ?_
              refine gf_X4_70 C0 hP (k := 4) (show kd 4 = 2 by decide) dX4_addRoom_93 ?_
              refine lv_iconst (v := 1) hx hb dX4_addRoom_96 (by decide) ?_
              refine lv_iadd hx hb dX4_addRoom_97 ?_
              refine lv_topE (y := nI (nr + 1)) (by rw [bdM_lo (by omega), hnr]; exact nI_1 nr) ?_
              refine pf_X4_70 C0 hP hS (k := 4) (show kd 4 = 2 by decide) dX4_addRoom_98 (fun H locs hP hS => ?_)
              refine lv_iload hx hb dX4_addRoom_101 (lv_at hl 0 rfl) ?_
              exact e_Ii C0 hr hP hS rfl (by decide) dX4_addRoom_103
            · exact absurd hfree c_6
        · exact (hbd (by simp [bdR, c_1, c_2, c_3, c_4])).elim

set_option maxHeartbeats 4000000 in
set_option maxRecDepth 100000 in
theorem c_X4_addRoom_a (l : Launch) (G : GG) (M : Mem) (o : Nat → Int64) (hst : l.stackTraces = false) (np nr k : Nat) (hO : OKM M np nr k) (a1 a2 a3 : Int32) (hbd : bdR a1 a2 a3) : MX l yX4_addRoom cX4_addRoom 5 (some .int) 6 89 G [.ref (adr G 0), .int a1, .int a2, .int a3] M M o o "java/lang/IllegalArgumentException" 1 6 := by
  refine MX_of RX4 rfl (by decide +kernel) (Nat.le_of_ble_eq_true rfl) ?_
  intro p e s m below meth c sz C0 hx0 hP ls hl
  have hx := C0.1
  have hb := C0.2.1
  have hS : va_S (pA G sz) s.heap s.heap [] := va_S.rf
  have hl : lv_has ls 5 [(0, .ref (adr G 0)), (1, .int a1), (2, .int a2), (3, .int a3)] := hl
  obtain ⟨hnp, hple, hnr, hrle, hk0, hkle⟩ := id hO
  refine lv_iload_n hx hb dX4_addRoom_0 rfl (lv_at hl 1 rfl) ?_
  refine k_SI C0 hP hS (rest := []) (c_X4_isStep l G M o a1) mf_X4_isStep rfl ml_X4_26 hl.1 (by decide) (by decide) (Nat.le_of_ble_eq_true rfl) rfl rfl dX4_addRoom_1 (fun H locs hP hS => ?_)
  refine lv_if_eq (tgt := 24) hx hb dX4_addRoom_4 (by decide) (fun c_1 => ?_) (fun c_1 => ?_)
  · exact th_IAE C0 hst hx0 hP hS hl.1 dX4_addRoom_24 dX4_addRoom_27 dX4_addRoom_28 dX4_addRoom_31 ⟨by decide, Nat.le_of_ble_eq_true rfl, by decide, by decide⟩ (by decide)
  · refine lv_iload_n hx hb dX4_addRoom_7 rfl (lv_at hl 2 rfl) ?_
    refine k_SI C0 hP hS (rest := []) (c_X4_isOneToNine l G M o a2) mf_X4_isOneToNine rfl ml_X4_30 hl.1 (by decide) (by decide) (Nat.le_of_ble_eq_true rfl) rfl rfl dX4_addRoom_8 (fun H locs hP hS => ?_)
    refine lv_if_eq (tgt := 24) hx hb dX4_addRoom_11 (by decide) (fun c_2 => ?_) (fun c_2 => ?_)
    · exact th_IAE C0 hst hx0 hP hS hl.1 dX4_addRoom_24 dX4_addRoom_27 dX4_addRoom_28 dX4_addRoom_31 ⟨by decide, Nat.le_of_ble_eq_true rfl, by decide, by decide⟩ (by decide)
    · refine lv_iload_n hx hb dX4_addRoom_14 rfl (lv_at hl 3 rfl) ?_
      refine lv_if_lt (tgt := 24) hx hb dX4_addRoom_15 (by decide) (fun c_3 => ?_) (fun c_3 => ?_)
      · exact th_IAE C0 hst hx0 hP hS hl.1 dX4_addRoom_24 dX4_addRoom_27 dX4_addRoom_28 dX4_addRoom_31 ⟨by decide, Nat.le_of_ble_eq_true rfl, by decide, by decide⟩ (by decide)
      · refine lv_iload_n hx hb dX4_addRoom_18 rfl (lv_at hl 3 rfl) ?_
        refine lv_bipush (v := 20) hx hb dX4_addRoom_19 (by decide) ?_
        refine lv_icmp_le (tgt := 32) hx hb dX4_addRoom_21 (by decide) (fun c_4 => ?_) (fun c_4 => ?_)
        · exact absurd hbd (by simp [bdR, c_1, c_2, c_3, c_4])
        · exact th_IAE C0 hst hx0 hP hS hl.1 dX4_addRoom_24 dX4_addRoom_27 dX4_addRoom_28 dX4_addRoom_31 ⟨by decide, Nat.le_of_ble_eq_true rfl, by decide, by decide⟩ (by decide)

set_option maxHeartbeats 4000000 in
set_option maxRecDepth 100000 in
theorem c_X4_addRoom_s (l : Launch) (G : GG) (M : Mem) (o : Nat → Int64) (hst : l.stackTraces = false) (np nr k : Nat) (hO : OKM M np nr k) (a1 a2 a3 : Int32) (hbd : ¬ bdR a1 a2 a3) (hroom : ¬ nr < 8 ∨ ¬ hhM M 4 a1 nr = 0) : MX l yX4_addRoom cX4_addRoom 5 (some .int) 6 89 G [.ref (adr G 0), .int a1, .int a2, .int a3] M M o o "java/lang/IllegalStateException" 1 6 := by
  refine MX_of RX4 rfl (by decide +kernel) (Nat.le_of_ble_eq_true rfl) ?_
  intro p e s m below meth c sz C0 hx0 hP ls hl
  have hx := C0.1
  have hb := C0.2.1
  have hS : va_S (pA G sz) s.heap s.heap [] := va_S.rf
  have hl : lv_has ls 5 [(0, .ref (adr G 0)), (1, .int a1), (2, .int a2), (3, .int a3)] := hl
  obtain ⟨hnp, hple, hnr, hrle, hk0, hkle⟩ := id hO
  refine lv_iload_n hx hb dX4_addRoom_0 rfl (lv_at hl 1 rfl) ?_
  refine k_SI C0 hP hS (rest := []) (c_X4_isStep l G M o a1) mf_X4_isStep rfl ml_X4_26 hl.1 (by decide) (by decide) (Nat.le_of_ble_eq_true rfl) rfl rfl dX4_addRoom_1 (fun H locs hP hS => ?_)
  refine lv_if_eq (tgt := 24) hx hb dX4_addRoom_4 (by decide) (fun c_1 => ?_) (fun c_1 => ?_)
  · exact (hbd (by simp [bdR, c_1])).elim
  · refine lv_iload_n hx hb dX4_addRoom_7 rfl (lv_at hl 2 rfl) ?_
    refine k_SI C0 hP hS (rest := []) (c_X4_isOneToNine l G M o a2) mf_X4_isOneToNine rfl ml_X4_30 hl.1 (by decide) (by decide) (Nat.le_of_ble_eq_true rfl) rfl rfl dX4_addRoom_8 (fun H locs hP hS => ?_)
    refine lv_if_eq (tgt := 24) hx hb dX4_addRoom_11 (by decide) (fun c_2 => ?_) (fun c_2 => ?_)
    · exact (hbd (by simp [bdR, c_1, c_2])).elim
    · refine lv_iload_n hx hb dX4_addRoom_14 rfl (lv_at hl 3 rfl) ?_
      refine lv_if_lt (tgt := 24) hx hb dX4_addRoom_15 (by decide) (fun c_3 => ?_) (fun c_3 => ?_)
      · exact (hbd (by simp [bdR, c_1, c_2, c_3])).elim
      · refine lv_iload_n hx hb dX4_addRoom_18 rfl (lv_at hl 3 rfl) ?_
        refine lv_bipush (v := 20) hx hb dX4_addRoom_19 (by decide) ?_
        refine lv_icmp_le (tgt := 32) hx hb dX4_addRoom_21 (by decide) (fun c_4 => ?_) (fun c_4 => ?_)
        · refine lv_aload_n hx hb dX4_addRoom_32 rfl (lv_at hl 0 rfl) ?_
          refine gf_X4_19 C0 hP (k := 0) (show kd 0 = 4 by decide) dX4_addRoom_33 ?_
          refine gf_X4_70 C0 hP (k := 4) (show kd 4 = 2 by decide) dX4_addRoom_36 ?_
          refine lv_topE hnr ?_
          refine lv_bipush (v := 8) hx hb dX4_addRoom_39 (by decide) ?_
          refine lv_icmp_ge (tgt := 55) hx hb dX4_addRoom_41 (by decide) (fun c_5 => ?_) (fun c_5 => ?_)
          · exact th_ISE C0 hst hx0 hP hS hl.1 dX4_addRoom_55 dX4_addRoom_58 dX4_addRoom_59 dX4_addRoom_62 ⟨by decide, Nat.le_of_ble_eq_true rfl, by decide, by decide⟩ (by decide)
          · refine lv_aload_n hx hb dX4_addRoom_44 rfl (lv_at hl 0 rfl) ?_
            refine gf_X4_19 C0 hP (k := 0) (show kd 0 = 4 by decide) dX4_addRoom_45 ?_
            refine lv_iload_n hx hb dX4_addRoom_48 rfl (lv_at hl 1 rfl) ?_
            refine k_VNI C0 hP hS (rest := []) (c_X2_hasHoleAt l G M o 4 a1 nr (Or.inl rfl) hnr hrle) mf_X2_hasHoleAt ml_X4_73 (kd_lt (show kd 4 = 2 by decide) (by decide)) (ct_2 (show kd 4 = 2 by decide)) rfl hl.1 (by decide) (by decide) (Nat.le_of_ble_eq_true rfl) rfl rfl dX4_addRoom_49 (fun H locs hP hS => ?_)
            refine lv_if_eq (tgt := 63) hx hb dX4_addRoom_52 (by decide) (fun c_6 => ?_) (fun c_6 => ?_)
            · exact (hroom.elim (fun z => c_5 (nI_le (a := 8) (b := nr) (by omega) (by omega))) (fun z => z c_6)).elim
            · exact th_ISE C0 hst hx0 hP hS hl.1 dX4_addRoom_55 dX4_addRoom_58 dX4_addRoom_59 dX4_addRoom_62 ⟨by decide, Nat.le_of_ble_eq_true rfl, by decide, by decide⟩ (by decide)
        · exact (hbd (by simp [bdR, c_1, c_2, c_3, c_4])).elim

set_option maxHeartbeats 4000000 in
set_option maxRecDepth 100000 in
theorem c_X4_bore (l : Launch) (G : GG) (M : Mem) (o : Nat → Int64) (np nr k : Nat) (hO : OKM M np nr k) (r : Nat) (hr0 : r < nr) (a2 : Int32) (hbd : ¬ otn a2 = 0) : MI l yX4_bore cX4_bore 4 (some .int) 2 42 G [.ref (adr G 0), .int (nI r), .int a2] M (u2 M (4 + 13 + r) 2 a2) o o (M (4 + 13 + r) 2) 0 0 := by
  refine MI_of RX4 rfl (by decide +kernel) (Nat.le_of_ble_eq_true rfl) ?_
  intro p e s m below meth c sz C0 hr hP ls hl
  have hx := C0.1
  have hb := C0.2.1
  have hS : va_S (pA G sz) s.heap s.heap [] := va_S.rf
  have hl : lv_has ls 4 [(0, .ref (adr G 0)), (1, .int (nI r)), (2, .int a2)] := hl
  obtain ⟨hnp, hple, hnr, hrle, hk0, hkle⟩ := id hO
  refine lv_aload_n hx hb dX4_bore_0 rfl (lv_at hl 0 rfl) ?_
  refine lv_iload_n hx hb dX4_bore_1 rfl (lv_at hl 1 rfl) ?_
  refine k_VV C0 hP hS (rest := []) (c_X4_needRoom l G M o np nr k hO r (by omega)) mf_X4_needRoom ml_X4_86 (kd_lt (show kd 0 = 4 by decide) (by decide)) (ct_4 (show kd 0 = 4 by decide)) rfl hl.1 (by decide) (by decide) (Nat.le_of_ble_eq_true rfl) rfl rfl dX4_bore_2 (fun H locs hP hS => ?_)
  refine lv_iload_n hx hb dX4_bore_5 rfl (lv_at hl 2 rfl) ?_
  refine k_SI C0 hP hS (rest := []) (c_X4_isOneToNine l G M o a2) mf_X4_isOneToNine rfl ml_X4_30 hl.1 (by decide) (by decide) (Nat.le_of_ble_eq_true rfl) rfl rfl dX4_bore_6 (fun H locs hP hS => ?_)
  refine lv_if_ne (tgt := 20) hx hb dX4_bore_9 (by decide) (fun c_1 => ?_) (fun c_1 => ?_)
  · refine lv_aload_n hx hb dX4_bore_20 rfl (lv_at hl 0 rfl) ?_
    refine gf_X4_19 C0 hP (k := 0) (show kd 0 = 4 by decide) dX4_bore_21 ?_
    refine gf_X4_76 C0 hP (k := 4) (show kd 4 = 2 by decide) dX4_bore_24 ?_
    refine lv_iload_n hx hb dX4_bore_27 rfl (lv_at hl 1 rfl) ?_
    refine w_aldR C0 hP (k := 4 + 2) (i := r) (kdS2 (Or.inl rfl)) (by omega) dX4_bore_28 ?_
    refine gf_X4_90 C0 hP (k := 4 + 13 + r) (kdSr (Or.inl rfl) (by omega)) dX4_bore_29 ?_
    refine lv_istore_n (lv' := [(3, .int (M (4 + 13 + r) 2)), (0, .ref (adr G 0)), (1, .int (nI r)), (2, .int a2)]) hx hb dX4_bore_32 rfl hl (by decide) rfl (fun ls hl => ?_)
    refine lv_aload_n hx hb dX4_bore_33 rfl (lv_at hl 1 rfl) ?_
    refine gf_X4_19 C0 hP (k := 0) (show kd 0 = 4 by decide) dX4_bore_34 ?_
    refine gf_X4_76 C0 hP (k := 4) (show kd 4 = 2 by decide) dX4_bore_37 ?_
    refine lv_iload_n hx hb dX4_bore_40 rfl (lv_at hl 2 rfl) ?_
    refine w_aldR C0 hP (k := 4 + 2) (i := r) (kdS2 (Or.inl rfl)) (by omega) dX4_bore_41 ?_
    refine lv_iload_n hx hb dX4_bore_42 rfl (lv_at hl 3 rfl) ?_
    refine pf_X4_90 C0 hP hS (k := 4 + 13 + r) (kdSr (Or.inl rfl) (by omega)) dX4_bore_43 (fun H locs hP hS => ?_)
    refine lv_iload_n hx hb dX4_bore_46 rfl (lv_at hl 0 rfl) ?_
    exact e_Ii C0 hr hP hS rfl (by decide) dX4_bore_47
  · exact absurd c_1 hbd

set_option maxHeartbeats 4000000 in
set_option maxRecDepth 100000 in
theorem c_X4_bore_i (l : Launch) (G : GG) (M : Mem) (o : Nat → Int64) (hst : l.stackTraces = false) (np nr k : Nat) (hO : OKM M np nr k) (x1 a2 : Int32) (hbd : x1 < 0 ∨ ¬ x1 < nI nr) : MX l yX4_bore cX4_bore 4 (some .int) 8 131 G [.ref (adr G 0), .int x1, .int a2] M M o o "java/lang/IndexOutOfBoundsException" 1 6 := by
  refine MX_of RX4 rfl (by decide +kernel) (Nat.le_of_ble_eq_true rfl) ?_
  intro p e s m below meth c sz C0 hx0 hP ls hl
  have hx := C0.1
  have hb := C0.2.1
  have hS : va_S (pA G sz) s.heap s.heap [] := va_S.rf
  have hl : lv_has ls 4 [(0, .ref (adr G 0)), (1, .int x1), (2, .int a2)] := hl
  obtain ⟨hnp, hple, hnr, hrle, hk0, hkle⟩ := id hO
  refine lv_aload_n hx hb dX4_bore_0 rfl (lv_at hl 0 rfl) ?_
  refine lv_iload_n hx hb dX4_bore_1 rfl (lv_at hl 1 rfl) ?_
  refine k_VX C0 hP hS (rest := []) (c_X4_needRoom_x l G M o hst np nr k hO x1 hbd) mf_X4_needRoom ml_X4_86 (kd_lt (show kd 0 = 4 by decide) (by decide)) (ct_4 (show kd 0 = 4 by decide)) rfl hl.1 (by decide) (by decide) (Nat.le_of_ble_eq_true rfl) rfl rfl dX4_bore_2 (fun ce q9 H locs hP hS hce hcv hcl => ?_)
  exact e_X C0 hx0 hP hS hce hcv hcl (by decide)

set_option maxHeartbeats 4000000 in
set_option maxRecDepth 100000 in
theorem c_X4_bore_a (l : Launch) (G : GG) (M : Mem) (o : Nat → Int64) (hst : l.stackTraces = false) (np nr k : Nat) (hO : OKM M np nr k) (r : Nat) (hr0 : r < nr) (a2 : Int32) (hbd : otn a2 = 0) : MX l yX4_bore cX4_bore 4 (some .int) 6 89 G [.ref (adr G 0), .int (nI r), .int a2] M M o o "java/lang/IllegalArgumentException" 1 6 := by
  refine MX_of RX4 rfl (by decide +kernel) (Nat.le_of_ble_eq_true rfl) ?_
  intro p e s m below meth c sz C0 hx0 hP ls hl
  have hx := C0.1
  have hb := C0.2.1
  have hS : va_S (pA G sz) s.heap s.heap [] := va_S.rf
  have hl : lv_has ls 4 [(0, .ref (adr G 0)), (1, .int (nI r)), (2, .int a2)] := hl
  obtain ⟨hnp, hple, hnr, hrle, hk0, hkle⟩ := id hO
  refine lv_aload_n hx hb dX4_bore_0 rfl (lv_at hl 0 rfl) ?_
  refine lv_iload_n hx hb dX4_bore_1 rfl (lv_at hl 1 rfl) ?_
  refine k_VV C0 hP hS (rest := []) (c_X4_needRoom l G M o np nr k hO r (by omega)) mf_X4_needRoom ml_X4_86 (kd_lt (show kd 0 = 4 by decide) (by decide)) (ct_4 (show kd 0 = 4 by decide)) rfl hl.1 (by decide) (by decide) (Nat.le_of_ble_eq_true rfl) rfl rfl dX4_bore_2 (fun H locs hP hS => ?_)
  refine lv_iload_n hx hb dX4_bore_5 rfl (lv_at hl 2 rfl) ?_
  refine k_SI C0 hP hS (rest := []) (c_X4_isOneToNine l G M o a2) mf_X4_isOneToNine rfl ml_X4_30 hl.1 (by decide) (by decide) (Nat.le_of_ble_eq_true rfl) rfl rfl dX4_bore_6 (fun H locs hP hS => ?_)
  refine lv_if_ne (tgt := 20) hx hb dX4_bore_9 (by decide) (fun c_1 => ?_) (fun c_1 => ?_)
  · exact absurd hbd c_1
  · exact th_IAE C0 hst hx0 hP hS hl.1 dX4_bore_12 dX4_bore_15 dX4_bore_16 dX4_bore_19 ⟨by decide, Nat.le_of_ble_eq_true rfl, by decide, by decide⟩ (by decide)

set_option maxHeartbeats 4000000 in
set_option maxRecDepth 100000 in
theorem c_X4_paint (l : Launch) (G : GG) (M : Mem) (o : Nat → Int64) (np nr k : Nat) (hO : OKM M np nr k) (r : Nat) (hr0 : r < nr) (a2 : Int32) (hbd : ¬ ztn a2 = 0) : MI l yX4_paint cX4_paint 4 (some .int) 2 42 G [.ref (adr G 0), .int (nI r), .int a2] M (u2 M (4 + 13 + r) 3 a2) o o (M (4 + 13 + r) 3) 0 0 := by
  refine MI_of RX4 rfl (by decide +kernel) (Nat.le_of_ble_eq_true rfl) ?_
  intro p e s m below meth c sz C0 hr hP ls hl
  have hx := C0.1
  have hb := C0.2.1
  have hS : va_S (pA G sz) s.heap s.heap [] := va_S.rf
  have hl : lv_has ls 4 [(0, .ref (adr G 0)), (1, .int (nI r)), (2, .int a2)] := hl
  obtain ⟨hnp, hple, hnr, hrle, hk0, hkle⟩ := id hO
  refine lv_aload_n hx hb dX4_paint_0 rfl (lv_at hl 0 rfl) ?_
  refine lv_iload_n hx hb dX4_paint_1 rfl (lv_at hl 1 rfl) ?_
  refine k_VV C0 hP hS (rest := []) (c_X4_needRoom l G M o np nr k hO r (by omega)) mf_X4_needRoom ml_X4_86 (kd_lt (show kd 0 = 4 by decide) (by decide)) (ct_4 (show kd 0 = 4 by decide)) rfl hl.1 (by decide) (by decide) (Nat.le_of_ble_eq_true rfl) rfl rfl dX4_paint_2 (fun H locs hP hS => ?_)
  refine lv_iload_n hx hb dX4_paint_5 rfl (lv_at hl 2 rfl) ?_
  refine k_SI C0 hP hS (rest := []) (c_X4_isZeroToNine l G M o a2) mf_X4_isZeroToNine rfl ml_X4_56 hl.1 (by decide) (by decide) (Nat.le_of_ble_eq_true rfl) rfl rfl dX4_paint_6 (fun H locs hP hS => ?_)
  refine lv_if_ne (tgt := 20) hx hb dX4_paint_9 (by decide) (fun c_1 => ?_) (fun c_1 => ?_)
  · refine lv_aload_n hx hb dX4_paint_20 rfl (lv_at hl 0 rfl) ?_
    refine gf_X4_19 C0 hP (k := 0) (show kd 0 = 4 by decide) dX4_paint_21 ?_
    refine gf_X4_76 C0 hP (k := 4) (show kd 4 = 2 by decide) dX4_paint_24 ?_
    refine lv_iload_n hx hb dX4_paint_27 rfl (lv_at hl 1 rfl) ?_
    refine w_aldR C0 hP (k := 4 + 2) (i := r) (kdS2 (Or.inl rfl)) (by omega) dX4_paint_28 ?_
    refine gf_X4_93 C0 hP (k := 4 + 13 + r) (kdSr (Or.inl rfl) (by omega)) dX4_paint_29 ?_
    refine lv_istore_n (lv' := [(3, .int (M (4 + 13 + r) 3)), (0, .ref (adr G 0)), (1, .int (nI r)), (2, .int a2)]) hx hb dX4_paint_32 rfl hl (by decide) rfl (fun ls hl => ?_)
    refine lv_aload_n hx hb dX4_paint_33 rfl (lv_at hl 1 rfl) ?_
    refine gf_X4_19 C0 hP (k := 0) (show kd 0 = 4 by decide) dX4_paint_34 ?_
    refine gf_X4_76 C0 hP (k := 4) (show kd 4 = 2 by decide) dX4_paint_37 ?_
    refine lv_iload_n hx hb dX4_paint_40 rfl (lv_at hl 2 rfl) ?_
    refine w_aldR C0 hP (k := 4 + 2) (i := r) (kdS2 (Or.inl rfl)) (by omega) dX4_paint_41 ?_
    refine lv_iload_n hx hb dX4_paint_42 rfl (lv_at hl 3 rfl) ?_
    refine pf_X4_93 C0 hP hS (k := 4 + 13 + r) (kdSr (Or.inl rfl) (by omega)) dX4_paint_43 (fun H locs hP hS => ?_)
    refine lv_iload_n hx hb dX4_paint_46 rfl (lv_at hl 0 rfl) ?_
    exact e_Ii C0 hr hP hS rfl (by decide) dX4_paint_47
  · exact absurd c_1 hbd

set_option maxHeartbeats 4000000 in
set_option maxRecDepth 100000 in
theorem c_X4_paint_i (l : Launch) (G : GG) (M : Mem) (o : Nat → Int64) (hst : l.stackTraces = false) (np nr k : Nat) (hO : OKM M np nr k) (x1 a2 : Int32) (hbd : x1 < 0 ∨ ¬ x1 < nI nr) : MX l yX4_paint cX4_paint 4 (some .int) 8 131 G [.ref (adr G 0), .int x1, .int a2] M M o o "java/lang/IndexOutOfBoundsException" 1 6 := by
  refine MX_of RX4 rfl (by decide +kernel) (Nat.le_of_ble_eq_true rfl) ?_
  intro p e s m below meth c sz C0 hx0 hP ls hl
  have hx := C0.1
  have hb := C0.2.1
  have hS : va_S (pA G sz) s.heap s.heap [] := va_S.rf
  have hl : lv_has ls 4 [(0, .ref (adr G 0)), (1, .int x1), (2, .int a2)] := hl
  obtain ⟨hnp, hple, hnr, hrle, hk0, hkle⟩ := id hO
  refine lv_aload_n hx hb dX4_paint_0 rfl (lv_at hl 0 rfl) ?_
  refine lv_iload_n hx hb dX4_paint_1 rfl (lv_at hl 1 rfl) ?_
  refine k_VX C0 hP hS (rest := []) (c_X4_needRoom_x l G M o hst np nr k hO x1 hbd) mf_X4_needRoom ml_X4_86 (kd_lt (show kd 0 = 4 by decide) (by decide)) (ct_4 (show kd 0 = 4 by decide)) rfl hl.1 (by decide) (by decide) (Nat.le_of_ble_eq_true rfl) rfl rfl dX4_paint_2 (fun ce q9 H locs hP hS hce hcv hcl => ?_)
  exact e_X C0 hx0 hP hS hce hcv hcl (by decide)

set_option maxHeartbeats 4000000 in
set_option maxRecDepth 100000 in
theorem c_X4_paint_a (l : Launch) (G : GG) (M : Mem) (o : Nat → Int64) (hst : l.stackTraces = false) (np nr k : Nat) (hO : OKM M np nr k) (r : Nat) (hr0 : r < nr) (a2 : Int32) (hbd : ztn a2 = 0) : MX l yX4_paint cX4_paint 4 (some .int) 6 89 G [.ref (adr G 0), .int (nI r), .int a2] M M o o "java/lang/IllegalArgumentException" 1 6 := by
  refine MX_of RX4 rfl (by decide +kernel) (Nat.le_of_ble_eq_true rfl) ?_
  intro p e s m below meth c sz C0 hx0 hP ls hl
  have hx := C0.1
  have hb := C0.2.1
  have hS : va_S (pA G sz) s.heap s.heap [] := va_S.rf
  have hl : lv_has ls 4 [(0, .ref (adr G 0)), (1, .int (nI r)), (2, .int a2)] := hl
  obtain ⟨hnp, hple, hnr, hrle, hk0, hkle⟩ := id hO
  refine lv_aload_n hx hb dX4_paint_0 rfl (lv_at hl 0 rfl) ?_
  refine lv_iload_n hx hb dX4_paint_1 rfl (lv_at hl 1 rfl) ?_
  refine k_VV C0 hP hS (rest := []) (c_X4_needRoom l G M o np nr k hO r (by omega)) mf_X4_needRoom ml_X4_86 (kd_lt (show kd 0 = 4 by decide) (by decide)) (ct_4 (show kd 0 = 4 by decide)) rfl hl.1 (by decide) (by decide) (Nat.le_of_ble_eq_true rfl) rfl rfl dX4_paint_2 (fun H locs hP hS => ?_)
  refine lv_iload_n hx hb dX4_paint_5 rfl (lv_at hl 2 rfl) ?_
  refine k_SI C0 hP hS (rest := []) (c_X4_isZeroToNine l G M o a2) mf_X4_isZeroToNine rfl ml_X4_56 hl.1 (by decide) (by decide) (Nat.le_of_ble_eq_true rfl) rfl rfl dX4_paint_6 (fun H locs hP hS => ?_)
  refine lv_if_ne (tgt := 20) hx hb dX4_paint_9 (by decide) (fun c_1 => ?_) (fun c_1 => ?_)
  · exact absurd hbd c_1
  · exact th_IAE C0 hst hx0 hP hS hl.1 dX4_paint_12 dX4_paint_15 dX4_paint_16 dX4_paint_19 ⟨by decide, Nat.le_of_ble_eq_true rfl, by decide, by decide⟩ (by decide)

set_option maxHeartbeats 4000000 in
set_option maxRecDepth 100000 in
theorem c_X4_seat (l : Launch) (G : GG) (M : Mem) (o : Nat → Int64) (np nr k : Nat) (hO : OKM M np nr k) (r : Nat) (hr0 : r < nr) (a2 : Int32) (hbd : ¬ bdS a2) (hfree : a2 ≤ M (4 + 13 + r) 4 - M (4 + 13 + r) 5) : MI l yX4_seat cX4_seat 4 (some .int) 2 42 G [.ref (adr G 0), .int (nI r), .int a2] M (u2 M (4 + 13 + r) 5 (M (4 + 13 + r) 5 + a2)) o o (M (4 + 13 + r) 5 + a2) 0 0 := by
  refine MI_of RX4 rfl (by decide +kernel) (Nat.le_of_ble_eq_true rfl) ?_
  intro p e s m below meth c sz C0 hr hP ls hl
  have hx := C0.1
  have hb := C0.2.1
  have hS : va_S (pA G sz) s.heap s.heap [] := va_S.rf
  have hl : lv_has ls 4 [(0, .ref (adr G 0)), (1, .int (nI r)), (2, .int a2)] := hl
  obtain ⟨hnp, hple, hnr, hrle, hk0, hkle⟩ := id hO
  refine lv_aload_n hx hb dX4_seat_0 rfl (lv_at hl 0 rfl) ?_
  refine lv_iload_n hx hb dX4_seat_1 rfl (lv_at hl 1 rfl) ?_
  refine k_VV C0 hP hS (rest := []) (c_X4_needRoom l G M o np nr k hO r (by omega)) mf_X4_needRoom ml_X4_86 (kd_lt (show kd 0 = 4 by decide) (by decide)) (ct_4 (show kd 0 = 4 by decide)) rfl hl.1 (by decide) (by decide) (Nat.le_of_ble_eq_true rfl) rfl rfl dX4_seat_2 (fun H locs hP hS => ?_)
  refine lv_iload_n hx hb dX4_seat_5 rfl (lv_at hl 2 rfl) ?_
  refine lv_iconst (v := 1) hx hb dX4_seat_6 (by decide) ?_
  refine lv_icmp_lt (tgt := 16) hx hb dX4_seat_7 (by decide) (fun c_1 => ?_) (fun c_1 => ?_)
  · exact (hbd (by simp [bdS, c_1])).elim
  · refine lv_iload_n hx hb dX4_seat_10 rfl (lv_at hl 2 rfl) ?_
    refine lv_bipush (v := 20) hx hb dX4_seat_11 (by decide) ?_
    refine lv_icmp_le (tgt := 24) hx hb dX4_seat_13 (by decide) (fun c_2 => ?_) (fun c_2 => ?_)
    · refine lv_aload_n hx hb dX4_seat_24 rfl (lv_at hl 0 rfl) ?_
      refine gf_X4_19 C0 hP (k := 0) (show kd 0 = 4 by decide) dX4_seat_25 ?_
      refine gf_X4_76 C0 hP (k := 4) (show kd 4 = 2 by decide) dX4_seat_28 ?_
      refine lv_iload_n hx hb dX4_seat_31 rfl (lv_at hl 1 rfl) ?_
      refine w_aldR C0 hP (k := 4 + 2) (i := r) (kdS2 (Or.inl rfl)) (by omega) dX4_seat_32 ?_
      refine lv_astore_n (lv' := [(3, .ref (adr G (4 + 13 + r))), (0, .ref (adr G 0)), (1, .int (nI r)), (2, .int a2)]) hx hb dX4_seat_33 rfl hl (by decide) rfl (fun ls hl => ?_)
      refine lv_iload_n hx hb dX4_seat_34 rfl (lv_at hl 3 rfl) ?_
      refine lv_aload_n hx hb dX4_seat_35 rfl (lv_at hl 0 rfl) ?_
      refine gf_X4_96 C0 hP (k := 4 + 13 + r) (kdSr (Or.inl rfl) (by omega)) dX4_seat_36 ?_
      refine lv_aload_n hx hb dX4_seat_39 rfl (lv_at hl 0 rfl) ?_
      refine gf_X4_99 C0 hP (k := 4 + 13 + r) (kdSr (Or.inl rfl) (by omega)) dX4_seat_40 ?_
      refine lv_isub hx hb dX4_seat_43 ?_
      refine lv_icmp_le (tgt := 55) hx hb dX4_seat_44 (by decide) (fun c_3 => ?_) (fun c_3 => ?_)
      · refine lv_aload_n hx hb dX4_seat_55 rfl (lv_at hl 0 rfl) ?_
        refine lv_dup hx hb dX4_seat_56 rfl ?_
        refine gf_X4_99 C0 hP (k := 4 + 13 + r) (kdSr (Or.inl rfl) (by omega)) dX4_seat_57 ?_
        refine lv_iload_n hx hb dX4_seat_60 rfl (lv_at hl 3 rfl) ?_
        refine lv_iadd hx hb dX4_seat_61 ?_
        refine pf_X4_99 C0 hP hS (k := 4 + 13 + r) (kdSr (Or.inl rfl) (by omega)) dX4_seat_62 (fun H locs hP hS => ?_)
        refine lv_aload_n hx hb dX4_seat_65 rfl (lv_at hl 0 rfl) ?_
        refine gf_X4_99 C0 hP (k := 4 + 13 + r) (kdSr (Or.inl rfl) (by omega)) dX4_seat_66 ?_
        exact e_Ii C0 hr hP hS u2_at (by decide) dX4_seat_69
      · exact absurd hfree c_3
    · exact (hbd (by simp [bdS, c_1, c_2])).elim

set_option maxHeartbeats 4000000 in
set_option maxRecDepth 100000 in
theorem c_X4_seat_i (l : Launch) (G : GG) (M : Mem) (o : Nat → Int64) (hst : l.stackTraces = false) (np nr k : Nat) (hO : OKM M np nr k) (x1 a2 : Int32) (hbd : x1 < 0 ∨ ¬ x1 < nI nr) : MX l yX4_seat cX4_seat 4 (some .int) 8 131 G [.ref (adr G 0), .int x1, .int a2] M M o o "java/lang/IndexOutOfBoundsException" 1 6 := by
  refine MX_of RX4 rfl (by decide +kernel) (Nat.le_of_ble_eq_true rfl) ?_
  intro p e s m below meth c sz C0 hx0 hP ls hl
  have hx := C0.1
  have hb := C0.2.1
  have hS : va_S (pA G sz) s.heap s.heap [] := va_S.rf
  have hl : lv_has ls 4 [(0, .ref (adr G 0)), (1, .int x1), (2, .int a2)] := hl
  obtain ⟨hnp, hple, hnr, hrle, hk0, hkle⟩ := id hO
  refine lv_aload_n hx hb dX4_seat_0 rfl (lv_at hl 0 rfl) ?_
  refine lv_iload_n hx hb dX4_seat_1 rfl (lv_at hl 1 rfl) ?_
  refine k_VX C0 hP hS (rest := []) (c_X4_needRoom_x l G M o hst np nr k hO x1 hbd) mf_X4_needRoom ml_X4_86 (kd_lt (show kd 0 = 4 by decide) (by decide)) (ct_4 (show kd 0 = 4 by decide)) rfl hl.1 (by decide) (by decide) (Nat.le_of_ble_eq_true rfl) rfl rfl dX4_seat_2 (fun ce q9 H locs hP hS hce hcv hcl => ?_)
  exact e_X C0 hx0 hP hS hce hcv hcl (by decide)

set_option maxHeartbeats 4000000 in
set_option maxRecDepth 100000 in
theorem c_X4_seat_a (l : Launch) (G : GG) (M : Mem) (o : Nat → Int64) (hst : l.stackTraces = false) (np nr k : Nat) (hO : OKM M np nr k) (r : Nat) (hr0 : r < nr) (a2 : Int32) (hbd : bdS a2) : MX l yX4_seat cX4_seat 4 (some .int) 6 89 G [.ref (adr G 0), .int (nI r), .int a2] M M o o "java/lang/IllegalArgumentException" 1 6 := by
  refine MX_of RX4 rfl (by decide +kernel) (Nat.le_of_ble_eq_true rfl) ?_
  intro p e s m below meth c sz C0 hx0 hP ls hl
  have hx := C0.1
  have hb := C0.2.1
  have hS : va_S (pA G sz) s.heap s.heap [] := va_S.rf
  have hl : lv_has ls 4 [(0, .ref (adr G 0)), (1, .int (nI r)), (2, .int a2)] := hl
  obtain ⟨hnp, hple, hnr, hrle, hk0, hkle⟩ := id hO
  refine lv_aload_n hx hb dX4_seat_0 rfl (lv_at hl 0 rfl) ?_
  refine lv_iload_n hx hb dX4_seat_1 rfl (lv_at hl 1 rfl) ?_
  refine k_VV C0 hP hS (rest := []) (c_X4_needRoom l G M o np nr k hO r (by omega)) mf_X4_needRoom ml_X4_86 (kd_lt (show kd 0 = 4 by decide) (by decide)) (ct_4 (show kd 0 = 4 by decide)) rfl hl.1 (by decide) (by decide) (Nat.le_of_ble_eq_true rfl) rfl rfl dX4_seat_2 (fun H locs hP hS => ?_)
  refine lv_iload_n hx hb dX4_seat_5 rfl (lv_at hl 2 rfl) ?_
  refine lv_iconst (v := 1) hx hb dX4_seat_6 (by decide) ?_
  refine lv_icmp_lt (tgt := 16) hx hb dX4_seat_7 (by decide) (fun c_1 => ?_) (fun c_1 => ?_)
  · exact th_IAE C0 hst hx0 hP hS hl.1 dX4_seat_16 dX4_seat_19 dX4_seat_20 dX4_seat_23 ⟨by decide, Nat.le_of_ble_eq_true rfl, by decide, by decide⟩ (by decide)
  · refine lv_iload_n hx hb dX4_seat_10 rfl (lv_at hl 2 rfl) ?_
    refine lv_bipush (v := 20) hx hb dX4_seat_11 (by decide) ?_
    refine lv_icmp_le (tgt := 24) hx hb dX4_seat_13 (by decide) (fun c_2 => ?_) (fun c_2 => ?_)
    · exact absurd hbd (by simp [bdS, c_1, c_2])
    · exact th_IAE C0 hst hx0 hP hS hl.1 dX4_seat_16 dX4_seat_19 dX4_seat_20 dX4_seat_23 ⟨by decide, Nat.le_of_ble_eq_true rfl, by decide, by decide⟩ (by decide)

set_option maxHeartbeats 4000000 in
set_option maxRecDepth 100000 in
theorem c_X4_seat_s (l : Launch) (G : GG) (M : Mem) (o : Nat → Int64) (hst : l.stackTraces = false) (np nr k : Nat) (hO : OKM M np nr k) (r : Nat) (hr0 : r < nr) (a2 : Int32) (hbd : ¬ bdS a2) (hfree : ¬ a2 ≤ M (4 + 13 + r) 4 - M (4 + 13 + r) 5) : MX l yX4_seat cX4_seat 4 (some .int) 6 89 G [.ref (adr G 0), .int (nI r), .int a2] M M o o "java/lang/IllegalStateException" 1 6 := by
  refine MX_of RX4 rfl (by decide +kernel) (Nat.le_of_ble_eq_true rfl) ?_
  intro p e s m below meth c sz C0 hx0 hP ls hl
  have hx := C0.1
  have hb := C0.2.1
  have hS : va_S (pA G sz) s.heap s.heap [] := va_S.rf
  have hl : lv_has ls 4 [(0, .ref (adr G 0)), (1, .int (nI r)), (2, .int a2)] := hl
  obtain ⟨hnp, hple, hnr, hrle, hk0, hkle⟩ := id hO
  refine lv_aload_n hx hb dX4_seat_0 rfl (lv_at hl 0 rfl) ?_
  refine lv_iload_n hx hb dX4_seat_1 rfl (lv_at hl 1 rfl) ?_
  refine k_VV C0 hP hS (rest := []) (c_X4_needRoom l G M o np nr k hO r (by omega)) mf_X4_needRoom ml_X4_86 (kd_lt (show kd 0 = 4 by decide) (by decide)) (ct_4 (show kd 0 = 4 by decide)) rfl hl.1 (by decide) (by decide) (Nat.le_of_ble_eq_true rfl) rfl rfl dX4_seat_2 (fun H locs hP hS => ?_)
  refine lv_iload_n hx hb dX4_seat_5 rfl (lv_at hl 2 rfl) ?_
  refine lv_iconst (v := 1) hx hb dX4_seat_6 (by decide) ?_
  refine lv_icmp_lt (tgt := 16) hx hb dX4_seat_7 (by decide) (fun c_1 => ?_) (fun c_1 => ?_)
  · exact (hbd (by simp [bdS, c_1])).elim
  · refine lv_iload_n hx hb dX4_seat_10 rfl (lv_at hl 2 rfl) ?_
    refine lv_bipush (v := 20) hx hb dX4_seat_11 (by decide) ?_
    refine lv_icmp_le (tgt := 24) hx hb dX4_seat_13 (by decide) (fun c_2 => ?_) (fun c_2 => ?_)
    · refine lv_aload_n hx hb dX4_seat_24 rfl (lv_at hl 0 rfl) ?_
      refine gf_X4_19 C0 hP (k := 0) (show kd 0 = 4 by decide) dX4_seat_25 ?_
      refine gf_X4_76 C0 hP (k := 4) (show kd 4 = 2 by decide) dX4_seat_28 ?_
      refine lv_iload_n hx hb dX4_seat_31 rfl (lv_at hl 1 rfl) ?_
      refine w_aldR C0 hP (k := 4 + 2) (i := r) (kdS2 (Or.inl rfl)) (by omega) dX4_seat_32 ?_
      refine lv_astore_n (lv' := [(3, .ref (adr G (4 + 13 + r))), (0, .ref (adr G 0)), (1, .int (nI r)), (2, .int a2)]) hx hb dX4_seat_33 rfl hl (by decide) rfl (fun ls hl => ?_)
      refine lv_iload_n hx hb dX4_seat_34 rfl (lv_at hl 3 rfl) ?_
      refine lv_aload_n hx hb dX4_seat_35 rfl (lv_at hl 0 rfl) ?_
      refine gf_X4_96 C0 hP (k := 4 + 13 + r) (kdSr (Or.inl rfl) (by omega)) dX4_seat_36 ?_
      refine lv_aload_n hx hb dX4_seat_39 rfl (lv_at hl 0 rfl) ?_
      refine gf_X4_99 C0 hP (k := 4 + 13 + r) (kdSr (Or.inl rfl) (by omega)) dX4_seat_40 ?_
      refine lv_isub hx hb dX4_seat_43 ?_
      refine lv_icmp_le (tgt := 55) hx hb dX4_seat_44 (by decide) (fun c_3 => ?_) (fun c_3 => ?_)
      · exact absurd c_3 hfree
      · exact th_ISE C0 hst hx0 hP hS hl.1 dX4_seat_47 dX4_seat_50 dX4_seat_51 dX4_seat_54 ⟨by decide, Nat.le_of_ble_eq_true rfl, by decide, by decide⟩ (by decide)
    · exact (hbd (by simp [bdS, c_1, c_2])).elim

set_option maxHeartbeats 4000000 in
set_option maxRecDepth 100000 in
theorem c_X4_passer (l : Launch) (G : GG) (M : Mem) (o : Nat → Int64) (np nr k : Nat) (hO : OKM M np nr k) (i w : Nat) (hi : i < np) (hw : w < 5) : MI l yX4_passer cX4_passer 3 (some .int) 5 111 G [.ref (adr G 0), .int (nI i), .int (nI w)] M M o o (pfF M nr k i w) 0 0 := by
  refine MI_of RX4 rfl (by decide +kernel) (Nat.le_of_ble_eq_true rfl) ?_
  intro p e s m below meth c sz C0 hr hP ls hl
  have hx := C0.1
  have hb := C0.2.1
  have hS : va_S (pA G sz) s.heap s.heap [] := va_S.rf
  have hl : lv_has ls 3 [(0, .ref (adr G 0)), (1, .int (nI i)), (2, .int (nI w))] := hl
  obtain ⟨hnp, hple, hnr, hrle, hk0, hkle⟩ := id hO
  refine lv_aload_n hx hb dX4_passer_0 rfl (lv_at hl 0 rfl) ?_
  refine lv_iload_n hx hb dX4_passer_1 rfl (lv_at hl 1 rfl) ?_
  refine k_VV C0 hP hS (rest := []) (c_X4_needPasser l G M o np nr k hO i (by omega)) mf_X4_needPasser ml_X4_102 (kd_lt (show kd 0 = 4 by decide) (by decide)) (ct_4 (show kd 0 = 4 by decide)) rfl hl.1 (by decide) (by decide) (Nat.le_of_ble_eq_true rfl) rfl rfl dX4_passer_2 (fun H locs hP hS => ?_)
  refine lv_iload_n hx hb dX4_passer_5 rfl (lv_at hl 2 rfl) ?_
  refine lv_iconst (v := 5) hx hb dX4_passer_6 (by decide) ?_
  refine k_SV C0 hP hS (rest := []) (c_X4_needBelow l G M o w 5 (by omega) (by omega)) mf_X4_needBelow rfl ml_X4_105 hl.1 (by decide) (by decide) (Nat.le_of_ble_eq_true rfl) rfl rfl dX4_passer_7 (fun H locs hP hS => ?_)
  refine lv_aload_n hx hb dX4_passer_10 rfl (lv_at hl 0 rfl) ?_
  refine lv_iload_n hx hb dX4_passer_11 rfl (lv_at hl 1 rfl) ?_
  refine lv_iload_n hx hb dX4_passer_12 rfl (lv_at hl 2 rfl) ?_
  refine k_VI C0 hP hS (rest := []) (c_X4_passerFact l G M o np nr k hO i w (by omega) (by omega)) mf_X4_passerFact ml_X4_109 (kd_lt (show kd 0 = 4 by decide) (by decide)) (ct_4 (show kd 0 = 4 by decide)) rfl hl.1 (by decide) (by decide) (Nat.le_of_ble_eq_true rfl) rfl rfl dX4_passer_13 (fun H locs hP hS => ?_)
  exact e_Ii C0 hr hP hS rfl (by decide) dX4_passer_16

set_option maxHeartbeats 4000000 in
set_option maxRecDepth 100000 in
theorem c_X4_passer_i (l : Launch) (G : GG) (M : Mem) (o : Nat → Int64) (hst : l.stackTraces = false) (np nr k : Nat) (hO : OKM M np nr k) (x1 a2 : Int32) (hbd : x1 < 0 ∨ ¬ x1 < nI np) : MX l yX4_passer cX4_passer 3 (some .int) 8 131 G [.ref (adr G 0), .int x1, .int a2] M M o o "java/lang/IndexOutOfBoundsException" 1 6 := by
  refine MX_of RX4 rfl (by decide +kernel) (Nat.le_of_ble_eq_true rfl) ?_
  intro p e s m below meth c sz C0 hx0 hP ls hl
  have hx := C0.1
  have hb := C0.2.1
  have hS : va_S (pA G sz) s.heap s.heap [] := va_S.rf
  have hl : lv_has ls 3 [(0, .ref (adr G 0)), (1, .int x1), (2, .int a2)] := hl
  obtain ⟨hnp, hple, hnr, hrle, hk0, hkle⟩ := id hO
  refine lv_aload_n hx hb dX4_passer_0 rfl (lv_at hl 0 rfl) ?_
  refine lv_iload_n hx hb dX4_passer_1 rfl (lv_at hl 1 rfl) ?_
  refine k_VX C0 hP hS (rest := []) (c_X4_needPasser_x l G M o hst np nr k hO x1 hbd) mf_X4_needPasser ml_X4_102 (kd_lt (show kd 0 = 4 by decide) (by decide)) (ct_4 (show kd 0 = 4 by decide)) rfl hl.1 (by decide) (by decide) (Nat.le_of_ble_eq_true rfl) rfl rfl dX4_passer_2 (fun ce q9 H locs hP hS hce hcv hcl => ?_)
  exact e_X C0 hx0 hP hS hce hcv hcl (by decide)

set_option maxHeartbeats 4000000 in
set_option maxRecDepth 100000 in
theorem c_X4_passer_j (l : Launch) (G : GG) (M : Mem) (o : Nat → Int64) (hst : l.stackTraces = false) (np nr k : Nat) (hO : OKM M np nr k) (i : Nat) (hi : i < np) (a2 : Int32) (hbd : a2 < 0 ∨ ¬ a2 < 5) : MX l yX4_passer cX4_passer 3 (some .int) 7 110 G [.ref (adr G 0), .int (nI i), .int a2] M M o o "java/lang/IndexOutOfBoundsException" 1 6 := by
  refine MX_of RX4 rfl (by decide +kernel) (Nat.le_of_ble_eq_true rfl) ?_
  intro p e s m below meth c sz C0 hx0 hP ls hl
  have hx := C0.1
  have hb := C0.2.1
  have hS : va_S (pA G sz) s.heap s.heap [] := va_S.rf
  have hl : lv_has ls 3 [(0, .ref (adr G 0)), (1, .int (nI i)), (2, .int a2)] := hl
  obtain ⟨hnp, hple, hnr, hrle, hk0, hkle⟩ := id hO
  refine lv_aload_n hx hb dX4_passer_0 rfl (lv_at hl 0 rfl) ?_
  refine lv_iload_n hx hb dX4_passer_1 rfl (lv_at hl 1 rfl) ?_
  refine k_VV C0 hP hS (rest := []) (c_X4_needPasser l G M o np nr k hO i (by omega)) mf_X4_needPasser ml_X4_102 (kd_lt (show kd 0 = 4 by decide) (by decide)) (ct_4 (show kd 0 = 4 by decide)) rfl hl.1 (by decide) (by decide) (Nat.le_of_ble_eq_true rfl) rfl rfl dX4_passer_2 (fun H locs hP hS => ?_)
  refine lv_iload_n hx hb dX4_passer_5 rfl (lv_at hl 2 rfl) ?_
  refine lv_iconst (v := 5) hx hb dX4_passer_6 (by decide) ?_
  refine k_SX C0 hP hS (rest := []) (c_X4_needBelow_x l G M o hst a2 5 hbd) mf_X4_needBelow rfl ml_X4_105 hl.1 (by decide) (by decide) (Nat.le_of_ble_eq_true rfl) rfl rfl dX4_passer_7 (fun ce q9 H locs hP hS hce hcv hcl => ?_)
  exact e_X C0 hx0 hP hS hce hcv hcl (by decide)

set_option maxHeartbeats 4000000 in
set_option maxRecDepth 100000 in
theorem c_X4_room (l : Launch) (G : GG) (M : Mem) (o : Nat → Int64) (np nr k : Nat) (hO : OKM M np nr k) (i w : Nat) (hi : i < nr) (hw : w < 8) : MI l yX4_room cX4_room 3 (some .int) 5 111 G [.ref (adr G 0), .int (nI i), .int (nI w)] M M o o (rfF M np k i w) 0 0 := by
  refine MI_of RX4 rfl (by decide +kernel) (Nat.le_of_ble_eq_true rfl) ?_
  intro p e s m below meth c sz C0 hr hP ls hl
  have hx := C0.1
  have hb := C0.2.1
  have hS : va_S (pA G sz) s.heap s.heap [] := va_S.rf
  have hl : lv_has ls 3 [(0, .ref (adr G 0)), (1, .int (nI i)), (2, .int (nI w))] := hl
  obtain ⟨hnp, hple, hnr, hrle, hk0, hkle⟩ := id hO
  refine lv_aload_n hx hb dX4_room_0 rfl (lv_at hl 0 rfl) ?_
  refine lv_iload_n hx hb dX4_room_1 rfl (lv_at hl 1 rfl) ?_
  refine k_VV C0 hP hS (rest := []) (c_X4_needRoom l G M o np nr k hO i (by omega)) mf_X4_needRoom ml_X4_86 (kd_lt (show kd 0 = 4 by decide) (by decide)) (ct_4 (show kd 0 = 4 by decide)) rfl hl.1 (by decide) (by decide) (Nat.le_of_ble_eq_true rfl) rfl rfl dX4_room_2 (fun H locs hP hS => ?_)
  refine lv_iload_n hx hb dX4_room_5 rfl (lv_at hl 2 rfl) ?_
  refine lv_bipush (v := 8) hx hb dX4_room_6 (by decide) ?_
  refine k_SV C0 hP hS (rest := []) (c_X4_needBelow l G M o w 8 (by omega) (by omega)) mf_X4_needBelow rfl ml_X4_105 hl.1 (by decide) (by decide) (Nat.le_of_ble_eq_true rfl) rfl rfl dX4_room_8 (fun H locs hP hS => ?_)
  refine lv_aload_n hx hb dX4_room_11 rfl (lv_at hl 0 rfl) ?_
  refine lv_iload_n hx hb dX4_room_12 rfl (lv_at hl 1 rfl) ?_
  refine lv_iload_n hx hb dX4_room_13 rfl (lv_at hl 2 rfl) ?_
  refine k_VI C0 hP hS (rest := []) (c_X4_roomFact l G M o np nr k hO i w (by omega) (by omega)) mf_X4_roomFact ml_X4_113 (kd_lt (show kd 0 = 4 by decide) (by decide)) (ct_4 (show kd 0 = 4 by decide)) rfl hl.1 (by decide) (by decide) (Nat.le_of_ble_eq_true rfl) rfl rfl dX4_room_14 (fun H locs hP hS => ?_)
  exact e_Ii C0 hr hP hS rfl (by decide) dX4_room_17

set_option maxHeartbeats 4000000 in
set_option maxRecDepth 100000 in
theorem c_X4_room_i (l : Launch) (G : GG) (M : Mem) (o : Nat → Int64) (hst : l.stackTraces = false) (np nr k : Nat) (hO : OKM M np nr k) (x1 a2 : Int32) (hbd : x1 < 0 ∨ ¬ x1 < nI nr) : MX l yX4_room cX4_room 3 (some .int) 8 131 G [.ref (adr G 0), .int x1, .int a2] M M o o "java/lang/IndexOutOfBoundsException" 1 6 := by
  refine MX_of RX4 rfl (by decide +kernel) (Nat.le_of_ble_eq_true rfl) ?_
  intro p e s m below meth c sz C0 hx0 hP ls hl
  have hx := C0.1
  have hb := C0.2.1
  have hS : va_S (pA G sz) s.heap s.heap [] := va_S.rf
  have hl : lv_has ls 3 [(0, .ref (adr G 0)), (1, .int x1), (2, .int a2)] := hl
  obtain ⟨hnp, hple, hnr, hrle, hk0, hkle⟩ := id hO
  refine lv_aload_n hx hb dX4_room_0 rfl (lv_at hl 0 rfl) ?_
  refine lv_iload_n hx hb dX4_room_1 rfl (lv_at hl 1 rfl) ?_
  refine k_VX C0 hP hS (rest := []) (c_X4_needRoom_x l G M o hst np nr k hO x1 hbd) mf_X4_needRoom ml_X4_86 (kd_lt (show kd 0 = 4 by decide) (by decide)) (ct_4 (show kd 0 = 4 by decide)) rfl hl.1 (by decide) (by decide) (Nat.le_of_ble_eq_true rfl) rfl rfl dX4_room_2 (fun ce q9 H locs hP hS hce hcv hcl => ?_)
  exact e_X C0 hx0 hP hS hce hcv hcl (by decide)

set_option maxHeartbeats 4000000 in
set_option maxRecDepth 100000 in
theorem c_X4_room_j (l : Launch) (G : GG) (M : Mem) (o : Nat → Int64) (hst : l.stackTraces = false) (np nr k : Nat) (hO : OKM M np nr k) (i : Nat) (hi : i < nr) (a2 : Int32) (hbd : a2 < 0 ∨ ¬ a2 < 8) : MX l yX4_room cX4_room 3 (some .int) 7 110 G [.ref (adr G 0), .int (nI i), .int a2] M M o o "java/lang/IndexOutOfBoundsException" 1 6 := by
  refine MX_of RX4 rfl (by decide +kernel) (Nat.le_of_ble_eq_true rfl) ?_
  intro p e s m below meth c sz C0 hx0 hP ls hl
  have hx := C0.1
  have hb := C0.2.1
  have hS : va_S (pA G sz) s.heap s.heap [] := va_S.rf
  have hl : lv_has ls 3 [(0, .ref (adr G 0)), (1, .int (nI i)), (2, .int a2)] := hl
  obtain ⟨hnp, hple, hnr, hrle, hk0, hkle⟩ := id hO
  refine lv_aload_n hx hb dX4_room_0 rfl (lv_at hl 0 rfl) ?_
  refine lv_iload_n hx hb dX4_room_1 rfl (lv_at hl 1 rfl) ?_
  refine k_VV C0 hP hS (rest := []) (c_X4_needRoom l G M o np nr k hO i (by omega)) mf_X4_needRoom ml_X4_86 (kd_lt (show kd 0 = 4 by decide) (by decide)) (ct_4 (show kd 0 = 4 by decide)) rfl hl.1 (by decide) (by decide) (Nat.le_of_ble_eq_true rfl) rfl rfl dX4_room_2 (fun H locs hP hS => ?_)
  refine lv_iload_n hx hb dX4_room_5 rfl (lv_at hl 2 rfl) ?_
  refine lv_bipush (v := 8) hx hb dX4_room_6 (by decide) ?_
  refine k_SX C0 hP hS (rest := []) (c_X4_needBelow_x l G M o hst a2 8 hbd) mf_X4_needBelow rfl ml_X4_105 hl.1 (by decide) (by decide) (Nat.le_of_ble_eq_true rfl) rfl rfl dX4_room_8 (fun ce q9 H locs hP hS hce hcv hcl => ?_)
  exact e_X C0 hx0 hP hS hce hcv hcl (by decide)

set_option maxHeartbeats 4000000 in
set_option maxRecDepth 100000 in
theorem c_X4_wall (l : Launch) (G : GG) (M : Mem) (o : Nat → Int64) (np nr k : Nat) (hO : OKM M np nr k) (r : Nat) (hr0 : r < nr) (a2 : Int32) (hbd : ¬ bdW a2 (M (4 + 13 + r) 1)) : MI l yX4_wall cX4_wall 4 (some .int) 2 43 G [.ref (adr G 0), .int (nI r), .int a2] M M o o (paM M 4 (M (4 + 13 + r) 0 - a2) np) 0 0 := by
  refine MI_of RX4 rfl (by decide +kernel) (Nat.le_of_ble_eq_true rfl) ?_
  intro p e s m below meth c sz C0 hr hP ls hl
  have hx := C0.1
  have hb := C0.2.1
  have hS : va_S (pA G sz) s.heap s.heap [] := va_S.rf
  have hl : lv_has ls 4 [(0, .ref (adr G 0)), (1, .int (nI r)), (2, .int a2)] := hl
  obtain ⟨hnp, hple, hnr, hrle, hk0, hkle⟩ := id hO
  refine lv_aload_n hx hb dX4_wall_0 rfl (lv_at hl 0 rfl) ?_
  refine lv_iload_n hx hb dX4_wall_1 rfl (lv_at hl 1 rfl) ?_
  refine k_VV C0 hP hS (rest := []) (c_X4_needRoom l G M o np nr k hO r (by omega)) mf_X4_needRoom ml_X4_86 (kd_lt (show kd 0 = 4 by decide) (by decide)) (ct_4 (show kd 0 = 4 by decide)) rfl hl.1 (by decide) (by decide) (Nat.le_of_ble_eq_true rfl) rfl rfl dX4_wall_2 (fun H locs hP hS => ?_)
  refine lv_aload_n hx hb dX4_wall_5 rfl (lv_at hl 0 rfl) ?_
  refine gf_X4_19 C0 hP (k := 0) (show kd 0 = 4 by decide) dX4_wall_6 ?_
  refine gf_X4_76 C0 hP (k := 4) (show kd 4 = 2 by decide) dX4_wall_9 ?_
  refine lv_iload_n hx hb dX4_wall_12 rfl (lv_at hl 1 rfl) ?_
  refine w_aldR C0 hP (k := 4 + 2) (i := r) (kdS2 (Or.inl rfl)) (by omega) dX4_wall_13 ?_
  refine lv_astore_n (lv' := [(3, .ref (adr G (4 + 13 + r))), (0, .ref (adr G 0)), (1, .int (nI r)), (2, .int a2)]) hx hb dX4_wall_14 rfl hl (by decide) rfl (fun ls hl => ?_)
  refine lv_iload_n hx hb dX4_wall_15 rfl (lv_at hl 3 rfl) ?_
  refine lv_aload_n hx hb dX4_wall_16 rfl (lv_at hl 0 rfl) ?_
  refine k_VNI C0 hP hS (rest := [.int a2]) (c_X1_reach l G M o (4 + 13 + r) (kdSr (Or.inl rfl) (by omega))) mf_X1_reach ml_X4_116 (kd_lt (kdSr (Or.inl rfl) (by omega)) (by decide)) (ct_1 (kdSr (Or.inl rfl) (by omega))) rfl hl.1 (by decide) (by decide) (Nat.le_of_ble_eq_true rfl) rfl rfl dX4_wall_17 (fun H locs hP hS => ?_)
  refine lv_ineg hx hb dX4_wall_20 ?_
  refine lv_icmp_lt (tgt := 32) hx hb dX4_wall_21 (by decide) (fun c_1 => ?_) (fun c_1 => ?_)
  · exact (hbd (by simp [bdW, c_1])).elim
  · refine lv_iload_n hx hb dX4_wall_24 rfl (lv_at hl 3 rfl) ?_
    refine lv_aload_n hx hb dX4_wall_25 rfl (lv_at hl 0 rfl) ?_
    refine k_VNI C0 hP hS (rest := [.int a2]) (c_X1_reach l G M o (4 + 13 + r) (kdSr (Or.inl rfl) (by omega))) mf_X1_reach ml_X4_116 (kd_lt (kdSr (Or.inl rfl) (by omega)) (by decide)) (ct_1 (kdSr (Or.inl rfl) (by omega))) rfl hl.1 (by decide) (by decide) (Nat.le_of_ble_eq_true rfl) rfl rfl dX4_wall_26 (fun H locs hP hS => ?_)
    refine lv_icmp_le (tgt := 40) hx hb dX4_wall_29 (by decide) (fun c_2 => ?_) (fun c_2 => ?_)
    · refine lv_aload_n hx hb dX4_wall_40 rfl (lv_at hl 1 rfl) ?_
      refine gf_X4_19 C0 hP (k := 0) (show kd 0 = 4 by decide) dX4_wall_41 ?_
      refine lv_aload_n hx hb dX4_wall_44 rfl (lv_at hl 0 rfl) ?_
      refine gf_X4_120 C0 hP (k := 4 + 13 + r) (kdSr (Or.inl rfl) (by omega)) dX4_wall_45 ?_
      refine lv_iload_n hx hb dX4_wall_48 rfl (lv_at hl 3 rfl) ?_
      refine lv_isub hx hb dX4_wall_49 ?_
      refine k_VNI C0 hP hS (rest := []) (c_X2_passersAt l G M o 4 ((M (4 + 13 + r) 0) - a2) np (Or.inl rfl) hnp hple) mf_X2_passersAt ml_X4_123 (kd_lt (show kd 4 = 2 by decide) (by decide)) (ct_2 (show kd 4 = 2 by decide)) rfl hl.1 (by decide) (by decide) (Nat.le_of_ble_eq_true rfl) rfl rfl dX4_wall_50 (fun H locs hP hS => ?_)
      exact e_Ii C0 hr hP hS rfl (by decide) dX4_wall_53
    · exact (hbd (by simp [bdW, c_1, c_2])).elim

set_option maxHeartbeats 4000000 in
set_option maxRecDepth 100000 in
theorem c_X4_wall_i (l : Launch) (G : GG) (M : Mem) (o : Nat → Int64) (hst : l.stackTraces = false) (np nr k : Nat) (hO : OKM M np nr k) (x1 a2 : Int32) (hbd : x1 < 0 ∨ ¬ x1 < nI nr) : MX l yX4_wall cX4_wall 4 (some .int) 8 131 G [.ref (adr G 0), .int x1, .int a2] M M o o "java/lang/IndexOutOfBoundsException" 1 6 := by
  refine MX_of RX4 rfl (by decide +kernel) (Nat.le_of_ble_eq_true rfl) ?_
  intro p e s m below meth c sz C0 hx0 hP ls hl
  have hx := C0.1
  have hb := C0.2.1
  have hS : va_S (pA G sz) s.heap s.heap [] := va_S.rf
  have hl : lv_has ls 4 [(0, .ref (adr G 0)), (1, .int x1), (2, .int a2)] := hl
  obtain ⟨hnp, hple, hnr, hrle, hk0, hkle⟩ := id hO
  refine lv_aload_n hx hb dX4_wall_0 rfl (lv_at hl 0 rfl) ?_
  refine lv_iload_n hx hb dX4_wall_1 rfl (lv_at hl 1 rfl) ?_
  refine k_VX C0 hP hS (rest := []) (c_X4_needRoom_x l G M o hst np nr k hO x1 hbd) mf_X4_needRoom ml_X4_86 (kd_lt (show kd 0 = 4 by decide) (by decide)) (ct_4 (show kd 0 = 4 by decide)) rfl hl.1 (by decide) (by decide) (Nat.le_of_ble_eq_true rfl) rfl rfl dX4_wall_2 (fun ce q9 H locs hP hS hce hcv hcl => ?_)
  exact e_X C0 hx0 hP hS hce hcv hcl (by decide)

set_option maxHeartbeats 4000000 in
set_option maxRecDepth 100000 in
theorem c_X4_wall_j (l : Launch) (G : GG) (M : Mem) (o : Nat → Int64) (hst : l.stackTraces = false) (np nr k : Nat) (hO : OKM M np nr k) (r : Nat) (hr0 : r < nr) (a2 : Int32) (hbd : bdW a2 (M (4 + 13 + r) 1)) : MX l yX4_wall cX4_wall 4 (some .int) 6 89 G [.ref (adr G 0), .int (nI r), .int a2] M M o o "java/lang/IndexOutOfBoundsException" 1 6 := by
  refine MX_of RX4 rfl (by decide +kernel) (Nat.le_of_ble_eq_true rfl) ?_
  intro p e s m below meth c sz C0 hx0 hP ls hl
  have hx := C0.1
  have hb := C0.2.1
  have hS : va_S (pA G sz) s.heap s.heap [] := va_S.rf
  have hl : lv_has ls 4 [(0, .ref (adr G 0)), (1, .int (nI r)), (2, .int a2)] := hl
  obtain ⟨hnp, hple, hnr, hrle, hk0, hkle⟩ := id hO
  refine lv_aload_n hx hb dX4_wall_0 rfl (lv_at hl 0 rfl) ?_
  refine lv_iload_n hx hb dX4_wall_1 rfl (lv_at hl 1 rfl) ?_
  refine k_VV C0 hP hS (rest := []) (c_X4_needRoom l G M o np nr k hO r (by omega)) mf_X4_needRoom ml_X4_86 (kd_lt (show kd 0 = 4 by decide) (by decide)) (ct_4 (show kd 0 = 4 by decide)) rfl hl.1 (by decide) (by decide) (Nat.le_of_ble_eq_true rfl) rfl rfl dX4_wall_2 (fun H locs hP hS => ?_)
  refine lv_aload_n hx hb dX4_wall_5 rfl (lv_at hl 0 rfl) ?_
  refine gf_X4_19 C0 hP (k := 0) (show kd 0 = 4 by decide) dX4_wall_6 ?_
  refine gf_X4_76 C0 hP (k := 4) (show kd 4 = 2 by decide) dX4_wall_9 ?_
  refine lv_iload_n hx hb dX4_wall_12 rfl (lv_at hl 1 rfl) ?_
  refine w_aldR C0 hP (k := 4 + 2) (i := r) (kdS2 (Or.inl rfl)) (by omega) dX4_wall_13 ?_
  refine lv_astore_n (lv' := [(3, .ref (adr G (4 + 13 + r))), (0, .ref (adr G 0)), (1, .int (nI r)), (2, .int a2)]) hx hb dX4_wall_14 rfl hl (by decide) rfl (fun ls hl => ?_)
  refine lv_iload_n hx hb dX4_wall_15 rfl (lv_at hl 3 rfl) ?_
  refine lv_aload_n hx hb dX4_wall_16 rfl (lv_at hl 0 rfl) ?_
  refine k_VNI C0 hP hS (rest := [.int a2]) (c_X1_reach l G M o (4 + 13 + r) (kdSr (Or.inl rfl) (by omega))) mf_X1_reach ml_X4_116 (kd_lt (kdSr (Or.inl rfl) (by omega)) (by decide)) (ct_1 (kdSr (Or.inl rfl) (by omega))) rfl hl.1 (by decide) (by decide) (Nat.le_of_ble_eq_true rfl) rfl rfl dX4_wall_17 (fun H locs hP hS => ?_)
  refine lv_ineg hx hb dX4_wall_20 ?_
  refine lv_icmp_lt (tgt := 32) hx hb dX4_wall_21 (by decide) (fun c_1 => ?_) (fun c_1 => ?_)
  · exact th_IOE C0 hst hx0 hP hS hl.1 dX4_wall_32 dX4_wall_35 dX4_wall_36 dX4_wall_39 ⟨by decide, Nat.le_of_ble_eq_true rfl, by decide, by decide⟩ (by decide)
  · refine lv_iload_n hx hb dX4_wall_24 rfl (lv_at hl 3 rfl) ?_
    refine lv_aload_n hx hb dX4_wall_25 rfl (lv_at hl 0 rfl) ?_
    refine k_VNI C0 hP hS (rest := [.int a2]) (c_X1_reach l G M o (4 + 13 + r) (kdSr (Or.inl rfl) (by omega))) mf_X1_reach ml_X4_116 (kd_lt (kdSr (Or.inl rfl) (by omega)) (by decide)) (ct_1 (kdSr (Or.inl rfl) (by omega))) rfl hl.1 (by decide) (by decide) (Nat.le_of_ble_eq_true rfl) rfl rfl dX4_wall_26 (fun H locs hP hS => ?_)
    refine lv_icmp_le (tgt := 40) hx hb dX4_wall_29 (by decide) (fun c_2 => ?_) (fun c_2 => ?_)
    · exact absurd hbd (by simp [bdW, c_1, c_2])
    · exact th_IOE C0 hst hx0 hP hS hl.1 dX4_wall_32 dX4_wall_35 dX4_wall_36 dX4_wall_39 ⟨by decide, Nat.le_of_ble_eq_true rfl, by decide, by decide⟩ (by decide)

set_option maxHeartbeats 4000000 in
set_option maxRecDepth 100000 in
theorem c_X4_bright (l : Launch) (G : GG) (M : Mem) (o : Nat → Int64) (np nr k : Nat) (hO : OKM M np nr k) (r i : Nat) (hr0 : r < nr) (hi : i < np) : MI l yX4_bright cX4_bright 5 (some .int) 2 42 G [.ref (adr G 0), .int (nI r), .int (nI i)] M M o o (if shM M (4 + 13 + r) (4 + 3 + i) = 0 then -1 else brM M (4 + 13 + r) (4 + 3 + i) (ltF (M 2) (M 3) k)) 0 0 := by
  refine MI_of RX4 rfl (by decide +kernel) (Nat.le_of_ble_eq_true rfl) ?_
  intro p e s m below meth c sz C0 hr hP ls hl
  have hx := C0.1
  have hb := C0.2.1
  have hS : va_S (pA G sz) s.heap s.heap [] := va_S.rf
  have hl : lv_has ls 5 [(0, .ref (adr G 0)), (1, .int (nI r)), (2, .int (nI i))] := hl
  obtain ⟨hnp, hple, hnr, hrle, hk0, hkle⟩ := id hO
  refine lv_aload_n hx hb dX4_bright_0 rfl (lv_at hl 0 rfl) ?_
  refine lv_iload_n hx hb dX4_bright_1 rfl (lv_at hl 1 rfl) ?_
  refine k_VV C0 hP hS (rest := []) (c_X4_needRoom l G M o np nr k hO r (by omega)) mf_X4_needRoom ml_X4_86 (kd_lt (show kd 0 = 4 by decide) (by decide)) (ct_4 (show kd 0 = 4 by decide)) rfl hl.1 (by decide) (by decide) (Nat.le_of_ble_eq_true rfl) rfl rfl dX4_bright_2 (fun H locs hP hS => ?_)
  refine lv_aload_n hx hb dX4_bright_5 rfl (lv_at hl 0 rfl) ?_
  refine lv_iload_n hx hb dX4_bright_6 rfl (lv_at hl 2 rfl) ?_
  refine k_VV C0 hP hS (rest := []) (c_X4_needPasser l G M o np nr k hO i (by omega)) mf_X4_needPasser ml_X4_102 (kd_lt (show kd 0 = 4 by decide) (by decide)) (ct_4 (show kd 0 = 4 by decide)) rfl hl.1 (by decide) (by decide) (Nat.le_of_ble_eq_true rfl) rfl rfl dX4_bright_7 (fun H locs hP hS => ?_)
  refine lv_aload_n hx hb dX4_bright_10 rfl (lv_at hl 0 rfl) ?_
  refine gf_X4_19 C0 hP (k := 0) (show kd 0 = 4 by decide) dX4_bright_11 ?_
  refine gf_X4_76 C0 hP (k := 4) (show kd 4 = 2 by decide) dX4_bright_14 ?_
  refine lv_iload_n hx hb dX4_bright_17 rfl (lv_at hl 1 rfl) ?_
  refine w_aldR C0 hP (k := 4 + 2) (i := r) (kdS2 (Or.inl rfl)) (by omega) dX4_bright_18 ?_
  refine lv_astore_n (lv' := [(3, .ref (adr G (4 + 13 + r))), (0, .ref (adr G 0)), (1, .int (nI r)), (2, .int (nI i))]) hx hb dX4_bright_19 rfl hl (by decide) rfl (fun ls hl => ?_)
  refine lv_aload_n hx hb dX4_bright_20 rfl (lv_at hl 1 rfl) ?_
  refine gf_X4_19 C0 hP (k := 0) (show kd 0 = 4 by decide) dX4_bright_21 ?_
  refine gf_X4_43 C0 hP (k := 4) (show kd 4 = 2 by decide) dX4_bright_24 ?_
  refine lv_iload_n hx hb dX4_bright_27 rfl (lv_at hl 3 rfl) ?_
  refine w_aldP C0 hP (k := 4 + 1) (i := i) (kdS1 (Or.inl rfl)) (by omega) dX4_bright_28 ?_
  refine lv_astore (lv' := [(4, .ref (adr G (4 + 3 + i))), (3, .ref (adr G (4 + 13 + r))), (0, .ref (adr G 0)), (1, .int (nI r)), (2, .int (nI i))]) hx hb dX4_bright_29 hl (by decide) rfl (fun ls hl => ?_)
  refine lv_aload_n hx hb dX4_bright_31 rfl (lv_at hl 1 rfl) ?_
  refine lv_aload hx hb dX4_bright_32 (lv_at hl 0 rfl) ?_
  refine k_VNI C0 hP hS (rest := []) (c_X1_shows l G M o (4 + 13 + r) (4 + 3 + i) (kdSr (Or.inl rfl) (by omega)) (kdSp (Or.inl rfl) (by omega))) mf_X1_shows ml_X4_126 (kd_lt (kdSr (Or.inl rfl) (by omega)) (by decide)) (ct_1 (kdSr (Or.inl rfl) (by omega))) rfl hl.1 (by decide) (by decide) (Nat.le_of_ble_eq_true rfl) rfl rfl dX4_bright_34 (fun H locs hP hS => ?_)
  refine lv_if_eq (tgt := 53) hx hb dX4_bright_37 (by decide) (fun c_1 => ?_) (fun c_1 => ?_)
  · refine lv_iconst (v := -1) hx hb dX4_bright_53 (by decide) ?_
    exact e_Ii C0 hr hP hS (by simp [c_1]) (by decide) dX4_bright_54
  · refine lv_aload_n hx hb dX4_bright_40 rfl (lv_at hl 1 rfl) ?_
    refine lv_aload hx hb dX4_bright_41 (lv_at hl 0 rfl) ?_
    refine lv_aload_n hx hb dX4_bright_43 rfl (lv_at hl 2 rfl) ?_
    refine k_VI C0 hP hS (rest := [.ref (adr G (4 + 3 + i)), .ref (adr G (4 + 13 + r))]) (c_X4_lightNow l G M o np nr k hO) mf_X4_lightNow ml_X4_130 (kd_lt (show kd 0 = 4 by decide) (by decide)) (ct_4 (show kd 0 = 4 by decide)) rfl hl.1 (by decide) (by decide) (Nat.le_of_ble_eq_true rfl) rfl rfl dX4_bright_44 (fun H locs hP hS => ?_)
    refine k_VNI C0 hP hS (rest := []) (c_X1_brightnessOf l G M o (4 + 13 + r) (4 + 3 + i) (ltF (M 2) (M 3) k) (kdSr (Or.inl rfl) (by omega)) (kdSp (Or.inl rfl) (by omega))) mf_X1_brightnessOf ml_X4_133 (kd_lt (kdSr (Or.inl rfl) (by omega)) (by decide)) (ct_1 (kdSr (Or.inl rfl) (by omega))) rfl hl.1 (by decide) (by decide) (Nat.le_of_ble_eq_true rfl) rfl rfl dX4_bright_47 (fun H locs hP hS => ?_)
    refine lv_goto (tgt := 54) hx hb dX4_bright_50 (by decide) ?_
    exact e_Ii C0 hr hP hS (by simp [c_1]) (by decide) dX4_bright_54

set_option maxHeartbeats 4000000 in
set_option maxRecDepth 100000 in
theorem c_X4_bright_i (l : Launch) (G : GG) (M : Mem) (o : Nat → Int64) (hst : l.stackTraces = false) (np nr k : Nat) (hO : OKM M np nr k) (x1 a2 : Int32) (hbd : x1 < 0 ∨ ¬ x1 < nI nr) : MX l yX4_bright cX4_bright 5 (some .int) 8 131 G [.ref (adr G 0), .int x1, .int a2] M M o o "java/lang/IndexOutOfBoundsException" 1 6 := by
  refine MX_of RX4 rfl (by decide +kernel) (Nat.le_of_ble_eq_true rfl) ?_
  intro p e s m below meth c sz C0 hx0 hP ls hl
  have hx := C0.1
  have hb := C0.2.1
  have hS : va_S (pA G sz) s.heap s.heap [] := va_S.rf
  have hl : lv_has ls 5 [(0, .ref (adr G 0)), (1, .int x1), (2, .int a2)] := hl
  obtain ⟨hnp, hple, hnr, hrle, hk0, hkle⟩ := id hO
  refine lv_aload_n hx hb dX4_bright_0 rfl (lv_at hl 0 rfl) ?_
  refine lv_iload_n hx hb dX4_bright_1 rfl (lv_at hl 1 rfl) ?_
  refine k_VX C0 hP hS (rest := []) (c_X4_needRoom_x l G M o hst np nr k hO x1 hbd) mf_X4_needRoom ml_X4_86 (kd_lt (show kd 0 = 4 by decide) (by decide)) (ct_4 (show kd 0 = 4 by decide)) rfl hl.1 (by decide) (by decide) (Nat.le_of_ble_eq_true rfl) rfl rfl dX4_bright_2 (fun ce q9 H locs hP hS hce hcv hcl => ?_)
  exact e_X C0 hx0 hP hS hce hcv hcl (by decide)

set_option maxHeartbeats 4000000 in
set_option maxRecDepth 100000 in
theorem c_X4_bright_j (l : Launch) (G : GG) (M : Mem) (o : Nat → Int64) (hst : l.stackTraces = false) (np nr k : Nat) (hO : OKM M np nr k) (r : Nat) (hr0 : r < nr) (a2 : Int32) (hbd : a2 < 0 ∨ ¬ a2 < nI np) : MX l yX4_bright cX4_bright 5 (some .int) 8 131 G [.ref (adr G 0), .int (nI r), .int a2] M M o o "java/lang/IndexOutOfBoundsException" 1 6 := by
  refine MX_of RX4 rfl (by decide +kernel) (Nat.le_of_ble_eq_true rfl) ?_
  intro p e s m below meth c sz C0 hx0 hP ls hl
  have hx := C0.1
  have hb := C0.2.1
  have hS : va_S (pA G sz) s.heap s.heap [] := va_S.rf
  have hl : lv_has ls 5 [(0, .ref (adr G 0)), (1, .int (nI r)), (2, .int a2)] := hl
  obtain ⟨hnp, hple, hnr, hrle, hk0, hkle⟩ := id hO
  refine lv_aload_n hx hb dX4_bright_0 rfl (lv_at hl 0 rfl) ?_
  refine lv_iload_n hx hb dX4_bright_1 rfl (lv_at hl 1 rfl) ?_
  refine k_VV C0 hP hS (rest := []) (c_X4_needRoom l G M o np nr k hO r (by omega)) mf_X4_needRoom ml_X4_86 (kd_lt (show kd 0 = 4 by decide) (by decide)) (ct_4 (show kd 0 = 4 by decide)) rfl hl.1 (by decide) (by decide) (Nat.le_of_ble_eq_true rfl) rfl rfl dX4_bright_2 (fun H locs hP hS => ?_)
  refine lv_aload_n hx hb dX4_bright_5 rfl (lv_at hl 0 rfl) ?_
  refine lv_iload_n hx hb dX4_bright_6 rfl (lv_at hl 2 rfl) ?_
  refine k_VX C0 hP hS (rest := []) (c_X4_needPasser_x l G M o hst np nr k hO a2 hbd) mf_X4_needPasser ml_X4_102 (kd_lt (show kd 0 = 4 by decide) (by decide)) (ct_4 (show kd 0 = 4 by decide)) rfl hl.1 (by decide) (by decide) (Nat.le_of_ble_eq_true rfl) rfl rfl dX4_bright_7 (fun ce q9 H locs hP hS hce hcv hcl => ?_)
  exact e_X C0 hx0 hP hS hce hcv hcl (by decide)

set_option maxHeartbeats 4000000 in
set_option maxRecDepth 100000 in
theorem c_X4_count (l : Launch) (G : GG) (M : Mem) (o : Nat → Int64) (np nr k : Nat) (hO : OKM M np nr k) (w : Nat) (hw : w < 9) : MI l yX4_count cX4_count 2 (some .int) 6 132 G [.ref (adr G 0), .int (nI w)] M M o o (hfF M np nr k w) 0 0 := by
  refine MI_of RX4 rfl (by decide +kernel) (Nat.le_of_ble_eq_true rfl) ?_
  intro p e s m below meth c sz C0 hr hP ls hl
  have hx := C0.1
  have hb := C0.2.1
  have hS : va_S (pA G sz) s.heap s.heap [] := va_S.rf
  have hl : lv_has ls 2 [(0, .ref (adr G 0)), (1, .int (nI w))] := hl
  obtain ⟨hnp, hple, hnr, hrle, hk0, hkle⟩ := id hO
  refine lv_iload_n hx hb dX4_count_0 rfl (lv_at hl 1 rfl) ?_
  refine lv_bipush (v := 9) hx hb dX4_count_1 (by decide) ?_
  refine k_SV C0 hP hS (rest := []) (c_X4_needBelow l G M o w 9 (by omega) (by omega)) mf_X4_needBelow rfl ml_X4_105 hl.1 (by decide) (by decide) (Nat.le_of_ble_eq_true rfl) rfl rfl dX4_count_3 (fun H locs hP hS => ?_)
  refine lv_aload_n hx hb dX4_count_6 rfl (lv_at hl 0 rfl) ?_
  refine lv_iload_n hx hb dX4_count_7 rfl (lv_at hl 1 rfl) ?_
  refine k_VI C0 hP hS (rest := []) (c_X4_houseFact l G M o np nr k hO w (by omega)) mf_X4_houseFact ml_X4_137 (kd_lt (show kd 0 = 4 by decide) (by decide)) (ct_4 (show kd 0 = 4 by decide)) rfl hl.1 (by decide) (by decide) (Nat.le_of_ble_eq_true rfl) rfl rfl dX4_count_8 (fun H locs hP hS => ?_)
  exact e_Ii C0 hr hP hS rfl (by decide) dX4_count_11

set_option maxHeartbeats 4000000 in
set_option maxRecDepth 100000 in
theorem c_X4_count_i (l : Launch) (G : GG) (M : Mem) (o : Nat → Int64) (hst : l.stackTraces = false) (np nr k : Nat) (hO : OKM M np nr k) (x1 : Int32) (hbd : x1 < 0 ∨ ¬ x1 < 9) : MX l yX4_count cX4_count 2 (some .int) 7 110 G [.ref (adr G 0), .int x1] M M o o "java/lang/IndexOutOfBoundsException" 1 6 := by
  refine MX_of RX4 rfl (by decide +kernel) (Nat.le_of_ble_eq_true rfl) ?_
  intro p e s m below meth c sz C0 hx0 hP ls hl
  have hx := C0.1
  have hb := C0.2.1
  have hS : va_S (pA G sz) s.heap s.heap [] := va_S.rf
  have hl : lv_has ls 2 [(0, .ref (adr G 0)), (1, .int x1)] := hl
  obtain ⟨hnp, hple, hnr, hrle, hk0, hkle⟩ := id hO
  refine lv_iload_n hx hb dX4_count_0 rfl (lv_at hl 1 rfl) ?_
  refine lv_bipush (v := 9) hx hb dX4_count_1 (by decide) ?_
  refine k_SX C0 hP hS (rest := []) (c_X4_needBelow_x l G M o hst x1 9 hbd) mf_X4_needBelow rfl ml_X4_105 hl.1 (by decide) (by decide) (Nat.le_of_ble_eq_true rfl) rfl rfl dX4_count_3 (fun ce q9 H locs hP hS hce hcv hcl => ?_)
  exact e_X C0 hx0 hP hS hce hcv hcl (by decide)

set_option maxHeartbeats 4000000 in
set_option maxRecDepth 100000 in
theorem c_X4_mean (l : Launch) (G : GG) (M : Mem) (o : Nat → Int64) (np nr k : Nat) (hO : OKM M np nr k)  : MD l yX4_mean cX4_mean 1 (some .double) 1 22 G [.ref (adr G 0)] M M o o (if k = 0 then FP.dconst0 else FP.ddiv (FP.i2d (pnM M 4 nr)) (FP.i2d (M 4 0))) 0 0 := by
  refine MD_of RX4 rfl (by decide +kernel) (Nat.le_of_ble_eq_true rfl) ?_
  intro p e s m below meth c sz C0 hr hP ls hl
  have hx := C0.1
  have hb := C0.2.1
  have hS : va_S (pA G sz) s.heap s.heap [] := va_S.rf
  have hl : lv_has ls 1 [(0, .ref (adr G 0))] := hl
  obtain ⟨hnp, hple, hnr, hrle, hk0, hkle⟩ := id hO
  refine lv_aload_n hx hb dX4_mean_0 rfl (lv_at hl 0 rfl) ?_
  refine gf_X4_19 C0 hP (k := 0) (show kd 0 = 4 by decide) dX4_mean_1 ?_
  refine gf_X4_151 C0 hP (k := 4) (show kd 4 = 2 by decide) dX4_mean_4 ?_
  refine lv_if_ne (tgt := 12) hx hb dX4_mean_7 (by decide) (fun c_1 => ?_) (fun c_1 => ?_)
  · have hk3 : k ≠ 0 := fun z => c_1 (by rw [hk0, z]; rfl)
    refine lv_aload_n hx hb dX4_mean_12 rfl (lv_at hl 0 rfl) ?_
    refine gf_X4_19 C0 hP (k := 0) (show kd 0 = 4 by decide) dX4_mean_13 ?_
    refine k_VNI C0 hP hS (rest := []) (c_X2_allPence l G M o 4 nr (Or.inl rfl) hnr hrle) mf_X2_allPence ml_X4_184 (kd_lt (show kd 4 = 2 by decide) (by decide)) (ct_2 (show kd 4 = 2 by decide)) rfl hl.1 (by decide) (by decide) (Nat.le_of_ble_eq_true rfl) rfl rfl dX4_mean_16 (fun H locs hP hS => ?_)
    refine lv_i2d hx hb dX4_mean_19 ?_
    refine lv_aload_n hx hb dX4_mean_20 rfl (lv_at hl 0 rfl) ?_
    refine gf_X4_19 C0 hP (k := 0) (show kd 0 = 4 by decide) dX4_mean_21 ?_
    refine gf_X4_151 C0 hP (k := 4) (show kd 4 = 2 by decide) dX4_mean_24 ?_
    refine lv_i2d hx hb dX4_mean_27 ?_
    refine lv_ddiv hx hb dX4_mean_28 (dv_num c_1) ?_
    exact e_D C0 hr hP hS (by simp [hk3]) (by decide) dX4_mean_29
  · have hk3 : k = 0 := by
      rw [hk0] at c_1
      exact (nI_eq (b := 0) (by omega) (by omega)).mp c_1
    refine lv_dconst0 hx hb dX4_mean_10 ?_
    exact e_D C0 hr hP hS (by simp [hk3]) (by decide) dX4_mean_11
end CLC
