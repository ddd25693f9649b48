section MO2
def OKT (M : Mem) (np nr k : Nat) : Prop := M 46 1 = nI np ∧ np ≤ 10 ∧ M 46 2 = nI nr ∧ nr ≤ 8 ∧ M 56 0 = nI k ∧ k ≤ 720 ∧ ∀ r, r < nr → 10 * M 53 r * M 53 r ≠ 0
theorem okz {M : Mem} {np nr k : Nat} {v : Int32} (h : OKT M np nr k) : OKT (u2 M 46 0 v) np nr k := by
  obtain ⟨h1, h2, h3, h4, h5, h6, h7⟩ := h
  refine ⟨?_, h2, ?_, h4, ?_, h6, fun r hr => ?_⟩
  · rw [u2_sl (by decide)]; exact h1
  · rw [u2_sl (by decide)]; exact h3
  · rw [u2_ne (by decide)]; exact h5
  · rw [u2_ne (by decide)]; exact h7 r hr
theorem inF_0 {x a b : Int32} : inF x a b = 0 ↔ x < a ∨ b < x := by
  unfold inF
  by_cases h : x < a
  · simp [h]
  · by_cases h2 : b < x
    · simp [h, h2]
    · simp [h, h2]
theorem inF01 (x a b : Int32) : inF x a b = 0 ∨ inF x a b = 1 := by
  unfold inF
  split
  · exact Or.inl rfl
  · split
    · exact Or.inl rfl
    · exact Or.inr rfl
theorem inF_N {a w b : Nat} (h1 : a ≤ w) (h2 : w ≤ b) (h3 : b < 2000) : inF (nI w) (nI a) (nI b) = 1 := by
  unfold inF
  rw [if_neg (nI_nlt h1 (by omega)), if_neg (nI_nlt h2 (by omega))]
theorem nI_m1 : ∀ n, n < 11 → (nI n - 1).toInt = (n : Int) - 1 := by decide +kernel
theorem inF_b {x : Int32} {n : Nat} (hn : n < 11) : inF x 0 (nI n - 1) = 0 ↔ x < 0 ∨ ¬ x < nI n := by
  rw [inF_0, Int32.lt_iff_toInt_lt (y := x), nI_m1 n hn, Int32.lt_iff_toInt_lt (x := x) (y := nI n), nI_toInt (by omega)]
  have : ((n : Int) - 1 < x.toInt) ↔ ¬ x.toInt < (n : Int) := by omega
  rw [this]
theorem inF_R {y : Int32} {n w : Nat} (hy : y = nI n) (hn : n < 11) (hw : w < n) : inF (nI w) 0 (y - 1) = 1 := by
  subst hy
  rcases inF01 (nI w) 0 (nI n - 1) with h | h
  · rcases (inF_b hn).mp h with z | z
    · exact absurd z (nI_pos (by omega))
    · exact absurd (nI_lt hw (by omega)) z
  · exact h
theorem inF_X {x y : Int32} {n : Nat} (hy : y = nI n) (hn : n < 11) (hbd : x < 0 ∨ ¬ x < nI n) : inF x 0 (y - 1) = 0 := by
  subst hy
  exact (inF_b hn).mpr hbd
theorem inF_W {x a b : Int32} (hbd : x < a ∨ ¬ x ≤ b) : inF x a b = 0 := inF_0.mpr (hbd.imp id (fun z => Int32.not_le.mp z))
theorem inF_Y {x a b c : Int32} (hc : b = c - 1) (hbd : x < a ∨ ¬ x < c) : inF x a b = 0 := by
  sorry
theorem otn_in {v : Int32} : otn v = inF v 1 9 := rfl
theorem ztn_in {v : Int32} : ztn v = inF v 0 9 := rfl
theorem bdL_in {a2 a3 : Int32} : bdL a2 a3 ↔ inF a2 0 100 = 0 ∨ inF a3 0 9 = 0 := by
  unfold bdL
  rw [inF_0, ztn_in, or_assoc]
theorem bdS_in {a2 : Int32} : bdS a2 ↔ inF a2 1 20 = 0 := by
  unfold bdS
  rw [inF_0, Int32.not_le]
theorem bdW_in {a2 dp : Int32} : bdW a2 dp ↔ inF a2 (-4 * dp) (4 * dp) = 0 := by
  unfold bdW
  rw [inF_0, Int32.not_le, Int32.neg_mul]
theorem bdP_in {a1 a2 a3 a4 : Int32} : bdP a1 a2 a3 a4 ↔ inF a1 0 59 = 0 ∨ inF a2 (-3) 3 = 0 ∨ inF a3 1 9 = 0 ∨ inF a4 1 9 = 0 := by
  unfold bdP
  rw [stp_in, otn_in, otn_in, inF_0 (x := a2), or_assoc]
theorem bdR_in {a1 a2 a3 : Int32} : bdR a1 a2 a3 ↔ inF a1 0 59 = 0 ∨ inF a2 1 9 = 0 ∨ inF a3 0 20 = 0 := by
  unfold bdR
  rw [stp_in, otn_in, inF_0 (x := a3), Int32.not_le]
theorem nI_p1 (n : Nat) : nI (n + 1) - 1 = nI n := by
  rw [← nI_1, Int32.add_sub_cancel]
def ptF (M : Mem) (nr k i : Nat) : Nat → Int32
  | 0 => M 57 i
  | 1 => M 49 i
  | 2 => M 50 i
  | 3 => M 51 i
  | _ => cntF (fun r => wlT M 56 (ltF (M 47) (M 48) k) r i) nr
def rtF (M : Mem) (np k r : Nat) : Nat → Int32
  | 0 => M 52 r
  | 1 => M 53 r
  | 2 => M 58 r
  | 3 => M 54 r
  | 4 => M 55 r
  | 5 => M 59 r
  | 6 => swT M 56 (ltF (M 47) (M 48) k) r np
  | _ => M 60 r
def atT (x p v : Int32) : Int32 := if gn x = 0 then (if p - x = v then 1 else 0) else 0
def frF (P : Nat → Int32) (v : Int32) (b : Int32) : Nat → Int32
  | 0 => b
  | n + 1 => frF P v b n &&& (if P n = v then 0 else 1)
theorem frF_no {P : Nat → Int32} {v b : Int32} (h : b = 0) : ∀ {n : Nat}, frF P v b n = 0
  | 0 => h
  | n + 1 => by
    unfold frF
    rw [frF_no h]
    exact Int32.zero_and
theorem bcM_lo {M : Mem} {a b : Nat} (h : a < 61 ∨ 65 < a) : bcM M a b = M a b := by
  unfold bcM
  rw [if_neg (by omega), if_neg (by omega), if_neg (by omega)]
theorem bcM_h {M : Mem} : bcM M 61 0 = M 56 0 := by
  unfold bcM
  rw [if_pos ⟨rfl, rfl⟩]
theorem bcM_t {M : Mem} {k : Nat} (h : M 56 0 = nI k) : bcM M 61 0 = nI k := bcM_h.trans h
theorem bcM_row {M : Mem} {a : Nat} (h : a < 61 ∨ 65 < a) : bcM M a = M a := by
  funext b
  exact bcM_lo h
def fsT (M : Mem) (np nr k d : Nat) : Nat → Int32
  | 0 => sumF (gT (bcM M) 61 np nr k (tk k d) 65) nr - sumF (gT (bcM M) 61 np nr k (tk k d) 60) nr
  | 1 => sumF (gT (bcM M) 61 np nr k (tk k d) 64) nr
  | _ => nI np - cntF (fun i => gn (gT (bcM M) 61 np nr k (tk k d) 62 i)) np
def wtP (M : Mem) (np nr k r : Nat) : Nat → Int32 := fun j => swT (gT (bcM M) 61 np nr k j) 61 (ltF (bcM M 47) (bcM M 48) (k + j)) r np
theorem g1_s {M : Mem} {t np nr k j : Nat} (h : k + j < 720) : g1 (gT M t np nr k j) t np nr (k + j) = gT M t np nr k (j + 1) := by
  unfold g1
  rw [if_pos h]
  rfl
def aeM (M : Mem) (np nr k r n : Nat) : Nat → Mem
  | 0 => M
  | j + 1 => gT (u2 (bcM (aeM M np nr k r n j)) 63 r (nI (j + 1))) 61 np nr k n
def aeP (M : Mem) (np nr k r n : Nat) : Nat → Int32 := fun j => aeM M np nr k r n (j + 1) 65 r
theorem aeM_lo {M : Mem} {np nr k r n a : Nat} (h : a < 61) : ∀ {j : Nat}, aeM M np nr k r n j a = M a
  | 0 => rfl
  | j + 1 => by
    unfold aeM
    rw [gT_lo (by omega), u2_ne (by omega), bcM_row (by omega), aeM_lo h]
def orF (P : Nat → Int32) (x : Int32) : Nat → Int32
  | 0 => x
  | n + 1 => orF P x n ||| P n
set_option maxHeartbeats 4000000 in
set_option maxRecDepth 100000 in
theorem c_X6_no (l : Launch) (G : GG) (M : Mem) (o : Nat → Int64) (x1 : Int32) : MI l yX6_no cX6_no 2 (some .int) 0 0 G [.ref (adr G 46), .int x1] M (u2 M 46 0 x1) o o 0 0 0 := by
  refine MI_of RX6 rfl (by decide +kernel) (Nat.le_of_ble_eq_true rfl) ?_
  intro p e s m below meth c sz C0 hr hP ls hl
  have hx := C0.1
  have hb := C0.2.1
  have hS : va_S (pA G sz) s.heap s.heap [] := va_S.rf
  have hl : lv_has ls 2 [(0, .ref (adr G 46)), (1, .int x1)] := hl
  refine lv_aload_n hx hb dX6_no_0 rfl (lv_at hl 0 rfl) ?_
  refine lv_iload_n hx hb dX6_no_1 rfl (lv_at hl 1 rfl) ?_
  refine pf_X6_49 C0 hP hS (k := 46) (show kd 46 = 6 by decide) dX6_no_2 (fun H locs hP hS => ?_)
  refine lv_iconst (v := 0) hx hb dX6_no_5 (by decide) ?_
  exact e_Ii C0 hr hP hS rfl (by decide) dX6_no_6

set_option maxHeartbeats 4000000 in
set_option maxRecDepth 100000 in
theorem c_X6_isPasser (l : Launch) (G : GG) (M : Mem) (o : Nat → Int64) (x1 : Int32) : MI l yX6_isPasser cX6_isPasser 2 (some .boolean) 1 22 G [.ref (adr G 46), .int x1] M M o o (inF x1 0 (M 46 1 - 1)) 0 0 := by
  refine MI_of RX6 rfl (by decide +kernel) (Nat.le_of_ble_eq_true rfl) ?_
  intro p e s m below meth c sz C0 hr hP ls hl
  have hx := C0.1
  have hb := C0.2.1
  have hS : va_S (pA G sz) s.heap s.heap [] := va_S.rf
  have hl : lv_has ls 2 [(0, .ref (adr G 46)), (1, .int x1)] := hl
  refine lv_iload_n hx hb dX6_isPasser_0 rfl (lv_at hl 1 rfl) ?_
  refine lv_iconst (v := 0) hx hb dX6_isPasser_1 (by decide) ?_
  refine lv_aload_n hx hb dX6_isPasser_2 rfl (lv_at hl 0 rfl) ?_
  refine gf_X6_60 C0 hP (k := 46) (show kd 46 = 6 by decide) dX6_isPasser_3 ?_
  refine lv_iconst (v := 1) hx hb dX6_isPasser_6 (by decide) ?_
  refine lv_isub hx hb dX6_isPasser_7 ?_
  refine k_SI C0 hP hS (rest := []) (c_X6_isIn l G M o x1 0 ((M 46 1) - 1)) mf_X6_isIn rfl ml_X6_56 hl.1 (by decide) (by decide) (Nat.le_of_ble_eq_true rfl) rfl rfl dX6_isPasser_8 (fun H locs hP hS => ?_)
  exact e_I (ty := .boolean) C0 hr (bz_narrow (inF01 _ _ _)) hP hS rfl (by decide) dX6_isPasser_11

set_option maxHeartbeats 4000000 in
set_option maxRecDepth 100000 in
theorem c_X6_isRoom (l : Launch) (G : GG) (M : Mem) (o : Nat → Int64) (x1 : Int32) : MI l yX6_isRoom cX6_isRoom 2 (some .boolean) 1 22 G [.ref (adr G 46), .int x1] M M o o (inF x1 0 (M 46 2 - 1)) 0 0 := by
  refine MI_of RX6 rfl (by decide +kernel) (Nat.le_of_ble_eq_true rfl) ?_
  intro p e s m below meth c sz C0 hr hP ls hl
  have hx := C0.1
  have hb := C0.2.1
  have hS : va_S (pA G sz) s.heap s.heap [] := va_S.rf
  have hl : lv_has ls 2 [(0, .ref (adr G 46)), (1, .int x1)] := hl
  refine lv_iload_n hx hb dX6_isRoom_0 rfl (lv_at hl 1 rfl) ?_
  refine lv_iconst (v := 0) hx hb dX6_isRoom_1 (by decide) ?_
  refine lv_aload_n hx hb dX6_isRoom_2 rfl (lv_at hl 0 rfl) ?_
  refine gf_X6_53 C0 hP (k := 46) (show kd 46 = 6 by decide) dX6_isRoom_3 ?_
  refine lv_iconst (v := 1) hx hb dX6_isRoom_6 (by decide) ?_
  refine lv_isub hx hb dX6_isRoom_7 ?_
  refine k_SI C0 hP hS (rest := []) (c_X6_isIn l G M o x1 0 ((M 46 2) - 1)) mf_X6_isIn rfl ml_X6_56 hl.1 (by decide) (by decide) (Nat.le_of_ble_eq_true rfl) rfl rfl dX6_isRoom_8 (fun H locs hP hS => ?_)
  exact e_I (ty := .boolean) C0 hr (bz_narrow (inF01 _ _ _)) hP hS rfl (by decide) dX6_isRoom_11

set_option maxHeartbeats 4000000 in
set_option maxRecDepth 100000 in
theorem c_X6_seat (l : Launch) (G : GG) (M : Mem) (o : Nat → Int64) (np nr k : Nat) (hO : OKT M np nr k) (r : Nat) (hr0 : r < nr) (a2 : Int32) (hbd : ¬ bdS a2) (hfree : (u2 M 46 0 0) 59 r + a2 ≤ (u2 M 46 0 0) 55 r) : MI l yX6_seat cX6_seat 3 (some .int) 2 43 G [.ref (adr G 46), .int (nI r), .int a2] M (u2 (u2 M 46 0 0) 59 r ((u2 M 46 0 0) 59 r + a2)) o o ((u2 M 46 0 0) 59 r + a2) 0 0 := by
  refine MI_of RX6 rfl (by decide +kernel) (Nat.le_of_ble_eq_true rfl) ?_
  intro p e s m below meth c sz C0 hr hP ls hl
  have hx := C0.1
  have hb := C0.2.1
  have hS : va_S (pA G sz) s.heap s.heap [] := va_S.rf
  have hl : lv_has ls 3 [(0, .ref (adr G 46)), (1, .int (nI r)), (2, .int a2)] := hl
  obtain ⟨hnp, hple, hnr, hrle, hk0, hkle, hdz⟩ := okz (v := 0) hO
  refine lv_aload_n hx hb dX6_seat_0 rfl (lv_at hl 0 rfl) ?_
  refine lv_iconst (v := 0) hx hb dX6_seat_1 (by decide) ?_
  refine pf_X6_49 C0 hP hS (k := 46) (show kd 46 = 6 by decide) dX6_seat_2 (fun H locs hP hS => ?_)
  refine lv_aload_n hx hb dX6_seat_5 rfl (lv_at hl 0 rfl) ?_
  refine lv_iload_n hx hb dX6_seat_6 rfl (lv_at hl 1 rfl) ?_
  refine k_VI C0 hP hS (rest := []) (c_X6_isRoom l G (u2 M 46 0 0) o (nI r)) mf_X6_isRoom ml_X6_73 (kd_lt (show kd 46 = 6 by decide) (by decide)) (ct_6 (show kd 46 = 6 by decide)) rfl hl.1 (by decide) (by decide) (Nat.le_of_ble_eq_true rfl) rfl rfl dX6_seat_7 (fun H locs hP hS => ?_)
  refine lv_topE (y := 1) (inF_R hnr (by omega) (by omega)) ?_
  refine lv_if_ne (tgt := 19) hx hb dX6_seat_10 (by decide) (fun c_1 => ?_) (fun c_1 => ?_)
  · refine lv_iload_n hx hb dX6_seat_19 rfl (lv_at hl 2 rfl) ?_
    refine lv_iconst (v := 1) hx hb dX6_seat_20 (by decide) ?_
    refine lv_bipush (v := 20) hx hb dX6_seat_21 (by decide) ?_
    refine k_SI C0 hP hS (rest := []) (c_X6_isIn l G (u2 M 46 0 0) o a2 1 20) mf_X6_isIn rfl ml_X6_56 hl.1 (by decide) (by decide) (Nat.le_of_ble_eq_true rfl) rfl rfl dX6_seat_23 (fun H locs hP hS => ?_)
    refine lv_if_ne (tgt := 35) hx hb dX6_seat_26 (by decide) (fun c_2 => ?_) (fun c_2 => ?_)
    · refine lv_aload_n hx hb dX6_seat_35 rfl (lv_at hl 0 rfl) ?_
      refine gf_X6_42 C0 hP (k := 46) (show kd 46 = 6 by decide) dX6_seat_36 ?_
      refine gf_X6_77 C0 hP (k := 56) (show kd 56 = 5 by decide) dX6_seat_39 ?_
      refine lv_iload_n hx hb dX6_seat_42 rfl (lv_at hl 1 rfl) ?_
      refine w_ialdN C0 hP (k := 56 + 3) (i := r) (kdT3 (Or.inl rfl)) (by rw [lnT3 (Or.inl rfl)]; omega) (by omega) dX6_seat_43 ?_
      refine lv_iload_n hx hb dX6_seat_44 rfl (lv_at hl 2 rfl) ?_
      refine lv_iadd hx hb dX6_seat_45 ?_
      refine lv_aload_n hx hb dX6_seat_46 rfl (lv_at hl 0 rfl) ?_
      refine gf_X6_34 C0 hP (k := 46) (show kd 46 = 6 by decide) dX6_seat_47 ?_
      refine lv_iload_n hx hb dX6_seat_50 rfl (lv_at hl 1 rfl) ?_
      refine w_ialdN C0 hP (k := 55) (i := r) (show kd 55 = 7 by decide) (show r < 8 by omega) (by omega) dX6_seat_51 ?_
      refine lv_icmp_le (tgt := 61) hx hb dX6_seat_52 (by decide) (fun c_3 => ?_) (fun c_3 => ?_)
      · refine lv_aload_n hx hb dX6_seat_61 rfl (lv_at hl 0 rfl) ?_
        refine gf_X6_42 C0 hP (k := 46) (show kd 46 = 6 by decide) dX6_seat_62 ?_
        refine gf_X6_77 C0 hP (k := 56) (show kd 56 = 5 by decide) dX6_seat_65 ?_
        refine lv_iload_n hx hb dX6_seat_68 rfl (lv_at hl 1 rfl) ?_
        refine lv_dup2_11 hx hb dX6_seat_69 rfl rfl ?_
        refine w_ialdN C0 hP (k := 56 + 3) (i := r) (kdT3 (Or.inl rfl)) (by rw [lnT3 (Or.inl rfl)]; omega) (by omega) dX6_seat_70 ?_
        refine lv_iload_n hx hb dX6_seat_71 rfl (lv_at hl 2 rfl) ?_
        refine lv_iadd hx hb dX6_seat_72 ?_
        refine w_iastN C0 hP hS (k := 56 + 3) (i := r) (kdT3 (Or.inl rfl)) (by rw [lnT3 (Or.inl rfl)]; omega) (by omega) dX6_seat_73 (fun H locs hP hS => ?_)
        refine lv_aload_n hx hb dX6_seat_74 rfl (lv_at hl 0 rfl) ?_
        refine gf_X6_42 C0 hP (k := 46) (show kd 46 = 6 by decide) dX6_seat_75 ?_
        refine gf_X6_77 C0 hP (k := 56) (show kd 56 = 5 by decide) dX6_seat_78 ?_
        refine lv_iload_n hx hb dX6_seat_81 rfl (lv_at hl 1 rfl) ?_
        refine w_ialdN C0 hP (k := 56 + 3) (i := r) (kdT3 (Or.inl rfl)) (by rw [lnT3 (Or.inl rfl)]; omega) (by omega) dX6_seat_82 ?_
        exact e_Ii C0 hr hP hS u2_at (by decide) dX6_seat_83
      · exact absurd hfree c_3
    · exact (hbd (bdS_in.mpr c_2)).elim
  · exact absurd c_1 (by decide)

set_option maxHeartbeats 4000000 in
set_option maxRecDepth 100000 in
theorem c_X6_seat_i (l : Launch) (G : GG) (M : Mem) (o : Nat → Int64) (np nr k : Nat) (hO : OKT M np nr k) (x1 a2 : Int32) (hbd : x1 < 0 ∨ ¬ x1 < nI nr) : MI l yX6_seat cX6_seat 3 (some .int) 2 43 G [.ref (adr G 46), .int x1, .int a2] M (u2 (u2 M 46 0 0) 46 0 1) o o 0 0 0 := by
  refine MI_of RX6 rfl (by decide +kernel) (Nat.le_of_ble_eq_true rfl) ?_
  intro p e s m below meth c sz C0 hr hP ls hl
  have hx := C0.1
  have hb := C0.2.1
  have hS : va_S (pA G sz) s.heap s.heap [] := va_S.rf
  have hl : lv_has ls 3 [(0, .ref (adr G 46)), (1, .int x1), (2, .int a2)] := hl
  obtain ⟨hnp, hple, hnr, hrle, hk0, hkle, hdz⟩ := okz (v := 0) hO
  refine lv_aload_n hx hb dX6_seat_0 rfl (lv_at hl 0 rfl) ?_
  refine lv_iconst (v := 0) hx hb dX6_seat_1 (by decide) ?_
  refine pf_X6_49 C0 hP hS (k := 46) (show kd 46 = 6 by decide) dX6_seat_2 (fun H locs hP hS => ?_)
  refine lv_aload_n hx hb dX6_seat_5 rfl (lv_at hl 0 rfl) ?_
  refine lv_iload_n hx hb dX6_seat_6 rfl (lv_at hl 1 rfl) ?_
  refine k_VI C0 hP hS (rest := []) (c_X6_isRoom l G (u2 M 46 0 0) o x1) mf_X6_isRoom ml_X6_73 (kd_lt (show kd 46 = 6 by decide) (by decide)) (ct_6 (show kd 46 = 6 by decide)) rfl hl.1 (by decide) (by decide) (Nat.le_of_ble_eq_true rfl) rfl rfl dX6_seat_7 (fun H locs hP hS => ?_)
  refine lv_topE (y := 0) (inF_X hnr (by omega) hbd) ?_
  refine lv_if_ne (tgt := 19) hx hb dX6_seat_10 (by decide) (fun c_1 => ?_) (fun c_1 => ?_)
  · exact absurd c_1 (by decide)
  · refine lv_aload_n hx hb dX6_seat_13 rfl (lv_at hl 0 rfl) ?_
    refine lv_iconst (v := 1) hx hb dX6_seat_14 (by decide) ?_
    refine k_VI C0 hP hS (rest := []) (c_X6_no l G (u2 M 46 0 0) o 1) mf_X6_no ml_X6_63 (kd_lt (show kd 46 = 6 by decide) (by decide)) (ct_6 (show kd 46 = 6 by decide)) rfl hl.1 (by decide) (by decide) (Nat.le_of_ble_eq_true rfl) rfl rfl dX6_seat_15 (fun H locs hP hS => ?_)
    exact e_Ii C0 hr hP hS rfl (by decide) dX6_seat_18

set_option maxHeartbeats 4000000 in
set_option maxRecDepth 100000 in
theorem c_X6_seat_a (l : Launch) (G : GG) (M : Mem) (o : Nat → Int64) (np nr k : Nat) (hO : OKT M np nr k) (r : Nat) (hr0 : r < nr) (a2 : Int32) (hbd : bdS a2) : MI l yX6_seat cX6_seat 3 (some .int) 2 43 G [.ref (adr G 46), .int (nI r), .int a2] M (u2 (u2 M 46 0 0) 46 0 2) o o 0 0 0 := by
  refine MI_of RX6 rfl (by decide +kernel) (Nat.le_of_ble_eq_true rfl) ?_
  intro p e s m below meth c sz C0 hr hP ls hl
  have hx := C0.1
  have hb := C0.2.1
  have hS : va_S (pA G sz) s.heap s.heap [] := va_S.rf
  have hl : lv_has ls 3 [(0, .ref (adr G 46)), (1, .int (nI r)), (2, .int a2)] := hl
  obtain ⟨hnp, hple, hnr, hrle, hk0, hkle, hdz⟩ := okz (v := 0) hO
  refine lv_aload_n hx hb dX6_seat_0 rfl (lv_at hl 0 rfl) ?_
  refine lv_iconst (v := 0) hx hb dX6_seat_1 (by decide) ?_
  refine pf_X6_49 C0 hP hS (k := 46) (show kd 46 = 6 by decide) dX6_seat_2 (fun H locs hP hS => ?_)
  refine lv_aload_n hx hb dX6_seat_5 rfl (lv_at hl 0 rfl) ?_
  refine lv_iload_n hx hb dX6_seat_6 rfl (lv_at hl 1 rfl) ?_
  refine k_VI C0 hP hS (rest := []) (c_X6_isRoom l G (u2 M 46 0 0) o (nI r)) mf_X6_isRoom ml_X6_73 (kd_lt (show kd 46 = 6 by decide) (by decide)) (ct_6 (show kd 46 = 6 by decide)) rfl hl.1 (by decide) (by decide) (Nat.le_of_ble_eq_true rfl) rfl rfl dX6_seat_7 (fun H locs hP hS => ?_)
  refine lv_topE (y := 1) (inF_R hnr (by omega) (by omega)) ?_
  refine lv_if_ne (tgt := 19) hx hb dX6_seat_10 (by decide) (fun c_1 => ?_) (fun c_1 => ?_)
  · refine lv_iload_n hx hb dX6_seat_19 rfl (lv_at hl 2 rfl) ?_
    refine lv_iconst (v := 1) hx hb dX6_seat_20 (by decide) ?_
    refine lv_bipush (v := 20) hx hb dX6_seat_21 (by decide) ?_
    refine k_SI C0 hP hS (rest := []) (c_X6_isIn l G (u2 M 46 0 0) o a2 1 20) mf_X6_isIn rfl ml_X6_56 hl.1 (by decide) (by decide) (Nat.le_of_ble_eq_true rfl) rfl rfl dX6_seat_23 (fun H locs hP hS => ?_)
    refine lv_if_ne (tgt := 35) hx hb dX6_seat_26 (by decide) (fun c_2 => ?_) (fun c_2 => ?_)
    · exact absurd (bdS_in.mp hbd) c_2
    · refine lv_aload_n hx hb dX6_seat_29 rfl (lv_at hl 0 rfl) ?_
      refine lv_iconst (v := 2) hx hb dX6_seat_30 (by decide) ?_
      refine k_VI C0 hP hS (rest := []) (c_X6_no l G (u2 M 46 0 0) o 2) mf_X6_no ml_X6_63 (kd_lt (show kd 46 = 6 by decide) (by decide)) (ct_6 (show kd 46 = 6 by decide)) rfl hl.1 (by decide) (by decide) (Nat.le_of_ble_eq_true rfl) rfl rfl dX6_seat_31 (fun H locs hP hS => ?_)
      exact e_Ii C0 hr hP hS rfl (by decide) dX6_seat_34
  · exact absurd c_1 (by decide)

set_option maxHeartbeats 4000000 in
set_option maxRecDepth 100000 in
theorem c_X6_seat_s (l : Launch) (G : GG) (M : Mem) (o : Nat → Int64) (np nr k : Nat) (hO : OKT M np nr k) (r : Nat) (hr0 : r < nr) (a2 : Int32) (hbd : ¬ bdS a2) (hfree : ¬ (u2 M 46 0 0) 59 r + a2 ≤ (u2 M 46 0 0) 55 r) : MI l yX6_seat cX6_seat 3 (some .int) 2 43 G [.ref (adr G 46), .int (nI r), .int a2] M (u2 (u2 M 46 0 0) 46 0 3) o o 0 0 0 := by
  refine MI_of RX6 rfl (by decide +kernel) (Nat.le_of_ble_eq_true rfl) ?_
  intro p e s m below meth c sz C0 hr hP ls hl
  have hx := C0.1
  have hb := C0.2.1
  have hS : va_S (pA G sz) s.heap s.heap [] := va_S.rf
  have hl : lv_has ls 3 [(0, .ref (adr G 46)), (1, .int (nI r)), (2, .int a2)] := hl
  obtain ⟨hnp, hple, hnr, hrle, hk0, hkle, hdz⟩ := okz (v := 0) hO
  refine lv_aload_n hx hb dX6_seat_0 rfl (lv_at hl 0 rfl) ?_
  refine lv_iconst (v := 0) hx hb dX6_seat_1 (by decide) ?_
  refine pf_X6_49 C0 hP hS (k := 46) (show kd 46 = 6 by decide) dX6_seat_2 (fun H locs hP hS => ?_)
  refine lv_aload_n hx hb dX6_seat_5 rfl (lv_at hl 0 rfl) ?_
  refine lv_iload_n hx hb dX6_seat_6 rfl (lv_at hl 1 rfl) ?_
  refine k_VI C0 hP hS (rest := []) (c_X6_isRoom l G (u2 M 46 0 0) o (nI r)) mf_X6_isRoom ml_X6_73 (kd_lt (show kd 46 = 6 by decide) (by decide)) (ct_6 (show kd 46 = 6 by decide)) rfl hl.1 (by decide) (by decide) (Nat.le_of_ble_eq_true rfl) rfl rfl dX6_seat_7 (fun H locs hP hS => ?_)
  refine lv_topE (y := 1) (inF_R hnr (by omega) (by omega)) ?_
  refine lv_if_ne (tgt := 19) hx hb dX6_seat_10 (by decide) (fun c_1 => ?_) (fun c_1 => ?_)
  · refine lv_iload_n hx hb dX6_seat_19 rfl (lv_at hl 2 rfl) ?_
    refine lv_iconst (v := 1) hx hb dX6_seat_20 (by decide) ?_
    refine lv_bipush (v := 20) hx hb dX6_seat_21 (by decide) ?_
    refine k_SI C0 hP hS (rest := []) (c_X6_isIn l G (u2 M 46 0 0) o a2 1 20) mf_X6_isIn rfl ml_X6_56 hl.1 (by decide) (by decide) (Nat.le_of_ble_eq_true rfl) rfl rfl dX6_seat_23 (fun H locs hP hS => ?_)
    refine lv_if_ne (tgt := 35) hx hb dX6_seat_26 (by decide) (fun c_2 => ?_) (fun c_2 => ?_)
    · refine lv_aload_n hx hb dX6_seat_35 rfl (lv_at hl 0 rfl) ?_
      refine gf_X6_42 C0 hP (k := 46) (show kd 46 = 6 by decide) dX6_seat_36 ?_
      refine gf_X6_77 C0 hP (k := 56) (show kd 56 = 5 by decide) dX6_seat_39 ?_
      refine lv_iload_n hx hb dX6_seat_42 rfl (lv_at hl 1 rfl) ?_
      refine w_ialdN C0 hP (k := 56 + 3) (i := r) (kdT3 (Or.inl rfl)) (by rw [lnT3 (Or.inl rfl)]; omega) (by omega) dX6_seat_43 ?_
      refine lv_iload_n hx hb dX6_seat_44 rfl (lv_at hl 2 rfl) ?_
      refine lv_iadd hx hb dX6_seat_45 ?_
      refine lv_aload_n hx hb dX6_seat_46 rfl (lv_at hl 0 rfl) ?_
      refine gf_X6_34 C0 hP (k := 46) (show kd 46 = 6 by decide) dX6_seat_47 ?_
      refine lv_iload_n hx hb dX6_seat_50 rfl (lv_at hl 1 rfl) ?_
      refine w_ialdN C0 hP (k := 55) (i := r) (show kd 55 = 7 by decide) (show r < 8 by omega) (by omega) dX6_seat_51 ?_
      refine lv_icmp_le (tgt := 61) hx hb dX6_seat_52 (by decide) (fun c_3 => ?_) (fun c_3 => ?_)
      · exact absurd c_3 hfree
      · refine lv_aload_n hx hb dX6_seat_55 rfl (lv_at hl 0 rfl) ?_
        refine lv_iconst (v := 3) hx hb dX6_seat_56 (by decide) ?_
        refine k_VI C0 hP hS (rest := []) (c_X6_no l G (u2 M 46 0 0) o 3) mf_X6_no ml_X6_63 (kd_lt (show kd 46 = 6 by decide) (by decide)) (ct_6 (show kd 46 = 6 by decide)) rfl hl.1 (by decide) (by decide) (Nat.le_of_ble_eq_true rfl) rfl rfl dX6_seat_57 (fun H locs hP hS => ?_)
        exact e_Ii C0 hr hP hS rfl (by decide) dX6_seat_60
    · exact (hbd (bdS_in.mpr c_2)).elim
  · exact absurd c_1 (by decide)

set_option maxHeartbeats 4000000 in
set_option maxRecDepth 100000 in
theorem c_X6_wall (l : Launch) (G : GG) (M : Mem) (o : Nat → Int64) (np nr k : Nat) (hO : OKT M np nr k) (r : Nat) (hr0 : r < nr) (a2 : Int32) (hbd : ¬ bdW a2 ((u2 M 46 0 0) 53 r)) : MI l yX6_wall cX6_wall 5 (some .int) 2 43 G [.ref (adr G 46), .int (nI r), .int a2] M (u2 M 46 0 0) o o (cntF (fun i => atT ((u2 M 46 0 0) 57 i) ((u2 M 46 0 0) 52 r) a2) np) 0 0 := by
  refine MI_of RX6 rfl (by decide +kernel) (Nat.le_of_ble_eq_true rfl) ?_
  intro p e s m below meth c sz C0 hr hP ls hl
  have hx := C0.1
  have hb := C0.2.1
  have hS : va_S (pA G sz) s.heap s.heap [] := va_S.rf
  have hl : lv_has ls 5 [(0, .ref (adr G 46)), (1, .int (nI r)), (2, .int a2)] := hl
  obtain ⟨hnp, hple, hnr, hrle, hk0, hkle, hdz⟩ := okz (v := 0) hO
  refine lv_aload_n hx hb dX6_wall_0 rfl (lv_at hl 0 rfl) ?_
  refine lv_iconst (v := 0) hx hb dX6_wall_1 (by decide) ?_
  refine pf_X6_49 C0 hP hS (k := 46) (show kd 46 = 6 by decide) dX6_wall_2 (fun H locs hP hS => ?_)
  refine lv_aload_n hx hb dX6_wall_5 rfl (lv_at hl 0 rfl) ?_
  refine lv_iload_n hx hb dX6_wall_6 rfl (lv_at hl 1 rfl) ?_
  refine k_VI C0 hP hS (rest := []) (c_X6_isRoom l G (u2 M 46 0 0) o (nI r)) mf_X6_isRoom ml_X6_73 (kd_lt (show kd 46 = 6 by decide) (by decide)) (ct_6 (show kd 46 = 6 by decide)) rfl hl.1 (by decide) (by decide) (Nat.le_of_ble_eq_true rfl) rfl rfl dX6_wall_7 (fun H locs hP hS => ?_)
  refine lv_topE (y := 1) (inF_R hnr (by omega) (by omega)) ?_
  refine lv_if_eq (tgt := 37) hx hb dX6_wall_10 (by decide) (fun c_1 => ?_) (fun c_1 => ?_)
  · exact absurd c_1 (by decide)
  · refine lv_iload_n hx hb dX6_wall_13 rfl (lv_at hl 2 rfl) ?_
    refine lv_bipush (v := -4) hx hb dX6_wall_14 (by decide) ?_
    refine lv_aload_n hx hb dX6_wall_16 rfl (lv_at hl 0 rfl) ?_
    refine gf_X6_28 C0 hP (k := 46) (show kd 46 = 6 by decide) dX6_wall_17 ?_
    refine lv_iload_n hx hb dX6_wall_20 rfl (lv_at hl 1 rfl) ?_
    refine w_ialdN C0 hP (k := 53) (i := r) (show kd 53 = 7 by decide) (show r < 8 by omega) (by omega) dX6_wall_21 ?_
    refine lv_imul hx hb dX6_wall_22 ?_
    refine lv_iconst (v := 4) hx hb dX6_wall_23 (by decide) ?_
    refine lv_aload_n hx hb dX6_wall_24 rfl (lv_at hl 0 rfl) ?_
    refine gf_X6_28 C0 hP (k := 46) (show kd 46 = 6 by decide) dX6_wall_25 ?_
    refine lv_iload_n hx hb dX6_wall_28 rfl (lv_at hl 1 rfl) ?_
    refine w_ialdN C0 hP (k := 53) (i := r) (show kd 53 = 7 by decide) (show r < 8 by omega) (by omega) dX6_wall_29 ?_
    refine lv_imul hx hb dX6_wall_30 ?_
    refine k_SI C0 hP hS (rest := []) (c_X6_isIn l G (u2 M 46 0 0) o a2 ((-4) * ((u2 M 46 0 0) 53 r)) (4 * ((u2 M 46 0 0) 53 r))) mf_X6_isIn rfl ml_X6_56 hl.1 (by decide) (by decide) (Nat.le_of_ble_eq_true rfl) rfl rfl dX6_wall_31 (fun H locs hP hS => ?_)
    refine lv_if_ne (tgt := 43) hx hb dX6_wall_34 (by decide) (fun c_2 => ?_) (fun c_2 => ?_)
    · refine lv_iconst (v := 0) hx hb dX6_wall_43 (by decide) ?_
      refine lv_istore_n (lv' := [(3, .int 0), (0, .ref (adr G 46)), (1, .int (nI r)), (2, .int a2)]) hx hb dX6_wall_44 rfl hl (by decide) rfl (fun ls hl => ?_)
      refine lv_iconst (v := 0) hx hb dX6_wall_45 (by decide) ?_
      refine lv_istore (lv' := [(4, .int 0), (3, .int 0), (0, .ref (adr G 46)), (1, .int (nI r)), (2, .int a2)]) hx hb dX6_wall_46 hl (by decide) rfl (fun ls hl => ?_)
      have loop_48 : ∀ (fuel_48 : Nat) (i : Nat) (x : Int32), np + 1 ≤ i + fuel_48 → (i ≤ np) → (x = cntF (fun i => atT ((u2 M 46 0 0) 57 i) ((u2 M 46 0 0) 52 r) a2) i) → ∀ (H : Heap) (locs : List Loc), PW G (u2 M 46 0 0) o H → va_S (pA G sz) s.heap H locs → ∀ ls : Array Slot, lv_has ls 5 [(4, .int (nI i)), (3, .int x), (0, .ref (adr G 46)), (1, .int (nI r)), (2, .int a2)] → W p l e (rmU 2 43 0 0) s m ([.ref (adr G 46), .int (nI r), .int a2] : List Value).toArray below meth c H locs 0 0 (MQ below (QI G (u2 M 46 0 0) o (cntF (fun i => atT ((u2 M 46 0 0) 57 i) ((u2 M 46 0 0) 52 r) a2) np) sz) ([.ref (adr G 46), .int (nI r), .int a2] : List Value).toArray s 0 0 (pA G sz)) (F0 m 48 ls []) := by
        intro fuel_48
        induction fuel_48 with
        | zero =>
          intro i x hf hi hxx
          exact absurd hf (by omega)
        | succ fuel_48 ih_48 =>
          intro i x hf hi hxx H locs hP hS ls hl
          refine lv_iload hx hb dX6_wall_48 (lv_at hl 0 rfl) ?_
          refine lv_aload_n hx hb dX6_wall_50 rfl (lv_at hl 2 rfl) ?_
          refine gf_X6_60 C0 hP (k := 46) (show kd 46 = 6 by decide) dX6_wall_51 ?_
          refine lv_topE (y := nI np) (hnp) ?_
          refine lv_icmp_ge (tgt := 106) hx hb dX6_wall_54 (by decide) (fun c_3 => ?_) (fun c_3 => ?_)
          · have hi9 := lp_ge (n := np) c_3 (by omega) hi
            refine lv_iload_n hx hb dX6_wall_106 rfl (lv_at hl 1 rfl) ?_
            exact e_Ii C0 hr hP hS (by rw [hxx, hi9]) (by decide) dX6_wall_107
          · have hlt := lp_lt (n := np) c_3 (by omega) hi
            refine lv_iload_n hx hb dX6_wall_57 rfl (lv_at hl 1 rfl) ?_
            refine lv_aload_n hx hb dX6_wall_58 rfl (lv_at hl 2 rfl) ?_
            refine gf_X6_42 C0 hP (k := 46) (show kd 46 = 6 by decide) dX6_wall_59 ?_
            refine gf_X6_67 C0 hP (k := 56) (show kd 56 = 5 by decide) dX6_wall_62 ?_
            refine lv_iload hx hb dX6_wall_65 (lv_at hl 0 rfl) ?_
            refine w_ialdN C0 hP (k := 56 + 1) (i := i) (kdT1 (Or.inl rfl)) (by rw [lnT1 (Or.inl rfl)]; omega) (by omega) dX6_wall_67 ?_
            refine lv_iconst (v := -1) hx hb dX6_wall_68 (by decide) ?_
            refine lv_icmp_eq (tgt := 97) hx hb dX6_wall_69 (by decide) (fun c_4 => ?_) (fun c_4 => ?_)
            · refine lv_iconst (v := 0) hx hb dX6_wall_97 (by decide) ?_
              refine lv_iadd hx hb dX6_wall_98 ?_
              refine lv_istore_n (lv' := [(3, .int (x + 0)), (4, .int (nI i)), (0, .ref (adr G 46)), (1, .int (nI r)), (2, .int a2)]) hx hb dX6_wall_99 rfl hl (by decide) rfl (fun ls hl => ?_)
              refine lv_iinc (v := nI (i + 1)) (lv' := [(4, .int (nI (i + 1))), (3, .int (x + 0)), (0, .ref (adr G 46)), (1, .int (nI r)), (2, .int a2)]) hx hb dX6_wall_100 hl (k := 1) rfl (nI_1 i) (by decide) rfl (fun ls hl => ?_)
              refine lv_goto (tgt := 48) hx hb dX6_wall_103 (by decide) ?_
              exact ih_48 (i + 1) _ (by omega) (by omega) (by rw [hxx]; simp only [cntF]; simp [atT, gn, c_3, c_4]) _ _ hP hS _ (lv_sub hl [0, 1, 2, 3, 4] rfl)
            · refine lv_aload_n hx hb dX6_wall_72 rfl (lv_at hl 2 rfl) ?_
              refine gf_X6_25 C0 hP (k := 46) (show kd 46 = 6 by decide) dX6_wall_73 ?_
              refine lv_iload_n hx hb dX6_wall_76 rfl (lv_at hl 3 rfl) ?_
              refine w_ialdN C0 hP (k := 52) (i := r) (show kd 52 = 7 by decide) (show r < 8 by omega) (by omega) dX6_wall_77 ?_
              refine lv_aload_n hx hb dX6_wall_78 rfl (lv_at hl 2 rfl) ?_
              refine gf_X6_42 C0 hP (k := 46) (show kd 46 = 6 by decide) dX6_wall_79 ?_
              refine gf_X6_67 C0 hP (k := 56) (show kd 56 = 5 by decide) dX6_wall_82 ?_
              refine lv_iload hx hb dX6_wall_85 (lv_at hl 0 rfl) ?_
              refine w_ialdN C0 hP (k := 56 + 1) (i := i) (kdT1 (Or.inl rfl)) (by rw [lnT1 (Or.inl rfl)]; omega) (by omega) dX6_wall_87 ?_
              refine lv_isub hx hb dX6_wall_88 ?_
              refine lv_iload_n hx hb dX6_wall_89 rfl (lv_at hl 4 rfl) ?_
              refine lv_icmp_ne (tgt := 97) hx hb dX6_wall_90 (by decide) (fun c_5 => ?_) (fun c_5 => ?_)
              · refine lv_iconst (v := 0) hx hb dX6_wall_97 (by decide) ?_
                refine lv_iadd hx hb dX6_wall_98 ?_
                refine lv_istore_n (lv' := [(3, .int (x + 0)), (4, .int (nI i)), (0, .ref (adr G 46)), (1, .int (nI r)), (2, .int a2)]) hx hb dX6_wall_99 rfl hl (by decide) rfl (fun ls hl => ?_)
                refine lv_iinc (v := nI (i + 1)) (lv' := [(4, .int (nI (i + 1))), (3, .int (x + 0)), (0, .ref (adr G 46)), (1, .int (nI r)), (2, .int a2)]) hx hb dX6_wall_100 hl (k := 1) rfl (nI_1 i) (by decide) rfl (fun ls hl => ?_)
                refine lv_goto (tgt := 48) hx hb dX6_wall_103 (by decide) ?_
                exact ih_48 (i + 1) _ (by omega) (by omega) (by rw [hxx]; simp only [cntF]; simp [atT, gn, c_3, c_4, c_5]) _ _ hP hS _ (lv_sub hl [0, 1, 2, 3, 4] rfl)
              · replace c_5 := eq_true c_5
                refine lv_iconst (v := 1) hx hb dX6_wall_93 (by decide) ?_
                refine lv_goto (tgt := 98) hx hb dX6_wall_94 (by decide) ?_
                refine lv_iadd hx hb dX6_wall_98 ?_
                refine lv_istore_n (lv' := [(3, .int (x + 1)), (4, .int (nI i)), (0, .ref (adr G 46)), (1, .int (nI r)), (2, .int a2)]) hx hb dX6_wall_99 rfl hl (by decide) rfl (fun ls hl => ?_)
                refine lv_iinc (v := nI (i + 1)) (lv' := [(4, .int (nI (i + 1))), (3, .int (x + 1)), (0, .ref (adr G 46)), (1, .int (nI r)), (2, .int a2)]) hx hb dX6_wall_100 hl (k := 1) rfl (nI_1 i) (by decide) rfl (fun ls hl => ?_)
                refine lv_goto (tgt := 48) hx hb dX6_wall_103 (by decide) ?_
                exact ih_48 (i + 1) _ (by omega) (by omega) (by rw [hxx]; simp only [cntF]; simp [atT, gn, c_3, c_4, c_5]) _ _ hP hS _ (lv_sub hl [0, 1, 2, 3, 4] rfl)
      exact loop_48 (np + 1) 0 0 (by omega) (by omega) rfl _ _ hP hS _ (lv_sub hl [0, 1, 2, 3, 4] rfl)
    · exact (hbd (bdW_in.mpr c_2)).elim

set_option maxHeartbeats 4000000 in
set_option maxRecDepth 100000 in
theorem c_X6_wall_i (l : Launch) (G : GG) (M : Mem) (o : Nat → Int64) (np nr k : Nat) (hO : OKT M np nr k) (x1 a2 : Int32) (hbd : x1 < 0 ∨ ¬ x1 < nI nr) : MI l yX6_wall cX6_wall 5 (some .int) 2 43 G [.ref (adr G 46), .int x1, .int a2] M (u2 (u2 M 46 0 0) 46 0 1) o o 0 0 0 := by
  refine MI_of RX6 rfl (by decide +kernel) (Nat.le_of_ble_eq_true rfl) ?_
  intro p e s m below meth c sz C0 hr hP ls hl
  have hx := C0.1
  have hb := C0.2.1
  have hS : va_S (pA G sz) s.heap s.heap [] := va_S.rf
  have hl : lv_has ls 5 [(0, .ref (adr G 46)), (1, .int x1), (2, .int a2)] := hl
  obtain ⟨hnp, hple, hnr, hrle, hk0, hkle, hdz⟩ := okz (v := 0) hO
  refine lv_aload_n hx hb dX6_wall_0 rfl (lv_at hl 0 rfl) ?_
  refine lv_iconst (v := 0) hx hb dX6_wall_1 (by decide) ?_
  refine pf_X6_49 C0 hP hS (k := 46) (show kd 46 = 6 by decide) dX6_wall_2 (fun H locs hP hS => ?_)
  refine lv_aload_n hx hb dX6_wall_5 rfl (lv_at hl 0 rfl) ?_
  refine lv_iload_n hx hb dX6_wall_6 rfl (lv_at hl 1 rfl) ?_
  refine k_VI C0 hP hS (rest := []) (c_X6_isRoom l G (u2 M 46 0 0) o x1) mf_X6_isRoom ml_X6_73 (kd_lt (show kd 46 = 6 by decide) (by decide)) (ct_6 (show kd 46 = 6 by decide)) rfl hl.1 (by decide) (by decide) (Nat.le_of_ble_eq_true rfl) rfl rfl dX6_wall_7 (fun H locs hP hS => ?_)
  refine lv_topE (y := 0) (inF_X hnr (by omega) hbd) ?_
  refine lv_if_eq (tgt := 37) hx hb dX6_wall_10 (by decide) (fun c_1 => ?_) (fun c_1 => ?_)
  · refine lv_aload_n hx hb dX6_wall_37 rfl (lv_at hl 0 rfl) ?_
    refine lv_iconst (v := 1) hx hb dX6_wall_38 (by decide) ?_
    refine k_VI C0 hP hS (rest := []) (c_X6_no l G (u2 M 46 0 0) o 1) mf_X6_no ml_X6_63 (kd_lt (show kd 46 = 6 by decide) (by decide)) (ct_6 (show kd 46 = 6 by decide)) rfl hl.1 (by decide) (by decide) (Nat.le_of_ble_eq_true rfl) rfl rfl dX6_wall_39 (fun H locs hP hS => ?_)
    exact e_Ii C0 hr hP hS rfl (by decide) dX6_wall_42
  · exact absurd c_1 (by decide)

set_option maxHeartbeats 4000000 in
set_option maxRecDepth 100000 in
theorem c_X6_wall_j (l : Launch) (G : GG) (M : Mem) (o : Nat → Int64) (np nr k : Nat) (hO : OKT M np nr k) (r : Nat) (hr0 : r < nr) (a2 : Int32) (hbd : bdW a2 ((u2 M 46 0 0) 53 r)) : MI l yX6_wall cX6_wall 5 (some .int) 2 43 G [.ref (adr G 46), .int (nI r), .int a2] M (u2 (u2 M 46 0 0) 46 0 1) o o 0 0 0 := by
  refine MI_of RX6 rfl (by decide +kernel) (Nat.le_of_ble_eq_true rfl) ?_
  intro p e s m below meth c sz C0 hr hP ls hl
  have hx := C0.1
  have hb := C0.2.1
  have hS : va_S (pA G sz) s.heap s.heap [] := va_S.rf
  have hl : lv_has ls 5 [(0, .ref (adr G 46)), (1, .int (nI r)), (2, .int a2)] := hl
  obtain ⟨hnp, hple, hnr, hrle, hk0, hkle, hdz⟩ := okz (v := 0) hO
  refine lv_aload_n hx hb dX6_wall_0 rfl (lv_at hl 0 rfl) ?_
  refine lv_iconst (v := 0) hx hb dX6_wall_1 (by decide) ?_
  refine pf_X6_49 C0 hP hS (k := 46) (show kd 46 = 6 by decide) dX6_wall_2 (fun H locs hP hS => ?_)
  refine lv_aload_n hx hb dX6_wall_5 rfl (lv_at hl 0 rfl) ?_
  refine lv_iload_n hx hb dX6_wall_6 rfl (lv_at hl 1 rfl) ?_
  refine k_VI C0 hP hS (rest := []) (c_X6_isRoom l G (u2 M 46 0 0) o (nI r)) mf_X6_isRoom ml_X6_73 (kd_lt (show kd 46 = 6 by decide) (by decide)) (ct_6 (show kd 46 = 6 by decide)) rfl hl.1 (by decide) (by decide) (Nat.le_of_ble_eq_true rfl) rfl rfl dX6_wall_7 (fun H locs hP hS => ?_)
  refine lv_topE (y := 1) (inF_R hnr (by omega) (by omega)) ?_
  refine lv_if_eq (tgt := 37) hx hb dX6_wall_10 (by decide) (fun c_1 => ?_) (fun c_1 => ?_)
  · exact absurd c_1 (by decide)
  · refine lv_iload_n hx hb dX6_wall_13 rfl (lv_at hl 2 rfl) ?_
    refine lv_bipush (v := -4) hx hb dX6_wall_14 (by decide) ?_
    refine lv_aload_n hx hb dX6_wall_16 rfl (lv_at hl 0 rfl) ?_
    refine gf_X6_28 C0 hP (k := 46) (show kd 46 = 6 by decide) dX6_wall_17 ?_
    refine lv_iload_n hx hb dX6_wall_20 rfl (lv_at hl 1 rfl) ?_
    refine w_ialdN C0 hP (k := 53) (i := r) (show kd 53 = 7 by decide) (show r < 8 by omega) (by omega) dX6_wall_21 ?_
    refine lv_imul hx hb dX6_wall_22 ?_
    refine lv_iconst (v := 4) hx hb dX6_wall_23 (by decide) ?_
    refine lv_aload_n hx hb dX6_wall_24 rfl (lv_at hl 0 rfl) ?_
    refine gf_X6_28 C0 hP (k := 46) (show kd 46 = 6 by decide) dX6_wall_25 ?_
    refine lv_iload_n hx hb dX6_wall_28 rfl (lv_at hl 1 rfl) ?_
    refine w_ialdN C0 hP (k := 53) (i := r) (show kd 53 = 7 by decide) (show r < 8 by omega) (by omega) dX6_wall_29 ?_
    refine lv_imul hx hb dX6_wall_30 ?_
    refine k_SI C0 hP hS (rest := []) (c_X6_isIn l G (u2 M 46 0 0) o a2 ((-4) * ((u2 M 46 0 0) 53 r)) (4 * ((u2 M 46 0 0) 53 r))) mf_X6_isIn rfl ml_X6_56 hl.1 (by decide) (by decide) (Nat.le_of_ble_eq_true rfl) rfl rfl dX6_wall_31 (fun H locs hP hS => ?_)
    refine lv_if_ne (tgt := 43) hx hb dX6_wall_34 (by decide) (fun c_2 => ?_) (fun c_2 => ?_)
    · exact absurd (bdW_in.mp hbd) c_2
    · refine lv_aload_n hx hb dX6_wall_37 rfl (lv_at hl 0 rfl) ?_
      refine lv_iconst (v := 1) hx hb dX6_wall_38 (by decide) ?_
      refine k_VI C0 hP hS (rest := []) (c_X6_no l G (u2 M 46 0 0) o 1) mf_X6_no ml_X6_63 (kd_lt (show kd 46 = 6 by decide) (by decide)) (ct_6 (show kd 46 = 6 by decide)) rfl hl.1 (by decide) (by decide) (Nat.le_of_ble_eq_true rfl) rfl rfl dX6_wall_39 (fun H locs hP hS => ?_)
      exact e_Ii C0 hr hP hS rfl (by decide) dX6_wall_42

set_option maxHeartbeats 4000000 in
set_option maxRecDepth 100000 in
theorem c_X6_pass (l : Launch) (G : GG) (M : Mem) (o : Nat → Int64) (np nr k : Nat) (hO : OKT M np nr k) (a1 a2 a3 a4 : Int32) (hbd : ¬ bdP a1 a2 a3 a4) (hroom : np < 10) : MI l yX6_pass cX6_pass 5 (some .int) 1 22 G [.ref (adr G 46), .int a1, .int a2, .int a3, .int a4] M (u2 (u2 (u2 (u2 (u2 (u2 M 46 0 0) 57 np a1) 49 np a2) 50 np a3) 51 np a4) 46 1 (nI (np + 1))) o o (nI np) 0 0 := by
  refine MI_of RX6 rfl (by decide +kernel) (Nat.le_of_ble_eq_true rfl) ?_
  intro p e s m below meth c sz C0 hr hP ls hl
  have hx := C0.1
  have hb := C0.2.1
  have hS : va_S (pA G sz) s.heap s.heap [] := va_S.rf
  have hl : lv_has ls 5 [(0, .ref (adr G 46)), (1, .int a1), (2, .int a2), (3, .int a3), (4, .int a4)] := hl
  obtain ⟨hnp, hple, hnr, hrle, hk0, hkle, hdz⟩ := okz (v := 0) hO
  refine lv_aload_n hx hb dX6_pass_0 rfl (lv_at hl 0 rfl) ?_
  refine lv_iconst (v := 0) hx hb dX6_pass_1 (by decide) ?_
  refine pf_X6_49 C0 hP hS (k := 46) (show kd 46 = 6 by decide) dX6_pass_2 (fun H locs hP hS => ?_)
  refine lv_iload_n hx hb dX6_pass_5 rfl (lv_at hl 1 rfl) ?_
  refine lv_iconst (v := 0) hx hb dX6_pass_6 (by decide) ?_
  refine lv_bipush (v := 59) hx hb dX6_pass_7 (by decide) ?_
  refine k_SI C0 hP hS (rest := []) (c_X6_isIn l G (u2 M 46 0 0) o a1 0 59) mf_X6_isIn rfl ml_X6_56 hl.1 (by decide) (by decide) (Nat.le_of_ble_eq_true rfl) rfl rfl dX6_pass_9 (fun H locs hP hS => ?_)
  refine lv_if_eq (tgt := 46) hx hb dX6_pass_12 (by decide) (fun c_1 => ?_) (fun c_1 => ?_)
  · exact (hbd (bdP_in.mpr (by simp [c_1]))).elim
  · refine lv_iload_n hx hb dX6_pass_15 rfl (lv_at hl 2 rfl) ?_
    refine lv_bipush (v := -3) hx hb dX6_pass_16 (by decide) ?_
    refine lv_iconst (v := 3) hx hb dX6_pass_18 (by decide) ?_
    refine k_SI C0 hP hS (rest := []) (c_X6_isIn l G (u2 M 46 0 0) o a2 (-3) 3) mf_X6_isIn rfl ml_X6_56 hl.1 (by decide) (by decide) (Nat.le_of_ble_eq_true rfl) rfl rfl dX6_pass_19 (fun H locs hP hS => ?_)
    refine lv_if_eq (tgt := 46) hx hb dX6_pass_22 (by decide) (fun c_2 => ?_) (fun c_2 => ?_)
    · exact (hbd (bdP_in.mpr (by simp [c_1, c_2]))).elim
    · refine lv_iload_n hx hb dX6_pass_25 rfl (lv_at hl 3 rfl) ?_
      refine lv_iconst (v := 1) hx hb dX6_pass_26 (by decide) ?_
      refine lv_bipush (v := 9) hx hb dX6_pass_27 (by decide) ?_
      refine k_SI C0 hP hS (rest := []) (c_X6_isIn l G (u2 M 46 0 0) o a3 1 9) mf_X6_isIn rfl ml_X6_56 hl.1 (by decide) (by decide) (Nat.le_of_ble_eq_true rfl) rfl rfl dX6_pass_29 (fun H locs hP hS => ?_)
      refine lv_if_eq (tgt := 46) hx hb dX6_pass_32 (by decide) (fun c_3 => ?_) (fun c_3 => ?_)
      · exact (hbd (bdP_in.mpr (by simp [c_1, c_2, c_3]))).elim
      · refine lv_iload hx hb dX6_pass_35 (lv_at hl 4 rfl) ?_
        refine lv_iconst (v := 1) hx hb dX6_pass_37 (by decide) ?_
        refine lv_bipush (v := 9) hx hb dX6_pass_38 (by decide) ?_
        refine k_SI C0 hP hS (rest := []) (c_X6_isIn l G (u2 M 46 0 0) o a4 1 9) mf_X6_isIn rfl ml_X6_56 hl.1 (by decide) (by decide) (Nat.le_of_ble_eq_true rfl) rfl rfl dX6_pass_40 (fun H locs hP hS => ?_)
        refine lv_if_ne (tgt := 52) hx hb dX6_pass_43 (by decide) (fun c_4 => ?_) (fun c_4 => ?_)
        · refine lv_aload_n hx hb dX6_pass_52 rfl (lv_at hl 0 rfl) ?_
          refine gf_X6_60 C0 hP (k := 46) (show kd 46 = 6 by decide) dX6_pass_53 ?_
          refine lv_topE (y := nI np) (hnp) ?_
          refine lv_bipush (v := 10) hx hb dX6_pass_56 (by decide) ?_
          refine lv_icmp_ne (tgt := 67) hx hb dX6_pass_58 (by decide) (fun c_5 => ?_) (fun c_5 => ?_)
          · refine lv_aload_n hx hb dX6_pass_67 rfl (lv_at hl 0 rfl) ?_
            refine gf_X6_42 C0 hP (k := 46) (show kd 46 = 6 by decide) dX6_pass_68 ?_
            refine gf_X6_67 C0 hP (k := 56) (show kd 56 = 5 by decide) dX6_pass_71 ?_
            refine lv_aload_n hx hb dX6_pass_74 rfl (lv_at hl 0 rfl) ?_
            refine gf_X6_60 C0 hP (k := 46) (show kd 46 = 6 by decide) dX6_pass_75 ?_
            refine lv_topE (y := nI np) (hnp) ?_
            refine lv_iload_n hx hb dX6_pass_78 rfl (lv_at hl 1 rfl) ?_
            refine w_iastN C0 hP hS (k := 56 + 1) (i := np) (kdT1 (Or.inl rfl)) (by rw [lnT1 (Or.inl rfl)]; omega) (by omega) dX6_pass_79 (fun H locs hP hS => ?_)
            refine lv_aload_n hx hb dX6_pass_80 rfl (lv_at hl 0 rfl) ?_
            refine gf_X6_16 C0 hP (k := 46) (show kd 46 = 6 by decide) dX6_pass_81 ?_
            refine lv_aload_n hx hb dX6_pass_84 rfl (lv_at hl 0 rfl) ?_
            refine gf_X6_60 C0 hP (k := 46) (show kd 46 = 6 by decide) dX6_pass_85 ?_
            refine lv_topE (y := nI np) (by rw [u2_ne (by decide)]; exact hnp) ?_
            refine lv_iload_n hx hb dX6_pass_88 rfl (lv_at hl 2 rfl) ?_
            refine w_iastN C0 hP hS (k := 49) (i := np) (show kd 49 = 7 by decide) (show np < 10 by omega) (by omega) dX6_pass_89 (fun H locs hP hS => ?_)
            refine lv_aload_n hx hb dX6_pass_90 rfl (lv_at hl 0 rfl) ?_
            refine gf_X6_19 C0 hP (k := 46) (show kd 46 = 6 by decide) dX6_pass_91 ?_
            refine lv_aload_n hx hb dX6_pass_94 rfl (lv_at hl 0 rfl) ?_
            refine gf_X6_60 C0 hP (k := 46) (show kd 46 = 6 by decide) dX6_pass_95 ?_
            refine lv_topE (y := nI np) (by rw [u2_ne (by decide), u2_ne (by decide)]; exact hnp) ?_
            refine lv_iload_n hx hb dX6_pass_98 rfl (lv_at hl 3 rfl) ?_
            refine w_iastN C0 hP hS (k := 50) (i := np) (show kd 50 = 7 by decide) (show np < 10 by omega) (by omega) dX6_pass_99 (fun H locs hP hS => ?_)
            refine lv_aload_n hx hb dX6_pass_100 rfl (lv_at hl 0 rfl) ?_
            refine gf_X6_22 C0 hP (k := 46) (show kd 46 = 6 by decide) dX6_pass_101 ?_
            refine lv_aload_n hx hb dX6_pass_104 rfl (lv_at hl 0 rfl) ?_
            refine gf_X6_60 C0 hP (k := 46) (show kd 46 = 6 by decide) dX6_pass_105 ?_
            refine lv_topE (y := nI np) (by rw [u2_ne (by decide), u2_ne (by decide), u2_ne (by decide)]; exact hnp) ?_
            refine lv_iload hx hb dX6_pass_108 (lv_at hl 4 rfl) ?_
            refine w_iastN C0 hP hS (k := 51) (i := np) (show kd 51 = 7 by decide) (show np < 10 by omega) (by omega) dX6_pass_110 (fun H locs hP hS => ?_)
            refine lv_aload_n hx hb dX6_pass_111 rfl (lv_at hl 0 rfl) ?_
            refine lv_dup hx hb dX6_pass_112 rfl ?_
            refine gf_X6_60 C0 hP (k := 46) (show kd 46 = 6 by decide) dX6_pass_113 ?_
            refine lv_topE (y := nI np) (by rw [u2_ne (by decide), u2_ne (by decide), u2_ne (by decide), u2_ne (by decide)]; exact hnp) ?_
            refine lv_iconst (v := 1) hx hb dX6_pass_116 (by decide) ?_
            refine lv_iadd hx hb dX6_pass_117 ?_
            refine lv_topE (y := nI (np + 1)) (nI_1 np) ?_
            refine pf_X6_60 C0 hP hS (k := 46) (show kd 46 = 6 by decide) dX6_pass_118 (fun H locs hP hS => ?_)
            refine lv_aload_n hx hb dX6_pass_121 rfl (lv_at hl 0 rfl) ?_
            refine gf_X6_60 C0 hP (k := 46) (show kd 46 = 6 by decide) dX6_pass_122 ?_
            refine lv_topE (y := nI (np + 1)) (u2_at) ?_
            refine lv_iconst (v := 1) hx hb dX6_pass_125 (by decide) ?_
            refine lv_isub hx hb dX6_pass_126 ?_
            exact e_Ii C0 hr hP hS (nI_p1 np) (by decide) dX6_pass_127
          · exact absurd ((nI_eq (b := 10) (by omega) (by omega)).mp c_5) (by omega)
        · exact (hbd (bdP_in.mpr (by simp [c_1, c_2, c_3, c_4]))).elim

set_option maxHeartbeats 4000000 in
set_option maxRecDepth 100000 in
theorem c_X6_pass_a (l : Launch) (G : GG) (M : Mem) (o : Nat → Int64) (np nr k : Nat) (hO : OKT M np nr k) (a1 a2 a3 a4 : Int32) (hbd : bdP a1 a2 a3 a4) : MI l yX6_pass cX6_pass 5 (some .int) 1 22 G [.ref (adr G 46), .int a1, .int a2, .int a3, .int a4] M (u2 (u2 M 46 0 0) 46 0 1) o o 0 0 0 := by
  refine MI_of RX6 rfl (by decide +kernel) (Nat.le_of_ble_eq_true rfl) ?_
  intro p e s m below meth c sz C0 hr hP ls hl
  have hx := C0.1
  have hb := C0.2.1
  have hS : va_S (pA G sz) s.heap s.heap [] := va_S.rf
  have hl : lv_has ls 5 [(0, .ref (adr G 46)), (1, .int a1), (2, .int a2), (3, .int a3), (4, .int a4)] := hl
  obtain ⟨hnp, hple, hnr, hrle, hk0, hkle, hdz⟩ := okz (v := 0) hO
  refine lv_aload_n hx hb dX6_pass_0 rfl (lv_at hl 0 rfl) ?_
  refine lv_iconst (v := 0) hx hb dX6_pass_1 (by decide) ?_
  refine pf_X6_49 C0 hP hS (k := 46) (show kd 46 = 6 by decide) dX6_pass_2 (fun H locs hP hS => ?_)
  refine lv_iload_n hx hb dX6_pass_5 rfl (lv_at hl 1 rfl) ?_
  refine lv_iconst (v := 0) hx hb dX6_pass_6 (by decide) ?_
  refine lv_bipush (v := 59) hx hb dX6_pass_7 (by decide) ?_
  refine k_SI C0 hP hS (rest := []) (c_X6_isIn l G (u2 M 46 0 0) o a1 0 59) mf_X6_isIn rfl ml_X6_56 hl.1 (by decide) (by decide) (Nat.le_of_ble_eq_true rfl) rfl rfl dX6_pass_9 (fun H locs hP hS => ?_)
  refine lv_if_eq (tgt := 46) hx hb dX6_pass_12 (by decide) (fun c_1 => ?_) (fun c_1 => ?_)
  · refine lv_aload_n hx hb dX6_pass_46 rfl (lv_at hl 0 rfl) ?_
    refine lv_iconst (v := 1) hx hb dX6_pass_47 (by decide) ?_
    refine k_VI C0 hP hS (rest := []) (c_X6_no l G (u2 M 46 0 0) o 1) mf_X6_no ml_X6_63 (kd_lt (show kd 46 = 6 by decide) (by decide)) (ct_6 (show kd 46 = 6 by decide)) rfl hl.1 (by decide) (by decide) (Nat.le_of_ble_eq_true rfl) rfl rfl dX6_pass_48 (fun H locs hP hS => ?_)
    exact e_Ii C0 hr hP hS rfl (by decide) dX6_pass_51
  · refine lv_iload_n hx hb dX6_pass_15 rfl (lv_at hl 2 rfl) ?_
    refine lv_bipush (v := -3) hx hb dX6_pass_16 (by decide) ?_
    refine lv_iconst (v := 3) hx hb dX6_pass_18 (by decide) ?_
    refine k_SI C0 hP hS (rest := []) (c_X6_isIn l G (u2 M 46 0 0) o a2 (-3) 3) mf_X6_isIn rfl ml_X6_56 hl.1 (by decide) (by decide) (Nat.le_of_ble_eq_true rfl) rfl rfl dX6_pass_19 (fun H locs hP hS => ?_)
    refine lv_if_eq (tgt := 46) hx hb dX6_pass_22 (by decide) (fun c_2 => ?_) (fun c_2 => ?_)
    · refine lv_aload_n hx hb dX6_pass_46 rfl (lv_at hl 0 rfl) ?_
      refine lv_iconst (v := 1) hx hb dX6_pass_47 (by decide) ?_
      refine k_VI C0 hP hS (rest := []) (c_X6_no l G (u2 M 46 0 0) o 1) mf_X6_no ml_X6_63 (kd_lt (show kd 46 = 6 by decide) (by decide)) (ct_6 (show kd 46 = 6 by decide)) rfl hl.1 (by decide) (by decide) (Nat.le_of_ble_eq_true rfl) rfl rfl dX6_pass_48 (fun H locs hP hS => ?_)
      exact e_Ii C0 hr hP hS rfl (by decide) dX6_pass_51
    · refine lv_iload_n hx hb dX6_pass_25 rfl (lv_at hl 3 rfl) ?_
      refine lv_iconst (v := 1) hx hb dX6_pass_26 (by decide) ?_
      refine lv_bipush (v := 9) hx hb dX6_pass_27 (by decide) ?_
      refine k_SI C0 hP hS (rest := []) (c_X6_isIn l G (u2 M 46 0 0) o a3 1 9) mf_X6_isIn rfl ml_X6_56 hl.1 (by decide) (by decide) (Nat.le_of_ble_eq_true rfl) rfl rfl dX6_pass_29 (fun H locs hP hS => ?_)
      refine lv_if_eq (tgt := 46) hx hb dX6_pass_32 (by decide) (fun c_3 => ?_) (fun c_3 => ?_)
      · refine lv_aload_n hx hb dX6_pass_46 rfl (lv_at hl 0 rfl) ?_
        refine lv_iconst (v := 1) hx hb dX6_pass_47 (by decide) ?_
        refine k_VI C0 hP hS (rest := []) (c_X6_no l G (u2 M 46 0 0) o 1) mf_X6_no ml_X6_63 (kd_lt (show kd 46 = 6 by decide) (by decide)) (ct_6 (show kd 46 = 6 by decide)) rfl hl.1 (by decide) (by decide) (Nat.le_of_ble_eq_true rfl) rfl rfl dX6_pass_48 (fun H locs hP hS => ?_)
        exact e_Ii C0 hr hP hS rfl (by decide) dX6_pass_51
      · refine lv_iload hx hb dX6_pass_35 (lv_at hl 4 rfl) ?_
        refine lv_iconst (v := 1) hx hb dX6_pass_37 (by decide) ?_
        refine lv_bipush (v := 9) hx hb dX6_pass_38 (by decide) ?_
        refine k_SI C0 hP hS (rest := []) (c_X6_isIn l G (u2 M 46 0 0) o a4 1 9) mf_X6_isIn rfl ml_X6_56 hl.1 (by decide) (by decide) (Nat.le_of_ble_eq_true rfl) rfl rfl dX6_pass_40 (fun H locs hP hS => ?_)
        refine lv_if_ne (tgt := 52) hx hb dX6_pass_43 (by decide) (fun c_4 => ?_) (fun c_4 => ?_)
        · exact absurd (bdP_in.mp hbd) (by simp [c_1, c_2, c_3, c_4])
        · refine lv_aload_n hx hb dX6_pass_46 rfl (lv_at hl 0 rfl) ?_
          refine lv_iconst (v := 1) hx hb dX6_pass_47 (by decide) ?_
          refine k_VI C0 hP hS (rest := []) (c_X6_no l G (u2 M 46 0 0) o 1) mf_X6_no ml_X6_63 (kd_lt (show kd 46 = 6 by decide) (by decide)) (ct_6 (show kd 46 = 6 by decide)) rfl hl.1 (by decide) (by decide) (Nat.le_of_ble_eq_true rfl) rfl rfl dX6_pass_48 (fun H locs hP hS => ?_)
          exact e_Ii C0 hr hP hS rfl (by decide) dX6_pass_51

set_option maxHeartbeats 4000000 in
set_option maxRecDepth 100000 in
theorem c_X6_pass_s (l : Launch) (G : GG) (M : Mem) (o : Nat → Int64) (np nr k : Nat) (hO : OKT M np nr k) (a1 a2 a3 a4 : Int32) (hbd : ¬ bdP a1 a2 a3 a4) (hroom : ¬ np < 10) : MI l yX6_pass cX6_pass 5 (some .int) 1 22 G [.ref (adr G 46), .int a1, .int a2, .int a3, .int a4] M (u2 (u2 M 46 0 0) 46 0 2) o o 0 0 0 := by
  refine MI_of RX6 rfl (by decide +kernel) (Nat.le_of_ble_eq_true rfl) ?_
  intro p e s m below meth c sz C0 hr hP ls hl
  have hx := C0.1
  have hb := C0.2.1
  have hS : va_S (pA G sz) s.heap s.heap [] := va_S.rf
  have hl : lv_has ls 5 [(0, .ref (adr G 46)), (1, .int a1), (2, .int a2), (3, .int a3), (4, .int a4)] := hl
  obtain ⟨hnp, hple, hnr, hrle, hk0, hkle, hdz⟩ := okz (v := 0) hO
  refine lv_aload_n hx hb dX6_pass_0 rfl (lv_at hl 0 rfl) ?_
  refine lv_iconst (v := 0) hx hb dX6_pass_1 (by decide) ?_
  refine pf_X6_49 C0 hP hS (k := 46) (show kd 46 = 6 by decide) dX6_pass_2 (fun H locs hP hS => ?_)
  refine lv_iload_n hx hb dX6_pass_5 rfl (lv_at hl 1 rfl) ?_
  refine lv_iconst (v := 0) hx hb dX6_pass_6 (by decide) ?_
  refine lv_bipush (v := 59) hx hb dX6_pass_7 (by decide) ?_
  refine k_SI C0 hP hS (rest := []) (c_X6_isIn l G (u2 M 46 0 0) o a1 0 59) mf_X6_isIn rfl ml_X6_56 hl.1 (by decide) (by decide) (Nat.le_of_ble_eq_true rfl) rfl rfl dX6_pass_9 (fun H locs hP hS => ?_)
  refine lv_if_eq (tgt := 46) hx hb dX6_pass_12 (by decide) (fun c_1 => ?_) (fun c_1 => ?_)
  · exact (hbd (bdP_in.mpr (by simp [c_1]))).elim
  · refine lv_iload_n hx hb dX6_pass_15 rfl (lv_at hl 2 rfl) ?_
    refine lv_bipush (v := -3) hx hb dX6_pass_16 (by decide) ?_
    refine lv_iconst (v := 3) hx hb dX6_pass_18 (by decide) ?_
    refine k_SI C0 hP hS (rest := []) (c_X6_isIn l G (u2 M 46 0 0) o a2 (-3) 3) mf_X6_isIn rfl ml_X6_56 hl.1 (by decide) (by decide) (Nat.le_of_ble_eq_true rfl) rfl rfl dX6_pass_19 (fun H locs hP hS => ?_)
    refine lv_if_eq (tgt := 46) hx hb dX6_pass_22 (by decide) (fun c_2 => ?_) (fun c_2 => ?_)
    · exact (hbd (bdP_in.mpr (by simp [c_1, c_2]))).elim
    · refine lv_iload_n hx hb dX6_pass_25 rfl (lv_at hl 3 rfl) ?_
      refine lv_iconst (v := 1) hx hb dX6_pass_26 (by decide) ?_
      refine lv_bipush (v := 9) hx hb dX6_pass_27 (by decide) ?_
      refine k_SI C0 hP hS (rest := []) (c_X6_isIn l G (u2 M 46 0 0) o a3 1 9) mf_X6_isIn rfl ml_X6_56 hl.1 (by decide) (by decide) (Nat.le_of_ble_eq_true rfl) rfl rfl dX6_pass_29 (fun H locs hP hS => ?_)
      refine lv_if_eq (tgt := 46) hx hb dX6_pass_32 (by decide) (fun c_3 => ?_) (fun c_3 => ?_)
      · exact (hbd (bdP_in.mpr (by simp [c_1, c_2, c_3]))).elim
      · refine lv_iload hx hb dX6_pass_35 (lv_at hl 4 rfl) ?_
        refine lv_iconst (v := 1) hx hb dX6_pass_37 (by decide) ?_
        refine lv_bipush (v := 9) hx hb dX6_pass_38 (by decide) ?_
        refine k_SI C0 hP hS (rest := []) (c_X6_isIn l G (u2 M 46 0 0) o a4 1 9) mf_X6_isIn rfl ml_X6_56 hl.1 (by decide) (by decide) (Nat.le_of_ble_eq_true rfl) rfl rfl dX6_pass_40 (fun H locs hP hS => ?_)
        refine lv_if_ne (tgt := 52) hx hb dX6_pass_43 (by decide) (fun c_4 => ?_) (fun c_4 => ?_)
        · refine lv_aload_n hx hb dX6_pass_52 rfl (lv_at hl 0 rfl) ?_
          refine gf_X6_60 C0 hP (k := 46) (show kd 46 = 6 by decide) dX6_pass_53 ?_
          refine lv_topE (y := nI np) (hnp) ?_
          refine lv_bipush (v := 10) hx hb dX6_pass_56 (by decide) ?_
          refine lv_icmp_ne (tgt := 67) hx hb dX6_pass_58 (by decide) (fun c_5 => ?_) (fun c_5 => ?_)
          · exact absurd (by rw [show np = 10 by omega]; rfl) c_5
          · refine lv_aload_n hx hb dX6_pass_61 rfl (lv_at hl 0 rfl) ?_
            refine lv_iconst (v := 2) hx hb dX6_pass_62 (by decide) ?_
            refine k_VI C0 hP hS (rest := []) (c_X6_no l G (u2 M 46 0 0) o 2) mf_X6_no ml_X6_63 (kd_lt (show kd 46 = 6 by decide) (by decide)) (ct_6 (show kd 46 = 6 by decide)) rfl hl.1 (by decide) (by decide) (Nat.le_of_ble_eq_true rfl) rfl rfl dX6_pass_63 (fun H locs hP hS => ?_)
            exact e_Ii C0 hr hP hS rfl (by decide) dX6_pass_66
        · exact (hbd (bdP_in.mpr (by simp [c_1, c_2, c_3, c_4]))).elim

set_option maxHeartbeats 4000000 in
set_option maxRecDepth 100000 in
theorem c_X6_addRoom (l : Launch) (G : GG) (M : Mem) (o : Nat → Int64) (np nr k : Nat) (hO : OKT M np nr k) (a1 a2 a3 b8 : Int32) (hb8 : b8 = if nr < 8 then 1 else 0) (hbd : ¬ bdR a1 a2 a3) (hroom : ¬ frF ((u2 M 46 0 0) 52) a1 b8 nr = 0) : MI l yX6_addRoom cX6_addRoom 6 (some .int) 1 22 G [.ref (adr G 46), .int a1, .int a2, .int a3] M (u2 (u2 (u2 (u2 (u2 (u2 M 46 0 0) 52 nr a1) 53 nr a2) 55 nr a3) 58 nr 3) 46 2 (nI (nr + 1))) o o (nI nr) 0 0 := by
  refine MI_of RX6 rfl (by decide +kernel) (Nat.le_of_ble_eq_true rfl) ?_
  intro p e s m below meth c sz C0 hr hP ls hl
  have hx := C0.1
  have hb := C0.2.1
  have hS : va_S (pA G sz) s.heap s.heap [] := va_S.rf
  have hl : lv_has ls 6 [(0, .ref (adr G 46)), (1, .int a1), (2, .int a2), (3, .int a3)] := hl
  obtain ⟨hnp, hple, hnr, hrle, hk0, hkle, hdz⟩ := okz (v := 0) hO
  refine lv_aload_n hx hb dX6_addRoom_0 rfl (lv_at hl 0 rfl) ?_
  refine lv_iconst (v := 0) hx hb dX6_addRoom_1 (by decide) ?_
  refine pf_X6_49 C0 hP hS (k := 46) (show kd 46 = 6 by decide) dX6_addRoom_2 (fun H locs hP hS => ?_)
  refine lv_iload_n hx hb dX6_addRoom_5 rfl (lv_at hl 1 rfl) ?_
  refine lv_iconst (v := 0) hx hb dX6_addRoom_6 (by decide) ?_
  refine lv_bipush (v := 59) hx hb dX6_addRoom_7 (by decide) ?_
  refine k_SI C0 hP hS (rest := []) (c_X6_isIn l G (u2 M 46 0 0) o a1 0 59) mf_X6_isIn rfl ml_X6_56 hl.1 (by decide) (by decide) (Nat.le_of_ble_eq_true rfl) rfl rfl dX6_addRoom_9 (fun H locs hP hS => ?_)
  refine lv_if_eq (tgt := 35) hx hb dX6_addRoom_12 (by decide) (fun c_1 => ?_) (fun c_1 => ?_)
  · exact (hbd (bdR_in.mpr (by simp [c_1]))).elim
  · refine lv_iload_n hx hb dX6_addRoom_15 rfl (lv_at hl 2 rfl) ?_
    refine lv_iconst (v := 1) hx hb dX6_addRoom_16 (by decide) ?_
    refine lv_bipush (v := 9) hx hb dX6_addRoom_17 (by decide) ?_
    refine k_SI C0 hP hS (rest := []) (c_X6_isIn l G (u2 M 46 0 0) o a2 1 9) mf_X6_isIn rfl ml_X6_56 hl.1 (by decide) (by decide) (Nat.le_of_ble_eq_true rfl) rfl rfl dX6_addRoom_19 (fun H locs hP hS => ?_)
    refine lv_if_eq (tgt := 35) hx hb dX6_addRoom_22 (by decide) (fun c_2 => ?_) (fun c_2 => ?_)
    · exact (hbd (bdR_in.mpr (by simp [c_1, c_2]))).elim
    · refine lv_iload_n hx hb dX6_addRoom_25 rfl (lv_at hl 3 rfl) ?_
      refine lv_iconst (v := 0) hx hb dX6_addRoom_26 (by decide) ?_
      refine lv_bipush (v := 20) hx hb dX6_addRoom_27 (by decide) ?_
      refine k_SI C0 hP hS (rest := []) (c_X6_isIn l G (u2 M 46 0 0) o a3 0 20) mf_X6_isIn rfl ml_X6_56 hl.1 (by decide) (by decide) (Nat.le_of_ble_eq_true rfl) rfl rfl dX6_addRoom_29 (fun H locs hP hS => ?_)
      refine lv_if_ne (tgt := 41) hx hb dX6_addRoom_32 (by decide) (fun c_3 => ?_) (fun c_3 => ?_)
      · refine lv_aload_n hx hb dX6_addRoom_41 rfl (lv_at hl 0 rfl) ?_
        refine gf_X6_53 C0 hP (k := 46) (show kd 46 = 6 by decide) dX6_addRoom_42 ?_
        refine lv_topE (y := nI nr) (hnr) ?_
        refine lv_bipush (v := 8) hx hb dX6_addRoom_45 (by decide) ?_
        refine lv_icmp_ge (tgt := 54) hx hb dX6_addRoom_47 (by decide) (fun c_4 => ?_) (fun c_4 => ?_)
        · exact absurd (frF_no (by rw [hb8, if_neg (fun z => absurd c_4 (mI_nle (a := 8) (b := nr) z (by omega)))])) hroom
        · have h8 : nr < 8 := by
            rcases Nat.lt_or_ge nr 8 with z | z
            · exact z
            · exact absurd (nI_le (a := 8) (b := nr) z (by omega)) c_4
          refine lv_iconst (v := 1) hx hb dX6_addRoom_50 (by decide) ?_
          refine lv_goto (tgt := 55) hx hb dX6_addRoom_51 (by decide) ?_
          refine lv_istore (lv' := [(4, .int 1), (0, .ref (adr G 46)), (1, .int a1), (2, .int a2), (3, .int a3)]) hx hb dX6_addRoom_55 hl (by decide) rfl (fun ls hl => ?_)
          refine lv_iconst (v := 0) hx hb dX6_addRoom_57 (by decide) ?_
          refine lv_istore (lv' := [(5, .int 0), (4, .int 1), (0, .ref (adr G 46)), (1, .int a1), (2, .int a2), (3, .int a3)]) hx hb dX6_addRoom_58 hl (by decide) rfl (fun ls hl => ?_)
          have loop_60 : ∀ (fuel_60 : Nat) (r : Nat) (x : Int32), nr + 1 ≤ r + fuel_60 → (r ≤ nr) → (x = frF ((u2 M 46 0 0) 52) a1 b8 r) → ∀ (H : Heap) (locs : List Loc), PW G (u2 M 46 0 0) o H → va_S (pA G sz) s.heap H locs → ∀ ls : Array Slot, lv_has ls 6 [(5, .int (nI r)), (4, .int x), (0, .ref (adr G 46)), (1, .int a1), (2, .int a2), (3, .int a3)] → W p l e (rmU 1 22 0 0) s m ([.ref (adr G 46), .int a1, .int a2, .int a3] : List Value).toArray below meth c H locs 0 0 (MQ below (QI G (u2 (u2 (u2 (u2 (u2 (u2 M 46 0 0) 52 nr a1) 53 nr a2) 55 nr a3) 58 nr 3) 46 2 (nI (nr + 1))) o (nI nr) sz) ([.ref (adr G 46), .int a1, .int a2, .int a3] : List Value).toArray s 0 0 (pA G sz)) (F0 m 60 ls []) := by
            intro fuel_60
            induction fuel_60 with
            | zero =>
              intro r x hf hr1 hxx
              exact absurd hf (by omega)
            | succ fuel_60 ih_60 =>
              intro r x hf hr1 hxx H locs hP hS ls hl
              refine lv_iload hx hb dX6_addRoom_60 (lv_at hl 0 rfl) ?_
              refine lv_aload_n hx hb dX6_addRoom_62 rfl (lv_at hl 2 rfl) ?_
              refine gf_X6_53 C0 hP (k := 46) (show kd 46 = 6 by decide) dX6_addRoom_63 ?_
              refine lv_topE (y := nI nr) (hnr) ?_
              refine lv_icmp_ge (tgt := 96) hx hb dX6_addRoom_66 (by decide) (fun c_5 => ?_) (fun c_5 => ?_)
              · have hr9 := lp_ge (n := nr) c_5 (by omega) hr1
                refine lv_iload hx hb dX6_addRoom_96 (lv_at hl 1 rfl) ?_
                refine lv_if_ne (tgt := 107) hx hb dX6_addRoom_98 (by decide) (fun c_6 => ?_) (fun c_6 => ?_)
                · refine lv_aload_n hx hb dX6_addRoom_107 rfl (lv_at hl 2 rfl) ?_
                  refine gf_X6_25 C0 hP (k := 46) (show kd 46 = 6 by decide) dX6_addRoom_108 ?_
                  refine lv_aload_n hx hb dX6_addRoom_111 rfl (lv_at hl 2 rfl) ?_
                  refine gf_X6_53 C0 hP (k := 46) (show kd 46 = 6 by decide) dX6_addRoom_112 ?_
                  refine lv_topE (y := nI nr) (hnr) ?_
                  refine lv_iload_n hx hb dX6_addRoom_115 rfl (lv_at hl 3 rfl) ?_
                  refine w_iastN C0 hP hS (k := 52) (i := nr) (show kd 52 = 7 by decide) (show nr < 8 by omega) (by omega) dX6_addRoom_116 (fun H locs hP hS => ?_)
                  refine lv_aload_n hx hb dX6_addRoom_117 rfl (lv_at hl 2 rfl) ?_
                  refine gf_X6_28 C0 hP (k := 46) (show kd 46 = 6 by decide) dX6_addRoom_118 ?_
                  refine lv_aload_n hx hb dX6_addRoom_121 rfl (lv_at hl 2 rfl) ?_
                  refine gf_X6_53 C0 hP (k := 46) (show kd 46 = 6 by decide) dX6_addRoom_122 ?_
                  refine lv_topE (y := nI nr) (by rw [u2_ne (by decide)]; exact hnr) ?_
                  refine lv_iload_n hx hb dX6_addRoom_125 rfl (lv_at hl 4 rfl) ?_
                  refine w_iastN C0 hP hS (k := 53) (i := nr) (show kd 53 = 7 by decide) (show nr < 8 by omega) (by omega) dX6_addRoom_126 (fun H locs hP hS => ?_)
                  refine lv_aload_n hx hb dX6_addRoom_127 rfl (lv_at hl 2 rfl) ?_
                  refine gf_X6_34 C0 hP (k := 46) (show kd 46 = 6 by decide) dX6_addRoom_128 ?_
                  refine lv_aload_n hx hb dX6_addRoom_131 rfl (lv_at hl 2 rfl) ?_
                  refine gf_X6_53 C0 hP (k := 46) (show kd 46 = 6 by decide) dX6_addRoom_132 ?_
                  refine lv_topE (y := nI nr) (by rw [u2_ne (by decide), u2_ne (by decide)]; exact hnr) ?_
                  refine lv_iload_n hx hb dX6_addRoom_135 rfl (lv_at hl 5 rfl) ?_
                  refine w_iastN C0 hP hS (k := 55) (i := nr) (show kd 55 = 7 by decide) (show nr < 8 by omega) (by omega) dX6_addRoom_136 (fun H locs hP hS => ?_)
                  refine lv_aload_n hx hb dX6_addRoom_137 rfl (lv_at hl 2 rfl) ?_
                  refine gf_X6_42 C0 hP (k := 46) (show kd 46 = 6 by decide) dX6_addRoom_138 ?_
                  refine gf_X6_70 C0 hP (k := 56) (show kd 56 = 5 by decide) dX6_addRoom_141 ?_
                  refine lv_aload_n hx hb dX6_addRoom_144 rfl (lv_at hl 2 rfl) ?_
                  refine gf_X6_53 C0 hP (k := 46) (show kd 46 = 6 by decide) dX6_addRoom_145 ?_
                  refine lv_topE (y := nI nr) (by rw [u2_ne (by decide), u2_ne (by decide), u2_ne (by decide)]; exact hnr) ?_
                  refine lv_iconst (v := 3) hx hb dX6_addRoom_148 (by decide) ?_
                  refine w_iastN C0 hP hS (k := 56 + 2) (i := nr) (kdT2 (Or.inl rfl)) (by rw [lnT2 (Or.inl rfl)]; omega) (by omega) dX6_addRoom_149 (fun H locs hP hS => ?_)
                  refine lv_aload_n hx hb dX6_addRoom_150 rfl (lv_at hl 2 rfl) ?_
                  refine lv_dup hx hb dX6_addRoom_151 rfl ?_
                  refine gf_X6_53 C0 hP (k := 46) (show kd 46 = 6 by decide) dX6_addRoom_152 ?_
                  refine lv_topE (y := nI nr) (by rw [u2_ne (by decide), u2_ne (by decide), u2_ne (by decide), u2_ne (by decide)]; exact hnr) ?_
                  refine lv_iconst (v := 1) hx hb dX6_addRoom_155 (by decide) ?_
                  refine lv_iadd hx hb dX6_addRoom_156 ?_
                  refine lv_topE (y := nI (nr + 1)) (nI_1 nr) ?_
                  refine pf_X6_53 C0 hP hS (k := 46) (show kd 46 = 6 by decide) dX6_addRoom_157 (fun H locs hP hS => ?_)
                  refine lv_aload_n hx hb dX6_addRoom_160 rfl (lv_at hl 2 rfl) ?_
                  refine gf_X6_53 C0 hP (k := 46) (show kd 46 = 6 by decide) dX6_addRoom_161 ?_
                  refine lv_topE (y := nI (nr + 1)) (u2_at) ?_
                  refine lv_iconst (v := 1) hx hb dX6_addRoom_164 (by decide) ?_
                  refine lv_isub hx hb dX6_addRoom_165 ?_
                  exact e_Ii C0 hr hP hS (nI_p1 nr) (by decide) dX6_addRoom_166
                · exact absurd (by rw [← hr9, ← hxx]; exact c_6) hroom
              · have hrt := lp_lt (n := nr) c_5 (by omega) hr1
                refine lv_iload hx hb dX6_addRoom_69 (lv_at hl 1 rfl) ?_
                refine lv_aload_n hx hb dX6_addRoom_71 rfl (lv_at hl 2 rfl) ?_
                refine gf_X6_25 C0 hP (k := 46) (show kd 46 = 6 by decide) dX6_addRoom_72 ?_
                refine lv_iload hx hb dX6_addRoom_75 (lv_at hl 0 rfl) ?_
                refine w_ialdN C0 hP (k := 52) (i := r) (show kd 52 = 7 by decide) (show r < 8 by omega) (by omega) dX6_addRoom_77 ?_
                refine lv_iload_n hx hb dX6_addRoom_78 rfl (lv_at hl 3 rfl) ?_
                refine lv_icmp_eq (tgt := 86) hx hb dX6_addRoom_79 (by decide) (fun c_7 => ?_) (fun c_7 => ?_)
                · refine lv_iconst (v := 0) hx hb dX6_addRoom_86 (by decide) ?_
                  refine lv_iand hx hb dX6_addRoom_87 ?_
                  refine lv_istore (lv' := [(4, .int (x &&& 0)), (5, .int (nI r)), (0, .ref (adr G 46)), (1, .int a1), (2, .int a2), (3, .int a3)]) hx hb dX6_addRoom_88 hl (by decide) rfl (fun ls hl => ?_)
                  refine lv_iinc (v := nI (r + 1)) (lv' := [(5, .int (nI (r + 1))), (4, .int (x &&& 0)), (0, .ref (adr G 46)), (1, .int a1), (2, .int a2), (3, .int a3)]) hx hb dX6_addRoom_90 hl (k := 1) rfl (nI_1 r) (by decide) rfl (fun ls hl => ?_)
                  refine lv_goto (tgt := 60) hx hb dX6_addRoom_93 (by decide) ?_
                  exact ih_60 (r + 1) _ (by omega) (by omega) (by rw [hxx, frF]; first | rw [if_pos c_7] | rw [if_neg c_7]) _ _ hP hS _ (lv_sub hl [0, 1, 2, 3, 4, 5] rfl)
                · refine lv_iconst (v := 1) hx hb dX6_addRoom_82 (by decide) ?_
                  refine lv_goto (tgt := 87) hx hb dX6_addRoom_83 (by decide) ?_
                  refine lv_iand hx hb dX6_addRoom_87 ?_
                  refine lv_istore (lv' := [(4, .int (x &&& 1)), (5, .int (nI r)), (0, .ref (adr G 46)), (1, .int a1), (2, .int a2), (3, .int a3)]) hx hb dX6_addRoom_88 hl (by decide) rfl (fun ls hl => ?_)
                  refine lv_iinc (v := nI (r + 1)) (lv' := [(5, .int (nI (r + 1))), (4, .int (x &&& 1)), (0, .ref (adr G 46)), (1, .int a1), (2, .int a2), (3, .int a3)]) hx hb dX6_addRoom_90 hl (k := 1) rfl (nI_1 r) (by decide) rfl (fun ls hl => ?_)
                  refine lv_goto (tgt := 60) hx hb dX6_addRoom_93 (by decide) ?_
                  exact ih_60 (r + 1) _ (by omega) (by omega) (by rw [hxx, frF]; first | rw [if_pos c_7] | rw [if_neg c_7]) _ _ hP hS _ (lv_sub hl [0, 1, 2, 3, 4, 5] rfl)
          exact loop_60 (nr + 1) 0 _ (by omega) (by omega) (by rw [frF, hb8]; simp [h8]) _ _ hP hS _ (lv_sub hl [0, 1, 2, 3, 4, 5] rfl)
      · exact (hbd (bdR_in.mpr (by simp [c_1, c_2, c_3]))).elim

set_option maxHeartbeats 4000000 in
set_option maxRecDepth 100000 in
theorem c_X6_addRoom_a (l : Launch) (G : GG) (M : Mem) (o : Nat → Int64) (np nr k : Nat) (hO : OKT M np nr k) (a1 a2 a3 : Int32) (hbd : bdR a1 a2 a3) : MI l yX6_addRoom cX6_addRoom 6 (some .int) 1 22 G [.ref (adr G 46), .int a1, .int a2, .int a3] M (u2 (u2 M 46 0 0) 46 0 1) o o 0 0 0 := by
  refine MI_of RX6 rfl (by decide +kernel) (Nat.le_of_ble_eq_true rfl) ?_
  intro p e s m below meth c sz C0 hr hP ls hl
  have hx := C0.1
  have hb := C0.2.1
  have hS : va_S (pA G sz) s.heap s.heap [] := va_S.rf
  have hl : lv_has ls 6 [(0, .ref (adr G 46)), (1, .int a1), (2, .int a2), (3, .int a3)] := hl
  obtain ⟨hnp, hple, hnr, hrle, hk0, hkle, hdz⟩ := okz (v := 0) hO
  refine lv_aload_n hx hb dX6_addRoom_0 rfl (lv_at hl 0 rfl) ?_
  refine lv_iconst (v := 0) hx hb dX6_addRoom_1 (by decide) ?_
  refine pf_X6_49 C0 hP hS (k := 46) (show kd 46 = 6 by decide) dX6_addRoom_2 (fun H locs hP hS => ?_)
  refine lv_iload_n hx hb dX6_addRoom_5 rfl (lv_at hl 1 rfl) ?_
  refine lv_iconst (v := 0) hx hb dX6_addRoom_6 (by decide) ?_
  refine lv_bipush (v := 59) hx hb dX6_addRoom_7 (by decide) ?_
  refine k_SI C0 hP hS (rest := []) (c_X6_isIn l G (u2 M 46 0 0) o a1 0 59) mf_X6_isIn rfl ml_X6_56 hl.1 (by decide) (by decide) (Nat.le_of_ble_eq_true rfl) rfl rfl dX6_addRoom_9 (fun H locs hP hS => ?_)
  refine lv_if_eq (tgt := 35) hx hb dX6_addRoom_12 (by decide) (fun c_1 => ?_) (fun c_1 => ?_)
  · refine lv_aload_n hx hb dX6_addRoom_35 rfl (lv_at hl 0 rfl) ?_
    refine lv_iconst (v := 1) hx hb dX6_addRoom_36 (by decide) ?_
    refine k_VI C0 hP hS (rest := []) (c_X6_no l G (u2 M 46 0 0) o 1) mf_X6_no ml_X6_63 (kd_lt (show kd 46 = 6 by decide) (by decide)) (ct_6 (show kd 46 = 6 by decide)) rfl hl.1 (by decide) (by decide) (Nat.le_of_ble_eq_true rfl) rfl rfl dX6_addRoom_37 (fun H locs hP hS => ?_)
    exact e_Ii C0 hr hP hS rfl (by decide) dX6_addRoom_40
  · refine lv_iload_n hx hb dX6_addRoom_15 rfl (lv_at hl 2 rfl) ?_
    refine lv_iconst (v := 1) hx hb dX6_addRoom_16 (by decide) ?_
    refine lv_bipush (v := 9) hx hb dX6_addRoom_17 (by decide) ?_
    refine k_SI C0 hP hS (rest := []) (c_X6_isIn l G (u2 M 46 0 0) o a2 1 9) mf_X6_isIn rfl ml_X6_56 hl.1 (by decide) (by decide) (Nat.le_of_ble_eq_true rfl) rfl rfl dX6_addRoom_19 (fun H locs hP hS => ?_)
    refine lv_if_eq (tgt := 35) hx hb dX6_addRoom_22 (by decide) (fun c_2 => ?_) (fun c_2 => ?_)
    · refine lv_aload_n hx hb dX6_addRoom_35 rfl (lv_at hl 0 rfl) ?_
      refine lv_iconst (v := 1) hx hb dX6_addRoom_36 (by decide) ?_
      refine k_VI C0 hP hS (rest := []) (c_X6_no l G (u2 M 46 0 0) o 1) mf_X6_no ml_X6_63 (kd_lt (show kd 46 = 6 by decide) (by decide)) (ct_6 (show kd 46 = 6 by decide)) rfl hl.1 (by decide) (by decide) (Nat.le_of_ble_eq_true rfl) rfl rfl dX6_addRoom_37 (fun H locs hP hS => ?_)
      exact e_Ii C0 hr hP hS rfl (by decide) dX6_addRoom_40
    · refine lv_iload_n hx hb dX6_addRoom_25 rfl (lv_at hl 3 rfl) ?_
      refine lv_iconst (v := 0) hx hb dX6_addRoom_26 (by decide) ?_
      refine lv_bipush (v := 20) hx hb dX6_addRoom_27 (by decide) ?_
      refine k_SI C0 hP hS (rest := []) (c_X6_isIn l G (u2 M 46 0 0) o a3 0 20) mf_X6_isIn rfl ml_X6_56 hl.1 (by decide) (by decide) (Nat.le_of_ble_eq_true rfl) rfl rfl dX6_addRoom_29 (fun H locs hP hS => ?_)
      refine lv_if_ne (tgt := 41) hx hb dX6_addRoom_32 (by decide) (fun c_3 => ?_) (fun c_3 => ?_)
      · exact absurd (bdR_in.mp hbd) (by simp [c_1, c_2, c_3])
      · refine lv_aload_n hx hb dX6_addRoom_35 rfl (lv_at hl 0 rfl) ?_
        refine lv_iconst (v := 1) hx hb dX6_addRoom_36 (by decide) ?_
        refine k_VI C0 hP hS (rest := []) (c_X6_no l G (u2 M 46 0 0) o 1) mf_X6_no ml_X6_63 (kd_lt (show kd 46 = 6 by decide) (by decide)) (ct_6 (show kd 46 = 6 by decide)) rfl hl.1 (by decide) (by decide) (Nat.le_of_ble_eq_true rfl) rfl rfl dX6_addRoom_37 (fun H locs hP hS => ?_)
        exact e_Ii C0 hr hP hS rfl (by decide) dX6_addRoom_40

set_option maxHeartbeats 4000000 in
set_option maxRecDepth 100000 in
theorem c_X6_addRoom_s (l : Launch) (G : GG) (M : Mem) (o : Nat → Int64) (np nr k : Nat) (hO : OKT M np nr k) (a1 a2 a3 b8 : Int32) (hb8 : b8 = if nr < 8 then 1 else 0) (hbd : ¬ bdR a1 a2 a3) (hroom : frF ((u2 M 46 0 0) 52) a1 b8 nr = 0) : MI l yX6_addRoom cX6_addRoom 6 (some .int) 1 22 G [.ref (adr G 46), .int a1, .int a2, .int a3] M (u2 (u2 M 46 0 0) 46 0 2) o o 0 0 0 := by
  refine MI_of RX6 rfl (by decide +kernel) (Nat.le_of_ble_eq_true rfl) ?_
  intro p e s m below meth c sz C0 hr hP ls hl
  have hx := C0.1
  have hb := C0.2.1
  have hS : va_S (pA G sz) s.heap s.heap [] := va_S.rf
  have hl : lv_has ls 6 [(0, .ref (adr G 46)), (1, .int a1), (2, .int a2), (3, .int a3)] := hl
  obtain ⟨hnp, hple, hnr, hrle, hk0, hkle, hdz⟩ := okz (v := 0) hO
  refine lv_aload_n hx hb dX6_addRoom_0 rfl (lv_at hl 0 rfl) ?_
  refine lv_iconst (v := 0) hx hb dX6_addRoom_1 (by decide) ?_
  refine pf_X6_49 C0 hP hS (k := 46) (show kd 46 = 6 by decide) dX6_addRoom_2 (fun H locs hP hS => ?_)
  refine lv_iload_n hx hb dX6_addRoom_5 rfl (lv_at hl 1 rfl) ?_
  refine lv_iconst (v := 0) hx hb dX6_addRoom_6 (by decide) ?_
  refine lv_bipush (v := 59) hx hb dX6_addRoom_7 (by decide) ?_
  refine k_SI C0 hP hS (rest := []) (c_X6_isIn l G (u2 M 46 0 0) o a1 0 59) mf_X6_isIn rfl ml_X6_56 hl.1 (by decide) (by decide) (Nat.le_of_ble_eq_true rfl) rfl rfl dX6_addRoom_9 (fun H locs hP hS => ?_)
  refine lv_if_eq (tgt := 35) hx hb dX6_addRoom_12 (by decide) (fun c_1 => ?_) (fun c_1 => ?_)
  · exact (hbd (bdR_in.mpr (by simp [c_1]))).elim
  · refine lv_iload_n hx hb dX6_addRoom_15 rfl (lv_at hl 2 rfl) ?_
    refine lv_iconst (v := 1) hx hb dX6_addRoom_16 (by decide) ?_
    refine lv_bipush (v := 9) hx hb dX6_addRoom_17 (by decide) ?_
    refine k_SI C0 hP hS (rest := []) (c_X6_isIn l G (u2 M 46 0 0) o a2 1 9) mf_X6_isIn rfl ml_X6_56 hl.1 (by decide) (by decide) (Nat.le_of_ble_eq_true rfl) rfl rfl dX6_addRoom_19 (fun H locs hP hS => ?_)
    refine lv_if_eq (tgt := 35) hx hb dX6_addRoom_22 (by decide) (fun c_2 => ?_) (fun c_2 => ?_)
    · exact (hbd (bdR_in.mpr (by simp [c_1, c_2]))).elim
    · refine lv_iload_n hx hb dX6_addRoom_25 rfl (lv_at hl 3 rfl) ?_
      refine lv_iconst (v := 0) hx hb dX6_addRoom_26 (by decide) ?_
      refine lv_bipush (v := 20) hx hb dX6_addRoom_27 (by decide) ?_
      refine k_SI C0 hP hS (rest := []) (c_X6_isIn l G (u2 M 46 0 0) o a3 0 20) mf_X6_isIn rfl ml_X6_56 hl.1 (by decide) (by decide) (Nat.le_of_ble_eq_true rfl) rfl rfl dX6_addRoom_29 (fun H locs hP hS => ?_)
      refine lv_if_ne (tgt := 41) hx hb dX6_addRoom_32 (by decide) (fun c_3 => ?_) (fun c_3 => ?_)
      · refine lv_aload_n hx hb dX6_addRoom_41 rfl (lv_at hl 0 rfl) ?_
        refine gf_X6_53 C0 hP (k := 46) (show kd 46 = 6 by decide) dX6_addRoom_42 ?_
        refine lv_topE (y := nI nr) (hnr) ?_
        refine lv_bipush (v := 8) hx hb dX6_addRoom_45 (by decide) ?_
        refine lv_icmp_ge (tgt := 54) hx hb dX6_addRoom_47 (by decide) (fun c_4 => ?_) (fun c_4 => ?_)
        · have h8 : ¬ nr < 8 := fun z => absurd c_4 (mI_nle (a := 8) (b := nr) z (by omega))
          refine lv_iconst (v := 0) hx hb dX6_addRoom_54 (by decide) ?_
          refine lv_istore (lv' := [(4, .int 0), (0, .ref (adr G 46)), (1, .int a1), (2, .int a2), (3, .int a3)]) hx hb dX6_addRoom_55 hl (by decide) rfl (fun ls hl => ?_)
          refine lv_iconst (v := 0) hx hb dX6_addRoom_57 (by decide) ?_
          refine lv_istore (lv' := [(5, .int 0), (4, .int 0), (0, .ref (adr G 46)), (1, .int a1), (2, .int a2), (3, .int a3)]) hx hb dX6_addRoom_58 hl (by decide) rfl (fun ls hl => ?_)
          have loop_60 : ∀ (fuel_60 : Nat) (r : Nat) (x : Int32), nr + 1 ≤ r + fuel_60 → (r ≤ nr) → (x = frF ((u2 M 46 0 0) 52) a1 b8 r) → ∀ (H : Heap) (locs : List Loc), PW G (u2 M 46 0 0) o H → va_S (pA G sz) s.heap H locs → ∀ ls : Array Slot, lv_has ls 6 [(5, .int (nI r)), (4, .int x), (0, .ref (adr G 46)), (1, .int a1), (2, .int a2), (3, .int a3)] → W p l e (rmU 1 22 0 0) s m ([.ref (adr G 46), .int a1, .int a2, .int a3] : List Value).toArray below meth c H locs 0 0 (MQ below (QI G (u2 (u2 M 46 0 0) 46 0 2) o 0 sz) ([.ref (adr G 46), .int a1, .int a2, .int a3] : List Value).toArray s 0 0 (pA G sz)) (F0 m 60 ls []) := by
            intro fuel_60
            induction fuel_60 with
            | zero =>
              intro r x hf hr1 hxx
              exact absurd hf (by omega)
            | succ fuel_60 ih_60 =>
              intro r x hf hr1 hxx H locs hP hS ls hl
              refine lv_iload hx hb dX6_addRoom_60 (lv_at hl 0 rfl) ?_
              refine lv_aload_n hx hb dX6_addRoom_62 rfl (lv_at hl 2 rfl) ?_
              refine gf_X6_53 C0 hP (k := 46) (show kd 46 = 6 by decide) dX6_addRoom_63 ?_
              refine lv_topE (y := nI nr) (hnr) ?_
              refine lv_icmp_ge (tgt := 96) hx hb dX6_addRoom_66 (by decide) (fun c_5 => ?_) (fun c_5 => ?_)
              · have hr9 := lp_ge (n := nr) c_5 (by omega) hr1
                refine lv_iload hx hb dX6_addRoom_96 (lv_at hl 1 rfl) ?_
                refine lv_if_ne (tgt := 107) hx hb dX6_addRoom_98 (by decide) (fun c_6 => ?_) (fun c_6 => ?_)
                · exact absurd (by rw [hxx, hr9]; exact hroom) c_6
                · refine lv_aload_n hx hb dX6_addRoom_101 rfl (lv_at hl 2 rfl) ?_
                  refine lv_iconst (v := 2) hx hb dX6_addRoom_102 (by decide) ?_
                  refine k_VI C0 hP hS (rest := []) (c_X6_no l G (u2 M 46 0 0) o 2) mf_X6_no ml_X6_63 (kd_lt (show kd 46 = 6 by decide) (by decide)) (ct_6 (show kd 46 = 6 by decide)) rfl hl.1 (by decide) (by decide) (Nat.le_of_ble_eq_true rfl) rfl rfl dX6_addRoom_103 (fun H locs hP hS => ?_)
                  exact e_Ii C0 hr hP hS rfl (by decide) dX6_addRoom_106
              · have hrt := lp_lt (n := nr) c_5 (by omega) hr1
                refine lv_iload hx hb dX6_addRoom_69 (lv_at hl 1 rfl) ?_
                refine lv_aload_n hx hb dX6_addRoom_71 rfl (lv_at hl 2 rfl) ?_
                refine gf_X6_25 C0 hP (k := 46) (show kd 46 = 6 by decide) dX6_addRoom_72 ?_
                refine lv_iload hx hb dX6_addRoom_75 (lv_at hl 0 rfl) ?_
                refine w_ialdN C0 hP (k := 52) (i := r) (show kd 52 = 7 by decide) (show r < 8 by omega) (by omega) dX6_addRoom_77 ?_
                refine lv_iload_n hx hb dX6_addRoom_78 rfl (lv_at hl 3 rfl) ?_
                refine lv_icmp_eq (tgt := 86) hx hb dX6_addRoom_79 (by decide) (fun c_7 => ?_) (fun c_7 => ?_)
                · refine lv_iconst (v := 0) hx hb dX6_addRoom_86 (by decide) ?_
                  refine lv_iand hx hb dX6_addRoom_87 ?_
                  refine lv_istore (lv' := [(4, .int (x &&& 0)), (5, .int (nI r)), (0, .ref (adr G 46)), (1, .int a1), (2, .int a2), (3, .int a3)]) hx hb dX6_addRoom_88 hl (by decide) rfl (fun ls hl => ?_)
                  refine lv_iinc (v := nI (r + 1)) (lv' := [(5, .int (nI (r + 1))), (4, .int (x &&& 0)), (0, .ref (adr G 46)), (1, .int a1), (2, .int a2), (3, .int a3)]) hx hb dX6_addRoom_90 hl (k := 1) rfl (nI_1 r) (by decide) rfl (fun ls hl => ?_)
                  refine lv_goto (tgt := 60) hx hb dX6_addRoom_93 (by decide) ?_
                  exact ih_60 (r + 1) _ (by omega) (by omega) (by rw [hxx, frF]; first | rw [if_pos c_7] | rw [if_neg c_7]) _ _ hP hS _ (lv_sub hl [0, 1, 2, 3, 4, 5] rfl)
                · refine lv_iconst (v := 1) hx hb dX6_addRoom_82 (by decide) ?_
                  refine lv_goto (tgt := 87) hx hb dX6_addRoom_83 (by decide) ?_
                  refine lv_iand hx hb dX6_addRoom_87 ?_
                  refine lv_istore (lv' := [(4, .int (x &&& 1)), (5, .int (nI r)), (0, .ref (adr G 46)), (1, .int a1), (2, .int a2), (3, .int a3)]) hx hb dX6_addRoom_88 hl (by decide) rfl (fun ls hl => ?_)
                  refine lv_iinc (v := nI (r + 1)) (lv' := [(5, .int (nI (r + 1))), (4, .int (x &&& 1)), (0, .ref (adr G 46)), (1, .int a1), (2, .int a2), (3, .int a3)]) hx hb dX6_addRoom_90 hl (k := 1) rfl (nI_1 r) (by decide) rfl (fun ls hl => ?_)
                  refine lv_goto (tgt := 60) hx hb dX6_addRoom_93 (by decide) ?_
                  exact ih_60 (r + 1) _ (by omega) (by omega) (by rw [hxx, frF]; first | rw [if_pos c_7] | rw [if_neg c_7]) _ _ hP hS _ (lv_sub hl [0, 1, 2, 3, 4, 5] rfl)
          exact loop_60 (nr + 1) 0 _ (by omega) (by omega) (by rw [frF, hb8]; simp [h8]) _ _ hP hS _ (lv_sub hl [0, 1, 2, 3, 4, 5] rfl)
        · have h8 : nr < 8 := by
            rcases Nat.lt_or_ge nr 8 with z | z
            · exact z
            · exact absurd (nI_le (a := 8) (b := nr) z (by omega)) c_4
          refine lv_iconst (v := 1) hx hb dX6_addRoom_50 (by decide) ?_
          refine lv_goto (tgt := 55) hx hb dX6_addRoom_51 (by decide) ?_
          refine lv_istore (lv' := [(4, .int 1), (0, .ref (adr G 46)), (1, .int a1), (2, .int a2), (3, .int a3)]) hx hb dX6_addRoom_55 hl (by decide) rfl (fun ls hl => ?_)
          refine lv_iconst (v := 0) hx hb dX6_addRoom_57 (by decide) ?_
          refine lv_istore (lv' := [(5, .int 0), (4, .int 1), (0, .ref (adr G 46)), (1, .int a1), (2, .int a2), (3, .int a3)]) hx hb dX6_addRoom_58 hl (by decide) rfl (fun ls hl => ?_)
          have loop_60 : ∀ (fuel_60 : Nat) (r : Nat) (x : Int32), nr + 1 ≤ r + fuel_60 → (r ≤ nr) → (x = frF ((u2 M 46 0 0) 52) a1 b8 r) → ∀ (H : Heap) (locs : List Loc), PW G (u2 M 46 0 0) o H → va_S (pA G sz) s.heap H locs → ∀ ls : Array Slot, lv_has ls 6 [(5, .int (nI r)), (4, .int x), (0, .ref (adr G 46)), (1, .int a1), (2, .int a2), (3, .int a3)] → W p l e (rmU 1 22 0 0) s m ([.ref (adr G 46), .int a1, .int a2, .int a3] : List Value).toArray below meth c H locs 0 0 (MQ below (QI G (u2 (u2 M 46 0 0) 46 0 2) o 0 sz) ([.ref (adr G 46), .int a1, .int a2, .int a3] : List Value).toArray s 0 0 (pA G sz)) (F0 m 60 ls []) := by
            intro fuel_60
            induction fuel_60 with
            | zero =>
              intro r x hf hr1 hxx
              exact absurd hf (by omega)
            | succ fuel_60 ih_60 =>
              intro r x hf hr1 hxx H locs hP hS ls hl
              refine lv_iload hx hb dX6_addRoom_60 (lv_at hl 0 rfl) ?_
              refine lv_aload_n hx hb dX6_addRoom_62 rfl (lv_at hl 2 rfl) ?_
              refine gf_X6_53 C0 hP (k := 46) (show kd 46 = 6 by decide) dX6_addRoom_63 ?_
              refine lv_topE (y := nI nr) (hnr) ?_
              refine lv_icmp_ge (tgt := 96) hx hb dX6_addRoom_66 (by decide) (fun c_8 => ?_) (fun c_8 => ?_)
              · have hr9 := lp_ge (n := nr) c_8 (by omega) hr1
                refine lv_iload hx hb dX6_addRoom_96 (lv_at hl 1 rfl) ?_
                refine lv_if_ne (tgt := 107) hx hb dX6_addRoom_98 (by decide) (fun c_9 => ?_) (fun c_9 => ?_)
                · exact absurd (by rw [hxx, hr9]; exact hroom) c_9
                · refine lv_aload_n hx hb dX6_addRoom_101 rfl (lv_at hl 2 rfl) ?_
                  refine lv_iconst (v := 2) hx hb dX6_addRoom_102 (by decide) ?_
                  refine k_VI C0 hP hS (rest := []) (c_X6_no l G (u2 M 46 0 0) o 2) mf_X6_no ml_X6_63 (kd_lt (show kd 46 = 6 by decide) (by decide)) (ct_6 (show kd 46 = 6 by decide)) rfl hl.1 (by decide) (by decide) (Nat.le_of_ble_eq_true rfl) rfl rfl dX6_addRoom_103 (fun H locs hP hS => ?_)
                  exact e_Ii C0 hr hP hS rfl (by decide) dX6_addRoom_106
              · have hrt := lp_lt (n := nr) c_8 (by omega) hr1
                refine lv_iload hx hb dX6_addRoom_69 (lv_at hl 1 rfl) ?_
                refine lv_aload_n hx hb dX6_addRoom_71 rfl (lv_at hl 2 rfl) ?_
                refine gf_X6_25 C0 hP (k := 46) (show kd 46 = 6 by decide) dX6_addRoom_72 ?_
                refine lv_iload hx hb dX6_addRoom_75 (lv_at hl 0 rfl) ?_
                refine w_ialdN C0 hP (k := 52) (i := r) (show kd 52 = 7 by decide) (show r < 8 by omega) (by omega) dX6_addRoom_77 ?_
                refine lv_iload_n hx hb dX6_addRoom_78 rfl (lv_at hl 3 rfl) ?_
                refine lv_icmp_eq (tgt := 86) hx hb dX6_addRoom_79 (by decide) (fun c_10 => ?_) (fun c_10 => ?_)
                · refine lv_iconst (v := 0) hx hb dX6_addRoom_86 (by decide) ?_
                  refine lv_iand hx hb dX6_addRoom_87 ?_
                  refine lv_istore (lv' := [(4, .int (x &&& 0)), (5, .int (nI r)), (0, .ref (adr G 46)), (1, .int a1), (2, .int a2), (3, .int a3)]) hx hb dX6_addRoom_88 hl (by decide) rfl (fun ls hl => ?_)
                  refine lv_iinc (v := nI (r + 1)) (lv' := [(5, .int (nI (r + 1))), (4, .int (x &&& 0)), (0, .ref (adr G 46)), (1, .int a1), (2, .int a2), (3, .int a3)]) hx hb dX6_addRoom_90 hl (k := 1) rfl (nI_1 r) (by decide) rfl (fun ls hl => ?_)
                  refine lv_goto (tgt := 60) hx hb dX6_addRoom_93 (by decide) ?_
                  exact ih_60 (r + 1) _ (by omega) (by omega) (by rw [hxx, frF]; first | rw [if_pos c_10] | rw [if_neg c_10]) _ _ hP hS _ (lv_sub hl [0, 1, 2, 3, 4, 5] rfl)
                · refine lv_iconst (v := 1) hx hb dX6_addRoom_82 (by decide) ?_
                  refine lv_goto (tgt := 87) hx hb dX6_addRoom_83 (by decide) ?_
                  refine lv_iand hx hb dX6_addRoom_87 ?_
                  refine lv_istore (lv' := [(4, .int (x &&& 1)), (5, .int (nI r)), (0, .ref (adr G 46)), (1, .int a1), (2, .int a2), (3, .int a3)]) hx hb dX6_addRoom_88 hl (by decide) rfl (fun ls hl => ?_)
                  refine lv_iinc (v := nI (r + 1)) (lv' := [(5, .int (nI (r + 1))), (4, .int (x &&& 1)), (0, .ref (adr G 46)), (1, .int a1), (2, .int a2), (3, .int a3)]) hx hb dX6_addRoom_90 hl (k := 1) rfl (nI_1 r) (by decide) rfl (fun ls hl => ?_)
                  refine lv_goto (tgt := 60) hx hb dX6_addRoom_93 (by decide) ?_
                  exact ih_60 (r + 1) _ (by omega) (by omega) (by rw [hxx, frF]; first | rw [if_pos c_10] | rw [if_neg c_10]) _ _ hP hS _ (lv_sub hl [0, 1, 2, 3, 4, 5] rfl)
          exact loop_60 (nr + 1) 0 _ (by omega) (by omega) (by rw [frF, hb8]; simp [h8]) _ _ hP hS _ (lv_sub hl [0, 1, 2, 3, 4, 5] rfl)
      · exact (hbd (bdR_in.mpr (by simp [c_1, c_2, c_3]))).elim

set_option maxHeartbeats 4000000 in
set_option maxRecDepth 100000 in
theorem c_X6_mean (l : Launch) (G : GG) (M : Mem) (o : Nat → Int64) (np nr k : Nat) (hO : OKT M np nr k)  : MD l yX6_mean cX6_mean 1 (some .double) 1 22 G [.ref (adr G 46)] M (u2 M 46 0 0) o o (if k = 0 then FP.dconst0 else FP.ddiv (FP.i2d (sumF ((u2 M 46 0 0) 60) nr)) (FP.i2d (nI k))) 0 0 := by
  refine MD_of RX6 rfl (by decide +kernel) (Nat.le_of_ble_eq_true rfl) ?_
  intro p e s m below meth c sz C0 hr hP ls hl
  have hx := C0.1
  have hb := C0.2.1
  have hS : va_S (pA G sz) s.heap s.heap [] := va_S.rf
  have hl : lv_has ls 1 [(0, .ref (adr G 46))] := hl
  obtain ⟨hnp, hple, hnr, hrle, hk0, hkle, hdz⟩ := okz (v := 0) hO
  refine lv_aload_n hx hb dX6_mean_0 rfl (lv_at hl 0 rfl) ?_
  refine lv_iconst (v := 0) hx hb dX6_mean_1 (by decide) ?_
  refine pf_X6_49 C0 hP hS (k := 46) (show kd 46 = 6 by decide) dX6_mean_2 (fun H locs hP hS => ?_)
  refine lv_aload_n hx hb dX6_mean_5 rfl (lv_at hl 0 rfl) ?_
  refine gf_X6_42 C0 hP (k := 46) (show kd 46 = 6 by decide) dX6_mean_6 ?_
  refine gf_X6_106 C0 hP (k := 56) (show kd 56 = 5 by decide) dX6_mean_9 ?_
  refine lv_topE (y := nI k) (hk0) ?_
  refine lv_if_ne (tgt := 19) hx hb dX6_mean_12 (by decide) (fun c_1 => ?_) (fun c_1 => ?_)
  · have hk3 : k ≠ 0 := fun z => c_1 (by rw [z]; rfl)
    have hkz : nI k ≠ 0 := c_1
    refine lv_aload_n hx hb dX6_mean_19 rfl (lv_at hl 0 rfl) ?_
    refine gf_X6_42 C0 hP (k := 46) (show kd 46 = 6 by decide) dX6_mean_20 ?_
    refine k_VI C0 hP hS (rest := []) (c_X5_paidInAll l G (u2 M 46 0 0) o 56 (Or.inl rfl) nr hnr hrle) mf_X5_paidInAll ml_X6_119 (kd_lt (show kd 56 = 5 by decide) (by decide)) (ct_5 (show kd 56 = 5 by decide)) rfl hl.1 (by decide) (by decide) (Nat.le_of_ble_eq_true rfl) rfl rfl dX6_mean_23 (fun H locs hP hS => ?_)
    refine lv_i2d hx hb dX6_mean_26 ?_
    refine lv_aload_n hx hb dX6_mean_27 rfl (lv_at hl 0 rfl) ?_
    refine gf_X6_42 C0 hP (k := 46) (show kd 46 = 6 by decide) dX6_mean_28 ?_
    refine gf_X6_106 C0 hP (k := 56) (show kd 56 = 5 by decide) dX6_mean_31 ?_
    refine lv_topE (y := nI k) (hk0) ?_
    refine lv_i2d hx hb dX6_mean_34 ?_
    refine lv_ddiv hx hb dX6_mean_35 (dv_num hkz) ?_
    exact e_D C0 hr hP hS (by simp [hk3]) (by decide) dX6_mean_36
  · have hk3 : k = 0 := (nI_eq (b := 0) (by omega) (by omega)).mp c_1
    refine lv_dconst0 hx hb dX6_mean_15 ?_
    refine lv_goto (tgt := 36) hx hb dX6_mean_16 (by decide) ?_
    exact e_D C0 hr hP hS (by simp [hk3]) (by decide) dX6_mean_36
end MO2
