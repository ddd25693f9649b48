section MO2
def OKT (M : Mem) (np nr k : Nat) : Prop := M 46 1 = nI np ∧ np ≤ 10 ∧ M 46 2 = nI nr ∧ nr ≤ 8 ∧ M 56 0 = nI k ∧ k ≤ 720 ∧ ∀ r, r < nr → 10 * M 53 r * M 53 r ≠ 0
theorem okz {M : Mem} {np nr k : Nat} {v : Int32} (h : OKT M np nr k) : OKT (u2 M 46 0 v) np nr k := by
  obtain ⟨h1, h2, h3, h4, h5, h6, h7⟩ := h
  refine ⟨?_, h2, ?_, h4, ?_, h6, fun r hr => ?_⟩
  · rw [u2_sl (by decide)]; exact h1
  · rw [u2_sl (by decide)]; exact h3
  · rw [u2_ne (by decide)]; exact h5
  · rw [u2_ne (by decide)]; exact h7 r hr
theorem inF_0 {x a b : Int32} : inF x a b = 0 ↔ x < a ∨ b < x := by
  unfold inF
  by_cases h : x < a
  · simp [h]
  · by_cases h2 : b < x
    · simp [h, h2]
    · simp [h, h2]
theorem inF01 (x a b : Int32) : inF x a b = 0 ∨ inF x a b = 1 := by
  unfold inF
  split
  · exact Or.inl rfl
  · split
    · exact Or.inl rfl
    · exact Or.inr rfl
theorem inF_N {a w b : Nat} (h1 : a ≤ w) (h2 : w ≤ b) (h3 : b < 2000) : inF (nI w) (nI a) (nI b) = 1 := by
  unfold inF
  rw [if_neg (nI_nlt h1 (by omega)), if_neg (nI_nlt h2 (by omega))]
theorem nI_m1 : ∀ n, n < 11 → (nI n - 1).toInt = (n : Int) - 1 := by decide +kernel
theorem inF_b {x : Int32} {n : Nat} (hn : n < 11) : inF x 0 (nI n - 1) = 0 ↔ x < 0 ∨ ¬ x < nI n := by
  rw [inF_0, Int32.lt_iff_toInt_lt (y := x), nI_m1 n hn, Int32.lt_iff_toInt_lt (x := x) (y := nI n), nI_toInt (by omega)]
  have : ((n : Int) - 1 < x.toInt) ↔ ¬ x.toInt < (n : Int) := by omega
  rw [this]
theorem inF_R {y : Int32} {n w : Nat} (hy : y = nI n) (hn : n < 11) (hw : w < n) : inF (nI w) 0 (y - 1) = 1 := by
  subst hy
  rcases inF01 (nI w) 0 (nI n - 1) with h | h
  · rcases (inF_b hn).mp h with z | z
    · exact absurd z (nI_pos (by omega))
    · exact absurd (nI_lt hw (by omega)) z
  · exact h
theorem inF_X {x y : Int32} {n : Nat} (hy : y = nI n) (hn : n < 11) (hbd : x < 0 ∨ ¬ x < nI n) : inF x 0 (y - 1) = 0 := by
  subst hy
  exact (inF_b hn).mpr hbd
theorem inF_W {x a b : Int32} (hbd : x < a ∨ ¬ x ≤ b) : inF x a b = 0 := inF_0.mpr (hbd.imp id (fun z => Int32.not_le.mp z))
theorem inF_Y {x a : Int32} {b : Nat} {b' c : Int32} (hb : b' = nI b) (hbd : x < a ∨ ¬ x < c) (hc : c = nI (b + 1) := by rfl) (h2 : b < 2000 := by decide) : inF x a b' = 0 := by
  subst hb
  subst hc
  rw [inF_0]
  rcases hbd with z | z
  · exact Or.inl z
  · refine Or.inr ?_
    rw [Int32.lt_iff_toInt_lt, nI_toInt (by omega)] at z ⊢
    omega
theorem otn_in {v : Int32} : otn v = inF v 1 9 := rfl
theorem ztn_in {v : Int32} : ztn v = inF v 0 9 := rfl
theorem bdL_in {a2 a3 : Int32} : bdL a2 a3 ↔ inF a2 0 100 = 0 ∨ inF a3 0 9 = 0 := by
  unfold bdL
  rw [inF_0, ztn_in, or_assoc]
theorem bdS_in {a2 : Int32} : bdS a2 ↔ inF a2 1 20 = 0 := by
  unfold bdS
  rw [inF_0, Int32.not_le]
theorem bdW_in {a2 dp : Int32} : bdW a2 dp ↔ inF a2 (-4 * dp) (4 * dp) = 0 := by
  unfold bdW
  rw [inF_0, Int32.not_le, Int32.neg_mul]
theorem bdP_in {a1 a2 a3 a4 : Int32} : bdP a1 a2 a3 a4 ↔ inF a1 0 59 = 0 ∨ inF a2 (-3) 3 = 0 ∨ inF a3 1 9 = 0 ∨ inF a4 1 9 = 0 := by
  unfold bdP
  rw [stp_in, otn_in, otn_in, inF_0 (x := a2), or_assoc]
theorem bdR_in {a1 a2 a3 : Int32} : bdR a1 a2 a3 ↔ inF a1 0 59 = 0 ∨ inF a2 1 9 = 0 ∨ inF a3 0 20 = 0 := by
  unfold bdR
  rw [stp_in, otn_in, inF_0 (x := a3), Int32.not_le]
theorem nI_p1 (n : Nat) : nI (n + 1) - 1 = nI n := by
  rw [← nI_1, Int32.add_sub_cancel]
def ptF (M : Mem) (nr k i : Nat) : Nat → Int32
  | 0 => M 57 i
  | 1 => M 49 i
  | 2 => M 50 i
  | 3 => M 51 i
  | _ => cntF (fun r => wlT M 56 (ltF (M 47) (M 48) k) r i) nr
def rtF (M : Mem) (np k r : Nat) : Nat → Int32
  | 0 => M 52 r
  | 1 => M 53 r
  | 2 => M 58 r
  | 3 => M 54 r
  | 4 => M 55 r
  | 5 => M 59 r
  | 6 => swT M 56 (ltF (M 47) (M 48) k) r np
  | _ => M 60 r
def atT (x p v : Int32) : Int32 := if gn x = 0 then (if p - x = v then 1 else 0) else 0
def frF (P : Nat → Int32) (v : Int32) (b : Int32) : Nat → Int32
  | 0 => b
  | n + 1 => frF P v b n &&& (if P n = v then 0 else 1)
theorem frF_no {P : Nat → Int32} {v b : Int32} (h : b = 0) : ∀ {n : Nat}, frF P v b n = 0
  | 0 => h
  | n + 1 => by
    unfold frF
    rw [frF_no h]
    exact Int32.zero_and
theorem bcM_lo {M : Mem} {a b : Nat} (h : a < 61 ∨ 65 < a) : bcM M a b = M a b := by
  unfold bcM
  rw [if_neg (by omega), if_neg (by omega), if_neg (by omega)]
theorem bcM_h {M : Mem} : bcM M 61 0 = M 56 0 := by
  unfold bcM
  rw [if_pos ⟨rfl, rfl⟩]
theorem bcM_t {M : Mem} {k : Nat} (h : M 56 0 = nI k) : bcM M 61 0 = nI k := bcM_h.trans h
theorem bcM_row {M : Mem} {a : Nat} (h : a < 61 ∨ 65 < a) : bcM M a = M a := by
  funext b
  exact bcM_lo h
def fsT (M : Mem) (np nr k d : Nat) : Nat → Int32
  | 0 => sumF (gT (bcM M) 61 np nr k (tk k d) 65) nr - sumF (gT (bcM M) 61 np nr k (tk k d) 60) nr
  | 1 => sumF (gT (bcM M) 61 np nr k (tk k d) 64) nr
  | _ => nI np - cntF (fun i => gn (gT (bcM M) 61 np nr k (tk k d) 62 i)) np
def wtP (M : Mem) (np nr k r : Nat) : Nat → Int32 := fun j => swT (gT (bcM M) 61 np nr k j) 61 (ltF (bcM M 47) (bcM M 48) (k + j)) r np
theorem g1_s {M : Mem} {t np nr k j : Nat} (h : k + j < 720) : g1 (gT M t np nr k j) t np nr (k + j) = gT M t np nr k (j + 1) := by
  unfold g1
  rw [if_pos h]
  rfl
def aeM (M : Mem) (np nr k r n : Nat) : Nat → Mem
  | 0 => M
  | j + 1 => gT (u2 (bcM (aeM M np nr k r n j)) 63 r (nI (j + 1))) 61 np nr k n
def aeP (M : Mem) (np nr k r n : Nat) : Nat → Int32 := fun j => aeM M np nr k r n (j + 1) 65 r
theorem aeM_lo {M : Mem} {np nr k r n a : Nat} (h : a < 61) : ∀ {j : Nat}, aeM M np nr k r n j a = M a
  | 0 => rfl
  | j + 1 => by
    unfold aeM
    rw [gT_lo (by omega), u2_ne (by omega), bcM_row (by omega), aeM_lo h]
def orF (P : Nat → Int32) (x : Int32) : Nat → Int32
  | 0 => x
  | n + 1 => orF P x n ||| P n
set_option maxHeartbeats 4000000 in
set_option maxRecDepth 100000 in
theorem c_X6_thrown (l : Launch) (G : GG) (M : Mem) (o : Nat → Int64)  : MI l yX6_thrown cX6_thrown 1 (some .int) 0 0 G [.ref (adr G 46)] M M o o (M 46 0) 0 0 := by
  refine MI_of RX6 rfl (by decide +kernel) (Nat.le_of_ble_eq_true rfl) ?_
  intro p e s m below meth c sz C0 hr hP ls hl
  have hx := C0.1
  have hb := C0.2.1
  have hS : va_S (pA G sz) s.heap s.heap [] := va_S.rf
  have hl : lv_has ls 1 [(0, .ref (adr G 46))] := hl
  refine lv_aload_n hx hb dX6_thrown_0 rfl (lv_at hl 0 rfl) ?_
  refine gf_X6_49 C0 hP (k := 46) (show kd 46 = 6 by decide) dX6_thrown_1 ?_
  exact e_Ii C0 hr hP hS rfl (by decide) dX6_thrown_4

set_option maxHeartbeats 4000000 in
set_option maxRecDepth 100000 in
theorem c_X6_no (l : Launch) (G : GG) (M : Mem) (o : Nat → Int64) (x1 : Int32) : MI l yX6_no cX6_no 2 (some .int) 0 0 G [.ref (adr G 46), .int x1] M (u2 M 46 0 x1) o o 0 0 0 := by
  refine MI_of RX6 rfl (by decide +kernel) (Nat.le_of_ble_eq_true rfl) ?_
  intro p e s m below meth c sz C0 hr hP ls hl
  have hx := C0.1
  have hb := C0.2.1
  have hS : va_S (pA G sz) s.heap s.heap [] := va_S.rf
  have hl : lv_has ls 2 [(0, .ref (adr G 46)), (1, .int x1)] := hl
  refine lv_aload_n hx hb dX6_no_0 rfl (lv_at hl 0 rfl) ?_
  refine lv_iload_n hx hb dX6_no_1 rfl (lv_at hl 1 rfl) ?_
  refine pf_X6_49 C0 hP hS (k := 46) (show kd 46 = 6 by decide) dX6_no_2 (fun H locs hP hS => ?_)
  refine lv_iconst (v := 0) hx hb dX6_no_5 (by decide) ?_
  exact e_Ii C0 hr hP hS rfl (by decide) dX6_no_6

set_option maxHeartbeats 4000000 in
set_option maxRecDepth 100000 in
theorem c_X6_isPasser (l : Launch) (G : GG) (M : Mem) (o : Nat → Int64) (x1 : Int32) : MI l yX6_isPasser cX6_isPasser 2 (some .boolean) 1 22 G [.ref (adr G 46), .int x1] M M o o (inF x1 0 (M 46 1 - 1)) 0 0 := by
  refine MI_of RX6 rfl (by decide +kernel) (Nat.le_of_ble_eq_true rfl) ?_
  intro p e s m below meth c sz C0 hr hP ls hl
  have hx := C0.1
  have hb := C0.2.1
  have hS : va_S (pA G sz) s.heap s.heap [] := va_S.rf
  have hl : lv_has ls 2 [(0, .ref (adr G 46)), (1, .int x1)] := hl
  refine lv_iload_n hx hb dX6_isPasser_0 rfl (lv_at hl 1 rfl) ?_
  refine lv_iconst (v := 0) hx hb dX6_isPasser_1 (by decide) ?_
  refine lv_aload_n hx hb dX6_isPasser_2 rfl (lv_at hl 0 rfl) ?_
  refine gf_X6_60 C0 hP (k := 46) (show kd 46 = 6 by decide) dX6_isPasser_3 ?_
  refine lv_iconst (v := 1) hx hb dX6_isPasser_6 (by decide) ?_
  refine lv_isub hx hb dX6_isPasser_7 ?_
  refine k_SI C0 hP hS (rest := []) (c_X6_isIn l G M o x1 0 ((M 46 1) - 1)) mf_X6_isIn rfl ml_X6_56 hl.1 (by decide) (by decide) (Nat.le_of_ble_eq_true rfl) rfl rfl dX6_isPasser_8 (fun H locs hP hS => ?_)
  exact e_I (ty := .boolean) C0 hr (bz_narrow (inF01 _ _ _)) hP hS rfl (by decide) dX6_isPasser_11

set_option maxHeartbeats 4000000 in
set_option maxRecDepth 100000 in
theorem c_X6_isRoom (l : Launch) (G : GG) (M : Mem) (o : Nat → Int64) (x1 : Int32) : MI l yX6_isRoom cX6_isRoom 2 (some .boolean) 1 22 G [.ref (adr G 46), .int x1] M M o o (inF x1 0 (M 46 2 - 1)) 0 0 := by
  refine MI_of RX6 rfl (by decide +kernel) (Nat.le_of_ble_eq_true rfl) ?_
  intro p e s m below meth c sz C0 hr hP ls hl
  have hx := C0.1
  have hb := C0.2.1
  have hS : va_S (pA G sz) s.heap s.heap [] := va_S.rf
  have hl : lv_has ls 2 [(0, .ref (adr G 46)), (1, .int x1)] := hl
  refine lv_iload_n hx hb dX6_isRoom_0 rfl (lv_at hl 1 rfl) ?_
  refine lv_iconst (v := 0) hx hb dX6_isRoom_1 (by decide) ?_
  refine lv_aload_n hx hb dX6_isRoom_2 rfl (lv_at hl 0 rfl) ?_
  refine gf_X6_53 C0 hP (k := 46) (show kd 46 = 6 by decide) dX6_isRoom_3 ?_
  refine lv_iconst (v := 1) hx hb dX6_isRoom_6 (by decide) ?_
  refine lv_isub hx hb dX6_isRoom_7 ?_
  refine k_SI C0 hP hS (rest := []) (c_X6_isIn l G M o x1 0 ((M 46 2) - 1)) mf_X6_isIn rfl ml_X6_56 hl.1 (by decide) (by decide) (Nat.le_of_ble_eq_true rfl) rfl rfl dX6_isRoom_8 (fun H locs hP hS => ?_)
  exact e_I (ty := .boolean) C0 hr (bz_narrow (inF01 _ _ _)) hP hS rfl (by decide) dX6_isRoom_11

set_option maxHeartbeats 4000000 in
set_option maxRecDepth 100000 in
theorem c_X6_passerTold (l : Launch) (G : GG) (M : Mem) (o : Nat → Int64) (np nr k : Nat) (hO : OKT M np nr k) (i w : Nat) (hi : i < np) (hw : w < 5) : MI l yX6_passerTold cX6_passerTold 5 (some .int) 3 65 G [.ref (adr G 46), .int (nI i), .int (nI w)] M M o o (ptF M nr k i w) 0 0 := by
  refine MI_of RX6 rfl (by decide +kernel) (Nat.le_of_ble_eq_true rfl) ?_
  intro p e s m below meth c sz C0 hr hP ls hl
  have hx := C0.1
  have hb := C0.2.1
  have hS : va_S (pA G sz) s.heap s.heap [] := va_S.rf
  have hl : lv_has ls 5 [(0, .ref (adr G 46)), (1, .int (nI i)), (2, .int (nI w))] := hl
  obtain ⟨hnp, hple, hnr, hrle, hk0, hkle, hdz⟩ := id hO
  refine lv_iconst (v := 0) hx hb dX6_passerTold_0 (by decide) ?_
  refine lv_istore_n (lv' := [(3, .int 0), (0, .ref (adr G 46)), (1, .int (nI i)), (2, .int (nI w))]) hx hb dX6_passerTold_1 rfl hl (by decide) rfl (fun ls hl => ?_)
  refine lv_iconst (v := 0) hx hb dX6_passerTold_2 (by decide) ?_
  refine lv_istore (lv' := [(4, .int 0), (3, .int 0), (0, .ref (adr G 46)), (1, .int (nI i)), (2, .int (nI w))]) hx hb dX6_passerTold_3 hl (by decide) rfl (fun ls hl => ?_)
  have loop_5 : ∀ (fuel_5 : Nat) (r : Nat) (x : Int32), nr + 1 ≤ r + fuel_5 → (r ≤ nr) → (x = cntF (fun r => wlT M 56 (ltF (M 47) (M 48) k) r i) r) → ∀ (H : Heap) (locs : List Loc), PW G M o H → va_S (pA G sz) s.heap H locs → ∀ ls : Array Slot, lv_has ls 5 [(4, .int (nI r)), (3, .int x), (0, .ref (adr G 46)), (1, .int (nI i)), (2, .int (nI w))] → W p l e (rmU 3 65 0 0) s m ([.ref (adr G 46), .int (nI i), .int (nI w)] : List Value).toArray below meth c H locs 0 0 (MQ below (QI G M o (ptF M nr k i w) sz) ([.ref (adr G 46), .int (nI i), .int (nI w)] : List Value).toArray s 0 0 (pA G sz)) (F0 m 5 ls []) := by
    intro fuel_5
    induction fuel_5 with
    | zero =>
      intro r x hf hr1 hxx
      exact absurd hf (by omega)
    | succ fuel_5 ih_5 =>
      intro r x hf hr1 hxx H locs hP hS ls hl
      refine lv_iload hx hb dX6_passerTold_5 (lv_at hl 0 rfl) ?_
      refine lv_aload_n hx hb dX6_passerTold_7 rfl (lv_at hl 2 rfl) ?_
      refine gf_X6_53 C0 hP (k := 46) (show kd 46 = 6 by decide) dX6_passerTold_8 ?_
      refine lv_topE (y := nI nr) (hnr) ?_
      refine lv_icmp_ge (tgt := 41) hx hb dX6_passerTold_11 (by decide) (fun c_1 => ?_) (fun c_1 => ?_)
      · have hr9 := lp_ge (n := nr) c_1 (by omega) hr1
        refine lv_iload_n hx hb dX6_passerTold_41 rfl (lv_at hl 4 rfl) ?_
        refine lv_if_ne (tgt := 57) hx hb dX6_passerTold_42 (by decide) (fun c_2 => ?_) (fun c_2 => ?_)
        · have hw1 : w ≠ 0 := fun z => c_2 (by rw [z]; rfl)
          refine lv_iload_n hx hb dX6_passerTold_57 rfl (lv_at hl 4 rfl) ?_
          refine lv_iconst (v := 1) hx hb dX6_passerTold_58 (by decide) ?_
          refine lv_icmp_ne (tgt := 71) hx hb dX6_passerTold_59 (by decide) (fun c_3 => ?_) (fun c_3 => ?_)
          · have hw2 : w ≠ 1 := fun z => c_3 (by rw [z]; rfl)
            refine lv_iload_n hx hb dX6_passerTold_71 rfl (lv_at hl 4 rfl) ?_
            refine lv_iconst (v := 2) hx hb dX6_passerTold_72 (by decide) ?_
            refine lv_icmp_ne (tgt := 85) hx hb dX6_passerTold_73 (by decide) (fun c_4 => ?_) (fun c_4 => ?_)
            · have hw3 : w ≠ 2 := fun z => c_4 (by rw [z]; rfl)
              refine lv_iload_n hx hb dX6_passerTold_85 rfl (lv_at hl 4 rfl) ?_
              refine lv_iconst (v := 3) hx hb dX6_passerTold_86 (by decide) ?_
              refine lv_icmp_ne (tgt := 99) hx hb dX6_passerTold_87 (by decide) (fun c_5 => ?_) (fun c_5 => ?_)
              · have hw0 : w = 4 := by
                  have : w ≠ 3 := fun z => c_5 (by rw [z]; rfl)
                  omega
                refine lv_iload_n hx hb dX6_passerTold_99 rfl (lv_at hl 1 rfl) ?_
                exact e_Ii C0 hr hP hS (by rw [hw0]; first | rfl | (rw [hxx, hr9]; rfl)) (by decide) dX6_passerTold_100
              · have hw0 : w = 3 := (nI_eq (b := 3) (by omega) (by omega)).mp c_5
                refine lv_aload_n hx hb dX6_passerTold_90 rfl (lv_at hl 2 rfl) ?_
                refine gf_X6_22 C0 hP (k := 46) (show kd 46 = 6 by decide) dX6_passerTold_91 ?_
                refine lv_iload_n hx hb dX6_passerTold_94 rfl (lv_at hl 3 rfl) ?_
                refine w_ialdN C0 hP (k := 51) (i := i) (show kd 51 = 7 by decide) (show i < 10 by omega) (by omega) dX6_passerTold_95 ?_
                refine lv_goto (tgt := 100) hx hb dX6_passerTold_96 (by decide) ?_
                exact e_Ii C0 hr hP hS (by rw [hw0]; first | rfl | (rw [hxx, hr9]; rfl)) (by decide) dX6_passerTold_100
            · have hw0 : w = 2 := (nI_eq (b := 2) (by omega) (by omega)).mp c_4
              refine lv_aload_n hx hb dX6_passerTold_76 rfl (lv_at hl 2 rfl) ?_
              refine gf_X6_19 C0 hP (k := 46) (show kd 46 = 6 by decide) dX6_passerTold_77 ?_
              refine lv_iload_n hx hb dX6_passerTold_80 rfl (lv_at hl 3 rfl) ?_
              refine w_ialdN C0 hP (k := 50) (i := i) (show kd 50 = 7 by decide) (show i < 10 by omega) (by omega) dX6_passerTold_81 ?_
              refine lv_goto (tgt := 100) hx hb dX6_passerTold_82 (by decide) ?_
              exact e_Ii C0 hr hP hS (by rw [hw0]; first | rfl | (rw [hxx, hr9]; rfl)) (by decide) dX6_passerTold_100
          · have hw0 : w = 1 := (nI_eq (b := 1) (by omega) (by omega)).mp c_3
            refine lv_aload_n hx hb dX6_passerTold_62 rfl (lv_at hl 2 rfl) ?_
            refine gf_X6_16 C0 hP (k := 46) (show kd 46 = 6 by decide) dX6_passerTold_63 ?_
            refine lv_iload_n hx hb dX6_passerTold_66 rfl (lv_at hl 3 rfl) ?_
            refine w_ialdN C0 hP (k := 49) (i := i) (show kd 49 = 7 by decide) (show i < 10 by omega) (by omega) dX6_passerTold_67 ?_
            refine lv_goto (tgt := 100) hx hb dX6_passerTold_68 (by decide) ?_
            exact e_Ii C0 hr hP hS (by rw [hw0]; first | rfl | (rw [hxx, hr9]; rfl)) (by decide) dX6_passerTold_100
        · have hw0 : w = 0 := (nI_eq (b := 0) (by omega) (by omega)).mp c_2
          refine lv_aload_n hx hb dX6_passerTold_45 rfl (lv_at hl 2 rfl) ?_
          refine gf_X6_42 C0 hP (k := 46) (show kd 46 = 6 by decide) dX6_passerTold_46 ?_
          refine gf_X6_67 C0 hP (k := 56) (show kd 56 = 5 by decide) dX6_passerTold_49 ?_
          refine lv_iload_n hx hb dX6_passerTold_52 rfl (lv_at hl 3 rfl) ?_
          refine w_ialdN C0 hP (k := 56 + 1) (i := i) (kdT1 (Or.inl rfl)) (by rw [lnT1 (Or.inl rfl)]; omega) (by omega) dX6_passerTold_53 ?_
          refine lv_goto (tgt := 100) hx hb dX6_passerTold_54 (by decide) ?_
          exact e_Ii C0 hr hP hS (by rw [hw0]; first | rfl | (rw [hxx, hr9]; rfl)) (by decide) dX6_passerTold_100
      · have hrt := lp_lt (n := nr) c_1 (by omega) hr1
        refine lv_iload_n hx hb dX6_passerTold_14 rfl (lv_at hl 1 rfl) ?_
        refine lv_aload_n hx hb dX6_passerTold_15 rfl (lv_at hl 2 rfl) ?_
        refine gf_X6_42 C0 hP (k := 46) (show kd 46 = 6 by decide) dX6_passerTold_16 ?_
        refine lv_iload hx hb dX6_passerTold_19 (lv_at hl 0 rfl) ?_
        refine lv_iload_n hx hb dX6_passerTold_21 rfl (lv_at hl 3 rfl) ?_
        refine k_VI C0 hP hS (rest := [.int x]) (c_X5_isWell l G M o 56 (Or.inl rfl) k hk0 hkle r i (by omega) (by omega) (hdz _ (by omega))) mf_X5_isWell ml_X6_80 (kd_lt (show kd 56 = 5 by decide) (by decide)) (ct_5 (show kd 56 = 5 by decide)) rfl hl.1 (by decide) (by decide) (Nat.le_of_ble_eq_true rfl) rfl rfl dX6_passerTold_22 (fun H locs hP hS => ?_)
        refine lv_if_eq (tgt := 32) hx hb dX6_passerTold_25 (by decide) (fun c_6 => ?_) (fun c_6 => ?_)
        · refine lv_iconst (v := 0) hx hb dX6_passerTold_32 (by decide) ?_
          refine lv_iadd hx hb dX6_passerTold_33 ?_
          refine lv_istore_n (lv' := [(3, .int (x + 0)), (4, .int (nI r)), (0, .ref (adr G 46)), (1, .int (nI i)), (2, .int (nI w))]) hx hb dX6_passerTold_34 rfl hl (by decide) rfl (fun ls hl => ?_)
          refine lv_iinc (v := nI (r + 1)) (lv' := [(4, .int (nI (r + 1))), (3, .int (x + 0)), (0, .ref (adr G 46)), (1, .int (nI i)), (2, .int (nI w))]) hx hb dX6_passerTold_35 hl (k := 1) rfl (nI_1 r) (by decide) rfl (fun ls hl => ?_)
          refine lv_goto (tgt := 5) hx hb dX6_passerTold_38 (by decide) ?_
          exact ih_5 (r + 1) _ (by omega) (by omega) (by rw [hxx]; simp [cntF, c_1, c_6]) _ _ hP hS _ (lv_sub hl [0, 1, 2, 3, 4] rfl)
        · refine lv_iconst (v := 1) hx hb dX6_passerTold_28 (by decide) ?_
          refine lv_goto (tgt := 33) hx hb dX6_passerTold_29 (by decide) ?_
          refine lv_iadd hx hb dX6_passerTold_33 ?_
          refine lv_istore_n (lv' := [(3, .int (x + 1)), (4, .int (nI r)), (0, .ref (adr G 46)), (1, .int (nI i)), (2, .int (nI w))]) hx hb dX6_passerTold_34 rfl hl (by decide) rfl (fun ls hl => ?_)
          refine lv_iinc (v := nI (r + 1)) (lv' := [(4, .int (nI (r + 1))), (3, .int (x + 1)), (0, .ref (adr G 46)), (1, .int (nI i)), (2, .int (nI w))]) hx hb dX6_passerTold_35 hl (k := 1) rfl (nI_1 r) (by decide) rfl (fun ls hl => ?_)
          refine lv_goto (tgt := 5) hx hb dX6_passerTold_38 (by decide) ?_
          exact ih_5 (r + 1) _ (by omega) (by omega) (by rw [hxx]; simp [cntF, c_1, c_6]) _ _ hP hS _ (lv_sub hl [0, 1, 2, 3, 4] rfl)
  exact loop_5 (nr + 1) 0 0 (by omega) (by omega) rfl _ _ hP hS _ (lv_sub hl [0, 1, 2, 3, 4] rfl)

set_option maxHeartbeats 4000000 in
set_option maxRecDepth 100000 in
theorem c_X6_roomTold (l : Launch) (G : GG) (M : Mem) (o : Nat → Int64) (np nr k : Nat) (hO : OKT M np nr k) (r w : Nat) (hr0 : r < nr) (hw : w < 8) : MI l yX6_roomTold cX6_roomTold 3 (some .int) 4 88 G [.ref (adr G 46), .int (nI r), .int (nI w)] M M o o (rtF M np k r w) 0 0 := by
  refine MI_of RX6 rfl (by decide +kernel) (Nat.le_of_ble_eq_true rfl) ?_
  intro p e s m below meth c sz C0 hr hP ls hl
  have hx := C0.1
  have hb := C0.2.1
  have hS : va_S (pA G sz) s.heap s.heap [] := va_S.rf
  have hl : lv_has ls 3 [(0, .ref (adr G 46)), (1, .int (nI r)), (2, .int (nI w))] := hl
  obtain ⟨hnp, hple, hnr, hrle, hk0, hkle, hdz⟩ := id hO
  refine lv_iload_n hx hb dX6_roomTold_0 rfl (lv_at hl 2 rfl) ?_
  rcases (show w = 0 ∨ w = 1 ∨ w = 2 ∨ w = 3 ∨ w = 4 ∨ w = 5 ∨ w = 6 ∨ w = 7 by omega) with h9 | h9 | h9 | h9 | h9 | h9 | h9 | h9
  · subst h9
    refine lv_tableIn (off := 43) (tgt := 44) hx hb dX6_roomTold_1 (by decide) (by decide) (by decide +kernel) (by decide) ?_
    refine lv_aload_n hx hb dX6_roomTold_44 rfl (lv_at hl 0 rfl) ?_
    refine gf_X6_25 C0 hP (k := 46) (show kd 46 = 6 by decide) dX6_roomTold_45 ?_
    refine lv_iload_n hx hb dX6_roomTold_48 rfl (lv_at hl 1 rfl) ?_
    refine w_ialdN C0 hP (k := 52) (i := r) (show kd 52 = 7 by decide) (show r < 8 by omega) (by omega) dX6_roomTold_49 ?_
    exact e_Ii C0 hr hP hS rfl (by decide) dX6_roomTold_50
  · subst h9
    refine lv_tableIn (off := 50) (tgt := 51) hx hb dX6_roomTold_1 (by decide) (by decide) (by decide +kernel) (by decide) ?_
    refine lv_aload_n hx hb dX6_roomTold_51 rfl (lv_at hl 0 rfl) ?_
    refine gf_X6_28 C0 hP (k := 46) (show kd 46 = 6 by decide) dX6_roomTold_52 ?_
    refine lv_iload_n hx hb dX6_roomTold_55 rfl (lv_at hl 1 rfl) ?_
    refine w_ialdN C0 hP (k := 53) (i := r) (show kd 53 = 7 by decide) (show r < 8 by omega) (by omega) dX6_roomTold_56 ?_
    exact e_Ii C0 hr hP hS rfl (by decide) dX6_roomTold_57
  · subst h9
    refine lv_tableIn (off := 57) (tgt := 58) hx hb dX6_roomTold_1 (by decide) (by decide) (by decide +kernel) (by decide) ?_
    refine lv_aload_n hx hb dX6_roomTold_58 rfl (lv_at hl 0 rfl) ?_
    refine gf_X6_42 C0 hP (k := 46) (show kd 46 = 6 by decide) dX6_roomTold_59 ?_
    refine gf_X6_70 C0 hP (k := 56) (show kd 56 = 5 by decide) dX6_roomTold_62 ?_
    refine lv_iload_n hx hb dX6_roomTold_65 rfl (lv_at hl 1 rfl) ?_
    refine w_ialdN C0 hP (k := 56 + 2) (i := r) (kdT2 (Or.inl rfl)) (by rw [lnT2 (Or.inl rfl)]; omega) (by omega) dX6_roomTold_66 ?_
    exact e_Ii C0 hr hP hS rfl (by decide) dX6_roomTold_67
  · subst h9
    refine lv_tableIn (off := 67) (tgt := 68) hx hb dX6_roomTold_1 (by decide) (by decide) (by decide +kernel) (by decide) ?_
    refine lv_aload_n hx hb dX6_roomTold_68 rfl (lv_at hl 0 rfl) ?_
    refine gf_X6_31 C0 hP (k := 46) (show kd 46 = 6 by decide) dX6_roomTold_69 ?_
    refine lv_iload_n hx hb dX6_roomTold_72 rfl (lv_at hl 1 rfl) ?_
    refine w_ialdN C0 hP (k := 54) (i := r) (show kd 54 = 7 by decide) (show r < 8 by omega) (by omega) dX6_roomTold_73 ?_
    exact e_Ii C0 hr hP hS rfl (by decide) dX6_roomTold_74
  · subst h9
    refine lv_tableIn (off := 74) (tgt := 75) hx hb dX6_roomTold_1 (by decide) (by decide) (by decide +kernel) (by decide) ?_
    refine lv_aload_n hx hb dX6_roomTold_75 rfl (lv_at hl 0 rfl) ?_
    refine gf_X6_34 C0 hP (k := 46) (show kd 46 = 6 by decide) dX6_roomTold_76 ?_
    refine lv_iload_n hx hb dX6_roomTold_79 rfl (lv_at hl 1 rfl) ?_
    refine w_ialdN C0 hP (k := 55) (i := r) (show kd 55 = 7 by decide) (show r < 8 by omega) (by omega) dX6_roomTold_80 ?_
    exact e_Ii C0 hr hP hS rfl (by decide) dX6_roomTold_81
  · subst h9
    refine lv_tableIn (off := 81) (tgt := 82) hx hb dX6_roomTold_1 (by decide) (by decide) (by decide +kernel) (by decide) ?_
    refine lv_aload_n hx hb dX6_roomTold_82 rfl (lv_at hl 0 rfl) ?_
    refine gf_X6_42 C0 hP (k := 46) (show kd 46 = 6 by decide) dX6_roomTold_83 ?_
    refine gf_X6_77 C0 hP (k := 56) (show kd 56 = 5 by decide) dX6_roomTold_86 ?_
    refine lv_iload_n hx hb dX6_roomTold_89 rfl (lv_at hl 1 rfl) ?_
    refine w_ialdN C0 hP (k := 56 + 3) (i := r) (kdT3 (Or.inl rfl)) (by rw [lnT3 (Or.inl rfl)]; omega) (by omega) dX6_roomTold_90 ?_
    exact e_Ii C0 hr hP hS rfl (by decide) dX6_roomTold_91
  · subst h9
    refine lv_tableIn (off := 91) (tgt := 92) hx hb dX6_roomTold_1 (by decide) (by decide) (by decide +kernel) (by decide) ?_
    refine lv_aload_n hx hb dX6_roomTold_92 rfl (lv_at hl 0 rfl) ?_
    refine gf_X6_42 C0 hP (k := 46) (show kd 46 = 6 by decide) dX6_roomTold_93 ?_
    refine lv_iload_n hx hb dX6_roomTold_96 rfl (lv_at hl 1 rfl) ?_
    refine k_VI C0 hP hS (rest := []) (c_X5_show l G M o 56 (Or.inl rfl) k hk0 hkle np hnp hple r (by omega) (hdz _ (by omega))) mf_X5_show ml_X6_91 (kd_lt (show kd 56 = 5 by decide) (by decide)) (ct_5 (show kd 56 = 5 by decide)) rfl hl.1 (by decide) (by decide) (Nat.le_of_ble_eq_true rfl) rfl rfl dX6_roomTold_97 (fun H locs hP hS => ?_)
    exact e_Ii C0 hr hP hS rfl (by decide) dX6_roomTold_100
  · subst h9
    refine lv_tableOut (tgt := 101) hx hb dX6_roomTold_1 (by decide) (by decide) ?_
    refine lv_aload_n hx hb dX6_roomTold_101 rfl (lv_at hl 0 rfl) ?_
    refine gf_X6_42 C0 hP (k := 46) (show kd 46 = 6 by decide) dX6_roomTold_102 ?_
    refine gf_X6_94 C0 hP (k := 56) (show kd 56 = 5 by decide) dX6_roomTold_105 ?_
    refine lv_iload_n hx hb dX6_roomTold_108 rfl (lv_at hl 1 rfl) ?_
    refine w_ialdN C0 hP (k := 56 + 4) (i := r) (kdT4 (Or.inl rfl)) (by rw [lnT4 (Or.inl rfl)]; omega) (by omega) dX6_roomTold_109 ?_
    exact e_Ii C0 hr hP hS rfl (by decide) dX6_roomTold_110

set_option maxHeartbeats 4000000 in
set_option maxRecDepth 100000 in
theorem c_X6_passer (l : Launch) (G : GG) (M : Mem) (o : Nat → Int64) (np nr k : Nat) (hO : OKT M np nr k) (i w : Nat) (hi : i < np) (hw : w < 5) : MI l yX6_passer cX6_passer 3 (some .int) 4 89 G [.ref (adr G 46), .int (nI i), .int (nI w)] M (u2 M 46 0 0) o o (ptF (u2 M 46 0 0) nr k i w) 0 0 := by
  refine MI_of RX6 rfl (by decide +kernel) (Nat.le_of_ble_eq_true rfl) ?_
  intro p e s m below meth c sz C0 hr hP ls hl
  have hx := C0.1
  have hb := C0.2.1
  have hS : va_S (pA G sz) s.heap s.heap [] := va_S.rf
  have hl : lv_has ls 3 [(0, .ref (adr G 46)), (1, .int (nI i)), (2, .int (nI w))] := hl
  obtain ⟨hnp, hple, hnr, hrle, hk0, hkle, hdz⟩ := okz (v := 0) hO
  refine lv_aload_n hx hb dX6_passer_0 rfl (lv_at hl 0 rfl) ?_
  refine lv_iconst (v := 0) hx hb dX6_passer_1 (by decide) ?_
  refine pf_X6_49 C0 hP hS (k := 46) (show kd 46 = 6 by decide) dX6_passer_2 (fun H locs hP hS => ?_)
  refine lv_aload_n hx hb dX6_passer_5 rfl (lv_at hl 0 rfl) ?_
  refine lv_iload_n hx hb dX6_passer_6 rfl (lv_at hl 1 rfl) ?_
  refine k_VI C0 hP hS (rest := []) (c_X6_isPasser l G (u2 M 46 0 0) o (nI i)) mf_X6_isPasser ml_X6_84 (kd_lt (show kd 46 = 6 by decide) (by decide)) (ct_6 (show kd 46 = 6 by decide)) rfl hl.1 (by decide) (by decide) (Nat.le_of_ble_eq_true rfl) rfl rfl dX6_passer_7 (fun H locs hP hS => ?_)
  refine lv_topE (y := 1) (inF_R hnp (by omega) (by omega)) ?_
  refine lv_if_eq (tgt := 31) hx hb dX6_passer_10 (by decide) (fun c_1 => ?_) (fun c_1 => ?_)
  · exact absurd c_1 (by decide)
  · refine lv_iload_n hx hb dX6_passer_13 rfl (lv_at hl 2 rfl) ?_
    refine lv_iconst (v := 0) hx hb dX6_passer_14 (by decide) ?_
    refine lv_iconst (v := 4) hx hb dX6_passer_15 (by decide) ?_
    refine k_SI C0 hP hS (rest := []) (c_X6_isIn l G (u2 M 46 0 0) o (nI w) 0 4) mf_X6_isIn rfl ml_X6_56 hl.1 (by decide) (by decide) (Nat.le_of_ble_eq_true rfl) rfl rfl dX6_passer_16 (fun H locs hP hS => ?_)
    refine lv_topE (y := 1) (inF_N (a := 0) (w := w) (b := 4) (by omega) (by omega) (by omega)) ?_
    refine lv_if_eq (tgt := 31) hx hb dX6_passer_19 (by decide) (fun c_2 => ?_) (fun c_2 => ?_)
    · exact absurd c_2 (by decide)
    · refine lv_aload_n hx hb dX6_passer_22 rfl (lv_at hl 0 rfl) ?_
      refine lv_iload_n hx hb dX6_passer_23 rfl (lv_at hl 1 rfl) ?_
      refine lv_iload_n hx hb dX6_passer_24 rfl (lv_at hl 2 rfl) ?_
      refine k_VI C0 hP hS (rest := []) (c_X6_passerTold l G (u2 M 46 0 0) o np nr k (okz (v := 0) hO) i w (by omega) (by omega)) mf_X6_passerTold ml_X6_87 (kd_lt (show kd 46 = 6 by decide) (by decide)) (ct_6 (show kd 46 = 6 by decide)) rfl hl.1 (by decide) (by decide) (Nat.le_of_ble_eq_true rfl) rfl rfl dX6_passer_25 (fun H locs hP hS => ?_)
      refine lv_goto (tgt := 36) hx hb dX6_passer_28 (by decide) ?_
      exact e_Ii C0 hr hP hS rfl (by decide) dX6_passer_36

set_option maxHeartbeats 4000000 in
set_option maxRecDepth 100000 in
theorem c_X6_passer_i (l : Launch) (G : GG) (M : Mem) (o : Nat → Int64) (np nr k : Nat) (hO : OKT M np nr k) (x1 a2 : Int32) (hbd : x1 < 0 ∨ ¬ x1 < nI np) : MI l yX6_passer cX6_passer 3 (some .int) 2 43 G [.ref (adr G 46), .int x1, .int a2] M (u2 (u2 M 46 0 0) 46 0 1) o o 0 0 0 := by
  refine MI_of RX6 rfl (by decide +kernel) (Nat.le_of_ble_eq_true rfl) ?_
  intro p e s m below meth c sz C0 hr hP ls hl
  have hx := C0.1
  have hb := C0.2.1
  have hS : va_S (pA G sz) s.heap s.heap [] := va_S.rf
  have hl : lv_has ls 3 [(0, .ref (adr G 46)), (1, .int x1), (2, .int a2)] := hl
  obtain ⟨hnp, hple, hnr, hrle, hk0, hkle, hdz⟩ := okz (v := 0) hO
  refine lv_aload_n hx hb dX6_passer_0 rfl (lv_at hl 0 rfl) ?_
  refine lv_iconst (v := 0) hx hb dX6_passer_1 (by decide) ?_
  refine pf_X6_49 C0 hP hS (k := 46) (show kd 46 = 6 by decide) dX6_passer_2 (fun H locs hP hS => ?_)
  refine lv_aload_n hx hb dX6_passer_5 rfl (lv_at hl 0 rfl) ?_
  refine lv_iload_n hx hb dX6_passer_6 rfl (lv_at hl 1 rfl) ?_
  refine k_VI C0 hP hS (rest := []) (c_X6_isPasser l G (u2 M 46 0 0) o x1) mf_X6_isPasser ml_X6_84 (kd_lt (show kd 46 = 6 by decide) (by decide)) (ct_6 (show kd 46 = 6 by decide)) rfl hl.1 (by decide) (by decide) (Nat.le_of_ble_eq_true rfl) rfl rfl dX6_passer_7 (fun H locs hP hS => ?_)
  refine lv_topE (y := 0) (inF_X hnp (by omega) hbd) ?_
  refine lv_if_eq (tgt := 31) hx hb dX6_passer_10 (by decide) (fun c_1 => ?_) (fun c_1 => ?_)
  · refine lv_aload_n hx hb dX6_passer_31 rfl (lv_at hl 0 rfl) ?_
    refine lv_iconst (v := 1) hx hb dX6_passer_32 (by decide) ?_
    refine k_VI C0 hP hS (rest := []) (c_X6_no l G (u2 M 46 0 0) o 1) mf_X6_no ml_X6_63 (kd_lt (show kd 46 = 6 by decide) (by decide)) (ct_6 (show kd 46 = 6 by decide)) rfl hl.1 (by decide) (by decide) (Nat.le_of_ble_eq_true rfl) rfl rfl dX6_passer_33 (fun H locs hP hS => ?_)
    exact e_Ii C0 hr hP hS rfl (by decide) dX6_passer_36
  · exact absurd c_1 (by decide)

set_option maxHeartbeats 4000000 in
set_option maxRecDepth 100000 in
theorem c_X6_passer_j (l : Launch) (G : GG) (M : Mem) (o : Nat → Int64) (np nr k : Nat) (hO : OKT M np nr k) (i : Nat) (hi : i < np) (a2 : Int32) (hbd : a2 < 0 ∨ ¬ a2 < 5) : MI l yX6_passer cX6_passer 3 (some .int) 2 43 G [.ref (adr G 46), .int (nI i), .int a2] M (u2 (u2 M 46 0 0) 46 0 1) o o 0 0 0 := by
  refine MI_of RX6 rfl (by decide +kernel) (Nat.le_of_ble_eq_true rfl) ?_
  intro p e s m below meth c sz C0 hr hP ls hl
  have hx := C0.1
  have hb := C0.2.1
  have hS : va_S (pA G sz) s.heap s.heap [] := va_S.rf
  have hl : lv_has ls 3 [(0, .ref (adr G 46)), (1, .int (nI i)), (2, .int a2)] := hl
  obtain ⟨hnp, hple, hnr, hrle, hk0, hkle, hdz⟩ := okz (v := 0) hO
  refine lv_aload_n hx hb dX6_passer_0 rfl (lv_at hl 0 rfl) ?_
  refine lv_iconst (v := 0) hx hb dX6_passer_1 (by decide) ?_
  refine pf_X6_49 C0 hP hS (k := 46) (show kd 46 = 6 by decide) dX6_passer_2 (fun H locs hP hS => ?_)
  refine lv_aload_n hx hb dX6_passer_5 rfl (lv_at hl 0 rfl) ?_
  refine lv_iload_n hx hb dX6_passer_6 rfl (lv_at hl 1 rfl) ?_
  refine k_VI C0 hP hS (rest := []) (c_X6_isPasser l G (u2 M 46 0 0) o (nI i)) mf_X6_isPasser ml_X6_84 (kd_lt (show kd 46 = 6 by decide) (by decide)) (ct_6 (show kd 46 = 6 by decide)) rfl hl.1 (by decide) (by decide) (Nat.le_of_ble_eq_true rfl) rfl rfl dX6_passer_7 (fun H locs hP hS => ?_)
  refine lv_topE (y := 1) (inF_R hnp (by omega) (by omega)) ?_
  refine lv_if_eq (tgt := 31) hx hb dX6_passer_10 (by decide) (fun c_1 => ?_) (fun c_1 => ?_)
  · exact absurd c_1 (by decide)
  · refine lv_iload_n hx hb dX6_passer_13 rfl (lv_at hl 2 rfl) ?_
    refine lv_iconst (v := 0) hx hb dX6_passer_14 (by decide) ?_
    refine lv_iconst (v := 4) hx hb dX6_passer_15 (by decide) ?_
    refine k_SI C0 hP hS (rest := []) (c_X6_isIn l G (u2 M 46 0 0) o a2 0 4) mf_X6_isIn rfl ml_X6_56 hl.1 (by decide) (by decide) (Nat.le_of_ble_eq_true rfl) rfl rfl dX6_passer_16 (fun H locs hP hS => ?_)
    refine lv_topE (y := 0) (inF_Y (b := 4) rfl hbd) ?_
    refine lv_if_eq (tgt := 31) hx hb dX6_passer_19 (by decide) (fun c_2 => ?_) (fun c_2 => ?_)
    · refine lv_aload_n hx hb dX6_passer_31 rfl (lv_at hl 0 rfl) ?_
      refine lv_iconst (v := 1) hx hb dX6_passer_32 (by decide) ?_
      refine k_VI C0 hP hS (rest := []) (c_X6_no l G (u2 M 46 0 0) o 1) mf_X6_no ml_X6_63 (kd_lt (show kd 46 = 6 by decide) (by decide)) (ct_6 (show kd 46 = 6 by decide)) rfl hl.1 (by decide) (by decide) (Nat.le_of_ble_eq_true rfl) rfl rfl dX6_passer_33 (fun H locs hP hS => ?_)
      exact e_Ii C0 hr hP hS rfl (by decide) dX6_passer_36
    · exact absurd c_2 (by decide)

set_option maxHeartbeats 4000000 in
set_option maxRecDepth 100000 in
theorem c_X6_room (l : Launch) (G : GG) (M : Mem) (o : Nat → Int64) (np nr k : Nat) (hO : OKT M np nr k) (r w : Nat) (hr0 : r < nr) (hw : w < 8) : MI l yX6_room cX6_room 3 (some .int) 5 110 G [.ref (adr G 46), .int (nI r), .int (nI w)] M (u2 M 46 0 0) o o (rtF (u2 M 46 0 0) np k r w) 0 0 := by
  refine MI_of RX6 rfl (by decide +kernel) (Nat.le_of_ble_eq_true rfl) ?_
  intro p e s m below meth c sz C0 hr hP ls hl
  have hx := C0.1
  have hb := C0.2.1
  have hS : va_S (pA G sz) s.heap s.heap [] := va_S.rf
  have hl : lv_has ls 3 [(0, .ref (adr G 46)), (1, .int (nI r)), (2, .int (nI w))] := hl
  obtain ⟨hnp, hple, hnr, hrle, hk0, hkle, hdz⟩ := okz (v := 0) hO
  refine lv_aload_n hx hb dX6_room_0 rfl (lv_at hl 0 rfl) ?_
  refine lv_iconst (v := 0) hx hb dX6_room_1 (by decide) ?_
  refine pf_X6_49 C0 hP hS (k := 46) (show kd 46 = 6 by decide) dX6_room_2 (fun H locs hP hS => ?_)
  refine lv_aload_n hx hb dX6_room_5 rfl (lv_at hl 0 rfl) ?_
  refine lv_iload_n hx hb dX6_room_6 rfl (lv_at hl 1 rfl) ?_
  refine k_VI C0 hP hS (rest := []) (c_X6_isRoom l G (u2 M 46 0 0) o (nI r)) mf_X6_isRoom ml_X6_73 (kd_lt (show kd 46 = 6 by decide) (by decide)) (ct_6 (show kd 46 = 6 by decide)) rfl hl.1 (by decide) (by decide) (Nat.le_of_ble_eq_true rfl) rfl rfl dX6_room_7 (fun H locs hP hS => ?_)
  refine lv_topE (y := 1) (inF_R hnr (by omega) (by omega)) ?_
  refine lv_if_eq (tgt := 32) hx hb dX6_room_10 (by decide) (fun c_1 => ?_) (fun c_1 => ?_)
  · exact absurd c_1 (by decide)
  · refine lv_iload_n hx hb dX6_room_13 rfl (lv_at hl 2 rfl) ?_
    refine lv_iconst (v := 0) hx hb dX6_room_14 (by decide) ?_
    refine lv_bipush (v := 7) hx hb dX6_room_15 (by decide) ?_
    refine k_SI C0 hP hS (rest := []) (c_X6_isIn l G (u2 M 46 0 0) o (nI w) 0 7) mf_X6_isIn rfl ml_X6_56 hl.1 (by decide) (by decide) (Nat.le_of_ble_eq_true rfl) rfl rfl dX6_room_17 (fun H locs hP hS => ?_)
    refine lv_topE (y := 1) (inF_N (a := 0) (w := w) (b := 7) (by omega) (by omega) (by omega)) ?_
    refine lv_if_eq (tgt := 32) hx hb dX6_room_20 (by decide) (fun c_2 => ?_) (fun c_2 => ?_)
    · exact absurd c_2 (by decide)
    · refine lv_aload_n hx hb dX6_room_23 rfl (lv_at hl 0 rfl) ?_
      refine lv_iload_n hx hb dX6_room_24 rfl (lv_at hl 1 rfl) ?_
      refine lv_iload_n hx hb dX6_room_25 rfl (lv_at hl 2 rfl) ?_
      refine k_VI C0 hP hS (rest := []) (c_X6_roomTold l G (u2 M 46 0 0) o np nr k (okz (v := 0) hO) r w (by omega) (by omega)) mf_X6_roomTold ml_X6_97 (kd_lt (show kd 46 = 6 by decide) (by decide)) (ct_6 (show kd 46 = 6 by decide)) rfl hl.1 (by decide) (by decide) (Nat.le_of_ble_eq_true rfl) rfl rfl dX6_room_26 (fun H locs hP hS => ?_)
      refine lv_goto (tgt := 37) hx hb dX6_room_29 (by decide) ?_
      exact e_Ii C0 hr hP hS rfl (by decide) dX6_room_37

set_option maxHeartbeats 4000000 in
set_option maxRecDepth 100000 in
theorem c_X6_room_i (l : Launch) (G : GG) (M : Mem) (o : Nat → Int64) (np nr k : Nat) (hO : OKT M np nr k) (x1 a2 : Int32) (hbd : x1 < 0 ∨ ¬ x1 < nI nr) : MI l yX6_room cX6_room 3 (some .int) 2 43 G [.ref (adr G 46), .int x1, .int a2] M (u2 (u2 M 46 0 0) 46 0 1) o o 0 0 0 := by
  refine MI_of RX6 rfl (by decide +kernel) (Nat.le_of_ble_eq_true rfl) ?_
  intro p e s m below meth c sz C0 hr hP ls hl
  have hx := C0.1
  have hb := C0.2.1
  have hS : va_S (pA G sz) s.heap s.heap [] := va_S.rf
  have hl : lv_has ls 3 [(0, .ref (adr G 46)), (1, .int x1), (2, .int a2)] := hl
  obtain ⟨hnp, hple, hnr, hrle, hk0, hkle, hdz⟩ := okz (v := 0) hO
  refine lv_aload_n hx hb dX6_room_0 rfl (lv_at hl 0 rfl) ?_
  refine lv_iconst (v := 0) hx hb dX6_room_1 (by decide) ?_
  refine pf_X6_49 C0 hP hS (k := 46) (show kd 46 = 6 by decide) dX6_room_2 (fun H locs hP hS => ?_)
  refine lv_aload_n hx hb dX6_room_5 rfl (lv_at hl 0 rfl) ?_
  refine lv_iload_n hx hb dX6_room_6 rfl (lv_at hl 1 rfl) ?_
  refine k_VI C0 hP hS (rest := []) (c_X6_isRoom l G (u2 M 46 0 0) o x1) mf_X6_isRoom ml_X6_73 (kd_lt (show kd 46 = 6 by decide) (by decide)) (ct_6 (show kd 46 = 6 by decide)) rfl hl.1 (by decide) (by decide) (Nat.le_of_ble_eq_true rfl) rfl rfl dX6_room_7 (fun H locs hP hS => ?_)
  refine lv_topE (y := 0) (inF_X hnr (by omega) hbd) ?_
  refine lv_if_eq (tgt := 32) hx hb dX6_room_10 (by decide) (fun c_1 => ?_) (fun c_1 => ?_)
  · refine lv_aload_n hx hb dX6_room_32 rfl (lv_at hl 0 rfl) ?_
    refine lv_iconst (v := 1) hx hb dX6_room_33 (by decide) ?_
    refine k_VI C0 hP hS (rest := []) (c_X6_no l G (u2 M 46 0 0) o 1) mf_X6_no ml_X6_63 (kd_lt (show kd 46 = 6 by decide) (by decide)) (ct_6 (show kd 46 = 6 by decide)) rfl hl.1 (by decide) (by decide) (Nat.le_of_ble_eq_true rfl) rfl rfl dX6_room_34 (fun H locs hP hS => ?_)
    exact e_Ii C0 hr hP hS rfl (by decide) dX6_room_37
  · exact absurd c_1 (by decide)

set_option maxHeartbeats 4000000 in
set_option maxRecDepth 100000 in
theorem c_X6_room_j (l : Launch) (G : GG) (M : Mem) (o : Nat → Int64) (np nr k : Nat) (hO : OKT M np nr k) (r : Nat) (hr0 : r < nr) (a2 : Int32) (hbd : a2 < 0 ∨ ¬ a2 < 8) : MI l yX6_room cX6_room 3 (some .int) 2 43 G [.ref (adr G 46), .int (nI r), .int a2] M (u2 (u2 M 46 0 0) 46 0 1) o o 0 0 0 := by
  refine MI_of RX6 rfl (by decide +kernel) (Nat.le_of_ble_eq_true rfl) ?_
  intro p e s m below meth c sz C0 hr hP ls hl
  have hx := C0.1
  have hb := C0.2.1
  have hS : va_S (pA G sz) s.heap s.heap [] := va_S.rf
  have hl : lv_has ls 3 [(0, .ref (adr G 46)), (1, .int (nI r)), (2, .int a2)] := hl
  obtain ⟨hnp, hple, hnr, hrle, hk0, hkle, hdz⟩ := okz (v := 0) hO
  refine lv_aload_n hx hb dX6_room_0 rfl (lv_at hl 0 rfl) ?_
  refine lv_iconst (v := 0) hx hb dX6_room_1 (by decide) ?_
  refine pf_X6_49 C0 hP hS (k := 46) (show kd 46 = 6 by decide) dX6_room_2 (fun H locs hP hS => ?_)
  refine lv_aload_n hx hb dX6_room_5 rfl (lv_at hl 0 rfl) ?_
  refine lv_iload_n hx hb dX6_room_6 rfl (lv_at hl 1 rfl) ?_
  refine k_VI C0 hP hS (rest := []) (c_X6_isRoom l G (u2 M 46 0 0) o (nI r)) mf_X6_isRoom ml_X6_73 (kd_lt (show kd 46 = 6 by decide) (by decide)) (ct_6 (show kd 46 = 6 by decide)) rfl hl.1 (by decide) (by decide) (Nat.le_of_ble_eq_true rfl) rfl rfl dX6_room_7 (fun H locs hP hS => ?_)
  refine lv_topE (y := 1) (inF_R hnr (by omega) (by omega)) ?_
  refine lv_if_eq (tgt := 32) hx hb dX6_room_10 (by decide) (fun c_1 => ?_) (fun c_1 => ?_)
  · exact absurd c_1 (by decide)
  · refine lv_iload_n hx hb dX6_room_13 rfl (lv_at hl 2 rfl) ?_
    refine lv_iconst (v := 0) hx hb dX6_room_14 (by decide) ?_
    refine lv_bipush (v := 7) hx hb dX6_room_15 (by decide) ?_
    refine k_SI C0 hP hS (rest := []) (c_X6_isIn l G (u2 M 46 0 0) o a2 0 7) mf_X6_isIn rfl ml_X6_56 hl.1 (by decide) (by decide) (Nat.le_of_ble_eq_true rfl) rfl rfl dX6_room_17 (fun H locs hP hS => ?_)
    refine lv_topE (y := 0) (inF_Y (b := 7) rfl hbd) ?_
    refine lv_if_eq (tgt := 32) hx hb dX6_room_20 (by decide) (fun c_2 => ?_) (fun c_2 => ?_)
    · refine lv_aload_n hx hb dX6_room_32 rfl (lv_at hl 0 rfl) ?_
      refine lv_iconst (v := 1) hx hb dX6_room_33 (by decide) ?_
      refine k_VI C0 hP hS (rest := []) (c_X6_no l G (u2 M 46 0 0) o 1) mf_X6_no ml_X6_63 (kd_lt (show kd 46 = 6 by decide) (by decide)) (ct_6 (show kd 46 = 6 by decide)) rfl hl.1 (by decide) (by decide) (Nat.le_of_ble_eq_true rfl) rfl rfl dX6_room_34 (fun H locs hP hS => ?_)
      exact e_Ii C0 hr hP hS rfl (by decide) dX6_room_37
    · exact absurd c_2 (by decide)

set_option maxHeartbeats 4000000 in
set_option maxRecDepth 100000 in
theorem c_X6_go (l : Launch) (G : GG) (M : Mem) (o : Nat → Int64) (np nr k : Nat) (hO : OKT M np nr k) (d : Nat) (hd1 : 1 ≤ d) (hd2 : d ≤ 720) : MI l yX6_go cX6_go 3 (some .int) 6 132 G [.ref (adr G 46), .int (nI d)] M (gT (u2 M 46 0 0) 56 np nr k (tk k d)) o o (sumF (gT (u2 M 46 0 0) 56 np nr k (tk k d) 60) nr - sumF ((u2 M 46 0 0) 60) nr) 0 0 := by
  refine MI_of RX6 rfl (by decide +kernel) (Nat.le_of_ble_eq_true rfl) ?_
  intro p e s m below meth c sz C0 hr hP ls hl
  have hx := C0.1
  have hb := C0.2.1
  have hS : va_S (pA G sz) s.heap s.heap [] := va_S.rf
  have hl : lv_has ls 3 [(0, .ref (adr G 46)), (1, .int (nI d))] := hl
  obtain ⟨hnp, hple, hnr, hrle, hk0, hkle, hdz⟩ := okz (v := 0) hO
  refine lv_aload_n hx hb dX6_go_0 rfl (lv_at hl 0 rfl) ?_
  refine lv_iconst (v := 0) hx hb dX6_go_1 (by decide) ?_
  refine pf_X6_49 C0 hP hS (k := 46) (show kd 46 = 6 by decide) dX6_go_2 (fun H locs hP hS => ?_)
  refine lv_iload_n hx hb dX6_go_5 rfl (lv_at hl 1 rfl) ?_
  refine lv_iconst (v := 1) hx hb dX6_go_6 (by decide) ?_
  refine lv_sipush (v := 720) hx hb dX6_go_7 (by decide) ?_
  refine k_SI C0 hP hS (rest := []) (c_X6_isIn l G (u2 M 46 0 0) o (nI d) 1 720) mf_X6_isIn rfl ml_X6_56 hl.1 (by decide) (by decide) (Nat.le_of_ble_eq_true rfl) rfl rfl dX6_go_10 (fun H locs hP hS => ?_)
  refine lv_topE (y := 1) (inF_N (a := 1) (w := d) (b := 720) (by omega) (by omega) (by omega)) ?_
  refine lv_if_ne (tgt := 22) hx hb dX6_go_13 (by decide) (fun c_1 => ?_) (fun c_1 => ?_)
  · refine lv_aload_n hx hb dX6_go_22 rfl (lv_at hl 0 rfl) ?_
    refine gf_X6_42 C0 hP (k := 46) (show kd 46 = 6 by decide) dX6_go_23 ?_
    refine k_VI C0 hP hS (rest := []) (c_X5_paidInAll l G (u2 M 46 0 0) o 56 (Or.inl rfl) nr hnr hrle) mf_X5_paidInAll ml_X6_119 (kd_lt (show kd 56 = 5 by decide) (by decide)) (ct_5 (show kd 56 = 5 by decide)) rfl hl.1 (by decide) (by decide) (Nat.le_of_ble_eq_true rfl) rfl rfl dX6_go_26 (fun H locs hP hS => ?_)
    refine lv_istore_n (lv' := [(2, .int (sumF ((u2 M 46 0 0) (56 + 4)) nr)), (0, .ref (adr G 46)), (1, .int (nI d))]) hx hb dX6_go_29 rfl hl (by decide) rfl (fun ls hl => ?_)
    refine lv_aload_n hx hb dX6_go_30 rfl (lv_at hl 1 rfl) ?_
    refine gf_X6_42 C0 hP (k := 46) (show kd 46 = 6 by decide) dX6_go_31 ?_
    refine lv_iload_n hx hb dX6_go_34 rfl (lv_at hl 2 rfl) ?_
    refine k_VV C0 hP hS (rest := []) (c_X5_go_ l G (u2 M 46 0 0) o 56 (Or.inl rfl) k hk0 hkle np hnp hple nr hnr hrle hdz d (by omega)) mf_X5_go_ ml_X6_125 (kd_lt (show kd 56 = 5 by decide) (by decide)) (ct_5 (show kd 56 = 5 by decide)) rfl hl.1 (by decide) (by decide) (Nat.le_of_ble_eq_true rfl) rfl rfl dX6_go_35 (fun H locs hP hS => ?_)
    refine lv_aload_n hx hb dX6_go_38 rfl (lv_at hl 1 rfl) ?_
    refine gf_X6_42 C0 hP (k := 46) (show kd 46 = 6 by decide) dX6_go_39 ?_
    refine k_VI C0 hP hS (rest := []) (c_X5_paidInAll l G (gT (u2 M 46 0 0) 56 np nr k (tk k d)) o 56 (Or.inl rfl) nr (by rw [gT_lo (by omega)]; exact hnr) hrle) mf_X5_paidInAll ml_X6_119 (kd_lt (show kd 56 = 5 by decide) (by decide)) (ct_5 (show kd 56 = 5 by decide)) rfl hl.1 (by decide) (by decide) (Nat.le_of_ble_eq_true rfl) rfl rfl dX6_go_42 (fun H locs hP hS => ?_)
    refine lv_iload_n hx hb dX6_go_45 rfl (lv_at hl 0 rfl) ?_
    refine lv_isub hx hb dX6_go_46 ?_
    exact e_Ii C0 hr hP hS rfl (by decide) dX6_go_47
  · exact absurd c_1 (by decide)

set_option maxHeartbeats 4000000 in
set_option maxRecDepth 100000 in
theorem c_X6_go_a (l : Launch) (G : GG) (M : Mem) (o : Nat → Int64) (np nr k : Nat) (hO : OKT M np nr k) (x1 : Int32) (hbd : x1 < 1 ∨ ¬ x1 ≤ 720) : MI l yX6_go cX6_go 3 (some .int) 1 22 G [.ref (adr G 46), .int x1] M (u2 (u2 M 46 0 0) 46 0 1) o o 0 0 0 := by
  refine MI_of RX6 rfl (by decide +kernel) (Nat.le_of_ble_eq_true rfl) ?_
  intro p e s m below meth c sz C0 hr hP ls hl
  have hx := C0.1
  have hb := C0.2.1
  have hS : va_S (pA G sz) s.heap s.heap [] := va_S.rf
  have hl : lv_has ls 3 [(0, .ref (adr G 46)), (1, .int x1)] := hl
  obtain ⟨hnp, hple, hnr, hrle, hk0, hkle, hdz⟩ := okz (v := 0) hO
  refine lv_aload_n hx hb dX6_go_0 rfl (lv_at hl 0 rfl) ?_
  refine lv_iconst (v := 0) hx hb dX6_go_1 (by decide) ?_
  refine pf_X6_49 C0 hP hS (k := 46) (show kd 46 = 6 by decide) dX6_go_2 (fun H locs hP hS => ?_)
  refine lv_iload_n hx hb dX6_go_5 rfl (lv_at hl 1 rfl) ?_
  refine lv_iconst (v := 1) hx hb dX6_go_6 (by decide) ?_
  refine lv_sipush (v := 720) hx hb dX6_go_7 (by decide) ?_
  refine k_SI C0 hP hS (rest := []) (c_X6_isIn l G (u2 M 46 0 0) o x1 1 720) mf_X6_isIn rfl ml_X6_56 hl.1 (by decide) (by decide) (Nat.le_of_ble_eq_true rfl) rfl rfl dX6_go_10 (fun H locs hP hS => ?_)
  refine lv_topE (y := 0) (inF_W hbd) ?_
  refine lv_if_ne (tgt := 22) hx hb dX6_go_13 (by decide) (fun c_1 => ?_) (fun c_1 => ?_)
  · exact absurd c_1 (by decide)
  · refine lv_aload_n hx hb dX6_go_16 rfl (lv_at hl 0 rfl) ?_
    refine lv_iconst (v := 1) hx hb dX6_go_17 (by decide) ?_
    refine k_VI C0 hP hS (rest := []) (c_X6_no l G (u2 M 46 0 0) o 1) mf_X6_no ml_X6_63 (kd_lt (show kd 46 = 6 by decide) (by decide)) (ct_6 (show kd 46 = 6 by decide)) rfl hl.1 (by decide) (by decide) (Nat.le_of_ble_eq_true rfl) rfl rfl dX6_go_18 (fun H locs hP hS => ?_)
    exact e_Ii C0 hr hP hS rfl (by decide) dX6_go_21

set_option maxHeartbeats 4000000 in
set_option maxRecDepth 100000 in
theorem c_X6_bore (l : Launch) (G : GG) (M : Mem) (o : Nat → Int64) (np nr k : Nat) (hO : OKT M np nr k) (r : Nat) (hr0 : r < nr) (a2 : Int32) (hbd : ¬ otn a2 = 0) : MI l yX6_bore cX6_bore 4 (some .int) 2 43 G [.ref (adr G 46), .int (nI r), .int a2] M (u2 (u2 M 46 0 0) 58 r a2) o o ((u2 M 46 0 0) 58 r) 0 0 := by
  refine MI_of RX6 rfl (by decide +kernel) (Nat.le_of_ble_eq_true rfl) ?_
  intro p e s m below meth c sz C0 hr hP ls hl
  have hx := C0.1
  have hb := C0.2.1
  have hS : va_S (pA G sz) s.heap s.heap [] := va_S.rf
  have hl : lv_has ls 4 [(0, .ref (adr G 46)), (1, .int (nI r)), (2, .int a2)] := hl
  obtain ⟨hnp, hple, hnr, hrle, hk0, hkle, hdz⟩ := okz (v := 0) hO
  refine lv_aload_n hx hb dX6_bore_0 rfl (lv_at hl 0 rfl) ?_
  refine lv_iconst (v := 0) hx hb dX6_bore_1 (by decide) ?_
  refine pf_X6_49 C0 hP hS (k := 46) (show kd 46 = 6 by decide) dX6_bore_2 (fun H locs hP hS => ?_)
  refine lv_aload_n hx hb dX6_bore_5 rfl (lv_at hl 0 rfl) ?_
  refine lv_iload_n hx hb dX6_bore_6 rfl (lv_at hl 1 rfl) ?_
  refine k_VI C0 hP hS (rest := []) (c_X6_isRoom l G (u2 M 46 0 0) o (nI r)) mf_X6_isRoom ml_X6_73 (kd_lt (show kd 46 = 6 by decide) (by decide)) (ct_6 (show kd 46 = 6 by decide)) rfl hl.1 (by decide) (by decide) (Nat.le_of_ble_eq_true rfl) rfl rfl dX6_bore_7 (fun H locs hP hS => ?_)
  refine lv_topE (y := 1) (inF_R hnr (by omega) (by omega)) ?_
  refine lv_if_ne (tgt := 19) hx hb dX6_bore_10 (by decide) (fun c_1 => ?_) (fun c_1 => ?_)
  · refine lv_iload_n hx hb dX6_bore_19 rfl (lv_at hl 2 rfl) ?_
    refine lv_iconst (v := 1) hx hb dX6_bore_20 (by decide) ?_
    refine lv_bipush (v := 9) hx hb dX6_bore_21 (by decide) ?_
    refine k_SI C0 hP hS (rest := []) (c_X6_isIn l G (u2 M 46 0 0) o a2 1 9) mf_X6_isIn rfl ml_X6_56 hl.1 (by decide) (by decide) (Nat.le_of_ble_eq_true rfl) rfl rfl dX6_bore_23 (fun H locs hP hS => ?_)
    refine lv_if_ne (tgt := 35) hx hb dX6_bore_26 (by decide) (fun c_2 => ?_) (fun c_2 => ?_)
    · refine lv_aload_n hx hb dX6_bore_35 rfl (lv_at hl 0 rfl) ?_
      refine gf_X6_42 C0 hP (k := 46) (show kd 46 = 6 by decide) dX6_bore_36 ?_
      refine gf_X6_70 C0 hP (k := 56) (show kd 56 = 5 by decide) dX6_bore_39 ?_
      refine lv_iload_n hx hb dX6_bore_42 rfl (lv_at hl 1 rfl) ?_
      refine w_ialdN C0 hP (k := 56 + 2) (i := r) (kdT2 (Or.inl rfl)) (by rw [lnT2 (Or.inl rfl)]; omega) (by omega) dX6_bore_43 ?_
      refine lv_istore_n (lv' := [(3, .int ((u2 M 46 0 0) (56 + 2) r)), (0, .ref (adr G 46)), (1, .int (nI r)), (2, .int a2)]) hx hb dX6_bore_44 rfl hl (by decide) rfl (fun ls hl => ?_)
      refine lv_aload_n hx hb dX6_bore_45 rfl (lv_at hl 1 rfl) ?_
      refine gf_X6_42 C0 hP (k := 46) (show kd 46 = 6 by decide) dX6_bore_46 ?_
      refine gf_X6_70 C0 hP (k := 56) (show kd 56 = 5 by decide) dX6_bore_49 ?_
      refine lv_iload_n hx hb dX6_bore_52 rfl (lv_at hl 2 rfl) ?_
      refine lv_iload_n hx hb dX6_bore_53 rfl (lv_at hl 3 rfl) ?_
      refine w_iastN C0 hP hS (k := 56 + 2) (i := r) (kdT2 (Or.inl rfl)) (by rw [lnT2 (Or.inl rfl)]; omega) (by omega) dX6_bore_54 (fun H locs hP hS => ?_)
      refine lv_iload_n hx hb dX6_bore_55 rfl (lv_at hl 0 rfl) ?_
      exact e_Ii C0 hr hP hS rfl (by decide) dX6_bore_56
    · exact absurd c_2 hbd
  · exact absurd c_1 (by decide)

set_option maxHeartbeats 4000000 in
set_option maxRecDepth 100000 in
theorem c_X6_bore_i (l : Launch) (G : GG) (M : Mem) (o : Nat → Int64) (np nr k : Nat) (hO : OKT M np nr k) (x1 a2 : Int32) (hbd : x1 < 0 ∨ ¬ x1 < nI nr) : MI l yX6_bore cX6_bore 4 (some .int) 2 43 G [.ref (adr G 46), .int x1, .int a2] M (u2 (u2 M 46 0 0) 46 0 1) o o 0 0 0 := by
  refine MI_of RX6 rfl (by decide +kernel) (Nat.le_of_ble_eq_true rfl) ?_
  intro p e s m below meth c sz C0 hr hP ls hl
  have hx := C0.1
  have hb := C0.2.1
  have hS : va_S (pA G sz) s.heap s.heap [] := va_S.rf
  have hl : lv_has ls 4 [(0, .ref (adr G 46)), (1, .int x1), (2, .int a2)] := hl
  obtain ⟨hnp, hple, hnr, hrle, hk0, hkle, hdz⟩ := okz (v := 0) hO
  refine lv_aload_n hx hb dX6_bore_0 rfl (lv_at hl 0 rfl) ?_
  refine lv_iconst (v := 0) hx hb dX6_bore_1 (by decide) ?_
  refine pf_X6_49 C0 hP hS (k := 46) (show kd 46 = 6 by decide) dX6_bore_2 (fun H locs hP hS => ?_)
  refine lv_aload_n hx hb dX6_bore_5 rfl (lv_at hl 0 rfl) ?_
  refine lv_iload_n hx hb dX6_bore_6 rfl (lv_at hl 1 rfl) ?_
  refine k_VI C0 hP hS (rest := []) (c_X6_isRoom l G (u2 M 46 0 0) o x1) mf_X6_isRoom ml_X6_73 (kd_lt (show kd 46 = 6 by decide) (by decide)) (ct_6 (show kd 46 = 6 by decide)) rfl hl.1 (by decide) (by decide) (Nat.le_of_ble_eq_true rfl) rfl rfl dX6_bore_7 (fun H locs hP hS => ?_)
  refine lv_topE (y := 0) (inF_X hnr (by omega) hbd) ?_
  refine lv_if_ne (tgt := 19) hx hb dX6_bore_10 (by decide) (fun c_1 => ?_) (fun c_1 => ?_)
  · exact absurd c_1 (by decide)
  · refine lv_aload_n hx hb dX6_bore_13 rfl (lv_at hl 0 rfl) ?_
    refine lv_iconst (v := 1) hx hb dX6_bore_14 (by decide) ?_
    refine k_VI C0 hP hS (rest := []) (c_X6_no l G (u2 M 46 0 0) o 1) mf_X6_no ml_X6_63 (kd_lt (show kd 46 = 6 by decide) (by decide)) (ct_6 (show kd 46 = 6 by decide)) rfl hl.1 (by decide) (by decide) (Nat.le_of_ble_eq_true rfl) rfl rfl dX6_bore_15 (fun H locs hP hS => ?_)
    exact e_Ii C0 hr hP hS rfl (by decide) dX6_bore_18

set_option maxHeartbeats 4000000 in
set_option maxRecDepth 100000 in
theorem c_X6_bore_a (l : Launch) (G : GG) (M : Mem) (o : Nat → Int64) (np nr k : Nat) (hO : OKT M np nr k) (r : Nat) (hr0 : r < nr) (a2 : Int32) (hbd : otn a2 = 0) : MI l yX6_bore cX6_bore 4 (some .int) 2 43 G [.ref (adr G 46), .int (nI r), .int a2] M (u2 (u2 M 46 0 0) 46 0 2) o o 0 0 0 := by
  refine MI_of RX6 rfl (by decide +kernel) (Nat.le_of_ble_eq_true rfl) ?_
  intro p e s m below meth c sz C0 hr hP ls hl
  have hx := C0.1
  have hb := C0.2.1
  have hS : va_S (pA G sz) s.heap s.heap [] := va_S.rf
  have hl : lv_has ls 4 [(0, .ref (adr G 46)), (1, .int (nI r)), (2, .int a2)] := hl
  obtain ⟨hnp, hple, hnr, hrle, hk0, hkle, hdz⟩ := okz (v := 0) hO
  refine lv_aload_n hx hb dX6_bore_0 rfl (lv_at hl 0 rfl) ?_
  refine lv_iconst (v := 0) hx hb dX6_bore_1 (by decide) ?_
  refine pf_X6_49 C0 hP hS (k := 46) (show kd 46 = 6 by decide) dX6_bore_2 (fun H locs hP hS => ?_)
  refine lv_aload_n hx hb dX6_bore_5 rfl (lv_at hl 0 rfl) ?_
  refine lv_iload_n hx hb dX6_bore_6 rfl (lv_at hl 1 rfl) ?_
  refine k_VI C0 hP hS (rest := []) (c_X6_isRoom l G (u2 M 46 0 0) o (nI r)) mf_X6_isRoom ml_X6_73 (kd_lt (show kd 46 = 6 by decide) (by decide)) (ct_6 (show kd 46 = 6 by decide)) rfl hl.1 (by decide) (by decide) (Nat.le_of_ble_eq_true rfl) rfl rfl dX6_bore_7 (fun H locs hP hS => ?_)
  refine lv_topE (y := 1) (inF_R hnr (by omega) (by omega)) ?_
  refine lv_if_ne (tgt := 19) hx hb dX6_bore_10 (by decide) (fun c_1 => ?_) (fun c_1 => ?_)
  · refine lv_iload_n hx hb dX6_bore_19 rfl (lv_at hl 2 rfl) ?_
    refine lv_iconst (v := 1) hx hb dX6_bore_20 (by decide) ?_
    refine lv_bipush (v := 9) hx hb dX6_bore_21 (by decide) ?_
    refine k_SI C0 hP hS (rest := []) (c_X6_isIn l G (u2 M 46 0 0) o a2 1 9) mf_X6_isIn rfl ml_X6_56 hl.1 (by decide) (by decide) (Nat.le_of_ble_eq_true rfl) rfl rfl dX6_bore_23 (fun H locs hP hS => ?_)
    refine lv_if_ne (tgt := 35) hx hb dX6_bore_26 (by decide) (fun c_2 => ?_) (fun c_2 => ?_)
    · exact absurd hbd c_2
    · refine lv_aload_n hx hb dX6_bore_29 rfl (lv_at hl 0 rfl) ?_
      refine lv_iconst (v := 2) hx hb dX6_bore_30 (by decide) ?_
      refine k_VI C0 hP hS (rest := []) (c_X6_no l G (u2 M 46 0 0) o 2) mf_X6_no ml_X6_63 (kd_lt (show kd 46 = 6 by decide) (by decide)) (ct_6 (show kd 46 = 6 by decide)) rfl hl.1 (by decide) (by decide) (Nat.le_of_ble_eq_true rfl) rfl rfl dX6_bore_31 (fun H locs hP hS => ?_)
      exact e_Ii C0 hr hP hS rfl (by decide) dX6_bore_34
  · exact absurd c_1 (by decide)

set_option maxHeartbeats 4000000 in
set_option maxRecDepth 100000 in
theorem c_X6_paint (l : Launch) (G : GG) (M : Mem) (o : Nat → Int64) (np nr k : Nat) (hO : OKT M np nr k) (r : Nat) (hr0 : r < nr) (a2 : Int32) (hbd : ¬ ztn a2 = 0) : MI l yX6_paint cX6_paint 4 (some .int) 2 43 G [.ref (adr G 46), .int (nI r), .int a2] M (u2 (u2 M 46 0 0) 54 r a2) o o ((u2 M 46 0 0) 54 r) 0 0 := by
  refine MI_of RX6 rfl (by decide +kernel) (Nat.le_of_ble_eq_true rfl) ?_
  intro p e s m below meth c sz C0 hr hP ls hl
  have hx := C0.1
  have hb := C0.2.1
  have hS : va_S (pA G sz) s.heap s.heap [] := va_S.rf
  have hl : lv_has ls 4 [(0, .ref (adr G 46)), (1, .int (nI r)), (2, .int a2)] := hl
  obtain ⟨hnp, hple, hnr, hrle, hk0, hkle, hdz⟩ := okz (v := 0) hO
  refine lv_aload_n hx hb dX6_paint_0 rfl (lv_at hl 0 rfl) ?_
  refine lv_iconst (v := 0) hx hb dX6_paint_1 (by decide) ?_
  refine pf_X6_49 C0 hP hS (k := 46) (show kd 46 = 6 by decide) dX6_paint_2 (fun H locs hP hS => ?_)
  refine lv_aload_n hx hb dX6_paint_5 rfl (lv_at hl 0 rfl) ?_
  refine lv_iload_n hx hb dX6_paint_6 rfl (lv_at hl 1 rfl) ?_
  refine k_VI C0 hP hS (rest := []) (c_X6_isRoom l G (u2 M 46 0 0) o (nI r)) mf_X6_isRoom ml_X6_73 (kd_lt (show kd 46 = 6 by decide) (by decide)) (ct_6 (show kd 46 = 6 by decide)) rfl hl.1 (by decide) (by decide) (Nat.le_of_ble_eq_true rfl) rfl rfl dX6_paint_7 (fun H locs hP hS => ?_)
  refine lv_topE (y := 1) (inF_R hnr (by omega) (by omega)) ?_
  refine lv_if_ne (tgt := 19) hx hb dX6_paint_10 (by decide) (fun c_1 => ?_) (fun c_1 => ?_)
  · refine lv_iload_n hx hb dX6_paint_19 rfl (lv_at hl 2 rfl) ?_
    refine lv_iconst (v := 0) hx hb dX6_paint_20 (by decide) ?_
    refine lv_bipush (v := 9) hx hb dX6_paint_21 (by decide) ?_
    refine k_SI C0 hP hS (rest := []) (c_X6_isIn l G (u2 M 46 0 0) o a2 0 9) mf_X6_isIn rfl ml_X6_56 hl.1 (by decide) (by decide) (Nat.le_of_ble_eq_true rfl) rfl rfl dX6_paint_23 (fun H locs hP hS => ?_)
    refine lv_if_ne (tgt := 35) hx hb dX6_paint_26 (by decide) (fun c_2 => ?_) (fun c_2 => ?_)
    · refine lv_aload_n hx hb dX6_paint_35 rfl (lv_at hl 0 rfl) ?_
      refine gf_X6_31 C0 hP (k := 46) (show kd 46 = 6 by decide) dX6_paint_36 ?_
      refine lv_iload_n hx hb dX6_paint_39 rfl (lv_at hl 1 rfl) ?_
      refine w_ialdN C0 hP (k := 54) (i := r) (show kd 54 = 7 by decide) (show r < 8 by omega) (by omega) dX6_paint_40 ?_
      refine lv_istore_n (lv' := [(3, .int ((u2 M 46 0 0) 54 r)), (0, .ref (adr G 46)), (1, .int (nI r)), (2, .int a2)]) hx hb dX6_paint_41 rfl hl (by decide) rfl (fun ls hl => ?_)
      refine lv_aload_n hx hb dX6_paint_42 rfl (lv_at hl 1 rfl) ?_
      refine gf_X6_31 C0 hP (k := 46) (show kd 46 = 6 by decide) dX6_paint_43 ?_
      refine lv_iload_n hx hb dX6_paint_46 rfl (lv_at hl 2 rfl) ?_
      refine lv_iload_n hx hb dX6_paint_47 rfl (lv_at hl 3 rfl) ?_
      refine w_iastN C0 hP hS (k := 54) (i := r) (show kd 54 = 7 by decide) (show r < 8 by omega) (by omega) dX6_paint_48 (fun H locs hP hS => ?_)
      refine lv_iload_n hx hb dX6_paint_49 rfl (lv_at hl 0 rfl) ?_
      exact e_Ii C0 hr hP hS rfl (by decide) dX6_paint_50
    · exact absurd c_2 hbd
  · exact absurd c_1 (by decide)

set_option maxHeartbeats 4000000 in
set_option maxRecDepth 100000 in
theorem c_X6_paint_i (l : Launch) (G : GG) (M : Mem) (o : Nat → Int64) (np nr k : Nat) (hO : OKT M np nr k) (x1 a2 : Int32) (hbd : x1 < 0 ∨ ¬ x1 < nI nr) : MI l yX6_paint cX6_paint 4 (some .int) 2 43 G [.ref (adr G 46), .int x1, .int a2] M (u2 (u2 M 46 0 0) 46 0 1) o o 0 0 0 := by
  refine MI_of RX6 rfl (by decide +kernel) (Nat.le_of_ble_eq_true rfl) ?_
  intro p e s m below meth c sz C0 hr hP ls hl
  have hx := C0.1
  have hb := C0.2.1
  have hS : va_S (pA G sz) s.heap s.heap [] := va_S.rf
  have hl : lv_has ls 4 [(0, .ref (adr G 46)), (1, .int x1), (2, .int a2)] := hl
  obtain ⟨hnp, hple, hnr, hrle, hk0, hkle, hdz⟩ := okz (v := 0) hO
  refine lv_aload_n hx hb dX6_paint_0 rfl (lv_at hl 0 rfl) ?_
  refine lv_iconst (v := 0) hx hb dX6_paint_1 (by decide) ?_
  refine pf_X6_49 C0 hP hS (k := 46) (show kd 46 = 6 by decide) dX6_paint_2 (fun H locs hP hS => ?_)
  refine lv_aload_n hx hb dX6_paint_5 rfl (lv_at hl 0 rfl) ?_
  refine lv_iload_n hx hb dX6_paint_6 rfl (lv_at hl 1 rfl) ?_
  refine k_VI C0 hP hS (rest := []) (c_X6_isRoom l G (u2 M 46 0 0) o x1) mf_X6_isRoom ml_X6_73 (kd_lt (show kd 46 = 6 by decide) (by decide)) (ct_6 (show kd 46 = 6 by decide)) rfl hl.1 (by decide) (by decide) (Nat.le_of_ble_eq_true rfl) rfl rfl dX6_paint_7 (fun H locs hP hS => ?_)
  refine lv_topE (y := 0) (inF_X hnr (by omega) hbd) ?_
  refine lv_if_ne (tgt := 19) hx hb dX6_paint_10 (by decide) (fun c_1 => ?_) (fun c_1 => ?_)
  · exact absurd c_1 (by decide)
  · refine lv_aload_n hx hb dX6_paint_13 rfl (lv_at hl 0 rfl) ?_
    refine lv_iconst (v := 1) hx hb dX6_paint_14 (by decide) ?_
    refine k_VI C0 hP hS (rest := []) (c_X6_no l G (u2 M 46 0 0) o 1) mf_X6_no ml_X6_63 (kd_lt (show kd 46 = 6 by decide) (by decide)) (ct_6 (show kd 46 = 6 by decide)) rfl hl.1 (by decide) (by decide) (Nat.le_of_ble_eq_true rfl) rfl rfl dX6_paint_15 (fun H locs hP hS => ?_)
    exact e_Ii C0 hr hP hS rfl (by decide) dX6_paint_18

set_option maxHeartbeats 4000000 in
set_option maxRecDepth 100000 in
theorem c_X6_paint_a (l : Launch) (G : GG) (M : Mem) (o : Nat → Int64) (np nr k : Nat) (hO : OKT M np nr k) (r : Nat) (hr0 : r < nr) (a2 : Int32) (hbd : ztn a2 = 0) : MI l yX6_paint cX6_paint 4 (some .int) 2 43 G [.ref (adr G 46), .int (nI r), .int a2] M (u2 (u2 M 46 0 0) 46 0 2) o o 0 0 0 := by
  refine MI_of RX6 rfl (by decide +kernel) (Nat.le_of_ble_eq_true rfl) ?_
  intro p e s m below meth c sz C0 hr hP ls hl
  have hx := C0.1
  have hb := C0.2.1
  have hS : va_S (pA G sz) s.heap s.heap [] := va_S.rf
  have hl : lv_has ls 4 [(0, .ref (adr G 46)), (1, .int (nI r)), (2, .int a2)] := hl
  obtain ⟨hnp, hple, hnr, hrle, hk0, hkle, hdz⟩ := okz (v := 0) hO
  refine lv_aload_n hx hb dX6_paint_0 rfl (lv_at hl 0 rfl) ?_
  refine lv_iconst (v := 0) hx hb dX6_paint_1 (by decide) ?_
  refine pf_X6_49 C0 hP hS (k := 46) (show kd 46 = 6 by decide) dX6_paint_2 (fun H locs hP hS => ?_)
  refine lv_aload_n hx hb dX6_paint_5 rfl (lv_at hl 0 rfl) ?_
  refine lv_iload_n hx hb dX6_paint_6 rfl (lv_at hl 1 rfl) ?_
  refine k_VI C0 hP hS (rest := []) (c_X6_isRoom l G (u2 M 46 0 0) o (nI r)) mf_X6_isRoom ml_X6_73 (kd_lt (show kd 46 = 6 by decide) (by decide)) (ct_6 (show kd 46 = 6 by decide)) rfl hl.1 (by decide) (by decide) (Nat.le_of_ble_eq_true rfl) rfl rfl dX6_paint_7 (fun H locs hP hS => ?_)
  refine lv_topE (y := 1) (inF_R hnr (by omega) (by omega)) ?_
  refine lv_if_ne (tgt := 19) hx hb dX6_paint_10 (by decide) (fun c_1 => ?_) (fun c_1 => ?_)
  · refine lv_iload_n hx hb dX6_paint_19 rfl (lv_at hl 2 rfl) ?_
    refine lv_iconst (v := 0) hx hb dX6_paint_20 (by decide) ?_
    refine lv_bipush (v := 9) hx hb dX6_paint_21 (by decide) ?_
    refine k_SI C0 hP hS (rest := []) (c_X6_isIn l G (u2 M 46 0 0) o a2 0 9) mf_X6_isIn rfl ml_X6_56 hl.1 (by decide) (by decide) (Nat.le_of_ble_eq_true rfl) rfl rfl dX6_paint_23 (fun H locs hP hS => ?_)
    refine lv_if_ne (tgt := 35) hx hb dX6_paint_26 (by decide) (fun c_2 => ?_) (fun c_2 => ?_)
    · exact absurd hbd c_2
    · refine lv_aload_n hx hb dX6_paint_29 rfl (lv_at hl 0 rfl) ?_
      refine lv_iconst (v := 2) hx hb dX6_paint_30 (by decide) ?_
      refine k_VI C0 hP hS (rest := []) (c_X6_no l G (u2 M 46 0 0) o 2) mf_X6_no ml_X6_63 (kd_lt (show kd 46 = 6 by decide) (by decide)) (ct_6 (show kd 46 = 6 by decide)) rfl hl.1 (by decide) (by decide) (Nat.le_of_ble_eq_true rfl) rfl rfl dX6_paint_31 (fun H locs hP hS => ?_)
      exact e_Ii C0 hr hP hS rfl (by decide) dX6_paint_34
  · exact absurd c_1 (by decide)

set_option maxHeartbeats 4000000 in
set_option maxRecDepth 100000 in
theorem c_X6_bright (l : Launch) (G : GG) (M : Mem) (o : Nat → Int64) (np nr k : Nat) (hO : OKT M np nr k) (r i : Nat) (hr0 : r < nr) (hi : i < np) : MI l yX6_bright cX6_bright 3 (some .int) 2 43 G [.ref (adr G 46), .int (nI r), .int (nI i)] M (u2 M 46 0 0) o o (if shT (u2 M 46 0 0) 56 r i = 0 then -1 else brT (u2 M 46 0 0) 56 (ltF ((u2 M 46 0 0) 47) ((u2 M 46 0 0) 48) k) r i) 0 0 := by
  refine MI_of RX6 rfl (by decide +kernel) (Nat.le_of_ble_eq_true rfl) ?_
  intro p e s m below meth c sz C0 hr hP ls hl
  have hx := C0.1
  have hb := C0.2.1
  have hS : va_S (pA G sz) s.heap s.heap [] := va_S.rf
  have hl : lv_has ls 3 [(0, .ref (adr G 46)), (1, .int (nI r)), (2, .int (nI i))] := hl
  obtain ⟨hnp, hple, hnr, hrle, hk0, hkle, hdz⟩ := okz (v := 0) hO
  refine lv_aload_n hx hb dX6_bright_0 rfl (lv_at hl 0 rfl) ?_
  refine lv_iconst (v := 0) hx hb dX6_bright_1 (by decide) ?_
  refine pf_X6_49 C0 hP hS (k := 46) (show kd 46 = 6 by decide) dX6_bright_2 (fun H locs hP hS => ?_)
  refine lv_aload_n hx hb dX6_bright_5 rfl (lv_at hl 0 rfl) ?_
  refine lv_iload_n hx hb dX6_bright_6 rfl (lv_at hl 1 rfl) ?_
  refine k_VI C0 hP hS (rest := []) (c_X6_isRoom l G (u2 M 46 0 0) o (nI r)) mf_X6_isRoom ml_X6_73 (kd_lt (show kd 46 = 6 by decide) (by decide)) (ct_6 (show kd 46 = 6 by decide)) rfl hl.1 (by decide) (by decide) (Nat.le_of_ble_eq_true rfl) rfl rfl dX6_bright_7 (fun H locs hP hS => ?_)
  refine lv_topE (y := 1) (inF_R hnr (by omega) (by omega)) ?_
  refine lv_if_eq (tgt := 21) hx hb dX6_bright_10 (by decide) (fun c_1 => ?_) (fun c_1 => ?_)
  · exact absurd c_1 (by decide)
  · refine lv_aload_n hx hb dX6_bright_13 rfl (lv_at hl 0 rfl) ?_
    refine lv_iload_n hx hb dX6_bright_14 rfl (lv_at hl 2 rfl) ?_
    refine k_VI C0 hP hS (rest := []) (c_X6_isPasser l G (u2 M 46 0 0) o (nI i)) mf_X6_isPasser ml_X6_84 (kd_lt (show kd 46 = 6 by decide) (by decide)) (ct_6 (show kd 46 = 6 by decide)) rfl hl.1 (by decide) (by decide) (Nat.le_of_ble_eq_true rfl) rfl rfl dX6_bright_15 (fun H locs hP hS => ?_)
    refine lv_topE (y := 1) (inF_R hnp (by omega) (by omega)) ?_
    refine lv_if_ne (tgt := 27) hx hb dX6_bright_18 (by decide) (fun c_2 => ?_) (fun c_2 => ?_)
    · refine lv_aload_n hx hb dX6_bright_27 rfl (lv_at hl 0 rfl) ?_
      refine gf_X6_42 C0 hP (k := 46) (show kd 46 = 6 by decide) dX6_bright_28 ?_
      refine lv_iload_n hx hb dX6_bright_31 rfl (lv_at hl 1 rfl) ?_
      refine lv_iload_n hx hb dX6_bright_32 rfl (lv_at hl 2 rfl) ?_
      refine k_VI C0 hP hS (rest := []) (c_X5_isShown l G (u2 M 46 0 0) o 56 (Or.inl rfl) r i (by omega) (by omega)) mf_X5_isShown ml_X6_100 (kd_lt (show kd 56 = 5 by decide) (by decide)) (ct_5 (show kd 56 = 5 by decide)) rfl hl.1 (by decide) (by decide) (Nat.le_of_ble_eq_true rfl) rfl rfl dX6_bright_33 (fun H locs hP hS => ?_)
      refine lv_if_eq (tgt := 51) hx hb dX6_bright_36 (by decide) (fun c_3 => ?_) (fun c_3 => ?_)
      · refine lv_iconst (v := -1) hx hb dX6_bright_51 (by decide) ?_
        exact e_Ii C0 hr hP hS (by simp [c_1, c_2, c_3]) (by decide) dX6_bright_52
      · refine lv_aload_n hx hb dX6_bright_39 rfl (lv_at hl 0 rfl) ?_
        refine gf_X6_42 C0 hP (k := 46) (show kd 46 = 6 by decide) dX6_bright_40 ?_
        refine lv_iload_n hx hb dX6_bright_43 rfl (lv_at hl 1 rfl) ?_
        refine lv_iload_n hx hb dX6_bright_44 rfl (lv_at hl 2 rfl) ?_
        refine k_VI C0 hP hS (rest := []) (c_X5_brightness l G (u2 M 46 0 0) o 56 (Or.inl rfl) k hk0 hkle r i (by omega) (by omega) (hdz _ (by omega))) mf_X5_brightness ml_X6_103 (kd_lt (show kd 56 = 5 by decide) (by decide)) (ct_5 (show kd 56 = 5 by decide)) rfl hl.1 (by decide) (by decide) (Nat.le_of_ble_eq_true rfl) rfl rfl dX6_bright_45 (fun H locs hP hS => ?_)
        refine lv_goto (tgt := 52) hx hb dX6_bright_48 (by decide) ?_
        exact e_Ii C0 hr hP hS (by simp [c_1, c_2, c_3]) (by decide) dX6_bright_52
    · exact absurd c_2 (by decide)

set_option maxHeartbeats 4000000 in
set_option maxRecDepth 100000 in
theorem c_X6_bright_i (l : Launch) (G : GG) (M : Mem) (o : Nat → Int64) (np nr k : Nat) (hO : OKT M np nr k) (x1 a2 : Int32) (hbd : x1 < 0 ∨ ¬ x1 < nI nr) : MI l yX6_bright cX6_bright 3 (some .int) 2 43 G [.ref (adr G 46), .int x1, .int a2] M (u2 (u2 M 46 0 0) 46 0 1) o o 0 0 0 := by
  refine MI_of RX6 rfl (by decide +kernel) (Nat.le_of_ble_eq_true rfl) ?_
  intro p e s m below meth c sz C0 hr hP ls hl
  have hx := C0.1
  have hb := C0.2.1
  have hS : va_S (pA G sz) s.heap s.heap [] := va_S.rf
  have hl : lv_has ls 3 [(0, .ref (adr G 46)), (1, .int x1), (2, .int a2)] := hl
  obtain ⟨hnp, hple, hnr, hrle, hk0, hkle, hdz⟩ := okz (v := 0) hO
  refine lv_aload_n hx hb dX6_bright_0 rfl (lv_at hl 0 rfl) ?_
  refine lv_iconst (v := 0) hx hb dX6_bright_1 (by decide) ?_
  refine pf_X6_49 C0 hP hS (k := 46) (show kd 46 = 6 by decide) dX6_bright_2 (fun H locs hP hS => ?_)
  refine lv_aload_n hx hb dX6_bright_5 rfl (lv_at hl 0 rfl) ?_
  refine lv_iload_n hx hb dX6_bright_6 rfl (lv_at hl 1 rfl) ?_
  refine k_VI C0 hP hS (rest := []) (c_X6_isRoom l G (u2 M 46 0 0) o x1) mf_X6_isRoom ml_X6_73 (kd_lt (show kd 46 = 6 by decide) (by decide)) (ct_6 (show kd 46 = 6 by decide)) rfl hl.1 (by decide) (by decide) (Nat.le_of_ble_eq_true rfl) rfl rfl dX6_bright_7 (fun H locs hP hS => ?_)
  refine lv_topE (y := 0) (inF_X hnr (by omega) hbd) ?_
  refine lv_if_eq (tgt := 21) hx hb dX6_bright_10 (by decide) (fun c_1 => ?_) (fun c_1 => ?_)
  · refine lv_aload_n hx hb dX6_bright_21 rfl (lv_at hl 0 rfl) ?_
    refine lv_iconst (v := 1) hx hb dX6_bright_22 (by decide) ?_
    refine k_VI C0 hP hS (rest := []) (c_X6_no l G (u2 M 46 0 0) o 1) mf_X6_no ml_X6_63 (kd_lt (show kd 46 = 6 by decide) (by decide)) (ct_6 (show kd 46 = 6 by decide)) rfl hl.1 (by decide) (by decide) (Nat.le_of_ble_eq_true rfl) rfl rfl dX6_bright_23 (fun H locs hP hS => ?_)
    exact e_Ii C0 hr hP hS rfl (by decide) dX6_bright_26
  · exact absurd c_1 (by decide)

set_option maxHeartbeats 4000000 in
set_option maxRecDepth 100000 in
theorem c_X6_bright_j (l : Launch) (G : GG) (M : Mem) (o : Nat → Int64) (np nr k : Nat) (hO : OKT M np nr k) (r : Nat) (hr0 : r < nr) (a2 : Int32) (hbd : a2 < 0 ∨ ¬ a2 < nI np) : MI l yX6_bright cX6_bright 3 (some .int) 2 43 G [.ref (adr G 46), .int (nI r), .int a2] M (u2 (u2 M 46 0 0) 46 0 1) o o 0 0 0 := by
  refine MI_of RX6 rfl (by decide +kernel) (Nat.le_of_ble_eq_true rfl) ?_
  intro p e s m below meth c sz C0 hr hP ls hl
  have hx := C0.1
  have hb := C0.2.1
  have hS : va_S (pA G sz) s.heap s.heap [] := va_S.rf
  have hl : lv_has ls 3 [(0, .ref (adr G 46)), (1, .int (nI r)), (2, .int a2)] := hl
  obtain ⟨hnp, hple, hnr, hrle, hk0, hkle, hdz⟩ := okz (v := 0) hO
  refine lv_aload_n hx hb dX6_bright_0 rfl (lv_at hl 0 rfl) ?_
  refine lv_iconst (v := 0) hx hb dX6_bright_1 (by decide) ?_
  refine pf_X6_49 C0 hP hS (k := 46) (show kd 46 = 6 by decide) dX6_bright_2 (fun H locs hP hS => ?_)
  refine lv_aload_n hx hb dX6_bright_5 rfl (lv_at hl 0 rfl) ?_
  refine lv_iload_n hx hb dX6_bright_6 rfl (lv_at hl 1 rfl) ?_
  refine k_VI C0 hP hS (rest := []) (c_X6_isRoom l G (u2 M 46 0 0) o (nI r)) mf_X6_isRoom ml_X6_73 (kd_lt (show kd 46 = 6 by decide) (by decide)) (ct_6 (show kd 46 = 6 by decide)) rfl hl.1 (by decide) (by decide) (Nat.le_of_ble_eq_true rfl) rfl rfl dX6_bright_7 (fun H locs hP hS => ?_)
  refine lv_topE (y := 1) (inF_R hnr (by omega) (by omega)) ?_
  refine lv_if_eq (tgt := 21) hx hb dX6_bright_10 (by decide) (fun c_1 => ?_) (fun c_1 => ?_)
  · exact absurd c_1 (by decide)
  · refine lv_aload_n hx hb dX6_bright_13 rfl (lv_at hl 0 rfl) ?_
    refine lv_iload_n hx hb dX6_bright_14 rfl (lv_at hl 2 rfl) ?_
    refine k_VI C0 hP hS (rest := []) (c_X6_isPasser l G (u2 M 46 0 0) o a2) mf_X6_isPasser ml_X6_84 (kd_lt (show kd 46 = 6 by decide) (by decide)) (ct_6 (show kd 46 = 6 by decide)) rfl hl.1 (by decide) (by decide) (Nat.le_of_ble_eq_true rfl) rfl rfl dX6_bright_15 (fun H locs hP hS => ?_)
    refine lv_topE (y := 0) (inF_X hnp (by omega) hbd) ?_
    refine lv_if_ne (tgt := 27) hx hb dX6_bright_18 (by decide) (fun c_2 => ?_) (fun c_2 => ?_)
    · exact absurd c_2 (by decide)
    · refine lv_aload_n hx hb dX6_bright_21 rfl (lv_at hl 0 rfl) ?_
      refine lv_iconst (v := 1) hx hb dX6_bright_22 (by decide) ?_
      refine k_VI C0 hP hS (rest := []) (c_X6_no l G (u2 M 46 0 0) o 1) mf_X6_no ml_X6_63 (kd_lt (show kd 46 = 6 by decide) (by decide)) (ct_6 (show kd 46 = 6 by decide)) rfl hl.1 (by decide) (by decide) (Nat.le_of_ble_eq_true rfl) rfl rfl dX6_bright_23 (fun H locs hP hS => ?_)
      exact e_Ii C0 hr hP hS rfl (by decide) dX6_bright_26

set_option maxHeartbeats 4000000 in
set_option maxRecDepth 100000 in
theorem c_X6_setLight (l : Launch) (G : GG) (M : Mem) (o : Nat → Int64) (np nr k : Nat) (hO : OKT M np nr k) (h : Nat) (hh : h < 12) (a2 a3 : Int32) (hbd : ¬ bdL a2 a3) : MI l yX6_setLight cX6_setLight 5 (some .int) 1 22 G [.ref (adr G 46), .int (nI h), .int a2, .int a3] M (u2 (u2 (u2 M 46 0 0) 47 h a2) 48 h a3) o o (10 * (u2 M 46 0 0) 47 h + (u2 M 46 0 0) 48 h) 0 0 := by
  refine MI_of RX6 rfl (by decide +kernel) (Nat.le_of_ble_eq_true rfl) ?_
  intro p e s m below meth c sz C0 hr hP ls hl
  have hx := C0.1
  have hb := C0.2.1
  have hS : va_S (pA G sz) s.heap s.heap [] := va_S.rf
  have hl : lv_has ls 5 [(0, .ref (adr G 46)), (1, .int (nI h)), (2, .int a2), (3, .int a3)] := hl
  obtain ⟨hnp, hple, hnr, hrle, hk0, hkle, hdz⟩ := okz (v := 0) hO
  refine lv_aload_n hx hb dX6_setLight_0 rfl (lv_at hl 0 rfl) ?_
  refine lv_iconst (v := 0) hx hb dX6_setLight_1 (by decide) ?_
  refine pf_X6_49 C0 hP hS (k := 46) (show kd 46 = 6 by decide) dX6_setLight_2 (fun H locs hP hS => ?_)
  refine lv_iload_n hx hb dX6_setLight_5 rfl (lv_at hl 1 rfl) ?_
  refine lv_iconst (v := 0) hx hb dX6_setLight_6 (by decide) ?_
  refine lv_bipush (v := 11) hx hb dX6_setLight_7 (by decide) ?_
  refine k_SI C0 hP hS (rest := []) (c_X6_isIn l G (u2 M 46 0 0) o (nI h) 0 11) mf_X6_isIn rfl ml_X6_56 hl.1 (by decide) (by decide) (Nat.le_of_ble_eq_true rfl) rfl rfl dX6_setLight_9 (fun H locs hP hS => ?_)
  refine lv_topE (y := 1) (inF_N (a := 0) (w := h) (b := 11) (by omega) (by omega) (by omega)) ?_
  refine lv_if_ne (tgt := 21) hx hb dX6_setLight_12 (by decide) (fun c_1 => ?_) (fun c_1 => ?_)
  · refine lv_iload_n hx hb dX6_setLight_21 rfl (lv_at hl 2 rfl) ?_
    refine lv_iconst (v := 0) hx hb dX6_setLight_22 (by decide) ?_
    refine lv_bipush (v := 100) hx hb dX6_setLight_23 (by decide) ?_
    refine k_SI C0 hP hS (rest := []) (c_X6_isIn l G (u2 M 46 0 0) o a2 0 100) mf_X6_isIn rfl ml_X6_56 hl.1 (by decide) (by decide) (Nat.le_of_ble_eq_true rfl) rfl rfl dX6_setLight_25 (fun H locs hP hS => ?_)
    refine lv_if_eq (tgt := 41) hx hb dX6_setLight_28 (by decide) (fun c_2 => ?_) (fun c_2 => ?_)
    · exact (hbd (bdL_in.mpr (by simp [c_1, c_2]))).elim
    · refine lv_iload_n hx hb dX6_setLight_31 rfl (lv_at hl 3 rfl) ?_
      refine lv_iconst (v := 0) hx hb dX6_setLight_32 (by decide) ?_
      refine lv_bipush (v := 9) hx hb dX6_setLight_33 (by decide) ?_
      refine k_SI C0 hP hS (rest := []) (c_X6_isIn l G (u2 M 46 0 0) o a3 0 9) mf_X6_isIn rfl ml_X6_56 hl.1 (by decide) (by decide) (Nat.le_of_ble_eq_true rfl) rfl rfl dX6_setLight_35 (fun H locs hP hS => ?_)
      refine lv_if_ne (tgt := 47) hx hb dX6_setLight_38 (by decide) (fun c_3 => ?_) (fun c_3 => ?_)
      · refine lv_bipush (v := 10) hx hb dX6_setLight_47 (by decide) ?_
        refine lv_aload_n hx hb dX6_setLight_49 rfl (lv_at hl 0 rfl) ?_
        refine gf_X6_9 C0 hP (k := 46) (show kd 46 = 6 by decide) dX6_setLight_50 ?_
        refine lv_iload_n hx hb dX6_setLight_53 rfl (lv_at hl 1 rfl) ?_
        refine w_ialdN C0 hP (k := 47) (i := h) (show kd 47 = 7 by decide) (show h < 12 by omega) (by omega) dX6_setLight_54 ?_
        refine lv_imul hx hb dX6_setLight_55 ?_
        refine lv_aload_n hx hb dX6_setLight_56 rfl (lv_at hl 0 rfl) ?_
        refine gf_X6_13 C0 hP (k := 46) (show kd 46 = 6 by decide) dX6_setLight_57 ?_
        refine lv_iload_n hx hb dX6_setLight_60 rfl (lv_at hl 1 rfl) ?_
        refine w_ialdN C0 hP (k := 48) (i := h) (show kd 48 = 7 by decide) (show h < 12 by omega) (by omega) dX6_setLight_61 ?_
        refine lv_iadd hx hb dX6_setLight_62 ?_
        refine lv_istore (lv' := [(4, .int ((10 * ((u2 M 46 0 0) 47 h)) + ((u2 M 46 0 0) 48 h))), (0, .ref (adr G 46)), (1, .int (nI h)), (2, .int a2), (3, .int a3)]) hx hb dX6_setLight_63 hl (by decide) rfl (fun ls hl => ?_)
        refine lv_aload_n hx hb dX6_setLight_65 rfl (lv_at hl 1 rfl) ?_
        refine gf_X6_9 C0 hP (k := 46) (show kd 46 = 6 by decide) dX6_setLight_66 ?_
        refine lv_iload_n hx hb dX6_setLight_69 rfl (lv_at hl 2 rfl) ?_
        refine lv_iload_n hx hb dX6_setLight_70 rfl (lv_at hl 3 rfl) ?_
        refine w_iastN C0 hP hS (k := 47) (i := h) (show kd 47 = 7 by decide) (show h < 12 by omega) (by omega) dX6_setLight_71 (fun H locs hP hS => ?_)
        refine lv_aload_n hx hb dX6_setLight_72 rfl (lv_at hl 1 rfl) ?_
        refine gf_X6_13 C0 hP (k := 46) (show kd 46 = 6 by decide) dX6_setLight_73 ?_
        refine lv_iload_n hx hb dX6_setLight_76 rfl (lv_at hl 2 rfl) ?_
        refine lv_iload_n hx hb dX6_setLight_77 rfl (lv_at hl 4 rfl) ?_
        refine w_iastN C0 hP hS (k := 48) (i := h) (show kd 48 = 7 by decide) (show h < 12 by omega) (by omega) dX6_setLight_78 (fun H locs hP hS => ?_)
        refine lv_iload hx hb dX6_setLight_79 (lv_at hl 0 rfl) ?_
        exact e_Ii C0 hr hP hS rfl (by decide) dX6_setLight_81
      · exact (hbd (bdL_in.mpr (by simp [c_1, c_2, c_3]))).elim
  · exact absurd c_1 (by decide)

set_option maxHeartbeats 4000000 in
set_option maxRecDepth 100000 in
theorem c_X6_setLight_i (l : Launch) (G : GG) (M : Mem) (o : Nat → Int64) (np nr k : Nat) (hO : OKT M np nr k) (x1 a2 a3 : Int32) (hbd : x1 < 0 ∨ ¬ x1 < 12) : MI l yX6_setLight cX6_setLight 5 (some .int) 1 22 G [.ref (adr G 46), .int x1, .int a2, .int a3] M (u2 (u2 M 46 0 0) 46 0 1) o o 0 0 0 := by
  refine MI_of RX6 rfl (by decide +kernel) (Nat.le_of_ble_eq_true rfl) ?_
  intro p e s m below meth c sz C0 hr hP ls hl
  have hx := C0.1
  have hb := C0.2.1
  have hS : va_S (pA G sz) s.heap s.heap [] := va_S.rf
  have hl : lv_has ls 5 [(0, .ref (adr G 46)), (1, .int x1), (2, .int a2), (3, .int a3)] := hl
  obtain ⟨hnp, hple, hnr, hrle, hk0, hkle, hdz⟩ := okz (v := 0) hO
  refine lv_aload_n hx hb dX6_setLight_0 rfl (lv_at hl 0 rfl) ?_
  refine lv_iconst (v := 0) hx hb dX6_setLight_1 (by decide) ?_
  refine pf_X6_49 C0 hP hS (k := 46) (show kd 46 = 6 by decide) dX6_setLight_2 (fun H locs hP hS => ?_)
  refine lv_iload_n hx hb dX6_setLight_5 rfl (lv_at hl 1 rfl) ?_
  refine lv_iconst (v := 0) hx hb dX6_setLight_6 (by decide) ?_
  refine lv_bipush (v := 11) hx hb dX6_setLight_7 (by decide) ?_
  refine k_SI C0 hP hS (rest := []) (c_X6_isIn l G (u2 M 46 0 0) o x1 0 11) mf_X6_isIn rfl ml_X6_56 hl.1 (by decide) (by decide) (Nat.le_of_ble_eq_true rfl) rfl rfl dX6_setLight_9 (fun H locs hP hS => ?_)
  refine lv_topE (y := 0) (inF_Y (b := 11) rfl hbd) ?_
  refine lv_if_ne (tgt := 21) hx hb dX6_setLight_12 (by decide) (fun c_1 => ?_) (fun c_1 => ?_)
  · exact absurd c_1 (by decide)
  · refine lv_aload_n hx hb dX6_setLight_15 rfl (lv_at hl 0 rfl) ?_
    refine lv_iconst (v := 1) hx hb dX6_setLight_16 (by decide) ?_
    refine k_VI C0 hP hS (rest := []) (c_X6_no l G (u2 M 46 0 0) o 1) mf_X6_no ml_X6_63 (kd_lt (show kd 46 = 6 by decide) (by decide)) (ct_6 (show kd 46 = 6 by decide)) rfl hl.1 (by decide) (by decide) (Nat.le_of_ble_eq_true rfl) rfl rfl dX6_setLight_17 (fun H locs hP hS => ?_)
    exact e_Ii C0 hr hP hS rfl (by decide) dX6_setLight_20

set_option maxHeartbeats 4000000 in
set_option maxRecDepth 100000 in
theorem c_X6_setLight_a (l : Launch) (G : GG) (M : Mem) (o : Nat → Int64) (np nr k : Nat) (hO : OKT M np nr k) (h : Nat) (hh : h < 12) (a2 a3 : Int32) (hbd : bdL a2 a3) : MI l yX6_setLight cX6_setLight 5 (some .int) 1 22 G [.ref (adr G 46), .int (nI h), .int a2, .int a3] M (u2 (u2 M 46 0 0) 46 0 2) o o 0 0 0 := by
  refine MI_of RX6 rfl (by decide +kernel) (Nat.le_of_ble_eq_true rfl) ?_
  intro p e s m below meth c sz C0 hr hP ls hl
  have hx := C0.1
  have hb := C0.2.1
  have hS : va_S (pA G sz) s.heap s.heap [] := va_S.rf
  have hl : lv_has ls 5 [(0, .ref (adr G 46)), (1, .int (nI h)), (2, .int a2), (3, .int a3)] := hl
  obtain ⟨hnp, hple, hnr, hrle, hk0, hkle, hdz⟩ := okz (v := 0) hO
  refine lv_aload_n hx hb dX6_setLight_0 rfl (lv_at hl 0 rfl) ?_
  refine lv_iconst (v := 0) hx hb dX6_setLight_1 (by decide) ?_
  refine pf_X6_49 C0 hP hS (k := 46) (show kd 46 = 6 by decide) dX6_setLight_2 (fun H locs hP hS => ?_)
  refine lv_iload_n hx hb dX6_setLight_5 rfl (lv_at hl 1 rfl) ?_
  refine lv_iconst (v := 0) hx hb dX6_setLight_6 (by decide) ?_
  refine lv_bipush (v := 11) hx hb dX6_setLight_7 (by decide) ?_
  refine k_SI C0 hP hS (rest := []) (c_X6_isIn l G (u2 M 46 0 0) o (nI h) 0 11) mf_X6_isIn rfl ml_X6_56 hl.1 (by decide) (by decide) (Nat.le_of_ble_eq_true rfl) rfl rfl dX6_setLight_9 (fun H locs hP hS => ?_)
  refine lv_topE (y := 1) (inF_N (a := 0) (w := h) (b := 11) (by omega) (by omega) (by omega)) ?_
  refine lv_if_ne (tgt := 21) hx hb dX6_setLight_12 (by decide) (fun c_1 => ?_) (fun c_1 => ?_)
  · refine lv_iload_n hx hb dX6_setLight_21 rfl (lv_at hl 2 rfl) ?_
    refine lv_iconst (v := 0) hx hb dX6_setLight_22 (by decide) ?_
    refine lv_bipush (v := 100) hx hb dX6_setLight_23 (by decide) ?_
    refine k_SI C0 hP hS (rest := []) (c_X6_isIn l G (u2 M 46 0 0) o a2 0 100) mf_X6_isIn rfl ml_X6_56 hl.1 (by decide) (by decide) (Nat.le_of_ble_eq_true rfl) rfl rfl dX6_setLight_25 (fun H locs hP hS => ?_)
    refine lv_if_eq (tgt := 41) hx hb dX6_setLight_28 (by decide) (fun c_2 => ?_) (fun c_2 => ?_)
    · refine lv_aload_n hx hb dX6_setLight_41 rfl (lv_at hl 0 rfl) ?_
      refine lv_iconst (v := 2) hx hb dX6_setLight_42 (by decide) ?_
      refine k_VI C0 hP hS (rest := []) (c_X6_no l G (u2 M 46 0 0) o 2) mf_X6_no ml_X6_63 (kd_lt (show kd 46 = 6 by decide) (by decide)) (ct_6 (show kd 46 = 6 by decide)) rfl hl.1 (by decide) (by decide) (Nat.le_of_ble_eq_true rfl) rfl rfl dX6_setLight_43 (fun H locs hP hS => ?_)
      exact e_Ii C0 hr hP hS rfl (by decide) dX6_setLight_46
    · refine lv_iload_n hx hb dX6_setLight_31 rfl (lv_at hl 3 rfl) ?_
      refine lv_iconst (v := 0) hx hb dX6_setLight_32 (by decide) ?_
      refine lv_bipush (v := 9) hx hb dX6_setLight_33 (by decide) ?_
      refine k_SI C0 hP hS (rest := []) (c_X6_isIn l G (u2 M 46 0 0) o a3 0 9) mf_X6_isIn rfl ml_X6_56 hl.1 (by decide) (by decide) (Nat.le_of_ble_eq_true rfl) rfl rfl dX6_setLight_35 (fun H locs hP hS => ?_)
      refine lv_if_ne (tgt := 47) hx hb dX6_setLight_38 (by decide) (fun c_3 => ?_) (fun c_3 => ?_)
      · exact absurd (bdL_in.mp hbd) (by simp [c_1, c_2, c_3])
      · refine lv_aload_n hx hb dX6_setLight_41 rfl (lv_at hl 0 rfl) ?_
        refine lv_iconst (v := 2) hx hb dX6_setLight_42 (by decide) ?_
        refine k_VI C0 hP hS (rest := []) (c_X6_no l G (u2 M 46 0 0) o 2) mf_X6_no ml_X6_63 (kd_lt (show kd 46 = 6 by decide) (by decide)) (ct_6 (show kd 46 = 6 by decide)) rfl hl.1 (by decide) (by decide) (Nat.le_of_ble_eq_true rfl) rfl rfl dX6_setLight_43 (fun H locs hP hS => ?_)
        exact e_Ii C0 hr hP hS rfl (by decide) dX6_setLight_46
  · exact absurd c_1 (by decide)

set_option maxHeartbeats 4000000 in
set_option maxRecDepth 100000 in
theorem c_X6_seat (l : Launch) (G : GG) (M : Mem) (o : Nat → Int64) (np nr k : Nat) (hO : OKT M np nr k) (r : Nat) (hr0 : r < nr) (a2 : Int32) (hbd : ¬ bdS a2) (hfree : (u2 M 46 0 0) 59 r + a2 ≤ (u2 M 46 0 0) 55 r) : MI l yX6_seat cX6_seat 3 (some .int) 2 43 G [.ref (adr G 46), .int (nI r), .int a2] M (u2 (u2 M 46 0 0) 59 r ((u2 M 46 0 0) 59 r + a2)) o o ((u2 M 46 0 0) 59 r + a2) 0 0 := by
  refine MI_of RX6 rfl (by decide +kernel) (Nat.le_of_ble_eq_true rfl) ?_
  intro p e s m below meth c sz C0 hr hP ls hl
  have hx := C0.1
  have hb := C0.2.1
  have hS : va_S (pA G sz) s.heap s.heap [] := va_S.rf
  have hl : lv_has ls 3 [(0, .ref (adr G 46)), (1, .int (nI r)), (2, .int a2)] := hl
  obtain ⟨hnp, hple, hnr, hrle, hk0, hkle, hdz⟩ := okz (v := 0) hO
  refine lv_aload_n hx hb dX6_seat_0 rfl (lv_at hl 0 rfl) ?_
  refine lv_iconst (v := 0) hx hb dX6_seat_1 (by decide) ?_
  refine pf_X6_49 C0 hP hS (k := 46) (show kd 46 = 6 by decide) dX6_seat_2 (fun H locs hP hS => ?_)
  refine lv_aload_n hx hb dX6_seat_5 rfl (lv_at hl 0 rfl) ?_
  refine lv_iload_n hx hb dX6_seat_6 rfl (lv_at hl 1 rfl) ?_
  refine k_VI C0 hP hS (rest := []) (c_X6_isRoom l G (u2 M 46 0 0) o (nI r)) mf_X6_isRoom ml_X6_73 (kd_lt (show kd 46 = 6 by decide) (by decide)) (ct_6 (show kd 46 = 6 by decide)) rfl hl.1 (by decide) (by decide) (Nat.le_of_ble_eq_true rfl) rfl rfl dX6_seat_7 (fun H locs hP hS => ?_)
  refine lv_topE (y := 1) (inF_R hnr (by omega) (by omega)) ?_
  refine lv_if_ne (tgt := 19) hx hb dX6_seat_10 (by decide) (fun c_1 => ?_) (fun c_1 => ?_)
  · refine lv_iload_n hx hb dX6_seat_19 rfl (lv_at hl 2 rfl) ?_
    refine lv_iconst (v := 1) hx hb dX6_seat_20 (by decide) ?_
    refine lv_bipush (v := 20) hx hb dX6_seat_21 (by decide) ?_
    refine k_SI C0 hP hS (rest := []) (c_X6_isIn l G (u2 M 46 0 0) o a2 1 20) mf_X6_isIn rfl ml_X6_56 hl.1 (by decide) (by decide) (Nat.le_of_ble_eq_true rfl) rfl rfl dX6_seat_23 (fun H locs hP hS => ?_)
    refine lv_if_ne (tgt := 35) hx hb dX6_seat_26 (by decide) (fun c_2 => ?_) (fun c_2 => ?_)
    · refine lv_aload_n hx hb dX6_seat_35 rfl (lv_at hl 0 rfl) ?_
      refine gf_X6_42 C0 hP (k := 46) (show kd 46 = 6 by decide) dX6_seat_36 ?_
      refine gf_X6_77 C0 hP (k := 56) (show kd 56 = 5 by decide) dX6_seat_39 ?_
      refine lv_iload_n hx hb dX6_seat_42 rfl (lv_at hl 1 rfl) ?_
      refine w_ialdN C0 hP (k := 56 + 3) (i := r) (kdT3 (Or.inl rfl)) (by rw [lnT3 (Or.inl rfl)]; omega) (by omega) dX6_seat_43 ?_
      refine lv_iload_n hx hb dX6_seat_44 rfl (lv_at hl 2 rfl) ?_
      refine lv_iadd hx hb dX6_seat_45 ?_
      refine lv_aload_n hx hb dX6_seat_46 rfl (lv_at hl 0 rfl) ?_
      refine gf_X6_34 C0 hP (k := 46) (show kd 46 = 6 by decide) dX6_seat_47 ?_
      refine lv_iload_n hx hb dX6_seat_50 rfl (lv_at hl 1 rfl) ?_
      refine w_ialdN C0 hP (k := 55) (i := r) (show kd 55 = 7 by decide) (show r < 8 by omega) (by omega) dX6_seat_51 ?_
      refine lv_icmp_le (tgt := 61) hx hb dX6_seat_52 (by decide) (fun c_3 => ?_) (fun c_3 => ?_)
      · refine lv_aload_n hx hb dX6_seat_61 rfl (lv_at hl 0 rfl) ?_
        refine gf_X6_42 C0 hP (k := 46) (show kd 46 = 6 by decide) dX6_seat_62 ?_
        refine gf_X6_77 C0 hP (k := 56) (show kd 56 = 5 by decide) dX6_seat_65 ?_
        refine lv_iload_n hx hb dX6_seat_68 rfl (lv_at hl 1 rfl) ?_
        refine lv_dup2_11 hx hb dX6_seat_69 rfl rfl ?_
        refine w_ialdN C0 hP (k := 56 + 3) (i := r) (kdT3 (Or.inl rfl)) (by rw [lnT3 (Or.inl rfl)]; omega) (by omega) dX6_seat_70 ?_
        refine lv_iload_n hx hb dX6_seat_71 rfl (lv_at hl 2 rfl) ?_
        refine lv_iadd hx hb dX6_seat_72 ?_
        refine w_iastN C0 hP hS (k := 56 + 3) (i := r) (kdT3 (Or.inl rfl)) (by rw [lnT3 (Or.inl rfl)]; omega) (by omega) dX6_seat_73 (fun H locs hP hS => ?_)
        refine lv_aload_n hx hb dX6_seat_74 rfl (lv_at hl 0 rfl) ?_
        refine gf_X6_42 C0 hP (k := 46) (show kd 46 = 6 by decide) dX6_seat_75 ?_
        refine gf_X6_77 C0 hP (k := 56) (show kd 56 = 5 by decide) dX6_seat_78 ?_
        refine lv_iload_n hx hb dX6_seat_81 rfl (lv_at hl 1 rfl) ?_
        refine w_ialdN C0 hP (k := 56 + 3) (i := r) (kdT3 (Or.inl rfl)) (by rw [lnT3 (Or.inl rfl)]; omega) (by omega) dX6_seat_82 ?_
        exact e_Ii C0 hr hP hS u2_at (by decide) dX6_seat_83
      · exact absurd hfree c_3
    · exact (hbd (bdS_in.mpr c_2)).elim
  · exact absurd c_1 (by decide)

set_option maxHeartbeats 4000000 in
set_option maxRecDepth 100000 in
theorem c_X6_seat_i (l : Launch) (G : GG) (M : Mem) (o : Nat → Int64) (np nr k : Nat) (hO : OKT M np nr k) (x1 a2 : Int32) (hbd : x1 < 0 ∨ ¬ x1 < nI nr) : MI l yX6_seat cX6_seat 3 (some .int) 2 43 G [.ref (adr G 46), .int x1, .int a2] M (u2 (u2 M 46 0 0) 46 0 1) o o 0 0 0 := by
  refine MI_of RX6 rfl (by decide +kernel) (Nat.le_of_ble_eq_true rfl) ?_
  intro p e s m below meth c sz C0 hr hP ls hl
  have hx := C0.1
  have hb := C0.2.1
  have hS : va_S (pA G sz) s.heap s.heap [] := va_S.rf
  have hl : lv_has ls 3 [(0, .ref (adr G 46)), (1, .int x1), (2, .int a2)] := hl
  obtain ⟨hnp, hple, hnr, hrle, hk0, hkle, hdz⟩ := okz (v := 0) hO
  refine lv_aload_n hx hb dX6_seat_0 rfl (lv_at hl 0 rfl) ?_
  refine lv_iconst (v := 0) hx hb dX6_seat_1 (by decide) ?_
  refine pf_X6_49 C0 hP hS (k := 46) (show kd 46 = 6 by decide) dX6_seat_2 (fun H locs hP hS => ?_)
  refine lv_aload_n hx hb dX6_seat_5 rfl (lv_at hl 0 rfl) ?_
  refine lv_iload_n hx hb dX6_seat_6 rfl (lv_at hl 1 rfl) ?_
  refine k_VI C0 hP hS (rest := []) (c_X6_isRoom l G (u2 M 46 0 0) o x1) mf_X6_isRoom ml_X6_73 (kd_lt (show kd 46 = 6 by decide) (by decide)) (ct_6 (show kd 46 = 6 by decide)) rfl hl.1 (by decide) (by decide) (Nat.le_of_ble_eq_true rfl) rfl rfl dX6_seat_7 (fun H locs hP hS => ?_)
  refine lv_topE (y := 0) (inF_X hnr (by omega) hbd) ?_
  refine lv_if_ne (tgt := 19) hx hb dX6_seat_10 (by decide) (fun c_1 => ?_) (fun c_1 => ?_)
  · exact absurd c_1 (by decide)
  · refine lv_aload_n hx hb dX6_seat_13 rfl (lv_at hl 0 rfl) ?_
    refine lv_iconst (v := 1) hx hb dX6_seat_14 (by decide) ?_
    refine k_VI C0 hP hS (rest := []) (c_X6_no l G (u2 M 46 0 0) o 1) mf_X6_no ml_X6_63 (kd_lt (show kd 46 = 6 by decide) (by decide)) (ct_6 (show kd 46 = 6 by decide)) rfl hl.1 (by decide) (by decide) (Nat.le_of_ble_eq_true rfl) rfl rfl dX6_seat_15 (fun H locs hP hS => ?_)
    exact e_Ii C0 hr hP hS rfl (by decide) dX6_seat_18

set_option maxHeartbeats 4000000 in
set_option maxRecDepth 100000 in
theorem c_X6_seat_a (l : Launch) (G : GG) (M : Mem) (o : Nat → Int64) (np nr k : Nat) (hO : OKT M np nr k) (r : Nat) (hr0 : r < nr) (a2 : Int32) (hbd : bdS a2) : MI l yX6_seat cX6_seat 3 (some .int) 2 43 G [.ref (adr G 46), .int (nI r), .int a2] M (u2 (u2 M 46 0 0) 46 0 2) o o 0 0 0 := by
  refine MI_of RX6 rfl (by decide +kernel) (Nat.le_of_ble_eq_true rfl) ?_
  intro p e s m below meth c sz C0 hr hP ls hl
  have hx := C0.1
  have hb := C0.2.1
  have hS : va_S (pA G sz) s.heap s.heap [] := va_S.rf
  have hl : lv_has ls 3 [(0, .ref (adr G 46)), (1, .int (nI r)), (2, .int a2)] := hl
  obtain ⟨hnp, hple, hnr, hrle, hk0, hkle, hdz⟩ := okz (v := 0) hO
  refine lv_aload_n hx hb dX6_seat_0 rfl (lv_at hl 0 rfl) ?_
  refine lv_iconst (v := 0) hx hb dX6_seat_1 (by decide) ?_
  refine pf_X6_49 C0 hP hS (k := 46) (show kd 46 = 6 by decide) dX6_seat_2 (fun H locs hP hS => ?_)
  refine lv_aload_n hx hb dX6_seat_5 rfl (lv_at hl 0 rfl) ?_
  refine lv_iload_n hx hb dX6_seat_6 rfl (lv_at hl 1 rfl) ?_
  refine k_VI C0 hP hS (rest := []) (c_X6_isRoom l G (u2 M 46 0 0) o (nI r)) mf_X6_isRoom ml_X6_73 (kd_lt (show kd 46 = 6 by decide) (by decide)) (ct_6 (show kd 46 = 6 by decide)) rfl hl.1 (by decide) (by decide) (Nat.le_of_ble_eq_true rfl) rfl rfl dX6_seat_7 (fun H locs hP hS => ?_)
  refine lv_topE (y := 1) (inF_R hnr (by omega) (by omega)) ?_
  refine lv_if_ne (tgt := 19) hx hb dX6_seat_10 (by decide) (fun c_1 => ?_) (fun c_1 => ?_)
  · refine lv_iload_n hx hb dX6_seat_19 rfl (lv_at hl 2 rfl) ?_
    refine lv_iconst (v := 1) hx hb dX6_seat_20 (by decide) ?_
    refine lv_bipush (v := 20) hx hb dX6_seat_21 (by decide) ?_
    refine k_SI C0 hP hS (rest := []) (c_X6_isIn l G (u2 M 46 0 0) o a2 1 20) mf_X6_isIn rfl ml_X6_56 hl.1 (by decide) (by decide) (Nat.le_of_ble_eq_true rfl) rfl rfl dX6_seat_23 (fun H locs hP hS => ?_)
    refine lv_if_ne (tgt := 35) hx hb dX6_seat_26 (by decide) (fun c_2 => ?_) (fun c_2 => ?_)
    · exact absurd (bdS_in.mp hbd) c_2
    · refine lv_aload_n hx hb dX6_seat_29 rfl (lv_at hl 0 rfl) ?_
      refine lv_iconst (v := 2) hx hb dX6_seat_30 (by decide) ?_
      refine k_VI C0 hP hS (rest := []) (c_X6_no l G (u2 M 46 0 0) o 2) mf_X6_no ml_X6_63 (kd_lt (show kd 46 = 6 by decide) (by decide)) (ct_6 (show kd 46 = 6 by decide)) rfl hl.1 (by decide) (by decide) (Nat.le_of_ble_eq_true rfl) rfl rfl dX6_seat_31 (fun H locs hP hS => ?_)
      exact e_Ii C0 hr hP hS rfl (by decide) dX6_seat_34
  · exact absurd c_1 (by decide)

set_option maxHeartbeats 4000000 in
set_option maxRecDepth 100000 in
theorem c_X6_seat_s (l : Launch) (G : GG) (M : Mem) (o : Nat → Int64) (np nr k : Nat) (hO : OKT M np nr k) (r : Nat) (hr0 : r < nr) (a2 : Int32) (hbd : ¬ bdS a2) (hfree : ¬ (u2 M 46 0 0) 59 r + a2 ≤ (u2 M 46 0 0) 55 r) : MI l yX6_seat cX6_seat 3 (some .int) 2 43 G [.ref (adr G 46), .int (nI r), .int a2] M (u2 (u2 M 46 0 0) 46 0 3) o o 0 0 0 := by
  refine MI_of RX6 rfl (by decide +kernel) (Nat.le_of_ble_eq_true rfl) ?_
  intro p e s m below meth c sz C0 hr hP ls hl
  have hx := C0.1
  have hb := C0.2.1
  have hS : va_S (pA G sz) s.heap s.heap [] := va_S.rf
  have hl : lv_has ls 3 [(0, .ref (adr G 46)), (1, .int (nI r)), (2, .int a2)] := hl
  obtain ⟨hnp, hple, hnr, hrle, hk0, hkle, hdz⟩ := okz (v := 0) hO
  refine lv_aload_n hx hb dX6_seat_0 rfl (lv_at hl 0 rfl) ?_
  refine lv_iconst (v := 0) hx hb dX6_seat_1 (by decide) ?_
  refine pf_X6_49 C0 hP hS (k := 46) (show kd 46 = 6 by decide) dX6_seat_2 (fun H locs hP hS => ?_)
  refine lv_aload_n hx hb dX6_seat_5 rfl (lv_at hl 0 rfl) ?_
  refine lv_iload_n hx hb dX6_seat_6 rfl (lv_at hl 1 rfl) ?_
  refine k_VI C0 hP hS (rest := []) (c_X6_isRoom l G (u2 M 46 0 0) o (nI r)) mf_X6_isRoom ml_X6_73 (kd_lt (show kd 46 = 6 by decide) (by decide)) (ct_6 (show kd 46 = 6 by decide)) rfl hl.1 (by decide) (by decide) (Nat.le_of_ble_eq_true rfl) rfl rfl dX6_seat_7 (fun H locs hP hS => ?_)
  refine lv_topE (y := 1) (inF_R hnr (by omega) (by omega)) ?_
  refine lv_if_ne (tgt := 19) hx hb dX6_seat_10 (by decide) (fun c_1 => ?_) (fun c_1 => ?_)
  · refine lv_iload_n hx hb dX6_seat_19 rfl (lv_at hl 2 rfl) ?_
    refine lv_iconst (v := 1) hx hb dX6_seat_20 (by decide) ?_
    refine lv_bipush (v := 20) hx hb dX6_seat_21 (by decide) ?_
    refine k_SI C0 hP hS (rest := []) (c_X6_isIn l G (u2 M 46 0 0) o a2 1 20) mf_X6_isIn rfl ml_X6_56 hl.1 (by decide) (by decide) (Nat.le_of_ble_eq_true rfl) rfl rfl dX6_seat_23 (fun H locs hP hS => ?_)
    refine lv_if_ne (tgt := 35) hx hb dX6_seat_26 (by decide) (fun c_2 => ?_) (fun c_2 => ?_)
    · refine lv_aload_n hx hb dX6_seat_35 rfl (lv_at hl 0 rfl) ?_
      refine gf_X6_42 C0 hP (k := 46) (show kd 46 = 6 by decide) dX6_seat_36 ?_
      refine gf_X6_77 C0 hP (k := 56) (show kd 56 = 5 by decide) dX6_seat_39 ?_
      refine lv_iload_n hx hb dX6_seat_42 rfl (lv_at hl 1 rfl) ?_
      refine w_ialdN C0 hP (k := 56 + 3) (i := r) (kdT3 (Or.inl rfl)) (by rw [lnT3 (Or.inl rfl)]; omega) (by omega) dX6_seat_43 ?_
      refine lv_iload_n hx hb dX6_seat_44 rfl (lv_at hl 2 rfl) ?_
      refine lv_iadd hx hb dX6_seat_45 ?_
      refine lv_aload_n hx hb dX6_seat_46 rfl (lv_at hl 0 rfl) ?_
      refine gf_X6_34 C0 hP (k := 46) (show kd 46 = 6 by decide) dX6_seat_47 ?_
      refine lv_iload_n hx hb dX6_seat_50 rfl (lv_at hl 1 rfl) ?_
      refine w_ialdN C0 hP (k := 55) (i := r) (show kd 55 = 7 by decide) (show r < 8 by omega) (by omega) dX6_seat_51 ?_
      refine lv_icmp_le (tgt := 61) hx hb dX6_seat_52 (by decide) (fun c_3 => ?_) (fun c_3 => ?_)
      · exact absurd c_3 hfree
      · refine lv_aload_n hx hb dX6_seat_55 rfl (lv_at hl 0 rfl) ?_
        refine lv_iconst (v := 3) hx hb dX6_seat_56 (by decide) ?_
        refine k_VI C0 hP hS (rest := []) (c_X6_no l G (u2 M 46 0 0) o 3) mf_X6_no ml_X6_63 (kd_lt (show kd 46 = 6 by decide) (by decide)) (ct_6 (show kd 46 = 6 by decide)) rfl hl.1 (by decide) (by decide) (Nat.le_of_ble_eq_true rfl) rfl rfl dX6_seat_57 (fun H locs hP hS => ?_)
        exact e_Ii C0 hr hP hS rfl (by decide) dX6_seat_60
    · exact (hbd (bdS_in.mpr c_2)).elim
  · exact absurd c_1 (by decide)

set_option maxHeartbeats 4000000 in
set_option maxRecDepth 100000 in
theorem c_X6_wall (l : Launch) (G : GG) (M : Mem) (o : Nat → Int64) (np nr k : Nat) (hO : OKT M np nr k) (r : Nat) (hr0 : r < nr) (a2 : Int32) (hbd : ¬ bdW a2 ((u2 M 46 0 0) 53 r)) : MI l yX6_wall cX6_wall 5 (some .int) 2 43 G [.ref (adr G 46), .int (nI r), .int a2] M (u2 M 46 0 0) o o (cntF (fun i => atT ((u2 M 46 0 0) 57 i) ((u2 M 46 0 0) 52 r) a2) np) 0 0 := by
  refine MI_of RX6 rfl (by decide +kernel) (Nat.le_of_ble_eq_true rfl) ?_
  intro p e s m below meth c sz C0 hr hP ls hl
  have hx := C0.1
  have hb := C0.2.1
  have hS : va_S (pA G sz) s.heap s.heap [] := va_S.rf
  have hl : lv_has ls 5 [(0, .ref (adr G 46)), (1, .int (nI r)), (2, .int a2)] := hl
  obtain ⟨hnp, hple, hnr, hrle, hk0, hkle, hdz⟩ := okz (v := 0) hO
  refine lv_aload_n hx hb dX6_wall_0 rfl (lv_at hl 0 rfl) ?_
  refine lv_iconst (v := 0) hx hb dX6_wall_1 (by decide) ?_
  refine pf_X6_49 C0 hP hS (k := 46) (show kd 46 = 6 by decide) dX6_wall_2 (fun H locs hP hS => ?_)
  refine lv_aload_n hx hb dX6_wall_5 rfl (lv_at hl 0 rfl) ?_
  refine lv_iload_n hx hb dX6_wall_6 rfl (lv_at hl 1 rfl) ?_
  refine k_VI C0 hP hS (rest := []) (c_X6_isRoom l G (u2 M 46 0 0) o (nI r)) mf_X6_isRoom ml_X6_73 (kd_lt (show kd 46 = 6 by decide) (by decide)) (ct_6 (show kd 46 = 6 by decide)) rfl hl.1 (by decide) (by decide) (Nat.le_of_ble_eq_true rfl) rfl rfl dX6_wall_7 (fun H locs hP hS => ?_)
  refine lv_topE (y := 1) (inF_R hnr (by omega) (by omega)) ?_
  refine lv_if_eq (tgt := 37) hx hb dX6_wall_10 (by decide) (fun c_1 => ?_) (fun c_1 => ?_)
  · exact absurd c_1 (by decide)
  · refine lv_iload_n hx hb dX6_wall_13 rfl (lv_at hl 2 rfl) ?_
    refine lv_bipush (v := -4) hx hb dX6_wall_14 (by decide) ?_
    refine lv_aload_n hx hb dX6_wall_16 rfl (lv_at hl 0 rfl) ?_
    refine gf_X6_28 C0 hP (k := 46) (show kd 46 = 6 by decide) dX6_wall_17 ?_
    refine lv_iload_n hx hb dX6_wall_20 rfl (lv_at hl 1 rfl) ?_
    refine w_ialdN C0 hP (k := 53) (i := r) (show kd 53 = 7 by decide) (show r < 8 by omega) (by omega) dX6_wall_21 ?_
    refine lv_imul hx hb dX6_wall_22 ?_
    refine lv_iconst (v := 4) hx hb dX6_wall_23 (by decide) ?_
    refine lv_aload_n hx hb dX6_wall_24 rfl (lv_at hl 0 rfl) ?_
    refine gf_X6_28 C0 hP (k := 46) (show kd 46 = 6 by decide) dX6_wall_25 ?_
    refine lv_iload_n hx hb dX6_wall_28 rfl (lv_at hl 1 rfl) ?_
    refine w_ialdN C0 hP (k := 53) (i := r) (show kd 53 = 7 by decide) (show r < 8 by omega) (by omega) dX6_wall_29 ?_
    refine lv_imul hx hb dX6_wall_30 ?_
    refine k_SI C0 hP hS (rest := []) (c_X6_isIn l G (u2 M 46 0 0) o a2 ((-4) * ((u2 M 46 0 0) 53 r)) (4 * ((u2 M 46 0 0) 53 r))) mf_X6_isIn rfl ml_X6_56 hl.1 (by decide) (by decide) (Nat.le_of_ble_eq_true rfl) rfl rfl dX6_wall_31 (fun H locs hP hS => ?_)
    refine lv_if_ne (tgt := 43) hx hb dX6_wall_34 (by decide) (fun c_2 => ?_) (fun c_2 => ?_)
    · refine lv_iconst (v := 0) hx hb dX6_wall_43 (by decide) ?_
      refine lv_istore_n (lv' := [(3, .int 0), (0, .ref (adr G 46)), (1, .int (nI r)), (2, .int a2)]) hx hb dX6_wall_44 rfl hl (by decide) rfl (fun ls hl => ?_)
      refine lv_iconst (v := 0) hx hb dX6_wall_45 (by decide) ?_
      refine lv_istore (lv' := [(4, .int 0), (3, .int 0), (0, .ref (adr G 46)), (1, .int (nI r)), (2, .int a2)]) hx hb dX6_wall_46 hl (by decide) rfl (fun ls hl => ?_)
      have loop_48 : ∀ (fuel_48 : Nat) (i : Nat) (x : Int32), np + 1 ≤ i + fuel_48 → (i ≤ np) → (x = cntF (fun i => atT ((u2 M 46 0 0) 57 i) ((u2 M 46 0 0) 52 r) a2) i) → ∀ (H : Heap) (locs : List Loc), PW G (u2 M 46 0 0) o H → va_S (pA G sz) s.heap H locs → ∀ ls : Array Slot, lv_has ls 5 [(4, .int (nI i)), (3, .int x), (0, .ref (adr G 46)), (1, .int (nI r)), (2, .int a2)] → W p l e (rmU 2 43 0 0) s m ([.ref (adr G 46), .int (nI r), .int a2] : List Value).toArray below meth c H locs 0 0 (MQ below (QI G (u2 M 46 0 0) o (cntF (fun i => atT ((u2 M 46 0 0) 57 i) ((u2 M 46 0 0) 52 r) a2) np) sz) ([.ref (adr G 46), .int (nI r), .int a2] : List Value).toArray s 0 0 (pA G sz)) (F0 m 48 ls []) := by
        intro fuel_48
        induction fuel_48 with
        | zero =>
          intro i x hf hi hxx
          exact absurd hf (by omega)
        | succ fuel_48 ih_48 =>
          intro i x hf hi hxx H locs hP hS ls hl
          refine lv_iload hx hb dX6_wall_48 (lv_at hl 0 rfl) ?_
          refine lv_aload_n hx hb dX6_wall_50 rfl (lv_at hl 2 rfl) ?_
          refine gf_X6_60 C0 hP (k := 46) (show kd 46 = 6 by decide) dX6_wall_51 ?_
          refine lv_topE (y := nI np) (hnp) ?_
          refine lv_icmp_ge (tgt := 106) hx hb dX6_wall_54 (by decide) (fun c_3 => ?_) (fun c_3 => ?_)
          · have hi9 := lp_ge (n := np) c_3 (by omega) hi
            refine lv_iload_n hx hb dX6_wall_106 rfl (lv_at hl 1 rfl) ?_
            exact e_Ii C0 hr hP hS (by rw [hxx, hi9]) (by decide) dX6_wall_107
          · have hlt := lp_lt (n := np) c_3 (by omega) hi
            refine lv_iload_n hx hb dX6_wall_57 rfl (lv_at hl 1 rfl) ?_
            refine lv_aload_n hx hb dX6_wall_58 rfl (lv_at hl 2 rfl) ?_
            refine gf_X6_42 C0 hP (k := 46) (show kd 46 = 6 by decide) dX6_wall_59 ?_
            refine gf_X6_67 C0 hP (k := 56) (show kd 56 = 5 by decide) dX6_wall_62 ?_
            refine lv_iload hx hb dX6_wall_65 (lv_at hl 0 rfl) ?_
            refine w_ialdN C0 hP (k := 56 + 1) (i := i) (kdT1 (Or.inl rfl)) (by rw [lnT1 (Or.inl rfl)]; omega) (by omega) dX6_wall_67 ?_
            refine lv_iconst (v := -1) hx hb dX6_wall_68 (by decide) ?_
            refine lv_icmp_eq (tgt := 97) hx hb dX6_wall_69 (by decide) (fun c_4 => ?_) (fun c_4 => ?_)
            · refine lv_iconst (v := 0) hx hb dX6_wall_97 (by decide) ?_
              refine lv_iadd hx hb dX6_wall_98 ?_
              refine lv_istore_n (lv' := [(3, .int (x + 0)), (4, .int (nI i)), (0, .ref (adr G 46)), (1, .int (nI r)), (2, .int a2)]) hx hb dX6_wall_99 rfl hl (by decide) rfl (fun ls hl => ?_)
              refine lv_iinc (v := nI (i + 1)) (lv' := [(4, .int (nI (i + 1))), (3, .int (x + 0)), (0, .ref (adr G 46)), (1, .int (nI r)), (2, .int a2)]) hx hb dX6_wall_100 hl (k := 1) rfl (nI_1 i) (by decide) rfl (fun ls hl => ?_)
              refine lv_goto (tgt := 48) hx hb dX6_wall_103 (by decide) ?_
              exact ih_48 (i + 1) _ (by omega) (by omega) (by rw [hxx]; simp only [cntF]; simp [atT, gn, c_3, c_4]) _ _ hP hS _ (lv_sub hl [0, 1, 2, 3, 4] rfl)
            · refine lv_aload_n hx hb dX6_wall_72 rfl (lv_at hl 2 rfl) ?_
              refine gf_X6_25 C0 hP (k := 46) (show kd 46 = 6 by decide) dX6_wall_73 ?_
              refine lv_iload_n hx hb dX6_wall_76 rfl (lv_at hl 3 rfl) ?_
              refine w_ialdN C0 hP (k := 52) (i := r) (show kd 52 = 7 by decide) (show r < 8 by omega) (by omega) dX6_wall_77 ?_
              refine lv_aload_n hx hb dX6_wall_78 rfl (lv_at hl 2 rfl) ?_
              refine gf_X6_42 C0 hP (k := 46) (show kd 46 = 6 by decide) dX6_wall_79 ?_
              refine gf_X6_67 C0 hP (k := 56) (show kd 56 = 5 by decide) dX6_wall_82 ?_
              refine lv_iload hx hb dX6_wall_85 (lv_at hl 0 rfl) ?_
              refine w_ialdN C0 hP (k := 56 + 1) (i := i) (kdT1 (Or.inl rfl)) (by rw [lnT1 (Or.inl rfl)]; omega) (by omega) dX6_wall_87 ?_
              refine lv_isub hx hb dX6_wall_88 ?_
              refine lv_iload_n hx hb dX6_wall_89 rfl (lv_at hl 4 rfl) ?_
              refine lv_icmp_ne (tgt := 97) hx hb dX6_wall_90 (by decide) (fun c_5 => ?_) (fun c_5 => ?_)
              · refine lv_iconst (v := 0) hx hb dX6_wall_97 (by decide) ?_
                refine lv_iadd hx hb dX6_wall_98 ?_
                refine lv_istore_n (lv' := [(3, .int (x + 0)), (4, .int (nI i)), (0, .ref (adr G 46)), (1, .int (nI r)), (2, .int a2)]) hx hb dX6_wall_99 rfl hl (by decide) rfl (fun ls hl => ?_)
                refine lv_iinc (v := nI (i + 1)) (lv' := [(4, .int (nI (i + 1))), (3, .int (x + 0)), (0, .ref (adr G 46)), (1, .int (nI r)), (2, .int a2)]) hx hb dX6_wall_100 hl (k := 1) rfl (nI_1 i) (by decide) rfl (fun ls hl => ?_)
                refine lv_goto (tgt := 48) hx hb dX6_wall_103 (by decide) ?_
                exact ih_48 (i + 1) _ (by omega) (by omega) (by rw [hxx]; simp only [cntF]; simp [atT, gn, c_3, c_4, c_5]) _ _ hP hS _ (lv_sub hl [0, 1, 2, 3, 4] rfl)
              · replace c_5 := eq_true c_5
                refine lv_iconst (v := 1) hx hb dX6_wall_93 (by decide) ?_
                refine lv_goto (tgt := 98) hx hb dX6_wall_94 (by decide) ?_
                refine lv_iadd hx hb dX6_wall_98 ?_
                refine lv_istore_n (lv' := [(3, .int (x + 1)), (4, .int (nI i)), (0, .ref (adr G 46)), (1, .int (nI r)), (2, .int a2)]) hx hb dX6_wall_99 rfl hl (by decide) rfl (fun ls hl => ?_)
                refine lv_iinc (v := nI (i + 1)) (lv' := [(4, .int (nI (i + 1))), (3, .int (x + 1)), (0, .ref (adr G 46)), (1, .int (nI r)), (2, .int a2)]) hx hb dX6_wall_100 hl (k := 1) rfl (nI_1 i) (by decide) rfl (fun ls hl => ?_)
                refine lv_goto (tgt := 48) hx hb dX6_wall_103 (by decide) ?_
                exact ih_48 (i + 1) _ (by omega) (by omega) (by rw [hxx]; simp only [cntF]; simp [atT, gn, c_3, c_4, c_5]) _ _ hP hS _ (lv_sub hl [0, 1, 2, 3, 4] rfl)
      exact loop_48 (np + 1) 0 0 (by omega) (by omega) rfl _ _ hP hS _ (lv_sub hl [0, 1, 2, 3, 4] rfl)
    · exact (hbd (bdW_in.mpr c_2)).elim

set_option maxHeartbeats 4000000 in
set_option maxRecDepth 100000 in
theorem c_X6_wall_i (l : Launch) (G : GG) (M : Mem) (o : Nat → Int64) (np nr k : Nat) (hO : OKT M np nr k) (x1 a2 : Int32) (hbd : x1 < 0 ∨ ¬ x1 < nI nr) : MI l yX6_wall cX6_wall 5 (some .int) 2 43 G [.ref (adr G 46), .int x1, .int a2] M (u2 (u2 M 46 0 0) 46 0 1) o o 0 0 0 := by
  refine MI_of RX6 rfl (by decide +kernel) (Nat.le_of_ble_eq_true rfl) ?_
  intro p e s m below meth c sz C0 hr hP ls hl
  have hx := C0.1
  have hb := C0.2.1
  have hS : va_S (pA G sz) s.heap s.heap [] := va_S.rf
  have hl : lv_has ls 5 [(0, .ref (adr G 46)), (1, .int x1), (2, .int a2)] := hl
  obtain ⟨hnp, hple, hnr, hrle, hk0, hkle, hdz⟩ := okz (v := 0) hO
  refine lv_aload_n hx hb dX6_wall_0 rfl (lv_at hl 0 rfl) ?_
  refine lv_iconst (v := 0) hx hb dX6_wall_1 (by decide) ?_
  refine pf_X6_49 C0 hP hS (k := 46) (show kd 46 = 6 by decide) dX6_wall_2 (fun H locs hP hS => ?_)
  refine lv_aload_n hx hb dX6_wall_5 rfl (lv_at hl 0 rfl) ?_
  refine lv_iload_n hx hb dX6_wall_6 rfl (lv_at hl 1 rfl) ?_
  refine k_VI C0 hP hS (rest := []) (c_X6_isRoom l G (u2 M 46 0 0) o x1) mf_X6_isRoom ml_X6_73 (kd_lt (show kd 46 = 6 by decide) (by decide)) (ct_6 (show kd 46 = 6 by decide)) rfl hl.1 (by decide) (by decide) (Nat.le_of_ble_eq_true rfl) rfl rfl dX6_wall_7 (fun H locs hP hS => ?_)
  refine lv_topE (y := 0) (inF_X hnr (by omega) hbd) ?_
  refine lv_if_eq (tgt := 37) hx hb dX6_wall_10 (by decide) (fun c_1 => ?_) (fun c_1 => ?_)
  · refine lv_aload_n hx hb dX6_wall_37 rfl (lv_at hl 0 rfl) ?_
    refine lv_iconst (v := 1) hx hb dX6_wall_38 (by decide) ?_
    refine k_VI C0 hP hS (rest := []) (c_X6_no l G (u2 M 46 0 0) o 1) mf_X6_no ml_X6_63 (kd_lt (show kd 46 = 6 by decide) (by decide)) (ct_6 (show kd 46 = 6 by decide)) rfl hl.1 (by decide) (by decide) (Nat.le_of_ble_eq_true rfl) rfl rfl dX6_wall_39 (fun H locs hP hS => ?_)
    exact e_Ii C0 hr hP hS rfl (by decide) dX6_wall_42
  · exact absurd c_1 (by decide)

set_option maxHeartbeats 4000000 in
set_option maxRecDepth 100000 in
theorem c_X6_wall_j (l : Launch) (G : GG) (M : Mem) (o : Nat → Int64) (np nr k : Nat) (hO : OKT M np nr k) (r : Nat) (hr0 : r < nr) (a2 : Int32) (hbd : bdW a2 ((u2 M 46 0 0) 53 r)) : MI l yX6_wall cX6_wall 5 (some .int) 2 43 G [.ref (adr G 46), .int (nI r), .int a2] M (u2 (u2 M 46 0 0) 46 0 1) o o 0 0 0 := by
  refine MI_of RX6 rfl (by decide +kernel) (Nat.le_of_ble_eq_true rfl) ?_
  intro p e s m below meth c sz C0 hr hP ls hl
  have hx := C0.1
  have hb := C0.2.1
  have hS : va_S (pA G sz) s.heap s.heap [] := va_S.rf
  have hl : lv_has ls 5 [(0, .ref (adr G 46)), (1, .int (nI r)), (2, .int a2)] := hl
  obtain ⟨hnp, hple, hnr, hrle, hk0, hkle, hdz⟩ := okz (v := 0) hO
  refine lv_aload_n hx hb dX6_wall_0 rfl (lv_at hl 0 rfl) ?_
  refine lv_iconst (v := 0) hx hb dX6_wall_1 (by decide) ?_
  refine pf_X6_49 C0 hP hS (k := 46) (show kd 46 = 6 by decide) dX6_wall_2 (fun H locs hP hS => ?_)
  refine lv_aload_n hx hb dX6_wall_5 rfl (lv_at hl 0 rfl) ?_
  refine lv_iload_n hx hb dX6_wall_6 rfl (lv_at hl 1 rfl) ?_
  refine k_VI C0 hP hS (rest := []) (c_X6_isRoom l G (u2 M 46 0 0) o (nI r)) mf_X6_isRoom ml_X6_73 (kd_lt (show kd 46 = 6 by decide) (by decide)) (ct_6 (show kd 46 = 6 by decide)) rfl hl.1 (by decide) (by decide) (Nat.le_of_ble_eq_true rfl) rfl rfl dX6_wall_7 (fun H locs hP hS => ?_)
  refine lv_topE (y := 1) (inF_R hnr (by omega) (by omega)) ?_
  refine lv_if_eq (tgt := 37) hx hb dX6_wall_10 (by decide) (fun c_1 => ?_) (fun c_1 => ?_)
  · exact absurd c_1 (by decide)
  · refine lv_iload_n hx hb dX6_wall_13 rfl (lv_at hl 2 rfl) ?_
    refine lv_bipush (v := -4) hx hb dX6_wall_14 (by decide) ?_
    refine lv_aload_n hx hb dX6_wall_16 rfl (lv_at hl 0 rfl) ?_
    refine gf_X6_28 C0 hP (k := 46) (show kd 46 = 6 by decide) dX6_wall_17 ?_
    refine lv_iload_n hx hb dX6_wall_20 rfl (lv_at hl 1 rfl) ?_
    refine w_ialdN C0 hP (k := 53) (i := r) (show kd 53 = 7 by decide) (show r < 8 by omega) (by omega) dX6_wall_21 ?_
    refine lv_imul hx hb dX6_wall_22 ?_
    refine lv_iconst (v := 4) hx hb dX6_wall_23 (by decide) ?_
    refine lv_aload_n hx hb dX6_wall_24 rfl (lv_at hl 0 rfl) ?_
    refine gf_X6_28 C0 hP (k := 46) (show kd 46 = 6 by decide) dX6_wall_25 ?_
    refine lv_iload_n hx hb dX6_wall_28 rfl (lv_at hl 1 rfl) ?_
    refine w_ialdN C0 hP (k := 53) (i := r) (show kd 53 = 7 by decide) (show r < 8 by omega) (by omega) dX6_wall_29 ?_
    refine lv_imul hx hb dX6_wall_30 ?_
    refine k_SI C0 hP hS (rest := []) (c_X6_isIn l G (u2 M 46 0 0) o a2 ((-4) * ((u2 M 46 0 0) 53 r)) (4 * ((u2 M 46 0 0) 53 r))) mf_X6_isIn rfl ml_X6_56 hl.1 (by decide) (by decide) (Nat.le_of_ble_eq_true rfl) rfl rfl dX6_wall_31 (fun H locs hP hS => ?_)
    refine lv_if_ne (tgt := 43) hx hb dX6_wall_34 (by decide) (fun c_2 => ?_) (fun c_2 => ?_)
    · exact absurd (bdW_in.mp hbd) c_2
    · refine lv_aload_n hx hb dX6_wall_37 rfl (lv_at hl 0 rfl) ?_
      refine lv_iconst (v := 1) hx hb dX6_wall_38 (by decide) ?_
      refine k_VI C0 hP hS (rest := []) (c_X6_no l G (u2 M 46 0 0) o 1) mf_X6_no ml_X6_63 (kd_lt (show kd 46 = 6 by decide) (by decide)) (ct_6 (show kd 46 = 6 by decide)) rfl hl.1 (by decide) (by decide) (Nat.le_of_ble_eq_true rfl) rfl rfl dX6_wall_39 (fun H locs hP hS => ?_)
      exact e_Ii C0 hr hP hS rfl (by decide) dX6_wall_42

set_option maxHeartbeats 4000000 in
set_option maxRecDepth 100000 in
theorem c_X6_pass (l : Launch) (G : GG) (M : Mem) (o : Nat → Int64) (np nr k : Nat) (hO : OKT M np nr k) (a1 a2 a3 a4 : Int32) (hbd : ¬ bdP a1 a2 a3 a4) (hroom : np < 10) : MI l yX6_pass cX6_pass 5 (some .int) 1 22 G [.ref (adr G 46), .int a1, .int a2, .int a3, .int a4] M (u2 (u2 (u2 (u2 (u2 (u2 M 46 0 0) 57 np a1) 49 np a2) 50 np a3) 51 np a4) 46 1 (nI (np + 1))) o o (nI np) 0 0 := by
  refine MI_of RX6 rfl (by decide +kernel) (Nat.le_of_ble_eq_true rfl) ?_
  intro p e s m below meth c sz C0 hr hP ls hl
  have hx := C0.1
  have hb := C0.2.1
  have hS : va_S (pA G sz) s.heap s.heap [] := va_S.rf
  have hl : lv_has ls 5 [(0, .ref (adr G 46)), (1, .int a1), (2, .int a2), (3, .int a3), (4, .int a4)] := hl
  obtain ⟨hnp, hple, hnr, hrle, hk0, hkle, hdz⟩ := okz (v := 0) hO
  refine lv_aload_n hx hb dX6_pass_0 rfl (lv_at hl 0 rfl) ?_
  refine lv_iconst (v := 0) hx hb dX6_pass_1 (by decide) ?_
  refine pf_X6_49 C0 hP hS (k := 46) (show kd 46 = 6 by decide) dX6_pass_2 (fun H locs hP hS => ?_)
  refine lv_iload_n hx hb dX6_pass_5 rfl (lv_at hl 1 rfl) ?_
  refine lv_iconst (v := 0) hx hb dX6_pass_6 (by decide) ?_
  refine lv_bipush (v := 59) hx hb dX6_pass_7 (by decide) ?_
  refine k_SI C0 hP hS (rest := []) (c_X6_isIn l G (u2 M 46 0 0) o a1 0 59) mf_X6_isIn rfl ml_X6_56 hl.1 (by decide) (by decide) (Nat.le_of_ble_eq_true rfl) rfl rfl dX6_pass_9 (fun H locs hP hS => ?_)
  refine lv_if_eq (tgt := 46) hx hb dX6_pass_12 (by decide) (fun c_1 => ?_) (fun c_1 => ?_)
  · exact (hbd (bdP_in.mpr (by simp [c_1]))).elim
  · refine lv_iload_n hx hb dX6_pass_15 rfl (lv_at hl 2 rfl) ?_
    refine lv_bipush (v := -3) hx hb dX6_pass_16 (by decide) ?_
    refine lv_iconst (v := 3) hx hb dX6_pass_18 (by decide) ?_
    refine k_SI C0 hP hS (rest := []) (c_X6_isIn l G (u2 M 46 0 0) o a2 (-3) 3) mf_X6_isIn rfl ml_X6_56 hl.1 (by decide) (by decide) (Nat.le_of_ble_eq_true rfl) rfl rfl dX6_pass_19 (fun H locs hP hS => ?_)
    refine lv_if_eq (tgt := 46) hx hb dX6_pass_22 (by decide) (fun c_2 => ?_) (fun c_2 => ?_)
    · exact (hbd (bdP_in.mpr (by simp [c_1, c_2]))).elim
    · refine lv_iload_n hx hb dX6_pass_25 rfl (lv_at hl 3 rfl) ?_
      refine lv_iconst (v := 1) hx hb dX6_pass_26 (by decide) ?_
      refine lv_bipush (v := 9) hx hb dX6_pass_27 (by decide) ?_
      refine k_SI C0 hP hS (rest := []) (c_X6_isIn l G (u2 M 46 0 0) o a3 1 9) mf_X6_isIn rfl ml_X6_56 hl.1 (by decide) (by decide) (Nat.le_of_ble_eq_true rfl) rfl rfl dX6_pass_29 (fun H locs hP hS => ?_)
      refine lv_if_eq (tgt := 46) hx hb dX6_pass_32 (by decide) (fun c_3 => ?_) (fun c_3 => ?_)
      · exact (hbd (bdP_in.mpr (by simp [c_1, c_2, c_3]))).elim
      · refine lv_iload hx hb dX6_pass_35 (lv_at hl 4 rfl) ?_
        refine lv_iconst (v := 1) hx hb dX6_pass_37 (by decide) ?_
        refine lv_bipush (v := 9) hx hb dX6_pass_38 (by decide) ?_
        refine k_SI C0 hP hS (rest := []) (c_X6_isIn l G (u2 M 46 0 0) o a4 1 9) mf_X6_isIn rfl ml_X6_56 hl.1 (by decide) (by decide) (Nat.le_of_ble_eq_true rfl) rfl rfl dX6_pass_40 (fun H locs hP hS => ?_)
        refine lv_if_ne (tgt := 52) hx hb dX6_pass_43 (by decide) (fun c_4 => ?_) (fun c_4 => ?_)
        · refine lv_aload_n hx hb dX6_pass_52 rfl (lv_at hl 0 rfl) ?_
          refine gf_X6_60 C0 hP (k := 46) (show kd 46 = 6 by decide) dX6_pass_53 ?_
          refine lv_topE (y := nI np) (hnp) ?_
          refine lv_bipush (v := 10) hx hb dX6_pass_56 (by decide) ?_
          refine lv_icmp_ne (tgt := 67) hx hb dX6_pass_58 (by decide) (fun c_5 => ?_) (fun c_5 => ?_)
          · refine lv_aload_n hx hb dX6_pass_67 rfl (lv_at hl 0 rfl) ?_
            refine gf_X6_42 C0 hP (k := 46) (show kd 46 = 6 by decide) dX6_pass_68 ?_
            refine gf_X6_67 C0 hP (k := 56) (show kd 56 = 5 by decide) dX6_pass_71 ?_
            refine lv_aload_n hx hb dX6_pass_74 rfl (lv_at hl 0 rfl) ?_
            refine gf_X6_60 C0 hP (k := 46) (show kd 46 = 6 by decide) dX6_pass_75 ?_
            refine lv_topE (y := nI np) (hnp) ?_
            refine lv_iload_n hx hb dX6_pass_78 rfl (lv_at hl 1 rfl) ?_
            refine w_iastN C0 hP hS (k := 56 + 1) (i := np) (kdT1 (Or.inl rfl)) (by rw [lnT1 (Or.inl rfl)]; omega) (by omega) dX6_pass_79 (fun H locs hP hS => ?_)
            refine lv_aload_n hx hb dX6_pass_80 rfl (lv_at hl 0 rfl) ?_
            refine gf_X6_16 C0 hP (k := 46) (show kd 46 = 6 by decide) dX6_pass_81 ?_
            refine lv_aload_n hx hb dX6_pass_84 rfl (lv_at hl 0 rfl) ?_
            refine gf_X6_60 C0 hP (k := 46) (show kd 46 = 6 by decide) dX6_pass_85 ?_
            refine lv_topE (y := nI np) (by rw [u2_ne (by decide)]; exact hnp) ?_
            refine lv_iload_n hx hb dX6_pass_88 rfl (lv_at hl 2 rfl) ?_
            refine w_iastN C0 hP hS (k := 49) (i := np) (show kd 49 = 7 by decide) (show np < 10 by omega) (by omega) dX6_pass_89 (fun H locs hP hS => ?_)
            refine lv_aload_n hx hb dX6_pass_90 rfl (lv_at hl 0 rfl) ?_
            refine gf_X6_19 C0 hP (k := 46) (show kd 46 = 6 by decide) dX6_pass_91 ?_
            refine lv_aload_n hx hb dX6_pass_94 rfl (lv_at hl 0 rfl) ?_
            refine gf_X6_60 C0 hP (k := 46) (show kd 46 = 6 by decide) dX6_pass_95 ?_
            refine lv_topE (y := nI np) (by rw [u2_ne (by decide), u2_ne (by decide)]; exact hnp) ?_
            refine lv_iload_n hx hb dX6_pass_98 rfl (lv_at hl 3 rfl) ?_
            refine w_iastN C0 hP hS (k := 50) (i := np) (show kd 50 = 7 by decide) (show np < 10 by omega) (by omega) dX6_pass_99 (fun H locs hP hS => ?_)
            refine lv_aload_n hx hb dX6_pass_100 rfl (lv_at hl 0 rfl) ?_
            refine gf_X6_22 C0 hP (k := 46) (show kd 46 = 6 by decide) dX6_pass_101 ?_
            refine lv_aload_n hx hb dX6_pass_104 rfl (lv_at hl 0 rfl) ?_
            refine gf_X6_60 C0 hP (k := 46) (show kd 46 = 6 by decide) dX6_pass_105 ?_
            refine lv_topE (y := nI np) (by rw [u2_ne (by decide), u2_ne (by decide), u2_ne (by decide)]; exact hnp) ?_
            refine lv_iload hx hb dX6_pass_108 (lv_at hl 4 rfl) ?_
            refine w_iastN C0 hP hS (k := 51) (i := np) (show kd 51 = 7 by decide) (show np < 10 by omega) (by omega) dX6_pass_110 (fun H locs hP hS => ?_)
            refine lv_aload_n hx hb dX6_pass_111 rfl (lv_at hl 0 rfl) ?_
            refine lv_dup hx hb dX6_pass_112 rfl ?_
            refine gf_X6_60 C0 hP (k := 46) (show kd 46 = 6 by decide) dX6_pass_113 ?_
            refine lv_topE (y := nI np) (by rw [u2_ne (by decide), u2_ne (by decide), u2_ne (by decide), u2_ne (by decide)]; exact hnp) ?_
            refine lv_iconst (v := 1) hx hb dX6_pass_116 (by decide) ?_
            refine lv_iadd hx hb dX6_pass_117 ?_
            refine lv_topE (y := nI (np + 1)) (nI_1 np) ?_
            refine pf_X6_60 C0 hP hS (k := 46) (show kd 46 = 6 by decide) dX6_pass_118 (fun H locs hP hS => ?_)
            refine lv_aload_n hx hb dX6_pass_121 rfl (lv_at hl 0 rfl) ?_
            refine gf_X6_60 C0 hP (k := 46) (show kd 46 = 6 by decide) dX6_pass_122 ?_
            refine lv_topE (y := nI (np + 1)) (u2_at) ?_
            refine lv_iconst (v := 1) hx hb dX6_pass_125 (by decide) ?_
            refine lv_isub hx hb dX6_pass_126 ?_
            exact e_Ii C0 hr hP hS (nI_p1 np) (by decide) dX6_pass_127
          · exact absurd ((nI_eq (b := 10) (by omega) (by omega)).mp c_5) (by omega)
        · exact (hbd (bdP_in.mpr (by simp [c_1, c_2, c_3, c_4]))).elim

set_option maxHeartbeats 4000000 in
set_option maxRecDepth 100000 in
theorem c_X6_pass_a (l : Launch) (G : GG) (M : Mem) (o : Nat → Int64) (np nr k : Nat) (hO : OKT M np nr k) (a1 a2 a3 a4 : Int32) (hbd : bdP a1 a2 a3 a4) : MI l yX6_pass cX6_pass 5 (some .int) 1 22 G [.ref (adr G 46), .int a1, .int a2, .int a3, .int a4] M (u2 (u2 M 46 0 0) 46 0 1) o o 0 0 0 := by
  refine MI_of RX6 rfl (by decide +kernel) (Nat.le_of_ble_eq_true rfl) ?_
  intro p e s m below meth c sz C0 hr hP ls hl
  have hx := C0.1
  have hb := C0.2.1
  have hS : va_S (pA G sz) s.heap s.heap [] := va_S.rf
  have hl : lv_has ls 5 [(0, .ref (adr G 46)), (1, .int a1), (2, .int a2), (3, .int a3), (4, .int a4)] := hl
  obtain ⟨hnp, hple, hnr, hrle, hk0, hkle, hdz⟩ := okz (v := 0) hO
  refine lv_aload_n hx hb dX6_pass_0 rfl (lv_at hl 0 rfl) ?_
  refine lv_iconst (v := 0) hx hb dX6_pass_1 (by decide) ?_
  refine pf_X6_49 C0 hP hS (k := 46) (show kd 46 = 6 by decide) dX6_pass_2 (fun H locs hP hS => ?_)
  refine lv_iload_n hx hb dX6_pass_5 rfl (lv_at hl 1 rfl) ?_
  refine lv_iconst (v := 0) hx hb dX6_pass_6 (by decide) ?_
  refine lv_bipush (v := 59) hx hb dX6_pass_7 (by decide) ?_
  refine k_SI C0 hP hS (rest := []) (c_X6_isIn l G (u2 M 46 0 0) o a1 0 59) mf_X6_isIn rfl ml_X6_56 hl.1 (by decide) (by decide) (Nat.le_of_ble_eq_true rfl) rfl rfl dX6_pass_9 (fun H locs hP hS => ?_)
  refine lv_if_eq (tgt := 46) hx hb dX6_pass_12 (by decide) (fun c_1 => ?_) (fun c_1 => ?_)
  · refine lv_aload_n hx hb dX6_pass_46 rfl (lv_at hl 0 rfl) ?_
    refine lv_iconst (v := 1) hx hb dX6_pass_47 (by decide) ?_
    refine k_VI C0 hP hS (rest := []) (c_X6_no l G (u2 M 46 0 0) o 1) mf_X6_no ml_X6_63 (kd_lt (show kd 46 = 6 by decide) (by decide)) (ct_6 (show kd 46 = 6 by decide)) rfl hl.1 (by decide) (by decide) (Nat.le_of_ble_eq_true rfl) rfl rfl dX6_pass_48 (fun H locs hP hS => ?_)
    exact e_Ii C0 hr hP hS rfl (by decide) dX6_pass_51
  · refine lv_iload_n hx hb dX6_pass_15 rfl (lv_at hl 2 rfl) ?_
    refine lv_bipush (v := -3) hx hb dX6_pass_16 (by decide) ?_
    refine lv_iconst (v := 3) hx hb dX6_pass_18 (by decide) ?_
    refine k_SI C0 hP hS (rest := []) (c_X6_isIn l G (u2 M 46 0 0) o a2 (-3) 3) mf_X6_isIn rfl ml_X6_56 hl.1 (by decide) (by decide) (Nat.le_of_ble_eq_true rfl) rfl rfl dX6_pass_19 (fun H locs hP hS => ?_)
    refine lv_if_eq (tgt := 46) hx hb dX6_pass_22 (by decide) (fun c_2 => ?_) (fun c_2 => ?_)
    · refine lv_aload_n hx hb dX6_pass_46 rfl (lv_at hl 0 rfl) ?_
      refine lv_iconst (v := 1) hx hb dX6_pass_47 (by decide) ?_
      refine k_VI C0 hP hS (rest := []) (c_X6_no l G (u2 M 46 0 0) o 1) mf_X6_no ml_X6_63 (kd_lt (show kd 46 = 6 by decide) (by decide)) (ct_6 (show kd 46 = 6 by decide)) rfl hl.1 (by decide) (by decide) (Nat.le_of_ble_eq_true rfl) rfl rfl dX6_pass_48 (fun H locs hP hS => ?_)
      exact e_Ii C0 hr hP hS rfl (by decide) dX6_pass_51
    · refine lv_iload_n hx hb dX6_pass_25 rfl (lv_at hl 3 rfl) ?_
      refine lv_iconst (v := 1) hx hb dX6_pass_26 (by decide) ?_
      refine lv_bipush (v := 9) hx hb dX6_pass_27 (by decide) ?_
      refine k_SI C0 hP hS (rest := []) (c_X6_isIn l G (u2 M 46 0 0) o a3 1 9) mf_X6_isIn rfl ml_X6_56 hl.1 (by decide) (by decide) (Nat.le_of_ble_eq_true rfl) rfl rfl dX6_pass_29 (fun H locs hP hS => ?_)
      refine lv_if_eq (tgt := 46) hx hb dX6_pass_32 (by decide) (fun c_3 => ?_) (fun c_3 => ?_)
      · refine lv_aload_n hx hb dX6_pass_46 rfl (lv_at hl 0 rfl) ?_
        refine lv_iconst (v := 1) hx hb dX6_pass_47 (by decide) ?_
        refine k_VI C0 hP hS (rest := []) (c_X6_no l G (u2 M 46 0 0) o 1) mf_X6_no ml_X6_63 (kd_lt (show kd 46 = 6 by decide) (by decide)) (ct_6 (show kd 46 = 6 by decide)) rfl hl.1 (by decide) (by decide) (Nat.le_of_ble_eq_true rfl) rfl rfl dX6_pass_48 (fun H locs hP hS => ?_)
        exact e_Ii C0 hr hP hS rfl (by decide) dX6_pass_51
      · refine lv_iload hx hb dX6_pass_35 (lv_at hl 4 rfl) ?_
        refine lv_iconst (v := 1) hx hb dX6_pass_37 (by decide) ?_
        refine lv_bipush (v := 9) hx hb dX6_pass_38 (by decide) ?_
        refine k_SI C0 hP hS (rest := []) (c_X6_isIn l G (u2 M 46 0 0) o a4 1 9) mf_X6_isIn rfl ml_X6_56 hl.1 (by decide) (by decide) (Nat.le_of_ble_eq_true rfl) rfl rfl dX6_pass_40 (fun H locs hP hS => ?_)
        refine lv_if_ne (tgt := 52) hx hb dX6_pass_43 (by decide) (fun c_4 => ?_) (fun c_4 => ?_)
        · exact absurd (bdP_in.mp hbd) (by simp [c_1, c_2, c_3, c_4])
        · refine lv_aload_n hx hb dX6_pass_46 rfl (lv_at hl 0 rfl) ?_
          refine lv_iconst (v := 1) hx hb dX6_pass_47 (by decide) ?_
          refine k_VI C0 hP hS (rest := []) (c_X6_no l G (u2 M 46 0 0) o 1) mf_X6_no ml_X6_63 (kd_lt (show kd 46 = 6 by decide) (by decide)) (ct_6 (show kd 46 = 6 by decide)) rfl hl.1 (by decide) (by decide) (Nat.le_of_ble_eq_true rfl) rfl rfl dX6_pass_48 (fun H locs hP hS => ?_)
          exact e_Ii C0 hr hP hS rfl (by decide) dX6_pass_51

set_option maxHeartbeats 4000000 in
set_option maxRecDepth 100000 in
theorem c_X6_pass_s (l : Launch) (G : GG) (M : Mem) (o : Nat → Int64) (np nr k : Nat) (hO : OKT M np nr k) (a1 a2 a3 a4 : Int32) (hbd : ¬ bdP a1 a2 a3 a4) (hroom : ¬ np < 10) : MI l yX6_pass cX6_pass 5 (some .int) 1 22 G [.ref (adr G 46), .int a1, .int a2, .int a3, .int a4] M (u2 (u2 M 46 0 0) 46 0 2) o o 0 0 0 := by
  refine MI_of RX6 rfl (by decide +kernel) (Nat.le_of_ble_eq_true rfl) ?_
  intro p e s m below meth c sz C0 hr hP ls hl
  have hx := C0.1
  have hb := C0.2.1
  have hS : va_S (pA G sz) s.heap s.heap [] := va_S.rf
  have hl : lv_has ls 5 [(0, .ref (adr G 46)), (1, .int a1), (2, .int a2), (3, .int a3), (4, .int a4)] := hl
  obtain ⟨hnp, hple, hnr, hrle, hk0, hkle, hdz⟩ := okz (v := 0) hO
  refine lv_aload_n hx hb dX6_pass_0 rfl (lv_at hl 0 rfl) ?_
  refine lv_iconst (v := 0) hx hb dX6_pass_1 (by decide) ?_
  refine pf_X6_49 C0 hP hS (k := 46) (show kd 46 = 6 by decide) dX6_pass_2 (fun H locs hP hS => ?_)
  refine lv_iload_n hx hb dX6_pass_5 rfl (lv_at hl 1 rfl) ?_
  refine lv_iconst (v := 0) hx hb dX6_pass_6 (by decide) ?_
  refine lv_bipush (v := 59) hx hb dX6_pass_7 (by decide) ?_
  refine k_SI C0 hP hS (rest := []) (c_X6_isIn l G (u2 M 46 0 0) o a1 0 59) mf_X6_isIn rfl ml_X6_56 hl.1 (by decide) (by decide) (Nat.le_of_ble_eq_true rfl) rfl rfl dX6_pass_9 (fun H locs hP hS => ?_)
  refine lv_if_eq (tgt := 46) hx hb dX6_pass_12 (by decide) (fun c_1 => ?_) (fun c_1 => ?_)
  · exact (hbd (bdP_in.mpr (by simp [c_1]))).elim
  · refine lv_iload_n hx hb dX6_pass_15 rfl (lv_at hl 2 rfl) ?_
    refine lv_bipush (v := -3) hx hb dX6_pass_16 (by decide) ?_
    refine lv_iconst (v := 3) hx hb dX6_pass_18 (by decide) ?_
    refine k_SI C0 hP hS (rest := []) (c_X6_isIn l G (u2 M 46 0 0) o a2 (-3) 3) mf_X6_isIn rfl ml_X6_56 hl.1 (by decide) (by decide) (Nat.le_of_ble_eq_true rfl) rfl rfl dX6_pass_19 (fun H locs hP hS => ?_)
    refine lv_if_eq (tgt := 46) hx hb dX6_pass_22 (by decide) (fun c_2 => ?_) (fun c_2 => ?_)
    · exact (hbd (bdP_in.mpr (by simp [c_1, c_2]))).elim
    · refine lv_iload_n hx hb dX6_pass_25 rfl (lv_at hl 3 rfl) ?_
      refine lv_iconst (v := 1) hx hb dX6_pass_26 (by decide) ?_
      refine lv_bipush (v := 9) hx hb dX6_pass_27 (by decide) ?_
      refine k_SI C0 hP hS (rest := []) (c_X6_isIn l G (u2 M 46 0 0) o a3 1 9) mf_X6_isIn rfl ml_X6_56 hl.1 (by decide) (by decide) (Nat.le_of_ble_eq_true rfl) rfl rfl dX6_pass_29 (fun H locs hP hS => ?_)
      refine lv_if_eq (tgt := 46) hx hb dX6_pass_32 (by decide) (fun c_3 => ?_) (fun c_3 => ?_)
      · exact (hbd (bdP_in.mpr (by simp [c_1, c_2, c_3]))).elim
      · refine lv_iload hx hb dX6_pass_35 (lv_at hl 4 rfl) ?_
        refine lv_iconst (v := 1) hx hb dX6_pass_37 (by decide) ?_
        refine lv_bipush (v := 9) hx hb dX6_pass_38 (by decide) ?_
        refine k_SI C0 hP hS (rest := []) (c_X6_isIn l G (u2 M 46 0 0) o a4 1 9) mf_X6_isIn rfl ml_X6_56 hl.1 (by decide) (by decide) (Nat.le_of_ble_eq_true rfl) rfl rfl dX6_pass_40 (fun H locs hP hS => ?_)
        refine lv_if_ne (tgt := 52) hx hb dX6_pass_43 (by decide) (fun c_4 => ?_) (fun c_4 => ?_)
        · refine lv_aload_n hx hb dX6_pass_52 rfl (lv_at hl 0 rfl) ?_
          refine gf_X6_60 C0 hP (k := 46) (show kd 46 = 6 by decide) dX6_pass_53 ?_
          refine lv_topE (y := nI np) (hnp) ?_
          refine lv_bipush (v := 10) hx hb dX6_pass_56 (by decide) ?_
          refine lv_icmp_ne (tgt := 67) hx hb dX6_pass_58 (by decide) (fun c_5 => ?_) (fun c_5 => ?_)
          · exact absurd (by rw [show np = 10 by omega]; rfl) c_5
          · refine lv_aload_n hx hb dX6_pass_61 rfl (lv_at hl 0 rfl) ?_
            refine lv_iconst (v := 2) hx hb dX6_pass_62 (by decide) ?_
            refine k_VI C0 hP hS (rest := []) (c_X6_no l G (u2 M 46 0 0) o 2) mf_X6_no ml_X6_63 (kd_lt (show kd 46 = 6 by decide) (by decide)) (ct_6 (show kd 46 = 6 by decide)) rfl hl.1 (by decide) (by decide) (Nat.le_of_ble_eq_true rfl) rfl rfl dX6_pass_63 (fun H locs hP hS => ?_)
            exact e_Ii C0 hr hP hS rfl (by decide) dX6_pass_66
        · exact (hbd (bdP_in.mpr (by simp [c_1, c_2, c_3, c_4]))).elim

set_option maxHeartbeats 4000000 in
set_option maxRecDepth 100000 in
theorem c_X6_addRoom (l : Launch) (G : GG) (M : Mem) (o : Nat → Int64) (np nr k : Nat) (hO : OKT M np nr k) (a1 a2 a3 b8 : Int32) (hb8 : b8 = if nr < 8 then 1 else 0) (hbd : ¬ bdR a1 a2 a3) (hroom : ¬ frF ((u2 M 46 0 0) 52) a1 b8 nr = 0) : MI l yX6_addRoom cX6_addRoom 6 (some .int) 1 22 G [.ref (adr G 46), .int a1, .int a2, .int a3] M (u2 (u2 (u2 (u2 (u2 (u2 M 46 0 0) 52 nr a1) 53 nr a2) 55 nr a3) 58 nr 3) 46 2 (nI (nr + 1))) o o (nI nr) 0 0 := by
  refine MI_of RX6 rfl (by decide +kernel) (Nat.le_of_ble_eq_true rfl) ?_
  intro p e s m below meth c sz C0 hr hP ls hl
  have hx := C0.1
  have hb := C0.2.1
  have hS : va_S (pA G sz) s.heap s.heap [] := va_S.rf
  have hl : lv_has ls 6 [(0, .ref (adr G 46)), (1, .int a1), (2, .int a2), (3, .int a3)] := hl
  obtain ⟨hnp, hple, hnr, hrle, hk0, hkle, hdz⟩ := okz (v := 0) hO
  refine lv_aload_n hx hb dX6_addRoom_0 rfl (lv_at hl 0 rfl) ?_
  refine lv_iconst (v := 0) hx hb dX6_addRoom_1 (by decide) ?_
  refine pf_X6_49 C0 hP hS (k := 46) (show kd 46 = 6 by decide) dX6_addRoom_2 (fun H locs hP hS => ?_)
  refine lv_iload_n hx hb dX6_addRoom_5 rfl (lv_at hl 1 rfl) ?_
  refine lv_iconst (v := 0) hx hb dX6_addRoom_6 (by decide) ?_
  refine lv_bipush (v := 59) hx hb dX6_addRoom_7 (by decide) ?_
  refine k_SI C0 hP hS (rest := []) (c_X6_isIn l G (u2 M 46 0 0) o a1 0 59) mf_X6_isIn rfl ml_X6_56 hl.1 (by decide) (by decide) (Nat.le_of_ble_eq_true rfl) rfl rfl dX6_addRoom_9 (fun H locs hP hS => ?_)
  refine lv_if_eq (tgt := 35) hx hb dX6_addRoom_12 (by decide) (fun c_1 => ?_) (fun c_1 => ?_)
  · exact (hbd (bdR_in.mpr (by simp [c_1]))).elim
  · refine lv_iload_n hx hb dX6_addRoom_15 rfl (lv_at hl 2 rfl) ?_
    refine lv_iconst (v := 1) hx hb dX6_addRoom_16 (by decide) ?_
    refine lv_bipush (v := 9) hx hb dX6_addRoom_17 (by decide) ?_
    refine k_SI C0 hP hS (rest := []) (c_X6_isIn l G (u2 M 46 0 0) o a2 1 9) mf_X6_isIn rfl ml_X6_56 hl.1 (by decide) (by decide) (Nat.le_of_ble_eq_true rfl) rfl rfl dX6_addRoom_19 (fun H locs hP hS => ?_)
    refine lv_if_eq (tgt := 35) hx hb dX6_addRoom_22 (by decide) (fun c_2 => ?_) (fun c_2 => ?_)
    · exact (hbd (bdR_in.mpr (by simp [c_1, c_2]))).elim
    · refine lv_iload_n hx hb dX6_addRoom_25 rfl (lv_at hl 3 rfl) ?_
      refine lv_iconst (v := 0) hx hb dX6_addRoom_26 (by decide) ?_
      refine lv_bipush (v := 20) hx hb dX6_addRoom_27 (by decide) ?_
      refine k_SI C0 hP hS (rest := []) (c_X6_isIn l G (u2 M 46 0 0) o a3 0 20) mf_X6_isIn rfl ml_X6_56 hl.1 (by decide) (by decide) (Nat.le_of_ble_eq_true rfl) rfl rfl dX6_addRoom_29 (fun H locs hP hS => ?_)
      refine lv_if_ne (tgt := 41) hx hb dX6_addRoom_32 (by decide) (fun c_3 => ?_) (fun c_3 => ?_)
      · refine lv_aload_n hx hb dX6_addRoom_41 rfl (lv_at hl 0 rfl) ?_
        refine gf_X6_53 C0 hP (k := 46) (show kd 46 = 6 by decide) dX6_addRoom_42 ?_
        refine lv_topE (y := nI nr) (hnr) ?_
        refine lv_bipush (v := 8) hx hb dX6_addRoom_45 (by decide) ?_
        refine lv_icmp_ge (tgt := 54) hx hb dX6_addRoom_47 (by decide) (fun c_4 => ?_) (fun c_4 => ?_)
        · exact absurd (frF_no (by rw [hb8, if_neg (fun z => absurd c_4 (mI_nle (a := 8) (b := nr) z (by omega)))])) hroom
        · have h8 : nr < 8 := by
            rcases Nat.lt_or_ge nr 8 with z | z
            · exact z
            · exact absurd (nI_le (a := 8) (b := nr) z (by omega)) c_4
          refine lv_iconst (v := 1) hx hb dX6_addRoom_50 (by decide) ?_
          refine lv_goto (tgt := 55) hx hb dX6_addRoom_51 (by decide) ?_
          refine lv_istore (lv' := [(4, .int 1), (0, .ref (adr G 46)), (1, .int a1), (2, .int a2), (3, .int a3)]) hx hb dX6_addRoom_55 hl (by decide) rfl (fun ls hl => ?_)
          refine lv_iconst (v := 0) hx hb dX6_addRoom_57 (by decide) ?_
          refine lv_istore (lv' := [(5, .int 0), (4, .int 1), (0, .ref (adr G 46)), (1, .int a1), (2, .int a2), (3, .int a3)]) hx hb dX6_addRoom_58 hl (by decide) rfl (fun ls hl => ?_)
          have loop_60 : ∀ (fuel_60 : Nat) (r : Nat) (x : Int32), nr + 1 ≤ r + fuel_60 → (r ≤ nr) → (x = frF ((u2 M 46 0 0) 52) a1 b8 r) → ∀ (H : Heap) (locs : List Loc), PW G (u2 M 46 0 0) o H → va_S (pA G sz) s.heap H locs → ∀ ls : Array Slot, lv_has ls 6 [(5, .int (nI r)), (4, .int x), (0, .ref (adr G 46)), (1, .int a1), (2, .int a2), (3, .int a3)] → W p l e (rmU 1 22 0 0) s m ([.ref (adr G 46), .int a1, .int a2, .int a3] : List Value).toArray below meth c H locs 0 0 (MQ below (QI G (u2 (u2 (u2 (u2 (u2 (u2 M 46 0 0) 52 nr a1) 53 nr a2) 55 nr a3) 58 nr 3) 46 2 (nI (nr + 1))) o (nI nr) sz) ([.ref (adr G 46), .int a1, .int a2, .int a3] : List Value).toArray s 0 0 (pA G sz)) (F0 m 60 ls []) := by
            intro fuel_60
            induction fuel_60 with
            | zero =>
              intro r x hf hr1 hxx
              exact absurd hf (by omega)
            | succ fuel_60 ih_60 =>
              intro r x hf hr1 hxx H locs hP hS ls hl
              refine lv_iload hx hb dX6_addRoom_60 (lv_at hl 0 rfl) ?_
              refine lv_aload_n hx hb dX6_addRoom_62 rfl (lv_at hl 2 rfl) ?_
              refine gf_X6_53 C0 hP (k := 46) (show kd 46 = 6 by decide) dX6_addRoom_63 ?_
              refine lv_topE (y := nI nr) (hnr) ?_
              refine lv_icmp_ge (tgt := 96) hx hb dX6_addRoom_66 (by decide) (fun c_5 => ?_) (fun c_5 => ?_)
              · have hr9 := lp_ge (n := nr) c_5 (by omega) hr1
                refine lv_iload hx hb dX6_addRoom_96 (lv_at hl 1 rfl) ?_
                refine lv_if_ne (tgt := 107) hx hb dX6_addRoom_98 (by decide) (fun c_6 => ?_) (fun c_6 => ?_)
                · refine lv_aload_n hx hb dX6_addRoom_107 rfl (lv_at hl 2 rfl) ?_
                  refine gf_X6_25 C0 hP (k := 46) (show kd 46 = 6 by decide) dX6_addRoom_108 ?_
                  refine lv_aload_n hx hb dX6_addRoom_111 rfl (lv_at hl 2 rfl) ?_
                  refine gf_X6_53 C0 hP (k := 46) (show kd 46 = 6 by decide) dX6_addRoom_112 ?_
                  refine lv_topE (y := nI nr) (hnr) ?_
                  refine lv_iload_n hx hb dX6_addRoom_115 rfl (lv_at hl 3 rfl) ?_
                  refine w_iastN C0 hP hS (k := 52) (i := nr) (show kd 52 = 7 by decide) (show nr < 8 by omega) (by omega) dX6_addRoom_116 (fun H locs hP hS => ?_)
                  refine lv_aload_n hx hb dX6_addRoom_117 rfl (lv_at hl 2 rfl) ?_
                  refine gf_X6_28 C0 hP (k := 46) (show kd 46 = 6 by decide) dX6_addRoom_118 ?_
                  refine lv_aload_n hx hb dX6_addRoom_121 rfl (lv_at hl 2 rfl) ?_
                  refine gf_X6_53 C0 hP (k := 46) (show kd 46 = 6 by decide) dX6_addRoom_122 ?_
                  refine lv_topE (y := nI nr) (by rw [u2_ne (by decide)]; exact hnr) ?_
                  refine lv_iload_n hx hb dX6_addRoom_125 rfl (lv_at hl 4 rfl) ?_
                  refine w_iastN C0 hP hS (k := 53) (i := nr) (show kd 53 = 7 by decide) (show nr < 8 by omega) (by omega) dX6_addRoom_126 (fun H locs hP hS => ?_)
                  refine lv_aload_n hx hb dX6_addRoom_127 rfl (lv_at hl 2 rfl) ?_
                  refine gf_X6_34 C0 hP (k := 46) (show kd 46 = 6 by decide) dX6_addRoom_128 ?_
                  refine lv_aload_n hx hb dX6_addRoom_131 rfl (lv_at hl 2 rfl) ?_
                  refine gf_X6_53 C0 hP (k := 46) (show kd 46 = 6 by decide) dX6_addRoom_132 ?_
                  refine lv_topE (y := nI nr) (by rw [u2_ne (by decide), u2_ne (by decide)]; exact hnr) ?_
                  refine lv_iload_n hx hb dX6_addRoom_135 rfl (lv_at hl 5 rfl) ?_
                  refine w_iastN C0 hP hS (k := 55) (i := nr) (show kd 55 = 7 by decide) (show nr < 8 by omega) (by omega) dX6_addRoom_136 (fun H locs hP hS => ?_)
                  refine lv_aload_n hx hb dX6_addRoom_137 rfl (lv_at hl 2 rfl) ?_
                  refine gf_X6_42 C0 hP (k := 46) (show kd 46 = 6 by decide) dX6_addRoom_138 ?_
                  refine gf_X6_70 C0 hP (k := 56) (show kd 56 = 5 by decide) dX6_addRoom_141 ?_
                  refine lv_aload_n hx hb dX6_addRoom_144 rfl (lv_at hl 2 rfl) ?_
                  refine gf_X6_53 C0 hP (k := 46) (show kd 46 = 6 by decide) dX6_addRoom_145 ?_
                  refine lv_topE (y := nI nr) (by rw [u2_ne (by decide), u2_ne (by decide), u2_ne (by decide)]; exact hnr) ?_
                  refine lv_iconst (v := 3) hx hb dX6_addRoom_148 (by decide) ?_
                  refine w_iastN C0 hP hS (k := 56 + 2) (i := nr) (kdT2 (Or.inl rfl)) (by rw [lnT2 (Or.inl rfl)]; omega) (by omega) dX6_addRoom_149 (fun H locs hP hS => ?_)
                  refine lv_aload_n hx hb dX6_addRoom_150 rfl (lv_at hl 2 rfl) ?_
                  refine lv_dup hx hb dX6_addRoom_151 rfl ?_
                  refine gf_X6_53 C0 hP (k := 46) (show kd 46 = 6 by decide) dX6_addRoom_152 ?_
                  refine lv_topE (y := nI nr) (by rw [u2_ne (by decide), u2_ne (by decide), u2_ne (by decide), u2_ne (by decide)]; exact hnr) ?_
                  refine lv_iconst (v := 1) hx hb dX6_addRoom_155 (by decide) ?_
                  refine lv_iadd hx hb dX6_addRoom_156 ?_
                  refine lv_topE (y := nI (nr + 1)) (nI_1 nr) ?_
                  refine pf_X6_53 C0 hP hS (k := 46) (show kd 46 = 6 by decide) dX6_addRoom_157 (fun H locs hP hS => ?_)
                  refine lv_aload_n hx hb dX6_addRoom_160 rfl (lv_at hl 2 rfl) ?_
                  refine gf_X6_53 C0 hP (k := 46) (show kd 46 = 6 by decide) dX6_addRoom_161 ?_
                  refine lv_topE (y := nI (nr + 1)) (u2_at) ?_
                  refine lv_iconst (v := 1) hx hb dX6_addRoom_164 (by decide) ?_
                  refine lv_isub hx hb dX6_addRoom_165 ?_
                  exact e_Ii C0 hr hP hS (nI_p1 nr) (by decide) dX6_addRoom_166
                · exact absurd (by rw [← hr9, ← hxx]; exact c_6) hroom
              · have hrt := lp_lt (n := nr) c_5 (by omega) hr1
                refine lv_iload hx hb dX6_addRoom_69 (lv_at hl 1 rfl) ?_
                refine lv_aload_n hx hb dX6_addRoom_71 rfl (lv_at hl 2 rfl) ?_
                refine gf_X6_25 C0 hP (k := 46) (show kd 46 = 6 by decide) dX6_addRoom_72 ?_
                refine lv_iload hx hb dX6_addRoom_75 (lv_at hl 0 rfl) ?_
                refine w_ialdN C0 hP (k := 52) (i := r) (show kd 52 = 7 by decide) (show r < 8 by omega) (by omega) dX6_addRoom_77 ?_
                refine lv_iload_n hx hb dX6_addRoom_78 rfl (lv_at hl 3 rfl) ?_
                refine lv_icmp_eq (tgt := 86) hx hb dX6_addRoom_79 (by decide) (fun c_7 => ?_) (fun c_7 => ?_)
                · refine lv_iconst (v := 0) hx hb dX6_addRoom_86 (by decide) ?_
                  refine lv_iand hx hb dX6_addRoom_87 ?_
                  refine lv_istore (lv' := [(4, .int (x &&& 0)), (5, .int (nI r)), (0, .ref (adr G 46)), (1, .int a1), (2, .int a2), (3, .int a3)]) hx hb dX6_addRoom_88 hl (by decide) rfl (fun ls hl => ?_)
                  refine lv_iinc (v := nI (r + 1)) (lv' := [(5, .int (nI (r + 1))), (4, .int (x &&& 0)), (0, .ref (adr G 46)), (1, .int a1), (2, .int a2), (3, .int a3)]) hx hb dX6_addRoom_90 hl (k := 1) rfl (nI_1 r) (by decide) rfl (fun ls hl => ?_)
                  refine lv_goto (tgt := 60) hx hb dX6_addRoom_93 (by decide) ?_
                  exact ih_60 (r + 1) _ (by omega) (by omega) (by rw [hxx, frF]; first | rw [if_pos c_7] | rw [if_neg c_7]) _ _ hP hS _ (lv_sub hl [0, 1, 2, 3, 4, 5] rfl)
                · refine lv_iconst (v := 1) hx hb dX6_addRoom_82 (by decide) ?_
                  refine lv_goto (tgt := 87) hx hb dX6_addRoom_83 (by decide) ?_
                  refine lv_iand hx hb dX6_addRoom_87 ?_
                  refine lv_istore (lv' := [(4, .int (x &&& 1)), (5, .int (nI r)), (0, .ref (adr G 46)), (1, .int a1), (2, .int a2), (3, .int a3)]) hx hb dX6_addRoom_88 hl (by decide) rfl (fun ls hl => ?_)
                  refine lv_iinc (v := nI (r + 1)) (lv' := [(5, .int (nI (r + 1))), (4, .int (x &&& 1)), (0, .ref (adr G 46)), (1, .int a1), (2, .int a2), (3, .int a3)]) hx hb dX6_addRoom_90 hl (k := 1) rfl (nI_1 r) (by decide) rfl (fun ls hl => ?_)
                  refine lv_goto (tgt := 60) hx hb dX6_addRoom_93 (by decide) ?_
                  exact ih_60 (r + 1) _ (by omega) (by omega) (by rw [hxx, frF]; first | rw [if_pos c_7] | rw [if_neg c_7]) _ _ hP hS _ (lv_sub hl [0, 1, 2, 3, 4, 5] rfl)
          exact loop_60 (nr + 1) 0 _ (by omega) (by omega) (by rw [frF, hb8]; simp [h8]) _ _ hP hS _ (lv_sub hl [0, 1, 2, 3, 4, 5] rfl)
      · exact (hbd (bdR_in.mpr (by simp [c_1, c_2, c_3]))).elim

set_option maxHeartbeats 4000000 in
set_option maxRecDepth 100000 in
theorem c_X6_addRoom_a (l : Launch) (G : GG) (M : Mem) (o : Nat → Int64) (np nr k : Nat) (hO : OKT M np nr k) (a1 a2 a3 : Int32) (hbd : bdR a1 a2 a3) : MI l yX6_addRoom cX6_addRoom 6 (some .int) 1 22 G [.ref (adr G 46), .int a1, .int a2, .int a3] M (u2 (u2 M 46 0 0) 46 0 1) o o 0 0 0 := by
  refine MI_of RX6 rfl (by decide +kernel) (Nat.le_of_ble_eq_true rfl) ?_
  intro p e s m below meth c sz C0 hr hP ls hl
  have hx := C0.1
  have hb := C0.2.1
  have hS : va_S (pA G sz) s.heap s.heap [] := va_S.rf
  have hl : lv_has ls 6 [(0, .ref (adr G 46)), (1, .int a1), (2, .int a2), (3, .int a3)] := hl
  obtain ⟨hnp, hple, hnr, hrle, hk0, hkle, hdz⟩ := okz (v := 0) hO
  refine lv_aload_n hx hb dX6_addRoom_0 rfl (lv_at hl 0 rfl) ?_
  refine lv_iconst (v := 0) hx hb dX6_addRoom_1 (by decide) ?_
  refine pf_X6_49 C0 hP hS (k := 46) (show kd 46 = 6 by decide) dX6_addRoom_2 (fun H locs hP hS => ?_)
  refine lv_iload_n hx hb dX6_addRoom_5 rfl (lv_at hl 1 rfl) ?_
  refine lv_iconst (v := 0) hx hb dX6_addRoom_6 (by decide) ?_
  refine lv_bipush (v := 59) hx hb dX6_addRoom_7 (by decide) ?_
  refine k_SI C0 hP hS (rest := []) (c_X6_isIn l G (u2 M 46 0 0) o a1 0 59) mf_X6_isIn rfl ml_X6_56 hl.1 (by decide) (by decide) (Nat.le_of_ble_eq_true rfl) rfl rfl dX6_addRoom_9 (fun H locs hP hS => ?_)
  refine lv_if_eq (tgt := 35) hx hb dX6_addRoom_12 (by decide) (fun c_1 => ?_) (fun c_1 => ?_)
  · refine lv_aload_n hx hb dX6_addRoom_35 rfl (lv_at hl 0 rfl) ?_
    refine lv_iconst (v := 1) hx hb dX6_addRoom_36 (by decide) ?_
    refine k_VI C0 hP hS (rest := []) (c_X6_no l G (u2 M 46 0 0) o 1) mf_X6_no ml_X6_63 (kd_lt (show kd 46 = 6 by decide) (by decide)) (ct_6 (show kd 46 = 6 by decide)) rfl hl.1 (by decide) (by decide) (Nat.le_of_ble_eq_true rfl) rfl rfl dX6_addRoom_37 (fun H locs hP hS => ?_)
    exact e_Ii C0 hr hP hS rfl (by decide) dX6_addRoom_40
  · refine lv_iload_n hx hb dX6_addRoom_15 rfl (lv_at hl 2 rfl) ?_
    refine lv_iconst (v := 1) hx hb dX6_addRoom_16 (by decide) ?_
    refine lv_bipush (v := 9) hx hb dX6_addRoom_17 (by decide) ?_
    refine k_SI C0 hP hS (rest := []) (c_X6_isIn l G (u2 M 46 0 0) o a2 1 9) mf_X6_isIn rfl ml_X6_56 hl.1 (by decide) (by decide) (Nat.le_of_ble_eq_true rfl) rfl rfl dX6_addRoom_19 (fun H locs hP hS => ?_)
    refine lv_if_eq (tgt := 35) hx hb dX6_addRoom_22 (by decide) (fun c_2 => ?_) (fun c_2 => ?_)
    · refine lv_aload_n hx hb dX6_addRoom_35 rfl (lv_at hl 0 rfl) ?_
      refine lv_iconst (v := 1) hx hb dX6_addRoom_36 (by decide) ?_
      refine k_VI C0 hP hS (rest := []) (c_X6_no l G (u2 M 46 0 0) o 1) mf_X6_no ml_X6_63 (kd_lt (show kd 46 = 6 by decide) (by decide)) (ct_6 (show kd 46 = 6 by decide)) rfl hl.1 (by decide) (by decide) (Nat.le_of_ble_eq_true rfl) rfl rfl dX6_addRoom_37 (fun H locs hP hS => ?_)
      exact e_Ii C0 hr hP hS rfl (by decide) dX6_addRoom_40
    · refine lv_iload_n hx hb dX6_addRoom_25 rfl (lv_at hl 3 rfl) ?_
      refine lv_iconst (v := 0) hx hb dX6_addRoom_26 (by decide) ?_
      refine lv_bipush (v := 20) hx hb dX6_addRoom_27 (by decide) ?_
      refine k_SI C0 hP hS (rest := []) (c_X6_isIn l G (u2 M 46 0 0) o a3 0 20) mf_X6_isIn rfl ml_X6_56 hl.1 (by decide) (by decide) (Nat.le_of_ble_eq_true rfl) rfl rfl dX6_addRoom_29 (fun H locs hP hS => ?_)
      refine lv_if_ne (tgt := 41) hx hb dX6_addRoom_32 (by decide) (fun c_3 => ?_) (fun c_3 => ?_)
      · exact absurd (bdR_in.mp hbd) (by simp [c_1, c_2, c_3])
      · refine lv_aload_n hx hb dX6_addRoom_35 rfl (lv_at hl 0 rfl) ?_
        refine lv_iconst (v := 1) hx hb dX6_addRoom_36 (by decide) ?_
        refine k_VI C0 hP hS (rest := []) (c_X6_no l G (u2 M 46 0 0) o 1) mf_X6_no ml_X6_63 (kd_lt (show kd 46 = 6 by decide) (by decide)) (ct_6 (show kd 46 = 6 by decide)) rfl hl.1 (by decide) (by decide) (Nat.le_of_ble_eq_true rfl) rfl rfl dX6_addRoom_37 (fun H locs hP hS => ?_)
        exact e_Ii C0 hr hP hS rfl (by decide) dX6_addRoom_40

set_option maxHeartbeats 4000000 in
set_option maxRecDepth 100000 in
theorem c_X6_addRoom_s (l : Launch) (G : GG) (M : Mem) (o : Nat → Int64) (np nr k : Nat) (hO : OKT M np nr k) (a1 a2 a3 b8 : Int32) (hb8 : b8 = if nr < 8 then 1 else 0) (hbd : ¬ bdR a1 a2 a3) (hroom : frF ((u2 M 46 0 0) 52) a1 b8 nr = 0) : MI l yX6_addRoom cX6_addRoom 6 (some .int) 1 22 G [.ref (adr G 46), .int a1, .int a2, .int a3] M (u2 (u2 M 46 0 0) 46 0 2) o o 0 0 0 := by
  refine MI_of RX6 rfl (by decide +kernel) (Nat.le_of_ble_eq_true rfl) ?_
  intro p e s m below meth c sz C0 hr hP ls hl
  have hx := C0.1
  have hb := C0.2.1
  have hS : va_S (pA G sz) s.heap s.heap [] := va_S.rf
  have hl : lv_has ls 6 [(0, .ref (adr G 46)), (1, .int a1), (2, .int a2), (3, .int a3)] := hl
  obtain ⟨hnp, hple, hnr, hrle, hk0, hkle, hdz⟩ := okz (v := 0) hO
  refine lv_aload_n hx hb dX6_addRoom_0 rfl (lv_at hl 0 rfl) ?_
  refine lv_iconst (v := 0) hx hb dX6_addRoom_1 (by decide) ?_
  refine pf_X6_49 C0 hP hS (k := 46) (show kd 46 = 6 by decide) dX6_addRoom_2 (fun H locs hP hS => ?_)
  refine lv_iload_n hx hb dX6_addRoom_5 rfl (lv_at hl 1 rfl) ?_
  refine lv_iconst (v := 0) hx hb dX6_addRoom_6 (by decide) ?_
  refine lv_bipush (v := 59) hx hb dX6_addRoom_7 (by decide) ?_
  refine k_SI C0 hP hS (rest := []) (c_X6_isIn l G (u2 M 46 0 0) o a1 0 59) mf_X6_isIn rfl ml_X6_56 hl.1 (by decide) (by decide) (Nat.le_of_ble_eq_true rfl) rfl rfl dX6_addRoom_9 (fun H locs hP hS => ?_)
  refine lv_if_eq (tgt := 35) hx hb dX6_addRoom_12 (by decide) (fun c_1 => ?_) (fun c_1 => ?_)
  · exact (hbd (bdR_in.mpr (by simp [c_1]))).elim
  · refine lv_iload_n hx hb dX6_addRoom_15 rfl (lv_at hl 2 rfl) ?_
    refine lv_iconst (v := 1) hx hb dX6_addRoom_16 (by decide) ?_
    refine lv_bipush (v := 9) hx hb dX6_addRoom_17 (by decide) ?_
    refine k_SI C0 hP hS (rest := []) (c_X6_isIn l G (u2 M 46 0 0) o a2 1 9) mf_X6_isIn rfl ml_X6_56 hl.1 (by decide) (by decide) (Nat.le_of_ble_eq_true rfl) rfl rfl dX6_addRoom_19 (fun H locs hP hS => ?_)
    refine lv_if_eq (tgt := 35) hx hb dX6_addRoom_22 (by decide) (fun c_2 => ?_) (fun c_2 => ?_)
    · exact (hbd (bdR_in.mpr (by simp [c_1, c_2]))).elim
    · refine lv_iload_n hx hb dX6_addRoom_25 rfl (lv_at hl 3 rfl) ?_
      refine lv_iconst (v := 0) hx hb dX6_addRoom_26 (by decide) ?_
      refine lv_bipush (v := 20) hx hb dX6_addRoom_27 (by decide) ?_
      refine k_SI C0 hP hS (rest := []) (c_X6_isIn l G (u2 M 46 0 0) o a3 0 20) mf_X6_isIn rfl ml_X6_56 hl.1 (by decide) (by decide) (Nat.le_of_ble_eq_true rfl) rfl rfl dX6_addRoom_29 (fun H locs hP hS => ?_)
      refine lv_if_ne (tgt := 41) hx hb dX6_addRoom_32 (by decide) (fun c_3 => ?_) (fun c_3 => ?_)
      · refine lv_aload_n hx hb dX6_addRoom_41 rfl (lv_at hl 0 rfl) ?_
        refine gf_X6_53 C0 hP (k := 46) (show kd 46 = 6 by decide) dX6_addRoom_42 ?_
        refine lv_topE (y := nI nr) (hnr) ?_
        refine lv_bipush (v := 8) hx hb dX6_addRoom_45 (by decide) ?_
        refine lv_icmp_ge (tgt := 54) hx hb dX6_addRoom_47 (by decide) (fun c_4 => ?_) (fun c_4 => ?_)
        · have h8 : ¬ nr < 8 := fun z => absurd c_4 (mI_nle (a := 8) (b := nr) z (by omega))
          refine lv_iconst (v := 0) hx hb dX6_addRoom_54 (by decide) ?_
          refine lv_istore (lv' := [(4, .int 0), (0, .ref (adr G 46)), (1, .int a1), (2, .int a2), (3, .int a3)]) hx hb dX6_addRoom_55 hl (by decide) rfl (fun ls hl => ?_)
          refine lv_iconst (v := 0) hx hb dX6_addRoom_57 (by decide) ?_
          refine lv_istore (lv' := [(5, .int 0), (4, .int 0), (0, .ref (adr G 46)), (1, .int a1), (2, .int a2), (3, .int a3)]) hx hb dX6_addRoom_58 hl (by decide) rfl (fun ls hl => ?_)
          have loop_60 : ∀ (fuel_60 : Nat) (r : Nat) (x : Int32), nr + 1 ≤ r + fuel_60 → (r ≤ nr) → (x = frF ((u2 M 46 0 0) 52) a1 b8 r) → ∀ (H : Heap) (locs : List Loc), PW G (u2 M 46 0 0) o H → va_S (pA G sz) s.heap H locs → ∀ ls : Array Slot, lv_has ls 6 [(5, .int (nI r)), (4, .int x), (0, .ref (adr G 46)), (1, .int a1), (2, .int a2), (3, .int a3)] → W p l e (rmU 1 22 0 0) s m ([.ref (adr G 46), .int a1, .int a2, .int a3] : List Value).toArray below meth c H locs 0 0 (MQ below (QI G (u2 (u2 M 46 0 0) 46 0 2) o 0 sz) ([.ref (adr G 46), .int a1, .int a2, .int a3] : List Value).toArray s 0 0 (pA G sz)) (F0 m 60 ls []) := by
            intro fuel_60
            induction fuel_60 with
            | zero =>
              intro r x hf hr1 hxx
              exact absurd hf (by omega)
            | succ fuel_60 ih_60 =>
              intro r x hf hr1 hxx H locs hP hS ls hl
              refine lv_iload hx hb dX6_addRoom_60 (lv_at hl 0 rfl) ?_
              refine lv_aload_n hx hb dX6_addRoom_62 rfl (lv_at hl 2 rfl) ?_
              refine gf_X6_53 C0 hP (k := 46) (show kd 46 = 6 by decide) dX6_addRoom_63 ?_
              refine lv_topE (y := nI nr) (hnr) ?_
              refine lv_icmp_ge (tgt := 96) hx hb dX6_addRoom_66 (by decide) (fun c_5 => ?_) (fun c_5 => ?_)
              · have hr9 := lp_ge (n := nr) c_5 (by omega) hr1
                refine lv_iload hx hb dX6_addRoom_96 (lv_at hl 1 rfl) ?_
                refine lv_if_ne (tgt := 107) hx hb dX6_addRoom_98 (by decide) (fun c_6 => ?_) (fun c_6 => ?_)
                · exact absurd (by rw [hxx, hr9]; exact hroom) c_6
                · refine lv_aload_n hx hb dX6_addRoom_101 rfl (lv_at hl 2 rfl) ?_
                  refine lv_iconst (v := 2) hx hb dX6_addRoom_102 (by decide) ?_
                  refine k_VI C0 hP hS (rest := []) (c_X6_no l G (u2 M 46 0 0) o 2) mf_X6_no ml_X6_63 (kd_lt (show kd 46 = 6 by decide) (by decide)) (ct_6 (show kd 46 = 6 by decide)) rfl hl.1 (by decide) (by decide) (Nat.le_of_ble_eq_true rfl) rfl rfl dX6_addRoom_103 (fun H locs hP hS => ?_)
                  exact e_Ii C0 hr hP hS rfl (by decide) dX6_addRoom_106
              · have hrt := lp_lt (n := nr) c_5 (by omega) hr1
                refine lv_iload hx hb dX6_addRoom_69 (lv_at hl 1 rfl) ?_
                refine lv_aload_n hx hb dX6_addRoom_71 rfl (lv_at hl 2 rfl) ?_
                refine gf_X6_25 C0 hP (k := 46) (show kd 46 = 6 by decide) dX6_addRoom_72 ?_
                refine lv_iload hx hb dX6_addRoom_75 (lv_at hl 0 rfl) ?_
                refine w_ialdN C0 hP (k := 52) (i := r) (show kd 52 = 7 by decide) (show r < 8 by omega) (by omega) dX6_addRoom_77 ?_
                refine lv_iload_n hx hb dX6_addRoom_78 rfl (lv_at hl 3 rfl) ?_
                refine lv_icmp_eq (tgt := 86) hx hb dX6_addRoom_79 (by decide) (fun c_7 => ?_) (fun c_7 => ?_)
                · refine lv_iconst (v := 0) hx hb dX6_addRoom_86 (by decide) ?_
                  refine lv_iand hx hb dX6_addRoom_87 ?_
                  refine lv_istore (lv' := [(4, .int (x &&& 0)), (5, .int (nI r)), (0, .ref (adr G 46)), (1, .int a1), (2, .int a2), (3, .int a3)]) hx hb dX6_addRoom_88 hl (by decide) rfl (fun ls hl => ?_)
                  refine lv_iinc (v := nI (r + 1)) (lv' := [(5, .int (nI (r + 1))), (4, .int (x &&& 0)), (0, .ref (adr G 46)), (1, .int a1), (2, .int a2), (3, .int a3)]) hx hb dX6_addRoom_90 hl (k := 1) rfl (nI_1 r) (by decide) rfl (fun ls hl => ?_)
                  refine lv_goto (tgt := 60) hx hb dX6_addRoom_93 (by decide) ?_
                  exact ih_60 (r + 1) _ (by omega) (by omega) (by rw [hxx, frF]; first | rw [if_pos c_7] | rw [if_neg c_7]) _ _ hP hS _ (lv_sub hl [0, 1, 2, 3, 4, 5] rfl)
                · refine lv_iconst (v := 1) hx hb dX6_addRoom_82 (by decide) ?_
                  refine lv_goto (tgt := 87) hx hb dX6_addRoom_83 (by decide) ?_
                  refine lv_iand hx hb dX6_addRoom_87 ?_
                  refine lv_istore (lv' := [(4, .int (x &&& 1)), (5, .int (nI r)), (0, .ref (adr G 46)), (1, .int a1), (2, .int a2), (3, .int a3)]) hx hb dX6_addRoom_88 hl (by decide) rfl (fun ls hl => ?_)
                  refine lv_iinc (v := nI (r + 1)) (lv' := [(5, .int (nI (r + 1))), (4, .int (x &&& 1)), (0, .ref (adr G 46)), (1, .int a1), (2, .int a2), (3, .int a3)]) hx hb dX6_addRoom_90 hl (k := 1) rfl (nI_1 r) (by decide) rfl (fun ls hl => ?_)
                  refine lv_goto (tgt := 60) hx hb dX6_addRoom_93 (by decide) ?_
                  exact ih_60 (r + 1) _ (by omega) (by omega) (by rw [hxx, frF]; first | rw [if_pos c_7] | rw [if_neg c_7]) _ _ hP hS _ (lv_sub hl [0, 1, 2, 3, 4, 5] rfl)
          exact loop_60 (nr + 1) 0 _ (by omega) (by omega) (by rw [frF, hb8]; simp [h8]) _ _ hP hS _ (lv_sub hl [0, 1, 2, 3, 4, 5] rfl)
        · have h8 : nr < 8 := by
            rcases Nat.lt_or_ge nr 8 with z | z
            · exact z
            · exact absurd (nI_le (a := 8) (b := nr) z (by omega)) c_4
          refine lv_iconst (v := 1) hx hb dX6_addRoom_50 (by decide) ?_
          refine lv_goto (tgt := 55) hx hb dX6_addRoom_51 (by decide) ?_
          refine lv_istore (lv' := [(4, .int 1), (0, .ref (adr G 46)), (1, .int a1), (2, .int a2), (3, .int a3)]) hx hb dX6_addRoom_55 hl (by decide) rfl (fun ls hl => ?_)
          refine lv_iconst (v := 0) hx hb dX6_addRoom_57 (by decide) ?_
          refine lv_istore (lv' := [(5, .int 0), (4, .int 1), (0, .ref (adr G 46)), (1, .int a1), (2, .int a2), (3, .int a3)]) hx hb dX6_addRoom_58 hl (by decide) rfl (fun ls hl => ?_)
          have loop_60 : ∀ (fuel_60 : Nat) (r : Nat) (x : Int32), nr + 1 ≤ r + fuel_60 → (r ≤ nr) → (x = frF ((u2 M 46 0 0) 52) a1 b8 r) → ∀ (H : Heap) (locs : List Loc), PW G (u2 M 46 0 0) o H → va_S (pA G sz) s.heap H locs → ∀ ls : Array Slot, lv_has ls 6 [(5, .int (nI r)), (4, .int x), (0, .ref (adr G 46)), (1, .int a1), (2, .int a2), (3, .int a3)] → W p l e (rmU 1 22 0 0) s m ([.ref (adr G 46), .int a1, .int a2, .int a3] : List Value).toArray below meth c H locs 0 0 (MQ below (QI G (u2 (u2 M 46 0 0) 46 0 2) o 0 sz) ([.ref (adr G 46), .int a1, .int a2, .int a3] : List Value).toArray s 0 0 (pA G sz)) (F0 m 60 ls []) := by
            intro fuel_60
            induction fuel_60 with
            | zero =>
              intro r x hf hr1 hxx
              exact absurd hf (by omega)
            | succ fuel_60 ih_60 =>
              intro r x hf hr1 hxx H locs hP hS ls hl
              refine lv_iload hx hb dX6_addRoom_60 (lv_at hl 0 rfl) ?_
              refine lv_aload_n hx hb dX6_addRoom_62 rfl (lv_at hl 2 rfl) ?_
              refine gf_X6_53 C0 hP (k := 46) (show kd 46 = 6 by decide) dX6_addRoom_63 ?_
              refine lv_topE (y := nI nr) (hnr) ?_
              refine lv_icmp_ge (tgt := 96) hx hb dX6_addRoom_66 (by decide) (fun c_8 => ?_) (fun c_8 => ?_)
              · have hr9 := lp_ge (n := nr) c_8 (by omega) hr1
                refine lv_iload hx hb dX6_addRoom_96 (lv_at hl 1 rfl) ?_
                refine lv_if_ne (tgt := 107) hx hb dX6_addRoom_98 (by decide) (fun c_9 => ?_) (fun c_9 => ?_)
                · exact absurd (by rw [hxx, hr9]; exact hroom) c_9
                · refine lv_aload_n hx hb dX6_addRoom_101 rfl (lv_at hl 2 rfl) ?_
                  refine lv_iconst (v := 2) hx hb dX6_addRoom_102 (by decide) ?_
                  refine k_VI C0 hP hS (rest := []) (c_X6_no l G (u2 M 46 0 0) o 2) mf_X6_no ml_X6_63 (kd_lt (show kd 46 = 6 by decide) (by decide)) (ct_6 (show kd 46 = 6 by decide)) rfl hl.1 (by decide) (by decide) (Nat.le_of_ble_eq_true rfl) rfl rfl dX6_addRoom_103 (fun H locs hP hS => ?_)
                  exact e_Ii C0 hr hP hS rfl (by decide) dX6_addRoom_106
              · have hrt := lp_lt (n := nr) c_8 (by omega) hr1
                refine lv_iload hx hb dX6_addRoom_69 (lv_at hl 1 rfl) ?_
                refine lv_aload_n hx hb dX6_addRoom_71 rfl (lv_at hl 2 rfl) ?_
                refine gf_X6_25 C0 hP (k := 46) (show kd 46 = 6 by decide) dX6_addRoom_72 ?_
                refine lv_iload hx hb dX6_addRoom_75 (lv_at hl 0 rfl) ?_
                refine w_ialdN C0 hP (k := 52) (i := r) (show kd 52 = 7 by decide) (show r < 8 by omega) (by omega) dX6_addRoom_77 ?_
                refine lv_iload_n hx hb dX6_addRoom_78 rfl (lv_at hl 3 rfl) ?_
                refine lv_icmp_eq (tgt := 86) hx hb dX6_addRoom_79 (by decide) (fun c_10 => ?_) (fun c_10 => ?_)
                · refine lv_iconst (v := 0) hx hb dX6_addRoom_86 (by decide) ?_
                  refine lv_iand hx hb dX6_addRoom_87 ?_
                  refine lv_istore (lv' := [(4, .int (x &&& 0)), (5, .int (nI r)), (0, .ref (adr G 46)), (1, .int a1), (2, .int a2), (3, .int a3)]) hx hb dX6_addRoom_88 hl (by decide) rfl (fun ls hl => ?_)
                  refine lv_iinc (v := nI (r + 1)) (lv' := [(5, .int (nI (r + 1))), (4, .int (x &&& 0)), (0, .ref (adr G 46)), (1, .int a1), (2, .int a2), (3, .int a3)]) hx hb dX6_addRoom_90 hl (k := 1) rfl (nI_1 r) (by decide) rfl (fun ls hl => ?_)
                  refine lv_goto (tgt := 60) hx hb dX6_addRoom_93 (by decide) ?_
                  exact ih_60 (r + 1) _ (by omega) (by omega) (by rw [hxx, frF]; first | rw [if_pos c_10] | rw [if_neg c_10]) _ _ hP hS _ (lv_sub hl [0, 1, 2, 3, 4, 5] rfl)
                · refine lv_iconst (v := 1) hx hb dX6_addRoom_82 (by decide) ?_
                  refine lv_goto (tgt := 87) hx hb dX6_addRoom_83 (by decide) ?_
                  refine lv_iand hx hb dX6_addRoom_87 ?_
                  refine lv_istore (lv' := [(4, .int (x &&& 1)), (5, .int (nI r)), (0, .ref (adr G 46)), (1, .int a1), (2, .int a2), (3, .int a3)]) hx hb dX6_addRoom_88 hl (by decide) rfl (fun ls hl => ?_)
                  refine lv_iinc (v := nI (r + 1)) (lv' := [(5, .int (nI (r + 1))), (4, .int (x &&& 1)), (0, .ref (adr G 46)), (1, .int a1), (2, .int a2), (3, .int a3)]) hx hb dX6_addRoom_90 hl (k := 1) rfl (nI_1 r) (by decide) rfl (fun ls hl => ?_)
                  refine lv_goto (tgt := 60) hx hb dX6_addRoom_93 (by decide) ?_
                  exact ih_60 (r + 1) _ (by omega) (by omega) (by rw [hxx, frF]; first | rw [if_pos c_10] | rw [if_neg c_10]) _ _ hP hS _ (lv_sub hl [0, 1, 2, 3, 4, 5] rfl)
          exact loop_60 (nr + 1) 0 _ (by omega) (by omega) (by rw [frF, hb8]; simp [h8]) _ _ hP hS _ (lv_sub hl [0, 1, 2, 3, 4, 5] rfl)
      · exact (hbd (bdR_in.mpr (by simp [c_1, c_2, c_3]))).elim

set_option maxHeartbeats 4000000 in
set_option maxRecDepth 100000 in
theorem c_X6_mean (l : Launch) (G : GG) (M : Mem) (o : Nat → Int64) (np nr k : Nat) (hO : OKT M np nr k)  : MD l yX6_mean cX6_mean 1 (some .double) 1 22 G [.ref (adr G 46)] M (u2 M 46 0 0) o o (if k = 0 then FP.dconst0 else FP.ddiv (FP.i2d (sumF ((u2 M 46 0 0) 60) nr)) (FP.i2d (nI k))) 0 0 := by
  refine MD_of RX6 rfl (by decide +kernel) (Nat.le_of_ble_eq_true rfl) ?_
  intro p e s m below meth c sz C0 hr hP ls hl
  have hx := C0.1
  have hb := C0.2.1
  have hS : va_S (pA G sz) s.heap s.heap [] := va_S.rf
  have hl : lv_has ls 1 [(0, .ref (adr G 46))] := hl
  obtain ⟨hnp, hple, hnr, hrle, hk0, hkle, hdz⟩ := okz (v := 0) hO
  refine lv_aload_n hx hb dX6_mean_0 rfl (lv_at hl 0 rfl) ?_
  refine lv_iconst (v := 0) hx hb dX6_mean_1 (by decide) ?_
  refine pf_X6_49 C0 hP hS (k := 46) (show kd 46 = 6 by decide) dX6_mean_2 (fun H locs hP hS => ?_)
  refine lv_aload_n hx hb dX6_mean_5 rfl (lv_at hl 0 rfl) ?_
  refine gf_X6_42 C0 hP (k := 46) (show kd 46 = 6 by decide) dX6_mean_6 ?_
  refine gf_X6_106 C0 hP (k := 56) (show kd 56 = 5 by decide) dX6_mean_9 ?_
  refine lv_topE (y := nI k) (hk0) ?_
  refine lv_if_ne (tgt := 19) hx hb dX6_mean_12 (by decide) (fun c_1 => ?_) (fun c_1 => ?_)
  · have hk3 : k ≠ 0 := fun z => c_1 (by rw [z]; rfl)
    have hkz : nI k ≠ 0 := c_1
    refine lv_aload_n hx hb dX6_mean_19 rfl (lv_at hl 0 rfl) ?_
    refine gf_X6_42 C0 hP (k := 46) (show kd 46 = 6 by decide) dX6_mean_20 ?_
    refine k_VI C0 hP hS (rest := []) (c_X5_paidInAll l G (u2 M 46 0 0) o 56 (Or.inl rfl) nr hnr hrle) mf_X5_paidInAll ml_X6_119 (kd_lt (show kd 56 = 5 by decide) (by decide)) (ct_5 (show kd 56 = 5 by decide)) rfl hl.1 (by decide) (by decide) (Nat.le_of_ble_eq_true rfl) rfl rfl dX6_mean_23 (fun H locs hP hS => ?_)
    refine lv_i2d hx hb dX6_mean_26 ?_
    refine lv_aload_n hx hb dX6_mean_27 rfl (lv_at hl 0 rfl) ?_
    refine gf_X6_42 C0 hP (k := 46) (show kd 46 = 6 by decide) dX6_mean_28 ?_
    refine gf_X6_106 C0 hP (k := 56) (show kd 56 = 5 by decide) dX6_mean_31 ?_
    refine lv_topE (y := nI k) (hk0) ?_
    refine lv_i2d hx hb dX6_mean_34 ?_
    refine lv_ddiv hx hb dX6_mean_35 (dv_num hkz) ?_
    exact e_D C0 hr hP hS (by simp [hk3]) (by decide) dX6_mean_36
  · have hk3 : k = 0 := (nI_eq (b := 0) (by omega) (by omega)).mp c_1
    refine lv_dconst0 hx hb dX6_mean_15 ?_
    refine lv_goto (tgt := 36) hx hb dX6_mean_16 (by decide) ?_
    exact e_D C0 hr hP hS (by simp [hk3]) (by decide) dX6_mean_36

set_option maxHeartbeats 4000000 in
set_option maxRecDepth 100000 in
theorem c_X6_foresee (l : Launch) (G : GG) (M : Mem) (o : Nat → Int64) (np nr k : Nat) (hO : OKT M np nr k) (d : Nat) (hd1 : 1 ≤ d) (hd2 : d ≤ 720) (w : Nat) (hw : w < 3) : MI l yX6_foresee cX6_foresee 3 (some .int) 6 132 G [.ref (adr G 46), .int (nI d), .int (nI w)] M (gT (bcM (u2 M 46 0 0)) 61 np nr k (tk k d)) o o (fsT (u2 M 46 0 0) np nr k d w) 0 0 := by
  refine MI_of RX6 rfl (by decide +kernel) (Nat.le_of_ble_eq_true rfl) ?_
  intro p e s m below meth c sz C0 hr hP ls hl
  have hx := C0.1
  have hb := C0.2.1
  have hS : va_S (pA G sz) s.heap s.heap [] := va_S.rf
  have hl : lv_has ls 3 [(0, .ref (adr G 46)), (1, .int (nI d)), (2, .int (nI w))] := hl
  obtain ⟨hnp, hple, hnr, hrle, hk0, hkle, hdz⟩ := okz (v := 0) hO
  refine lv_aload_n hx hb dX6_foresee_0 rfl (lv_at hl 0 rfl) ?_
  refine lv_iconst (v := 0) hx hb dX6_foresee_1 (by decide) ?_
  refine pf_X6_49 C0 hP hS (k := 46) (show kd 46 = 6 by decide) dX6_foresee_2 (fun H locs hP hS => ?_)
  refine lv_iload_n hx hb dX6_foresee_5 rfl (lv_at hl 1 rfl) ?_
  refine lv_iconst (v := 1) hx hb dX6_foresee_6 (by decide) ?_
  refine lv_sipush (v := 720) hx hb dX6_foresee_7 (by decide) ?_
  refine k_SI C0 hP hS (rest := []) (c_X6_isIn l G (u2 M 46 0 0) o (nI d) 1 720) mf_X6_isIn rfl ml_X6_56 hl.1 (by decide) (by decide) (Nat.le_of_ble_eq_true rfl) rfl rfl dX6_foresee_10 (fun H locs hP hS => ?_)
  refine lv_topE (y := 1) (inF_N (a := 1) (w := d) (b := 720) (by omega) (by omega) (by omega)) ?_
  refine lv_if_ne (tgt := 22) hx hb dX6_foresee_13 (by decide) (fun c_1 => ?_) (fun c_1 => ?_)
  · refine lv_iload_n hx hb dX6_foresee_22 rfl (lv_at hl 2 rfl) ?_
    refine lv_iconst (v := 0) hx hb dX6_foresee_23 (by decide) ?_
    refine lv_iconst (v := 2) hx hb dX6_foresee_24 (by decide) ?_
    refine k_SI C0 hP hS (rest := []) (c_X6_isIn l G (u2 M 46 0 0) o (nI w) 0 2) mf_X6_isIn rfl ml_X6_56 hl.1 (by decide) (by decide) (Nat.le_of_ble_eq_true rfl) rfl rfl dX6_foresee_25 (fun H locs hP hS => ?_)
    refine lv_topE (y := 1) (inF_N (a := 0) (w := w) (b := 2) (by omega) (by omega) (by omega)) ?_
    refine lv_if_ne (tgt := 37) hx hb dX6_foresee_28 (by decide) (fun c_2 => ?_) (fun c_2 => ?_)
    · refine lv_aload_n hx hb dX6_foresee_37 rfl (lv_at hl 0 rfl) ?_
      refine gf_X6_46 C0 hP (k := 46) (show kd 46 = 6 by decide) dX6_foresee_38 ?_
      refine lv_aload_n hx hb dX6_foresee_41 rfl (lv_at hl 0 rfl) ?_
      refine gf_X6_42 C0 hP (k := 46) (show kd 46 = 6 by decide) dX6_foresee_42 ?_
      refine k_VV C0 hP hS (rest := []) (c_X5_become l G (u2 M 46 0 0) o) mf_X5_become ml_X6_129 (kd_lt (show kd 61 = 5 by decide) (by decide)) (ct_5 (show kd 61 = 5 by decide)) rfl hl.1 (by decide) (by decide) (Nat.le_of_ble_eq_true rfl) rfl rfl dX6_foresee_45 (fun H locs hP hS => ?_)
      refine lv_aload_n hx hb dX6_foresee_48 rfl (lv_at hl 0 rfl) ?_
      refine gf_X6_46 C0 hP (k := 46) (show kd 46 = 6 by decide) dX6_foresee_49 ?_
      refine lv_iload_n hx hb dX6_foresee_52 rfl (lv_at hl 1 rfl) ?_
      refine k_VV C0 hP hS (rest := []) (c_X5_go_ l G (bcM (u2 M 46 0 0)) o 61 (Or.inr rfl) k (bcM_t hk0) hkle np (by rw [bcM_lo (by omega)]; exact hnp) hple nr (by rw [bcM_lo (by omega)]; exact hnr) hrle (fun r h => by rw [bcM_lo (by omega)]; exact hdz r h) d (by omega)) mf_X5_go_ ml_X6_125 (kd_lt (show kd 61 = 5 by decide) (by decide)) (ct_5 (show kd 61 = 5 by decide)) rfl hl.1 (by decide) (by decide) (Nat.le_of_ble_eq_true rfl) rfl rfl dX6_foresee_53 (fun H locs hP hS => ?_)
      refine lv_iload_n hx hb dX6_foresee_56 rfl (lv_at hl 2 rfl) ?_
      refine lv_if_ne (tgt := 78) hx hb dX6_foresee_57 (by decide) (fun c_3 => ?_) (fun c_3 => ?_)
      · have hw1 : w ≠ 0 := fun z => c_3 (by rw [z]; rfl)
        refine lv_iload_n hx hb dX6_foresee_78 rfl (lv_at hl 2 rfl) ?_
        refine lv_iconst (v := 1) hx hb dX6_foresee_79 (by decide) ?_
        refine lv_icmp_ne (tgt := 93) hx hb dX6_foresee_80 (by decide) (fun c_4 => ?_) (fun c_4 => ?_)
        · have hw0 : w = 2 := by
            have : w ≠ 1 := fun z => c_4 (by rw [z]; rfl)
            omega
          refine lv_aload_n hx hb dX6_foresee_93 rfl (lv_at hl 0 rfl) ?_
          refine gf_X6_60 C0 hP (k := 46) (show kd 46 = 6 by decide) dX6_foresee_94 ?_
          refine lv_topE (y := nI np) (by rw [gT_lo (by omega), bcM_lo (by omega)]; exact hnp) ?_
          refine lv_aload_n hx hb dX6_foresee_97 rfl (lv_at hl 0 rfl) ?_
          refine gf_X6_46 C0 hP (k := 46) (show kd 46 = 6 by decide) dX6_foresee_98 ?_
          refine k_VI C0 hP hS (rest := [.int (nI np)]) (c_X5_gone l G (gT (bcM (u2 M 46 0 0)) 61 np nr k (tk k d)) o 61 (Or.inr rfl) np (by rw [gT_lo (by omega), bcM_lo (by omega)]; exact hnp) hple) mf_X5_gone ml_X6_113 (kd_lt (show kd 61 = 5 by decide) (by decide)) (ct_5 (show kd 61 = 5 by decide)) rfl hl.1 (by decide) (by decide) (Nat.le_of_ble_eq_true rfl) rfl rfl dX6_foresee_101 (fun H locs hP hS => ?_)
          refine lv_isub hx hb dX6_foresee_104 ?_
          exact e_Ii C0 hr hP hS (by rw [hw0]; rfl) (by decide) dX6_foresee_105
        · have hw0 : w = 1 := (nI_eq (b := 1) (by omega) (by omega)).mp c_4
          refine lv_aload_n hx hb dX6_foresee_83 rfl (lv_at hl 0 rfl) ?_
          refine gf_X6_46 C0 hP (k := 46) (show kd 46 = 6 by decide) dX6_foresee_84 ?_
          refine k_VI C0 hP hS (rest := []) (c_X5_inAll l G (gT (bcM (u2 M 46 0 0)) 61 np nr k (tk k d)) o 61 (Or.inr rfl) nr (by rw [gT_lo (by omega), bcM_lo (by omega)]; exact hnr) hrle) mf_X5_inAll ml_X6_116 (kd_lt (show kd 61 = 5 by decide) (by decide)) (ct_5 (show kd 61 = 5 by decide)) rfl hl.1 (by decide) (by decide) (Nat.le_of_ble_eq_true rfl) rfl rfl dX6_foresee_87 (fun H locs hP hS => ?_)
          refine lv_goto (tgt := 105) hx hb dX6_foresee_90 (by decide) ?_
          exact e_Ii C0 hr hP hS (by rw [hw0]; rfl) (by decide) dX6_foresee_105
      · have hw0 : w = 0 := (nI_eq (b := 0) (by omega) (by omega)).mp c_3
        refine lv_aload_n hx hb dX6_foresee_60 rfl (lv_at hl 0 rfl) ?_
        refine gf_X6_46 C0 hP (k := 46) (show kd 46 = 6 by decide) dX6_foresee_61 ?_
        refine k_VI C0 hP hS (rest := []) (c_X5_paidInAll l G (gT (bcM (u2 M 46 0 0)) 61 np nr k (tk k d)) o 61 (Or.inr rfl) nr (by rw [gT_lo (by omega), bcM_lo (by omega)]; exact hnr) hrle) mf_X5_paidInAll ml_X6_119 (kd_lt (show kd 61 = 5 by decide) (by decide)) (ct_5 (show kd 61 = 5 by decide)) rfl hl.1 (by decide) (by decide) (Nat.le_of_ble_eq_true rfl) rfl rfl dX6_foresee_64 (fun H locs hP hS => ?_)
        refine lv_aload_n hx hb dX6_foresee_67 rfl (lv_at hl 0 rfl) ?_
        refine gf_X6_42 C0 hP (k := 46) (show kd 46 = 6 by decide) dX6_foresee_68 ?_
        refine k_VI C0 hP hS (rest := [.int (sumF ((gT (bcM (u2 M 46 0 0)) 61 np nr k (tk k d)) (61 + 4)) nr)]) (c_X5_paidInAll l G (gT (bcM (u2 M 46 0 0)) 61 np nr k (tk k d)) o 56 (Or.inl rfl) nr (by rw [gT_lo (by omega), bcM_lo (by omega)]; exact hnr) hrle) mf_X5_paidInAll ml_X6_119 (kd_lt (show kd 56 = 5 by decide) (by decide)) (ct_5 (show kd 56 = 5 by decide)) rfl hl.1 (by decide) (by decide) (Nat.le_of_ble_eq_true rfl) rfl rfl dX6_foresee_71 (fun H locs hP hS => ?_)
        refine lv_isub hx hb dX6_foresee_74 ?_
        refine lv_goto (tgt := 105) hx hb dX6_foresee_75 (by decide) ?_
        exact e_Ii C0 hr hP hS (by rw [hw0]; rfl) (by decide) dX6_foresee_105
    · exact absurd c_2 (by decide)
  · exact absurd c_1 (by decide)

set_option maxHeartbeats 4000000 in
set_option maxRecDepth 100000 in
theorem c_X6_foresee_a (l : Launch) (G : GG) (M : Mem) (o : Nat → Int64) (np nr k : Nat) (hO : OKT M np nr k) (x1 a2 : Int32) (hbd : x1 < 1 ∨ ¬ x1 ≤ 720) : MI l yX6_foresee cX6_foresee 3 (some .int) 1 22 G [.ref (adr G 46), .int x1, .int a2] M (u2 (u2 M 46 0 0) 46 0 1) o o 0 0 0 := by
  refine MI_of RX6 rfl (by decide +kernel) (Nat.le_of_ble_eq_true rfl) ?_
  intro p e s m below meth c sz C0 hr hP ls hl
  have hx := C0.1
  have hb := C0.2.1
  have hS : va_S (pA G sz) s.heap s.heap [] := va_S.rf
  have hl : lv_has ls 3 [(0, .ref (adr G 46)), (1, .int x1), (2, .int a2)] := hl
  obtain ⟨hnp, hple, hnr, hrle, hk0, hkle, hdz⟩ := okz (v := 0) hO
  refine lv_aload_n hx hb dX6_foresee_0 rfl (lv_at hl 0 rfl) ?_
  refine lv_iconst (v := 0) hx hb dX6_foresee_1 (by decide) ?_
  refine pf_X6_49 C0 hP hS (k := 46) (show kd 46 = 6 by decide) dX6_foresee_2 (fun H locs hP hS => ?_)
  refine lv_iload_n hx hb dX6_foresee_5 rfl (lv_at hl 1 rfl) ?_
  refine lv_iconst (v := 1) hx hb dX6_foresee_6 (by decide) ?_
  refine lv_sipush (v := 720) hx hb dX6_foresee_7 (by decide) ?_
  refine k_SI C0 hP hS (rest := []) (c_X6_isIn l G (u2 M 46 0 0) o x1 1 720) mf_X6_isIn rfl ml_X6_56 hl.1 (by decide) (by decide) (Nat.le_of_ble_eq_true rfl) rfl rfl dX6_foresee_10 (fun H locs hP hS => ?_)
  refine lv_topE (y := 0) (inF_W hbd) ?_
  refine lv_if_ne (tgt := 22) hx hb dX6_foresee_13 (by decide) (fun c_1 => ?_) (fun c_1 => ?_)
  · exact absurd c_1 (by decide)
  · refine lv_aload_n hx hb dX6_foresee_16 rfl (lv_at hl 0 rfl) ?_
    refine lv_iconst (v := 1) hx hb dX6_foresee_17 (by decide) ?_
    refine k_VI C0 hP hS (rest := []) (c_X6_no l G (u2 M 46 0 0) o 1) mf_X6_no ml_X6_63 (kd_lt (show kd 46 = 6 by decide) (by decide)) (ct_6 (show kd 46 = 6 by decide)) rfl hl.1 (by decide) (by decide) (Nat.le_of_ble_eq_true rfl) rfl rfl dX6_foresee_18 (fun H locs hP hS => ?_)
    exact e_Ii C0 hr hP hS rfl (by decide) dX6_foresee_21

set_option maxHeartbeats 4000000 in
set_option maxRecDepth 100000 in
theorem c_X6_foresee_i (l : Launch) (G : GG) (M : Mem) (o : Nat → Int64) (np nr k : Nat) (hO : OKT M np nr k) (d : Nat) (hd1 : 1 ≤ d) (hd2 : d ≤ 720) (a2 : Int32) (hbd : a2 < 0 ∨ ¬ a2 < 3) : MI l yX6_foresee cX6_foresee 3 (some .int) 1 22 G [.ref (adr G 46), .int (nI d), .int a2] M (u2 (u2 M 46 0 0) 46 0 2) o o 0 0 0 := by
  refine MI_of RX6 rfl (by decide +kernel) (Nat.le_of_ble_eq_true rfl) ?_
  intro p e s m below meth c sz C0 hr hP ls hl
  have hx := C0.1
  have hb := C0.2.1
  have hS : va_S (pA G sz) s.heap s.heap [] := va_S.rf
  have hl : lv_has ls 3 [(0, .ref (adr G 46)), (1, .int (nI d)), (2, .int a2)] := hl
  obtain ⟨hnp, hple, hnr, hrle, hk0, hkle, hdz⟩ := okz (v := 0) hO
  refine lv_aload_n hx hb dX6_foresee_0 rfl (lv_at hl 0 rfl) ?_
  refine lv_iconst (v := 0) hx hb dX6_foresee_1 (by decide) ?_
  refine pf_X6_49 C0 hP hS (k := 46) (show kd 46 = 6 by decide) dX6_foresee_2 (fun H locs hP hS => ?_)
  refine lv_iload_n hx hb dX6_foresee_5 rfl (lv_at hl 1 rfl) ?_
  refine lv_iconst (v := 1) hx hb dX6_foresee_6 (by decide) ?_
  refine lv_sipush (v := 720) hx hb dX6_foresee_7 (by decide) ?_
  refine k_SI C0 hP hS (rest := []) (c_X6_isIn l G (u2 M 46 0 0) o (nI d) 1 720) mf_X6_isIn rfl ml_X6_56 hl.1 (by decide) (by decide) (Nat.le_of_ble_eq_true rfl) rfl rfl dX6_foresee_10 (fun H locs hP hS => ?_)
  refine lv_topE (y := 1) (inF_N (a := 1) (w := d) (b := 720) (by omega) (by omega) (by omega)) ?_
  refine lv_if_ne (tgt := 22) hx hb dX6_foresee_13 (by decide) (fun c_1 => ?_) (fun c_1 => ?_)
  · refine lv_iload_n hx hb dX6_foresee_22 rfl (lv_at hl 2 rfl) ?_
    refine lv_iconst (v := 0) hx hb dX6_foresee_23 (by decide) ?_
    refine lv_iconst (v := 2) hx hb dX6_foresee_24 (by decide) ?_
    refine k_SI C0 hP hS (rest := []) (c_X6_isIn l G (u2 M 46 0 0) o a2 0 2) mf_X6_isIn rfl ml_X6_56 hl.1 (by decide) (by decide) (Nat.le_of_ble_eq_true rfl) rfl rfl dX6_foresee_25 (fun H locs hP hS => ?_)
    refine lv_topE (y := 0) (inF_Y (b := 2) rfl hbd) ?_
    refine lv_if_ne (tgt := 37) hx hb dX6_foresee_28 (by decide) (fun c_2 => ?_) (fun c_2 => ?_)
    · exact absurd c_2 (by decide)
    · refine lv_aload_n hx hb dX6_foresee_31 rfl (lv_at hl 0 rfl) ?_
      refine lv_iconst (v := 2) hx hb dX6_foresee_32 (by decide) ?_
      refine k_VI C0 hP hS (rest := []) (c_X6_no l G (u2 M 46 0 0) o 2) mf_X6_no ml_X6_63 (kd_lt (show kd 46 = 6 by decide) (by decide)) (ct_6 (show kd 46 = 6 by decide)) rfl hl.1 (by decide) (by decide) (Nat.le_of_ble_eq_true rfl) rfl rfl dX6_foresee_33 (fun H locs hP hS => ?_)
      exact e_Ii C0 hr hP hS rfl (by decide) dX6_foresee_36
  · exact absurd c_1 (by decide)

set_option maxHeartbeats 4000000 in
set_option maxRecDepth 100000 in
theorem c_X6_when (l : Launch) (G : GG) (M : Mem) (o : Nat → Int64) (np nr k : Nat) (hO : OKT M np nr k) (r : Nat) (hr0 : r < nr) : MI l yX6_when cX6_when 5 (some .int) 5 110 G [.ref (adr G 46), .int (nI r)] M (gT (bcM (u2 M 46 0 0)) 61 np nr k (720 - k)) o o ((whF (0, -1) (wtP (u2 M 46 0 0) np nr k r) (fun j => nI (k + j)) (720 - k)).2) 0 0 := by
  refine MI_of RX6 rfl (by decide +kernel) (Nat.le_of_ble_eq_true rfl) ?_
  intro p e s m below meth c sz C0 hr hP ls hl
  have hx := C0.1
  have hb := C0.2.1
  have hS : va_S (pA G sz) s.heap s.heap [] := va_S.rf
  have hl : lv_has ls 5 [(0, .ref (adr G 46)), (1, .int (nI r))] := hl
  obtain ⟨hnp, hple, hnr, hrle, hk0, hkle, hdz⟩ := okz (v := 0) hO
  refine lv_aload_n hx hb dX6_when_0 rfl (lv_at hl 0 rfl) ?_
  refine lv_iconst (v := 0) hx hb dX6_when_1 (by decide) ?_
  refine pf_X6_49 C0 hP hS (k := 46) (show kd 46 = 6 by decide) dX6_when_2 (fun H locs hP hS => ?_)
  refine lv_aload_n hx hb dX6_when_5 rfl (lv_at hl 0 rfl) ?_
  refine lv_iload_n hx hb dX6_when_6 rfl (lv_at hl 1 rfl) ?_
  refine k_VI C0 hP hS (rest := []) (c_X6_isRoom l G (u2 M 46 0 0) o (nI r)) mf_X6_isRoom ml_X6_73 (kd_lt (show kd 46 = 6 by decide) (by decide)) (ct_6 (show kd 46 = 6 by decide)) rfl hl.1 (by decide) (by decide) (Nat.le_of_ble_eq_true rfl) rfl rfl dX6_when_7 (fun H locs hP hS => ?_)
  refine lv_topE (y := 1) (inF_R hnr (by omega) (by omega)) ?_
  refine lv_if_ne (tgt := 19) hx hb dX6_when_10 (by decide) (fun c_1 => ?_) (fun c_1 => ?_)
  · refine lv_aload_n hx hb dX6_when_19 rfl (lv_at hl 0 rfl) ?_
    refine gf_X6_46 C0 hP (k := 46) (show kd 46 = 6 by decide) dX6_when_20 ?_
    refine lv_aload_n hx hb dX6_when_23 rfl (lv_at hl 0 rfl) ?_
    refine gf_X6_42 C0 hP (k := 46) (show kd 46 = 6 by decide) dX6_when_24 ?_
    refine k_VV C0 hP hS (rest := []) (c_X5_become l G (u2 M 46 0 0) o) mf_X5_become ml_X6_129 (kd_lt (show kd 61 = 5 by decide) (by decide)) (ct_5 (show kd 61 = 5 by decide)) rfl hl.1 (by decide) (by decide) (Nat.le_of_ble_eq_true rfl) rfl rfl dX6_when_27 (fun H locs hP hS => ?_)
    refine lv_iconst (v := -1) hx hb dX6_when_30 (by decide) ?_
    refine lv_istore_n (lv' := [(2, .int (-1)), (0, .ref (adr G 46)), (1, .int (nI r))]) hx hb dX6_when_31 rfl hl (by decide) rfl (fun ls hl => ?_)
    refine lv_iconst (v := 0) hx hb dX6_when_32 (by decide) ?_
    refine lv_istore_n (lv' := [(3, .int 0), (2, .int (-1)), (0, .ref (adr G 46)), (1, .int (nI r))]) hx hb dX6_when_33 rfl hl (by decide) rfl (fun ls hl => ?_)
    have loop_34 : ∀ (fuel_34 : Nat) (j : Nat) (b : Int32) (g : Int32), (720 - k) + 1 ≤ j + fuel_34 → (k + j ≤ 720) → ((g, b) = whF (0, -1) (wtP (u2 M 46 0 0) np nr k r) (fun j => nI (k + j)) j) → ∀ (H : Heap) (locs : List Loc), PW G (gT (bcM (u2 M 46 0 0)) 61 np nr k j) o H → va_S (pA G sz) s.heap H locs → ∀ ls : Array Slot, lv_has ls 5 [(3, .int g), (2, .int b), (0, .ref (adr G 46)), (1, .int (nI r))] → W p l e (rmU 5 110 0 0) s m ([.ref (adr G 46), .int (nI r)] : List Value).toArray below meth c H locs 0 0 (MQ below (QI G (gT (bcM (u2 M 46 0 0)) 61 np nr k (720 - k)) o ((whF (0, -1) (wtP (u2 M 46 0 0) np nr k r) (fun j => nI (k + j)) (720 - k)).2) sz) ([.ref (adr G 46), .int (nI r)] : List Value).toArray s 0 0 (pA G sz)) (F0 m 34 ls []) := by
      intro fuel_34
      induction fuel_34 with
      | zero =>
        intro j b g hf hj hgb
        exact absurd hf (by omega)
      | succ fuel_34 ih_34 =>
        intro j b g hf hj hgb H locs hP hS ls hl
        refine lv_aload_n hx hb dX6_when_34 rfl (lv_at hl 2 rfl) ?_
        refine gf_X6_46 C0 hP (k := 46) (show kd 46 = 6 by decide) dX6_when_35 ?_
        refine gf_X6_106 C0 hP (k := 61) (show kd 61 = 5 by decide) dX6_when_38 ?_
        refine lv_topE (y := nI (k + j)) (gT_t (bcM_t hk0)) ?_
        refine lv_sipush (v := 720) hx hb dX6_when_41 (by decide) ?_
        refine lv_icmp_ge (tgt := 84) hx hb dX6_when_44 (by decide) (fun c_2 => ?_) (fun c_2 => ?_)
        · have hj9 : 720 - k = j := by
            have := lq_ge (n := 720) c_2 (by omega) (by omega)
            omega
          refine lv_iload_n hx hb dX6_when_84 rfl (lv_at hl 1 rfl) ?_
          have hP := PW_eq (M' := gT (bcM (u2 M 46 0 0)) 61 np nr k (720 - k)) (by rw [hj9]) hP
          exact e_Ii C0 hr hP hS (by rw [hj9, ← hgb]) (by decide) dX6_when_85
        · have hjt := lq_lt (n := 720) c_2 (by omega) (by omega)
          refine lv_aload_n hx hb dX6_when_47 rfl (lv_at hl 2 rfl) ?_
          refine gf_X6_46 C0 hP (k := 46) (show kd 46 = 6 by decide) dX6_when_48 ?_
          refine lv_iload_n hx hb dX6_when_51 rfl (lv_at hl 3 rfl) ?_
          refine k_VI C0 hP hS (rest := []) (c_X5_show l G (gT (bcM (u2 M 46 0 0)) 61 np nr k j) o 61 (Or.inr rfl) (k + j) (gT_t (bcM_t hk0)) hj np (by rw [gT_lo (by omega), bcM_lo (by omega)]; exact hnp) hple r (by omega) (by rw [gT_lo (by omega), bcM_lo (by omega)]; exact hdz _ (by omega))) mf_X5_show ml_X6_91 (kd_lt (show kd 61 = 5 by decide) (by decide)) (ct_5 (show kd 61 = 5 by decide)) rfl hl.1 (by decide) (by decide) (Nat.le_of_ble_eq_true rfl) rfl rfl dX6_when_52 (fun H locs hP hS => ?_)
          refine lv_topE (y := (wtP (u2 M 46 0 0) np nr k r) j) (by rw [gT_lo (by omega), gT_lo (by omega)]; rfl) ?_
          refine lv_istore (lv' := [(4, .int ((wtP (u2 M 46 0 0) np nr k r) j)), (3, .int g), (2, .int b), (0, .ref (adr G 46)), (1, .int (nI r))]) hx hb dX6_when_55 hl (by decide) rfl (fun ls hl => ?_)
          refine lv_iload hx hb dX6_when_57 (lv_at hl 0 rfl) ?_
          refine lv_iload_n hx hb dX6_when_59 rfl (lv_at hl 1 rfl) ?_
          refine lv_icmp_le (tgt := 74) hx hb dX6_when_60 (by decide) (fun c_3 => ?_) (fun c_3 => ?_)
          · have hk9 := hjt
            refine lv_aload_n hx hb dX6_when_74 rfl (lv_at hl 3 rfl) ?_
            refine gf_X6_46 C0 hP (k := 46) (show kd 46 = 6 by decide) dX6_when_75 ?_
            refine k_VV C0 hP hS (rest := []) (c_X5_go l G (gT (bcM (u2 M 46 0 0)) 61 np nr k j) o 61 (Or.inr rfl) (k + j) (gT_t (bcM_t hk0)) hj np (by rw [gT_lo (by omega), bcM_lo (by omega)]; exact hnp) hple nr (by rw [gT_lo (by omega), bcM_lo (by omega)]; exact hnr) hrle (fun r h => by rw [gT_lo (by omega), bcM_lo (by omega)]; exact hdz r h)) mf_X5_go ml_X6_133 (kd_lt (show kd 61 = 5 by decide) (by decide)) (ct_5 (show kd 61 = 5 by decide)) rfl hl.1 (by decide) (by decide) (Nat.le_of_ble_eq_true rfl) rfl rfl dX6_when_78 (fun H locs hP hS => ?_)
            refine lv_goto (tgt := 34) hx hb dX6_when_81 (by decide) ?_
            have hP := PW_eq (M' := gT (bcM (u2 M 46 0 0)) 61 np nr k (j + 1)) (g1_s hjt) hP
            exact ih_34 (j + 1) _ _ (by omega) (by omega) (whF_s1 c_3 hgb) _ _ hP hS _ (lv_sub hl [1, 2, 3, 4] rfl)
          · have hk9 := hjt
            refine lv_iload hx hb dX6_when_63 (lv_at hl 0 rfl) ?_
            refine lv_istore_n (lv' := [(3, .int ((wtP (u2 M 46 0 0) np nr k r) j)), (4, .int ((wtP (u2 M 46 0 0) np nr k r) j)), (2, .int b), (0, .ref (adr G 46)), (1, .int (nI r))]) hx hb dX6_when_65 rfl hl (by decide) rfl (fun ls hl => ?_)
            refine lv_aload_n hx hb dX6_when_66 rfl (lv_at hl 3 rfl) ?_
            refine gf_X6_46 C0 hP (k := 46) (show kd 46 = 6 by decide) dX6_when_67 ?_
            refine gf_X6_106 C0 hP (k := 61) (show kd 61 = 5 by decide) dX6_when_70 ?_
            refine lv_topE (y := nI (k + j)) (gT_t (bcM_t hk0)) ?_
            refine lv_istore_n (lv' := [(2, .int (nI (k + j))), (3, .int ((wtP (u2 M 46 0 0) np nr k r) j)), (4, .int ((wtP (u2 M 46 0 0) np nr k r) j)), (0, .ref (adr G 46)), (1, .int (nI r))]) hx hb dX6_when_73 rfl hl (by decide) rfl (fun ls hl => ?_)
            refine lv_aload_n hx hb dX6_when_74 rfl (lv_at hl 3 rfl) ?_
            refine gf_X6_46 C0 hP (k := 46) (show kd 46 = 6 by decide) dX6_when_75 ?_
            refine k_VV C0 hP hS (rest := []) (c_X5_go l G (gT (bcM (u2 M 46 0 0)) 61 np nr k j) o 61 (Or.inr rfl) (k + j) (gT_t (bcM_t hk0)) hj np (by rw [gT_lo (by omega), bcM_lo (by omega)]; exact hnp) hple nr (by rw [gT_lo (by omega), bcM_lo (by omega)]; exact hnr) hrle (fun r h => by rw [gT_lo (by omega), bcM_lo (by omega)]; exact hdz r h)) mf_X5_go ml_X6_133 (kd_lt (show kd 61 = 5 by decide) (by decide)) (ct_5 (show kd 61 = 5 by decide)) rfl hl.1 (by decide) (by decide) (Nat.le_of_ble_eq_true rfl) rfl rfl dX6_when_78 (fun H locs hP hS => ?_)
            refine lv_goto (tgt := 34) hx hb dX6_when_81 (by decide) ?_
            have hP := PW_eq (M' := gT (bcM (u2 M 46 0 0)) 61 np nr k (j + 1)) (g1_s hjt) hP
            exact ih_34 (j + 1) _ _ (by omega) (by omega) (whF_s2 c_3 hgb) _ _ hP hS _ (lv_sub hl [1, 0, 3, 4] rfl)
    exact loop_34 (720 - k + 1) 0 (-1) 0 (by omega) (by omega) rfl _ _ hP hS _ (lv_sub hl [0, 1, 2, 3] rfl)
  · exact absurd c_1 (by decide)

set_option maxHeartbeats 4000000 in
set_option maxRecDepth 100000 in
theorem c_X6_when_i (l : Launch) (G : GG) (M : Mem) (o : Nat → Int64) (np nr k : Nat) (hO : OKT M np nr k) (x1 : Int32) (hbd : x1 < 0 ∨ ¬ x1 < nI nr) : MI l yX6_when cX6_when 5 (some .int) 2 43 G [.ref (adr G 46), .int x1] M (u2 (u2 M 46 0 0) 46 0 1) o o 0 0 0 := by
  refine MI_of RX6 rfl (by decide +kernel) (Nat.le_of_ble_eq_true rfl) ?_
  intro p e s m below meth c sz C0 hr hP ls hl
  have hx := C0.1
  have hb := C0.2.1
  have hS : va_S (pA G sz) s.heap s.heap [] := va_S.rf
  have hl : lv_has ls 5 [(0, .ref (adr G 46)), (1, .int x1)] := hl
  obtain ⟨hnp, hple, hnr, hrle, hk0, hkle, hdz⟩ := okz (v := 0) hO
  refine lv_aload_n hx hb dX6_when_0 rfl (lv_at hl 0 rfl) ?_
  refine lv_iconst (v := 0) hx hb dX6_when_1 (by decide) ?_
  refine pf_X6_49 C0 hP hS (k := 46) (show kd 46 = 6 by decide) dX6_when_2 (fun H locs hP hS => ?_)
  refine lv_aload_n hx hb dX6_when_5 rfl (lv_at hl 0 rfl) ?_
  refine lv_iload_n hx hb dX6_when_6 rfl (lv_at hl 1 rfl) ?_
  refine k_VI C0 hP hS (rest := []) (c_X6_isRoom l G (u2 M 46 0 0) o x1) mf_X6_isRoom ml_X6_73 (kd_lt (show kd 46 = 6 by decide) (by decide)) (ct_6 (show kd 46 = 6 by decide)) rfl hl.1 (by decide) (by decide) (Nat.le_of_ble_eq_true rfl) rfl rfl dX6_when_7 (fun H locs hP hS => ?_)
  refine lv_topE (y := 0) (inF_X hnr (by omega) hbd) ?_
  refine lv_if_ne (tgt := 19) hx hb dX6_when_10 (by decide) (fun c_1 => ?_) (fun c_1 => ?_)
  · exact absurd c_1 (by decide)
  · refine lv_aload_n hx hb dX6_when_13 rfl (lv_at hl 0 rfl) ?_
    refine lv_iconst (v := 1) hx hb dX6_when_14 (by decide) ?_
    refine k_VI C0 hP hS (rest := []) (c_X6_no l G (u2 M 46 0 0) o 1) mf_X6_no ml_X6_63 (kd_lt (show kd 46 = 6 by decide) (by decide)) (ct_6 (show kd 46 = 6 by decide)) rfl hl.1 (by decide) (by decide) (Nat.le_of_ble_eq_true rfl) rfl rfl dX6_when_15 (fun H locs hP hS => ?_)
    exact e_Ii C0 hr hP hS rfl (by decide) dX6_when_18

set_option maxHeartbeats 4000000 in
set_option maxRecDepth 100000 in
theorem c_X6_advise (l : Launch) (G : GG) (M : Mem) (o : Nat → Int64) (np nr k : Nat) (hO : OKT M np nr k) (r : Nat) (hr0 : r < nr) (d : Nat) (hd1 : 1 ≤ d) (hd2 : d ≤ 200) : MI l yX6_advise cX6_advise 6 (some .int) 6 132 G [.ref (adr G 46), .int (nI r), .int (nI d)] M (aeM (u2 M 46 0 0) np nr k r (tk k d) 9) o o ((whF (-1, 0) (aeP (u2 M 46 0 0) np nr k r (tk k d)) (fun j => nI (j + 1)) 9).2) 0 0 := by
  refine MI_of RX6 rfl (by decide +kernel) (Nat.le_of_ble_eq_true rfl) ?_
  intro p e s m below meth c sz C0 hr hP ls hl
  have hx := C0.1
  have hb := C0.2.1
  have hS : va_S (pA G sz) s.heap s.heap [] := va_S.rf
  have hl : lv_has ls 6 [(0, .ref (adr G 46)), (1, .int (nI r)), (2, .int (nI d))] := hl
  obtain ⟨hnp, hple, hnr, hrle, hk0, hkle, hdz⟩ := okz (v := 0) hO
  refine lv_aload_n hx hb dX6_advise_0 rfl (lv_at hl 0 rfl) ?_
  refine lv_iconst (v := 0) hx hb dX6_advise_1 (by decide) ?_
  refine pf_X6_49 C0 hP hS (k := 46) (show kd 46 = 6 by decide) dX6_advise_2 (fun H locs hP hS => ?_)
  refine lv_aload_n hx hb dX6_advise_5 rfl (lv_at hl 0 rfl) ?_
  refine lv_iload_n hx hb dX6_advise_6 rfl (lv_at hl 1 rfl) ?_
  refine k_VI C0 hP hS (rest := []) (c_X6_isRoom l G (u2 M 46 0 0) o (nI r)) mf_X6_isRoom ml_X6_73 (kd_lt (show kd 46 = 6 by decide) (by decide)) (ct_6 (show kd 46 = 6 by decide)) rfl hl.1 (by decide) (by decide) (Nat.le_of_ble_eq_true rfl) rfl rfl dX6_advise_7 (fun H locs hP hS => ?_)
  refine lv_topE (y := 1) (inF_R hnr (by omega) (by omega)) ?_
  refine lv_if_ne (tgt := 19) hx hb dX6_advise_10 (by decide) (fun c_1 => ?_) (fun c_1 => ?_)
  · refine lv_iload_n hx hb dX6_advise_19 rfl (lv_at hl 2 rfl) ?_
    refine lv_iconst (v := 1) hx hb dX6_advise_20 (by decide) ?_
    refine lv_sipush (v := 200) hx hb dX6_advise_21 (by decide) ?_
    refine k_SI C0 hP hS (rest := []) (c_X6_isIn l G (u2 M 46 0 0) o (nI d) 1 200) mf_X6_isIn rfl ml_X6_56 hl.1 (by decide) (by decide) (Nat.le_of_ble_eq_true rfl) rfl rfl dX6_advise_24 (fun H locs hP hS => ?_)
    refine lv_topE (y := 1) (inF_N (a := 1) (w := d) (b := 200) (by omega) (by omega) (by omega)) ?_
    refine lv_if_ne (tgt := 36) hx hb dX6_advise_27 (by decide) (fun c_2 => ?_) (fun c_2 => ?_)
    · refine lv_iconst (v := 0) hx hb dX6_advise_36 (by decide) ?_
      refine lv_istore_n (lv' := [(3, .int 0), (0, .ref (adr G 46)), (1, .int (nI r)), (2, .int (nI d))]) hx hb dX6_advise_37 rfl hl (by decide) rfl (fun ls hl => ?_)
      refine lv_iconst (v := -1) hx hb dX6_advise_38 (by decide) ?_
      refine lv_istore (lv' := [(4, .int (-1)), (3, .int 0), (0, .ref (adr G 46)), (1, .int (nI r)), (2, .int (nI d))]) hx hb dX6_advise_39 hl (by decide) rfl (fun ls hl => ?_)
      refine lv_iconst (v := 1) hx hb dX6_advise_41 (by decide) ?_
      refine lv_istore (lv' := [(5, .int 1), (4, .int (-1)), (3, .int 0), (0, .ref (adr G 46)), (1, .int (nI r)), (2, .int (nI d))]) hx hb dX6_advise_42 hl (by decide) rfl (fun ls hl => ?_)
      have loop_44 : ∀ (fuel_44 : Nat) (j : Nat) (b : Int32) (g : Int32), 9 + 1 ≤ j + fuel_44 → (j ≤ 9) → ((g, b) = whF (-1, 0) (aeP (u2 M 46 0 0) np nr k r (tk k d)) (fun j => nI (j + 1)) j) → ∀ (H : Heap) (locs : List Loc), PW G (aeM (u2 M 46 0 0) np nr k r (tk k d) j) o H → va_S (pA G sz) s.heap H locs → ∀ ls : Array Slot, lv_has ls 6 [(5, .int (nI (j + 1))), (4, .int g), (3, .int b), (0, .ref (adr G 46)), (1, .int (nI r)), (2, .int (nI d))] → W p l e (rmU 6 132 0 0) s m ([.ref (adr G 46), .int (nI r), .int (nI d)] : List Value).toArray below meth c H locs 0 0 (MQ below (QI G (aeM (u2 M 46 0 0) np nr k r (tk k d) 9) o ((whF (-1, 0) (aeP (u2 M 46 0 0) np nr k r (tk k d)) (fun j => nI (j + 1)) 9).2) sz) ([.ref (adr G 46), .int (nI r), .int (nI d)] : List Value).toArray s 0 0 (pA G sz)) (F0 m 44 ls []) := by
        intro fuel_44
        induction fuel_44 with
        | zero =>
          intro j b g hf hj hgb
          exact absurd hf (by omega)
        | succ fuel_44 ih_44 =>
          intro j b g hf hj hgb H locs hP hS ls hl
          refine lv_iload hx hb dX6_advise_44 (lv_at hl 0 rfl) ?_
          refine lv_bipush (v := 9) hx hb dX6_advise_46 (by decide) ?_
          refine lv_icmp_gt (tgt := 118) hx hb dX6_advise_48 (by decide) (fun c_3 => ?_) (fun c_3 => ?_)
          · have hj9 : j = 9 := by
              have := (nI_ltI (a := 9) (by omega) (by omega)).mp c_3
              omega
            refine lv_iload_n hx hb dX6_advise_118 rfl (lv_at hl 2 rfl) ?_
            have hP := PW_eq (M' := aeM (u2 M 46 0 0) np nr k r (tk k d) 9) (by rw [hj9]) hP
            exact e_Ii C0 hr hP hS (by rw [← hj9, ← hgb]) (by decide) dX6_advise_119
          · have hjt : j < 9 := by
              rcases Nat.lt_or_ge j 9 with z | z
              · exact z
              · exact absurd (nI_lt (a := 9) (b := j + 1) (by omega) (by omega)) c_3
            refine lv_aload_n hx hb dX6_advise_51 rfl (lv_at hl 3 rfl) ?_
            refine gf_X6_46 C0 hP (k := 46) (show kd 46 = 6 by decide) dX6_advise_52 ?_
            refine lv_aload_n hx hb dX6_advise_55 rfl (lv_at hl 3 rfl) ?_
            refine gf_X6_42 C0 hP (k := 46) (show kd 46 = 6 by decide) dX6_advise_56 ?_
            refine k_VV C0 hP hS (rest := []) (c_X5_become l G (aeM (u2 M 46 0 0) np nr k r (tk k d) j) o) mf_X5_become ml_X6_129 (kd_lt (show kd 61 = 5 by decide) (by decide)) (ct_5 (show kd 61 = 5 by decide)) rfl hl.1 (by decide) (by decide) (Nat.le_of_ble_eq_true rfl) rfl rfl dX6_advise_59 (fun H locs hP hS => ?_)
            refine lv_aload_n hx hb dX6_advise_62 rfl (lv_at hl 3 rfl) ?_
            refine gf_X6_46 C0 hP (k := 46) (show kd 46 = 6 by decide) dX6_advise_63 ?_
            refine gf_X6_70 C0 hP (k := 61) (show kd 61 = 5 by decide) dX6_advise_66 ?_
            refine lv_iload_n hx hb dX6_advise_69 rfl (lv_at hl 4 rfl) ?_
            refine lv_iload hx hb dX6_advise_70 (lv_at hl 0 rfl) ?_
            refine w_iastN C0 hP hS (k := 61 + 2) (i := r) (kdT2 (Or.inr rfl)) (by rw [lnT2 (Or.inr rfl)]; omega) (by omega) dX6_advise_72 (fun H locs hP hS => ?_)
            refine lv_aload_n hx hb dX6_advise_73 rfl (lv_at hl 3 rfl) ?_
            refine gf_X6_46 C0 hP (k := 46) (show kd 46 = 6 by decide) dX6_advise_74 ?_
            refine lv_iload_n hx hb dX6_advise_77 rfl (lv_at hl 5 rfl) ?_
            refine k_VV C0 hP hS (rest := []) (c_X5_go_ l G (u2 (bcM (aeM (u2 M 46 0 0) np nr k r (tk k d) j)) (61 + 2) r (nI (j + 1))) o 61 (Or.inr rfl) k (by rw [u2_ne (by omega), bcM_h, aeM_lo (by omega)]; exact hk0) hkle np (by first | (rw [u2_ne (by omega), bcM_lo (by omega), aeM_lo (by omega)]; exact hnp) | (rw [aeM_lo (by omega)]; exact hnp) | (rw [bcM_lo (by omega), aeM_lo (by omega)]; exact hnp)) hple nr (by first | (rw [u2_ne (by omega), bcM_lo (by omega), aeM_lo (by omega)]; exact hnr) | (rw [aeM_lo (by omega)]; exact hnr) | (rw [bcM_lo (by omega), aeM_lo (by omega)]; exact hnr)) hrle (fun r h => by rw [u2_ne (by omega), bcM_lo (by omega), aeM_lo (by omega)]; exact hdz r h) d (by omega)) mf_X5_go_ ml_X6_125 (kd_lt (show kd 61 = 5 by decide) (by decide)) (ct_5 (show kd 61 = 5 by decide)) rfl hl.1 (by decide) (by decide) (Nat.le_of_ble_eq_true rfl) rfl rfl dX6_advise_78 (fun H locs hP hS => ?_)
            refine lv_aload_n hx hb dX6_advise_81 rfl (lv_at hl 3 rfl) ?_
            refine gf_X6_46 C0 hP (k := 46) (show kd 46 = 6 by decide) dX6_advise_82 ?_
            refine gf_X6_94 C0 hP (k := 61) (show kd 61 = 5 by decide) dX6_advise_85 ?_
            refine lv_iload_n hx hb dX6_advise_88 rfl (lv_at hl 4 rfl) ?_
            refine w_ialdN C0 hP (k := 61 + 4) (i := r) (kdT4 (Or.inr rfl)) (by rw [lnT4 (Or.inr rfl)]; omega) (by omega) dX6_advise_89 ?_
            refine lv_topE (y := (aeP (u2 M 46 0 0) np nr k r (tk k d)) j) (rfl) ?_
            refine lv_iload hx hb dX6_advise_90 (lv_at hl 1 rfl) ?_
            refine lv_icmp_gt (tgt := 98) hx hb dX6_advise_92 (by decide) (fun c_4 => ?_) (fun c_4 => ?_)
            · have hk9 := hjt
              refine lv_aload_n hx hb dX6_advise_98 rfl (lv_at hl 3 rfl) ?_
              refine gf_X6_46 C0 hP (k := 46) (show kd 46 = 6 by decide) dX6_advise_99 ?_
              refine gf_X6_94 C0 hP (k := 61) (show kd 61 = 5 by decide) dX6_advise_102 ?_
              refine lv_iload_n hx hb dX6_advise_105 rfl (lv_at hl 4 rfl) ?_
              refine w_ialdN C0 hP (k := 61 + 4) (i := r) (kdT4 (Or.inr rfl)) (by rw [lnT4 (Or.inr rfl)]; omega) (by omega) dX6_advise_106 ?_
              refine lv_istore (lv' := [(4, .int ((gT (u2 (bcM (aeM (u2 M 46 0 0) np nr k r (tk k d) j)) (61 + 2) r (nI (j + 1))) 61 np nr k (tk k d)) (61 + 4) r)), (5, .int (nI (j + 1))), (3, .int b), (0, .ref (adr G 46)), (1, .int (nI r)), (2, .int (nI d))]) hx hb dX6_advise_107 hl (by decide) rfl (fun ls hl => ?_)
              refine lv_iload hx hb dX6_advise_109 (lv_at hl 1 rfl) ?_
              refine lv_istore_n (lv' := [(3, .int (nI (j + 1))), (4, .int ((gT (u2 (bcM (aeM (u2 M 46 0 0) np nr k r (tk k d) j)) (61 + 2) r (nI (j + 1))) 61 np nr k (tk k d)) (61 + 4) r)), (5, .int (nI (j + 1))), (0, .ref (adr G 46)), (1, .int (nI r)), (2, .int (nI d))]) hx hb dX6_advise_111 rfl hl (by decide) rfl (fun ls hl => ?_)
              refine lv_iinc (v := nI ((j + 1) + 1)) (lv' := [(5, .int (nI ((j + 1) + 1))), (3, .int (nI (j + 1))), (4, .int ((gT (u2 (bcM (aeM (u2 M 46 0 0) np nr k r (tk k d) j)) (61 + 2) r (nI (j + 1))) 61 np nr k (tk k d)) (61 + 4) r)), (0, .ref (adr G 46)), (1, .int (nI r)), (2, .int (nI d))]) hx hb dX6_advise_112 hl (k := 2) rfl (nI_1 (j + 1)) (by decide) rfl (fun ls hl => ?_)
              refine lv_goto (tgt := 44) hx hb dX6_advise_115 (by decide) ?_
              have hP := PW_eq (M' := aeM (u2 M 46 0 0) np nr k r (tk k d) (j + 1)) rfl hP
              exact ih_44 (j + 1) _ _ (by omega) (by omega) (whF_s2 (Int32.not_le.mpr c_4) hgb) _ _ hP hS _ (lv_sub hl [0, 2, 1, 3, 4, 5] rfl)
            · have hk9 := hjt
              refine lv_goto (tgt := 112) hx hb dX6_advise_95 (by decide) ?_
              refine lv_iinc (v := nI ((j + 1) + 1)) (lv' := [(5, .int (nI ((j + 1) + 1))), (4, .int g), (3, .int b), (0, .ref (adr G 46)), (1, .int (nI r)), (2, .int (nI d))]) hx hb dX6_advise_112 hl (k := 0) rfl (nI_1 (j + 1)) (by decide) rfl (fun ls hl => ?_)
              refine lv_goto (tgt := 44) hx hb dX6_advise_115 (by decide) ?_
              have hP := PW_eq (M' := aeM (u2 M 46 0 0) np nr k r (tk k d) (j + 1)) rfl hP
              exact ih_44 (j + 1) _ _ (by omega) (by omega) (whF_s1 (Int32.not_lt.mp c_4) hgb) _ _ hP hS _ (lv_sub hl [0, 1, 2, 3, 4, 5] rfl)
      exact loop_44 (9 + 1) 0 0 (-1) (by omega) (by omega) rfl _ _ hP hS _ (lv_sub hl [0, 1, 2, 3, 4, 5] rfl)
    · exact absurd c_2 (by decide)
  · exact absurd c_1 (by decide)

set_option maxHeartbeats 4000000 in
set_option maxRecDepth 100000 in
theorem c_X6_advise_i (l : Launch) (G : GG) (M : Mem) (o : Nat → Int64) (np nr k : Nat) (hO : OKT M np nr k) (x1 a2 : Int32) (hbd : x1 < 0 ∨ ¬ x1 < nI nr) : MI l yX6_advise cX6_advise 6 (some .int) 2 43 G [.ref (adr G 46), .int x1, .int a2] M (u2 (u2 M 46 0 0) 46 0 1) o o 0 0 0 := by
  refine MI_of RX6 rfl (by decide +kernel) (Nat.le_of_ble_eq_true rfl) ?_
  intro p e s m below meth c sz C0 hr hP ls hl
  have hx := C0.1
  have hb := C0.2.1
  have hS : va_S (pA G sz) s.heap s.heap [] := va_S.rf
  have hl : lv_has ls 6 [(0, .ref (adr G 46)), (1, .int x1), (2, .int a2)] := hl
  obtain ⟨hnp, hple, hnr, hrle, hk0, hkle, hdz⟩ := okz (v := 0) hO
  refine lv_aload_n hx hb dX6_advise_0 rfl (lv_at hl 0 rfl) ?_
  refine lv_iconst (v := 0) hx hb dX6_advise_1 (by decide) ?_
  refine pf_X6_49 C0 hP hS (k := 46) (show kd 46 = 6 by decide) dX6_advise_2 (fun H locs hP hS => ?_)
  refine lv_aload_n hx hb dX6_advise_5 rfl (lv_at hl 0 rfl) ?_
  refine lv_iload_n hx hb dX6_advise_6 rfl (lv_at hl 1 rfl) ?_
  refine k_VI C0 hP hS (rest := []) (c_X6_isRoom l G (u2 M 46 0 0) o x1) mf_X6_isRoom ml_X6_73 (kd_lt (show kd 46 = 6 by decide) (by decide)) (ct_6 (show kd 46 = 6 by decide)) rfl hl.1 (by decide) (by decide) (Nat.le_of_ble_eq_true rfl) rfl rfl dX6_advise_7 (fun H locs hP hS => ?_)
  refine lv_topE (y := 0) (inF_X hnr (by omega) hbd) ?_
  refine lv_if_ne (tgt := 19) hx hb dX6_advise_10 (by decide) (fun c_1 => ?_) (fun c_1 => ?_)
  · exact absurd c_1 (by decide)
  · refine lv_aload_n hx hb dX6_advise_13 rfl (lv_at hl 0 rfl) ?_
    refine lv_iconst (v := 1) hx hb dX6_advise_14 (by decide) ?_
    refine k_VI C0 hP hS (rest := []) (c_X6_no l G (u2 M 46 0 0) o 1) mf_X6_no ml_X6_63 (kd_lt (show kd 46 = 6 by decide) (by decide)) (ct_6 (show kd 46 = 6 by decide)) rfl hl.1 (by decide) (by decide) (Nat.le_of_ble_eq_true rfl) rfl rfl dX6_advise_15 (fun H locs hP hS => ?_)
    exact e_Ii C0 hr hP hS rfl (by decide) dX6_advise_18

set_option maxHeartbeats 4000000 in
set_option maxRecDepth 100000 in
theorem c_X6_advise_a (l : Launch) (G : GG) (M : Mem) (o : Nat → Int64) (np nr k : Nat) (hO : OKT M np nr k) (r : Nat) (hr0 : r < nr) (a2 : Int32) (hbd : a2 < 1 ∨ ¬ a2 ≤ 200) : MI l yX6_advise cX6_advise 6 (some .int) 2 43 G [.ref (adr G 46), .int (nI r), .int a2] M (u2 (u2 M 46 0 0) 46 0 2) o o 0 0 0 := by
  refine MI_of RX6 rfl (by decide +kernel) (Nat.le_of_ble_eq_true rfl) ?_
  intro p e s m below meth c sz C0 hr hP ls hl
  have hx := C0.1
  have hb := C0.2.1
  have hS : va_S (pA G sz) s.heap s.heap [] := va_S.rf
  have hl : lv_has ls 6 [(0, .ref (adr G 46)), (1, .int (nI r)), (2, .int a2)] := hl
  obtain ⟨hnp, hple, hnr, hrle, hk0, hkle, hdz⟩ := okz (v := 0) hO
  refine lv_aload_n hx hb dX6_advise_0 rfl (lv_at hl 0 rfl) ?_
  refine lv_iconst (v := 0) hx hb dX6_advise_1 (by decide) ?_
  refine pf_X6_49 C0 hP hS (k := 46) (show kd 46 = 6 by decide) dX6_advise_2 (fun H locs hP hS => ?_)
  refine lv_aload_n hx hb dX6_advise_5 rfl (lv_at hl 0 rfl) ?_
  refine lv_iload_n hx hb dX6_advise_6 rfl (lv_at hl 1 rfl) ?_
  refine k_VI C0 hP hS (rest := []) (c_X6_isRoom l G (u2 M 46 0 0) o (nI r)) mf_X6_isRoom ml_X6_73 (kd_lt (show kd 46 = 6 by decide) (by decide)) (ct_6 (show kd 46 = 6 by decide)) rfl hl.1 (by decide) (by decide) (Nat.le_of_ble_eq_true rfl) rfl rfl dX6_advise_7 (fun H locs hP hS => ?_)
  refine lv_topE (y := 1) (inF_R hnr (by omega) (by omega)) ?_
  refine lv_if_ne (tgt := 19) hx hb dX6_advise_10 (by decide) (fun c_1 => ?_) (fun c_1 => ?_)
  · refine lv_iload_n hx hb dX6_advise_19 rfl (lv_at hl 2 rfl) ?_
    refine lv_iconst (v := 1) hx hb dX6_advise_20 (by decide) ?_
    refine lv_sipush (v := 200) hx hb dX6_advise_21 (by decide) ?_
    refine k_SI C0 hP hS (rest := []) (c_X6_isIn l G (u2 M 46 0 0) o a2 1 200) mf_X6_isIn rfl ml_X6_56 hl.1 (by decide) (by decide) (Nat.le_of_ble_eq_true rfl) rfl rfl dX6_advise_24 (fun H locs hP hS => ?_)
    refine lv_topE (y := 0) (inF_W hbd) ?_
    refine lv_if_ne (tgt := 36) hx hb dX6_advise_27 (by decide) (fun c_2 => ?_) (fun c_2 => ?_)
    · exact absurd c_2 (by decide)
    · refine lv_aload_n hx hb dX6_advise_30 rfl (lv_at hl 0 rfl) ?_
      refine lv_iconst (v := 2) hx hb dX6_advise_31 (by decide) ?_
      refine k_VI C0 hP hS (rest := []) (c_X6_no l G (u2 M 46 0 0) o 2) mf_X6_no ml_X6_63 (kd_lt (show kd 46 = 6 by decide) (by decide)) (ct_6 (show kd 46 = 6 by decide)) rfl hl.1 (by decide) (by decide) (Nat.le_of_ble_eq_true rfl) rfl rfl dX6_advise_32 (fun H locs hP hS => ?_)
      exact e_Ii C0 hr hP hS rfl (by decide) dX6_advise_35
  · exact absurd c_1 (by decide)

set_option maxHeartbeats 4000000 in
set_option maxRecDepth 100000 in
theorem c_X6_seen (l : Launch) (G : GG) (M : Mem) (o : Nat → Int64) (np nr k : Nat) (hO : OKT M np nr k) (i : Nat) (hi : i < np) : MI l yX6_seen cX6_seen 5 (some .int) 5 110 G [.ref (adr G 46), .int (nI i)] M (gT (bcM (u2 M 46 0 0)) 61 np nr k (tk k (719 - k + 1))) o o (orF (fun j => setF (fun r => shT (gT (bcM (u2 M 46 0 0)) 61 np nr k (tk k j)) 61 r i) nr) 0 (719 - k + 1)) 0 0 := by
  refine MI_of RX6 rfl (by decide +kernel) (Nat.le_of_ble_eq_true rfl) ?_
  intro p e s m below meth c sz C0 hr hP ls hl
  have hx := C0.1
  have hb := C0.2.1
  have hS : va_S (pA G sz) s.heap s.heap [] := va_S.rf
  have hl : lv_has ls 5 [(0, .ref (adr G 46)), (1, .int (nI i))] := hl
  obtain ⟨hnp, hple, hnr, hrle, hk0, hkle, hdz⟩ := okz (v := 0) hO
  refine lv_aload_n hx hb dX6_seen_0 rfl (lv_at hl 0 rfl) ?_
  refine lv_iconst (v := 0) hx hb dX6_seen_1 (by decide) ?_
  refine pf_X6_49 C0 hP hS (k := 46) (show kd 46 = 6 by decide) dX6_seen_2 (fun H locs hP hS => ?_)
  refine lv_aload_n hx hb dX6_seen_5 rfl (lv_at hl 0 rfl) ?_
  refine lv_iload_n hx hb dX6_seen_6 rfl (lv_at hl 1 rfl) ?_
  refine k_VI C0 hP hS (rest := []) (c_X6_isPasser l G (u2 M 46 0 0) o (nI i)) mf_X6_isPasser ml_X6_84 (kd_lt (show kd 46 = 6 by decide) (by decide)) (ct_6 (show kd 46 = 6 by decide)) rfl hl.1 (by decide) (by decide) (Nat.le_of_ble_eq_true rfl) rfl rfl dX6_seen_7 (fun H locs hP hS => ?_)
  refine lv_topE (y := 1) (inF_R hnp (by omega) (by omega)) ?_
  refine lv_if_ne (tgt := 19) hx hb dX6_seen_10 (by decide) (fun c_1 => ?_) (fun c_1 => ?_)
  · refine lv_aload_n hx hb dX6_seen_19 rfl (lv_at hl 0 rfl) ?_
    refine gf_X6_46 C0 hP (k := 46) (show kd 46 = 6 by decide) dX6_seen_20 ?_
    refine lv_aload_n hx hb dX6_seen_23 rfl (lv_at hl 0 rfl) ?_
    refine gf_X6_42 C0 hP (k := 46) (show kd 46 = 6 by decide) dX6_seen_24 ?_
    refine k_VV C0 hP hS (rest := []) (c_X5_become l G (u2 M 46 0 0) o) mf_X5_become ml_X6_129 (kd_lt (show kd 61 = 5 by decide) (by decide)) (ct_5 (show kd 61 = 5 by decide)) rfl hl.1 (by decide) (by decide) (Nat.le_of_ble_eq_true rfl) rfl rfl dX6_seen_27 (fun H locs hP hS => ?_)
    refine lv_iconst (v := 0) hx hb dX6_seen_30 (by decide) ?_
    refine lv_istore_n (lv' := [(2, .int 0), (0, .ref (adr G 46)), (1, .int (nI i))]) hx hb dX6_seen_31 rfl hl (by decide) rfl (fun ls hl => ?_)
    refine lv_iconst (v := 1) hx hb dX6_seen_32 (by decide) ?_
    refine lv_istore_n (lv' := [(3, .int 1), (2, .int 0), (0, .ref (adr G 46)), (1, .int (nI i))]) hx hb dX6_seen_33 rfl hl (by decide) rfl (fun ls hl => ?_)
    have loop_34 : ∀ (fuel_34 : Nat) (j : Nat) (x : Int32) (gg : Int32), (719 - k + 1) + 1 ≤ j + fuel_34 → (j ≤ 719 - k + 1) → (x = orF (fun j => setF (fun r => shT (gT (bcM (u2 M 46 0 0)) 61 np nr k (tk k j)) 61 r i) nr) 0 j) → (gg = if j = 719 - k + 1 then 0 else 1) → ∀ (H : Heap) (locs : List Loc), PW G (gT (bcM (u2 M 46 0 0)) 61 np nr k (tk k j)) o H → va_S (pA G sz) s.heap H locs → ∀ ls : Array Slot, lv_has ls 5 [(3, .int gg), (2, .int x), (0, .ref (adr G 46)), (1, .int (nI i))] → W p l e (rmU 5 110 0 0) s m ([.ref (adr G 46), .int (nI i)] : List Value).toArray below meth c H locs 0 0 (MQ below (QI G (gT (bcM (u2 M 46 0 0)) 61 np nr k (tk k (719 - k + 1))) o (orF (fun j => setF (fun r => shT (gT (bcM (u2 M 46 0 0)) 61 np nr k (tk k j)) 61 r i) nr) 0 (719 - k + 1)) sz) ([.ref (adr G 46), .int (nI i)] : List Value).toArray s 0 0 (pA G sz)) (F0 m 34 ls []) := by
      intro fuel_34
      induction fuel_34 with
      | zero =>
        intro j x gg hf hj hxx hgg
        exact absurd hf (by omega)
      | succ fuel_34 ih_34 =>
        intro j x gg hf hj hxx hgg H locs hP hS ls hl
        refine lv_iload_n hx hb dX6_seen_34 rfl (lv_at hl 0 rfl) ?_
        refine lv_if_eq (tgt := 105) hx hb dX6_seen_35 (by decide) (fun c_2 => ?_) (fun c_2 => ?_)
        · have hj9 : j = 719 - k + 1 := by
            rw [hgg] at c_2
            by_cases z : j = 719 - k + 1
            · exact z
            · rw [if_neg z] at c_2
              exact absurd c_2 (by decide)
          refine lv_iload_n hx hb dX6_seen_105 rfl (lv_at hl 1 rfl) ?_
          have hP := PW_eq (M' := gT (bcM (u2 M 46 0 0)) 61 np nr k (tk k (719 - k + 1))) (by rw [hj9]) hP
          exact e_Ii C0 hr hP hS (by rw [hxx, hj9]) (by decide) dX6_seen_106
        · have hj9 : j ≠ 719 - k + 1 := fun z => c_2 (by rw [hgg, if_pos z])
          refine lv_iconst (v := 0) hx hb dX6_seen_38 (by decide) ?_
          refine lv_istore (lv' := [(4, .int 0), (3, .int gg), (2, .int x), (0, .ref (adr G 46)), (1, .int (nI i))]) hx hb dX6_seen_39 hl (by decide) rfl (fun ls hl => ?_)
          have loop_41 : ∀ (fuel_41 : Nat) (r : Nat) (y : Int32), nr + 1 ≤ r + fuel_41 → (r ≤ nr) → (y = orF (fun j => setF (fun r => shT (gT (bcM (u2 M 46 0 0)) 61 np nr k (tk k j)) 61 r i) nr) 0 j ||| setF (fun r => shT (gT (bcM (u2 M 46 0 0)) 61 np nr k (tk k j)) 61 r i) r) → ∀ (H : Heap) (locs : List Loc), PW G (gT (bcM (u2 M 46 0 0)) 61 np nr k (tk k j)) o H → va_S (pA G sz) s.heap H locs → ∀ ls : Array Slot, lv_has ls 5 [(4, .int (nI r)), (2, .int y), (0, .ref (adr G 46)), (1, .int (nI i))] → W p l e (rmU 5 110 0 0) s m ([.ref (adr G 46), .int (nI i)] : List Value).toArray below meth c H locs 0 0 (MQ below (QI G (gT (bcM (u2 M 46 0 0)) 61 np nr k (tk k (719 - k + 1))) o (orF (fun j => setF (fun r => shT (gT (bcM (u2 M 46 0 0)) 61 np nr k (tk k j)) 61 r i) nr) 0 (719 - k + 1)) sz) ([.ref (adr G 46), .int (nI i)] : List Value).toArray s 0 0 (pA G sz)) (F0 m 41 ls []) := by
            intro fuel_41
            induction fuel_41 with
            | zero =>
              intro r y hf hr1 hy
              exact absurd hf (by omega)
            | succ fuel_41 ih_41 =>
              intro r y hf hr1 hy H locs hP hS ls hl
              refine lv_iload hx hb dX6_seen_41 (lv_at hl 0 rfl) ?_
              refine lv_aload_n hx hb dX6_seen_43 rfl (lv_at hl 2 rfl) ?_
              refine gf_X6_53 C0 hP (k := 46) (show kd 46 = 6 by decide) dX6_seen_44 ?_
              refine lv_topE (y := nI nr) (by rw [gT_lo (by omega), bcM_lo (by omega)]; exact hnr) ?_
              refine lv_icmp_ge (tgt := 76) hx hb dX6_seen_47 (by decide) (fun c_3 => ?_) (fun c_3 => ?_)
              · have hr9 := lp_ge (n := nr) c_3 (by omega) hr1
                refine lv_aload_n hx hb dX6_seen_76 rfl (lv_at hl 2 rfl) ?_
                refine gf_X6_46 C0 hP (k := 46) (show kd 46 = 6 by decide) dX6_seen_77 ?_
                refine k_VV C0 hP hS (rest := []) (c_X5_go l G (gT (bcM (u2 M 46 0 0)) 61 np nr k (tk k j)) o 61 (Or.inr rfl) (k + tk k j) (gT_t (bcM_t hk0)) (tk_le j hkle) np (by rw [gT_lo (by omega), bcM_lo (by omega)]; exact hnp) hple nr (by rw [gT_lo (by omega), bcM_lo (by omega)]; exact hnr) hrle (fun r h => by rw [gT_lo (by omega), bcM_lo (by omega)]; exact hdz r h)) mf_X5_go ml_X6_133 (kd_lt (show kd 61 = 5 by decide) (by decide)) (ct_5 (show kd 61 = 5 by decide)) rfl hl.1 (by decide) (by decide) (Nat.le_of_ble_eq_true rfl) rfl rfl dX6_seen_80 (fun H locs hP hS => ?_)
                refine lv_aload_n hx hb dX6_seen_83 rfl (lv_at hl 2 rfl) ?_
                refine gf_X6_46 C0 hP (k := 46) (show kd 46 = 6 by decide) dX6_seen_84 ?_
                refine gf_X6_106 C0 hP (k := 61) (show kd 61 = 5 by decide) dX6_seen_87 ?_
                refine lv_topE (y := nI (k + tk k (j + 1))) (by rw [gT_s hkle]; exact gT_t (bcM_t hk0)) ?_
                refine lv_sipush (v := 720) hx hb dX6_seen_90 (by decide) ?_
                refine lv_icmp_ge (tgt := 100) hx hb dX6_seen_93 (by decide) (fun c_4 => ?_) (fun c_4 => ?_)
                · have hP := PW_eq (M' := gT (bcM (u2 M 46 0 0)) 61 np nr k (tk k (j + 1))) (gT_s hkle) hP
                  have hg9 : j + 1 = 719 - k + 1 := by
                    have := (nI_leI (a := 720) (by decide) (by unfold tk; omega)).mp c_4
                    unfold tk at this
                    omega
                  refine lv_iconst (v := 0) hx hb dX6_seen_100 (by decide) ?_
                  refine lv_istore_n (lv' := [(3, .int 0), (4, .int (nI r)), (2, .int y), (0, .ref (adr G 46)), (1, .int (nI i))]) hx hb dX6_seen_101 rfl hl (by decide) rfl (fun ls hl => ?_)
                  refine lv_goto (tgt := 34) hx hb dX6_seen_102 (by decide) ?_
                  exact ih_34 (j + 1) _ _ (by omega) (by omega) (by rw [hy, hr9]; rfl) (by rw [if_pos (by omega)]) _ _ hP hS _ (lv_sub hl [0, 2, 3, 4] rfl)
                · have hP := PW_eq (M' := gT (bcM (u2 M 46 0 0)) 61 np nr k (tk k (j + 1))) (gT_s hkle) hP
                  have hg9 : ¬ j + 1 = 719 - k + 1 := by
                    intro z
                    exact c_4 (nI_le (a := 720) (by unfold tk; omega) (by unfold tk; omega))
                  refine lv_iconst (v := 1) hx hb dX6_seen_96 (by decide) ?_
                  refine lv_goto (tgt := 101) hx hb dX6_seen_97 (by decide) ?_
                  refine lv_istore_n (lv' := [(3, .int 1), (4, .int (nI r)), (2, .int y), (0, .ref (adr G 46)), (1, .int (nI i))]) hx hb dX6_seen_101 rfl hl (by decide) rfl (fun ls hl => ?_)
                  refine lv_goto (tgt := 34) hx hb dX6_seen_102 (by decide) ?_
                  exact ih_34 (j + 1) _ _ (by omega) (by omega) (by rw [hy, hr9]; rfl) (by rw [if_neg (by omega)]) _ _ hP hS _ (lv_sub hl [0, 2, 3, 4] rfl)
              · have hrt := lp_lt (n := nr) c_3 (by omega) hr1
                refine lv_aload_n hx hb dX6_seen_50 rfl (lv_at hl 2 rfl) ?_
                refine gf_X6_46 C0 hP (k := 46) (show kd 46 = 6 by decide) dX6_seen_51 ?_
                refine lv_iload hx hb dX6_seen_54 (lv_at hl 0 rfl) ?_
                refine lv_iload_n hx hb dX6_seen_56 rfl (lv_at hl 3 rfl) ?_
                refine k_VI C0 hP hS (rest := []) (c_X5_isShown l G (gT (bcM (u2 M 46 0 0)) 61 np nr k (tk k j)) o 61 (Or.inr rfl) r i (by omega) (by omega)) mf_X5_isShown ml_X6_100 (kd_lt (show kd 61 = 5 by decide) (by decide)) (ct_5 (show kd 61 = 5 by decide)) rfl hl.1 (by decide) (by decide) (Nat.le_of_ble_eq_true rfl) rfl rfl dX6_seen_57 (fun H locs hP hS => ?_)
                refine lv_if_eq (tgt := 70) hx hb dX6_seen_60 (by decide) (fun c_5 => ?_) (fun c_5 => ?_)
                · refine lv_iinc (v := nI (r + 1)) (lv' := [(4, .int (nI (r + 1))), (2, .int y), (0, .ref (adr G 46)), (1, .int (nI i))]) hx hb dX6_seen_70 hl (k := 0) rfl (nI_1 r) (by decide) rfl (fun ls hl => ?_)
                  refine lv_goto (tgt := 41) hx hb dX6_seen_73 (by decide) ?_
                  exact ih_41 (r + 1) _ (by omega) (by omega) (by rw [hy]; simp only [setF]; simp [c_3, c_5, Int32.or_assoc]) _ _ hP hS _ (lv_sub hl [0, 1, 2, 3] rfl)
                · refine lv_iload_n hx hb dX6_seen_63 rfl (lv_at hl 1 rfl) ?_
                  refine lv_iconst (v := 1) hx hb dX6_seen_64 (by decide) ?_
                  refine lv_iload hx hb dX6_seen_65 (lv_at hl 0 rfl) ?_
                  refine lv_ishl hx hb dX6_seen_67 ?_
                  refine lv_ior hx hb dX6_seen_68 ?_
                  refine lv_istore_n (lv' := [(2, .int (y ||| (1 <<< ((nI r) &&& 31)))), (4, .int (nI r)), (0, .ref (adr G 46)), (1, .int (nI i))]) hx hb dX6_seen_69 rfl hl (by decide) rfl (fun ls hl => ?_)
                  refine lv_iinc (v := nI (r + 1)) (lv' := [(4, .int (nI (r + 1))), (2, .int (y ||| (1 <<< ((nI r) &&& 31)))), (0, .ref (adr G 46)), (1, .int (nI i))]) hx hb dX6_seen_70 hl (k := 1) rfl (nI_1 r) (by decide) rfl (fun ls hl => ?_)
                  refine lv_goto (tgt := 41) hx hb dX6_seen_73 (by decide) ?_
                  exact ih_41 (r + 1) _ (by omega) (by omega) (by rw [hy]; simp only [setF]; simp [c_3, c_5, Int32.or_assoc]) _ _ hP hS _ (lv_sub hl [0, 1, 2, 3] rfl)
          exact loop_41 (nr + 1) 0 _ (by omega) (by omega) (by rw [hxx]; exact (Int32.or_zero).symm) _ _ hP hS _ (lv_sub hl [0, 2, 3, 4] rfl)
    have hP := PW_eq (M' := gT (bcM (u2 M 46 0 0)) 61 np nr k (tk k 0)) (by rw [tk_z hkle]; rfl) hP
    exact loop_34 (719 - k + 1 + 1) 0 0 1 (by omega) (by omega) rfl (by rw [if_neg (by omega)]) _ _ hP hS _ (lv_sub hl [0, 1, 2, 3] rfl)
  · exact absurd c_1 (by decide)

set_option maxHeartbeats 4000000 in
set_option maxRecDepth 100000 in
theorem c_X6_seen_i (l : Launch) (G : GG) (M : Mem) (o : Nat → Int64) (np nr k : Nat) (hO : OKT M np nr k) (x1 : Int32) (hbd : x1 < 0 ∨ ¬ x1 < nI np) : MI l yX6_seen cX6_seen 5 (some .int) 2 43 G [.ref (adr G 46), .int x1] M (u2 (u2 M 46 0 0) 46 0 1) o o 0 0 0 := by
  refine MI_of RX6 rfl (by decide +kernel) (Nat.le_of_ble_eq_true rfl) ?_
  intro p e s m below meth c sz C0 hr hP ls hl
  have hx := C0.1
  have hb := C0.2.1
  have hS : va_S (pA G sz) s.heap s.heap [] := va_S.rf
  have hl : lv_has ls 5 [(0, .ref (adr G 46)), (1, .int x1)] := hl
  obtain ⟨hnp, hple, hnr, hrle, hk0, hkle, hdz⟩ := okz (v := 0) hO
  refine lv_aload_n hx hb dX6_seen_0 rfl (lv_at hl 0 rfl) ?_
  refine lv_iconst (v := 0) hx hb dX6_seen_1 (by decide) ?_
  refine pf_X6_49 C0 hP hS (k := 46) (show kd 46 = 6 by decide) dX6_seen_2 (fun H locs hP hS => ?_)
  refine lv_aload_n hx hb dX6_seen_5 rfl (lv_at hl 0 rfl) ?_
  refine lv_iload_n hx hb dX6_seen_6 rfl (lv_at hl 1 rfl) ?_
  refine k_VI C0 hP hS (rest := []) (c_X6_isPasser l G (u2 M 46 0 0) o x1) mf_X6_isPasser ml_X6_84 (kd_lt (show kd 46 = 6 by decide) (by decide)) (ct_6 (show kd 46 = 6 by decide)) rfl hl.1 (by decide) (by decide) (Nat.le_of_ble_eq_true rfl) rfl rfl dX6_seen_7 (fun H locs hP hS => ?_)
  refine lv_topE (y := 0) (inF_X hnp (by omega) hbd) ?_
  refine lv_if_ne (tgt := 19) hx hb dX6_seen_10 (by decide) (fun c_1 => ?_) (fun c_1 => ?_)
  · exact absurd c_1 (by decide)
  · refine lv_aload_n hx hb dX6_seen_13 rfl (lv_at hl 0 rfl) ?_
    refine lv_iconst (v := 1) hx hb dX6_seen_14 (by decide) ?_
    refine k_VI C0 hP hS (rest := []) (c_X6_no l G (u2 M 46 0 0) o 1) mf_X6_no ml_X6_63 (kd_lt (show kd 46 = 6 by decide) (by decide)) (ct_6 (show kd 46 = 6 by decide)) rfl hl.1 (by decide) (by decide) (Nat.le_of_ble_eq_true rfl) rfl rfl dX6_seen_15 (fun H locs hP hS => ?_)
    exact e_Ii C0 hr hP hS rfl (by decide) dX6_seen_18
end MO2
