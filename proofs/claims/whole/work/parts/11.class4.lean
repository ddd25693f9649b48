section CLD
def tk (k d : Nat) : Nat := min (k + d) 720 - k
theorem tk_le {k : Nat} (d : Nat) (hk : k ≤ 720) : k + tk k d ≤ 720 := by unfold tk; omega
theorem mn_e {x : Int32} {k d : Nat} (hx : x = nI k) (hk : k ≤ 720) (hd : d ≤ 720) : mn (x + nI d) 720 = nI (k + tk k d) := by
  rw [hx, nI_add]
  show (if nI 720 < nI (k + d) then nI 720 else nI (k + d)) = _
  by_cases h : 720 < k + d
  · rw [if_pos (nI_lt (a := 720) h (by omega))]
    rw [show k + tk k d = 720 by unfold tk; omega]
  · rw [if_neg (nI_nlt (a := 720) (b := k + d) (by omega) (by omega))]
    rw [show k + tk k d = k + d by unfold tk; omega]
theorem lq_ge {i n : Nat} (h : nI n ≤ nI i) (hn : n < 2000) (hi : i ≤ n) : i = n := by
  have := (nI_leI (by omega) (by omega)).mp h
  omega
theorem lq_lt {i n : Nat} (h : ¬ nI n ≤ nI i) (hn : n < 2000) (hi : i ≤ n) : i < n := by
  rcases Nat.lt_or_ge i n with q | q
  · exact q
  · exact absurd (nI_le q (by omega)) h
theorem pwM_row {M : Mem} {sc n a : Nat} (h : a < sc + 3) : pwM M sc n a = M a := by
  funext b
  exact pwM_sl (Or.inl h)
theorem rpM_row {M : Mem} {sc np n a : Nat} {li : Int32} (h : a < sc + 13) : rpM M sc li np n a = M a := by
  funext b
  exact rpM_sl (Or.inl h)
theorem cpM_row {M : Mem} {np nr a : Nat} (h : a < 25 ∨ 46 ≤ a) (hp : np ≤ 10) (hr : nr ≤ 8) : cpM M np nr a = M a := by
  funext b
  exact cpM_lo h hp hr
def lgM (M : Mem) (sc np nr k : Nat) : Nat → Mem
  | 0 => M
  | j + 1 => u2 (rpM (pwM (lgM M sc np nr k j) sc np) sc (ltF (M 2) (M 3) (k + j)) np nr) sc 0 (nI (k + j + 1))
def lgS (M : Mem) (sc np nr k : Nat) : Nat → Int32
  | 0 => 0
  | j + 1 => lgS M sc np nr k j + rpS (pwM (lgM M sc np nr k j) sc np) sc (ltF (M 2) (M 3) (k + j)) np nr
theorem lgM_lo {M : Mem} {sc np nr k a : Nat} (hsc : sc = 4 ∨ sc = 25) (ha : a < sc) : ∀ {j : Nat}, lgM M sc np nr k j a = M a
  | 0 => rfl
  | j + 1 => by
    unfold lgM
    rw [u2_ne (by omega), rpM_row (by omega), pwM_row (by omega), lgM_lo hsc ha]
theorem lgM_h1 {M : Mem} {sc np nr k : Nat} (hsc : sc = 4 ∨ sc = 25) : ∀ {j : Nat}, lgM M sc np nr k j sc 1 = M sc 1
  | 0 => rfl
  | j + 1 => by
    unfold lgM
    rw [u2_sl (by decide), rpM_sl (by omega), pwM_sl (by omega), lgM_h1 hsc]
theorem lgM_h2 {M : Mem} {sc np nr k : Nat} (hsc : sc = 4 ∨ sc = 25) : ∀ {j : Nat}, lgM M sc np nr k j sc 2 = M sc 2
  | 0 => rfl
  | j + 1 => by
    unfold lgM
    rw [u2_sl (by decide), rpM_sl (by omega), pwM_sl (by omega), lgM_h2 hsc]
theorem lgM_h0 {M : Mem} {sc np nr k : Nat} (hsc : sc = 4 ∨ sc = 25) (h : M sc 0 = nI k) : ∀ {j : Nat}, lgM M sc np nr k j sc 0 = nI (k + j)
  | 0 => h
  | j + 1 => by
    unfold lgM
    rw [u2_at]
    rfl
def fsF (M : Mem) (np nr k d : Nat) : Nat → Int32
  | 0 => lgS (cpM M np nr) 25 np nr k (tk k d)
  | 1 => peM (lgM (cpM M np nr) 25 np nr k (tk k d)) 25 nr
  | _ => nI np - goM (lgM (cpM M np nr) 25 np nr k (tk k d)) 25 np
def itW (M : Mem) (sc np : Nat) : Nat → Mem
  | 0 => M
  | j + 1 => pwM (itW M sc np j) sc np
theorem itW_row {M : Mem} {sc np a : Nat} (h : a < sc + 3) : ∀ {j : Nat}, itW M sc np j a = M a
  | 0 => rfl
  | j + 1 => by
    unfold itW
    rw [pwM_row h, itW_row h]
theorem itW_h1 {M : Mem} {sc np b : Nat} {j : Nat} : itW M sc np j sc b = M sc b := by rw [itW_row (by omega)]
def whF (s0 : Int32 × Int32) (P Q : Nat → Int32) : Nat → Int32 × Int32
  | 0 => s0
  | j + 1 => if P j ≤ (whF s0 P Q j).1 then whF s0 P Q j else (P j, Q j)
theorem whF_s1 {s0 : Int32 × Int32} {P Q : Nat → Int32} {j : Nat} {g b : Int32} (h : P j ≤ g) (e : (g, b) = whF s0 P Q j) : (g, b) = whF s0 P Q (j + 1) := by
  unfold whF
  rw [← e, if_pos h]
theorem whF_s2 {s0 : Int32 × Int32} {P Q : Nat → Int32} {j : Nat} {g b : Int32} (h : ¬ P j ≤ g) (e : (g, b) = whF s0 P Q j) : (P j, Q j) = whF s0 P Q (j + 1) := by
  unfold whF
  rw [← e, if_neg h]
def whP (M : Mem) (np nr k r : Nat) : Nat → Int32 := fun j => siM (itW (cpM M np nr) 25 np j) 25 (25 + 13 + r) (ltF (M 2) (M 3) (k + j)) np
def pwhM (M : Mem) (np nr k r h : Nat) : Nat → Mem
  | 0 => u2 (cpM M np nr) (25 + 13 + r) 2 (nI h)
  | j + 1 => pyM (pwM (pwhM M np nr k r h j) 25 np) (25 + 13 + r) (siM (pwM (pwhM M np nr k r h j) 25 np) 25 (25 + 13 + r) (ltF (M 2) (M 3) (k + j)) np)
def pwhS (M : Mem) (np nr k r h : Nat) : Nat → Int32
  | 0 => 0
  | j + 1 => pwhS M np nr k r h j + paF (siM (pwM (pwhM M np nr k r h j) 25 np) 25 (25 + 13 + r) (ltF (M 2) (M 3) (k + j)) np) (pwM (pwhM M np nr k r h j) 25 np (25 + 13 + r) 5)
theorem pyM_ne {M : Mem} {r a : Nat} {sh : Int32} (h : a ≠ r) : pyM M r sh a = M a := by
  funext b
  unfold pyM
  rw [if_neg h]
theorem pdM_row {M : Mem} {np nr k r h a : Nat} (ha : a < 28) : ∀ {j : Nat}, pwhM M np nr k r h j a = u2 (cpM M np nr) (25 + 13 + r) 2 (nI h) a
  | 0 => rfl
  | j + 1 => by
    unfold pwhM
    rw [pyM_ne (by omega), pwM_row (by omega), pdM_row ha]
theorem pdM_h {M : Mem} {np nr k r h a b : Nat} (ha : a < 28) {j : Nat} : pwhM M np nr k r h j a b = u2 (cpM M np nr) (25 + 13 + r) 2 (nI h) a b := by rw [pdM_row ha]
theorem pdM_hi {M : Mem} {np nr k r h a : Nat} (ha : 46 ≤ a) (hr : r < 8) (hp : np ≤ 10) (hn : nr ≤ 8) : ∀ {j : Nat}, pwhM M np nr k r h j a = M a
  | 0 => by
    unfold pwhM
    rw [u2_ne (by omega), cpM_row (by omega) hp hn]
  | j + 1 => by
    unfold pwhM
    rw [pyM_ne (by omega)]
    funext b
    rw [pwM_sl (by omega), pdM_hi ha hr hp hn]
def adM (M : Mem) (np nr k r t : Nat) : Nat → Mem
  | 0 => M
  | j + 1 => pwhM (adM M np nr k r t j) np nr k r (j + 1) t
def adP (M : Mem) (np nr k r t : Nat) : Nat → Int32 := fun j => pwhS (adM M np nr k r t j) np nr k r (j + 1) t
theorem adM_lo {M : Mem} {np nr k r t a : Nat} (hp : np ≤ 10) (hn : nr ≤ 8) (ha : a < 25) : ∀ {j : Nat}, adM M np nr k r t j a = M a
  | 0 => rfl
  | j + 1 => by
    unfold adM
    rw [pdM_row (by omega), u2_ne (by omega), cpM_row (by omega) hp hn, adM_lo hp hn ha]
theorem adM_ok {M : Mem} {np nr k r t : Nat} (hO : OKM M np nr k) (j : Nat) : OKM (adM M np nr k r t j) np nr k := by
  obtain ⟨h1, h2, h3, h4, h5, h6⟩ := hO
  refine ⟨?_, h2, ?_, h4, ?_, h6⟩ <;> (rw [adM_lo h2 h4 (by omega)]; assumption)
def snM (M : Mem) (i : Nat) : Nat → Mem
  | 0 => cmM M (25 + 3 + i) (M (4 + 3 + i) 0) (M (4 + 3 + i) 1) (M (4 + 3 + i) 2) (M (4 + 3 + i) 3)
  | j + 1 => u2 (snM M i j) (25 + 3 + i) 0 (wk (snM M i j (25 + 3 + i) 0) (snM M i j (25 + 3 + i) 1))
def snW (M : Mem) (nr i : Nat) : Nat → Int32
  | 0 => waM (snM M i 0) 4 (25 + 3 + i) nr
  | j + 1 => snW M nr i j ||| waM (snM M i (j + 1)) 4 (25 + 3 + i) nr
theorem snM_ne {M : Mem} {i a : Nat} (h : a ≠ 25 + 3 + i) : ∀ {j : Nat}, snM M i j a = M a
  | 0 => by
    unfold snM
    funext b
    exact cmM_lo h
  | j + 1 => by
    unfold snM
    rw [u2_ne h, snM_ne h]
theorem snM_lo {M : Mem} {i a b : Nat} (h : a ≠ 25 + 3 + i) {j : Nat} : snM M i j a b = M a b := by rw [snM_ne h]
def fdF (P : Nat → Int32) (d : Int64) : Nat → Int64
  | 0 => d
  | n + 1 => fdF P d n * 31 + Int32.toInt64 (P n)
def ffF (P : Nat → Nat → Int32) (w : Nat) (d : Int64) : Nat → Int64
  | 0 => d
  | n + 1 => fdF (P n) (ffF P w d n) w
set_option maxHeartbeats 4000000 in
set_option maxRecDepth 100000 in
theorem c_X4_letGoBy (l : Launch) (G : GG) (M : Mem) (o : Nat → Int64) (sc np nr k d : Nat) (hsc : sc = 4 ∨ sc = 25) (hnp : M sc 1 = nI np) (hple : np ≤ 10) (hnr : M sc 2 = nI nr) (hrle : nr ≤ 8) (hk0 : M sc 0 = nI k) (hkle : k ≤ 720) (hd : d ≤ 720) : MI l yX4_letGoBy cX4_letGoBy 6 (some .int) 5 111 G [.ref (adr G 0), .ref (adr G sc), .int (nI d)] M (lgM M sc np nr k (tk k d)) o o (lgS M sc np nr k (tk k d)) 0 0 := by
  refine MI_of RX4 rfl (by decide +kernel) (Nat.le_of_ble_eq_true rfl) ?_
  intro p e s m below meth c sz C0 hr hP ls hl
  have hx := C0.1
  have hb := C0.2.1
  have hS : va_S (pA G sz) s.heap s.heap [] := va_S.rf
  have hl : lv_has ls 6 [(0, .ref (adr G 0)), (1, .ref (adr G sc)), (2, .int (nI d))] := hl
  refine lv_aload_n hx hb dX4_letGoBy_0 rfl (lv_at hl 1 rfl) ?_
  refine gf_X4_151 C0 hP (k := sc) (kdS hsc) dX4_letGoBy_1 ?_
  refine lv_iload_n hx hb dX4_letGoBy_4 rfl (lv_at hl 2 rfl) ?_
  refine lv_iadd hx hb dX4_letGoBy_5 ?_
  refine lv_sipush (v := 720) hx hb dX4_letGoBy_6 (by decide) ?_
  refine m_min C0 ml_X4_213 hl.1 ⟨Nat.le_of_ble_eq_true rfl, by decide, by decide⟩ (by decide) dX4_letGoBy_9 ?_
  refine lv_topE (y := nI (k + tk k d)) (mn_e hk0 hkle hd) ?_
  refine lv_istore_n (lv' := [(3, .int (nI (k + tk k d))), (0, .ref (adr G 0)), (1, .ref (adr G sc)), (2, .int (nI d))]) hx hb dX4_letGoBy_12 rfl hl (by decide) rfl (fun ls hl => ?_)
  refine lv_iconst (v := 0) hx hb dX4_letGoBy_13 (by decide) ?_
  refine lv_istore (lv' := [(4, .int 0), (3, .int (nI (k + tk k d))), (0, .ref (adr G 0)), (1, .ref (adr G sc)), (2, .int (nI d))]) hx hb dX4_letGoBy_14 hl (by decide) rfl (fun ls hl => ?_)
  refine lv_aload_n hx hb dX4_letGoBy_16 rfl (lv_at hl 3 rfl) ?_
  refine gf_X4_151 C0 hP (k := sc) (kdS hsc) dX4_letGoBy_17 ?_
  refine lv_topE (y := nI k) (hk0) ?_
  refine lv_istore (lv' := [(5, .int (nI k)), (4, .int 0), (3, .int (nI (k + tk k d))), (0, .ref (adr G 0)), (1, .ref (adr G sc)), (2, .int (nI d))]) hx hb dX4_letGoBy_20 hl (by decide) rfl (fun ls hl => ?_)
  have loop_22 : ∀ (fuel_22 : Nat) (j : Nat) (x : Int32), tk k d + 1 ≤ j + fuel_22 → (j ≤ tk k d) → (x = lgS M sc np nr k j) → ∀ (H : Heap) (locs : List Loc), PW G (lgM M sc np nr k j) o H → va_S (pA G sz) s.heap H locs → ∀ ls : Array Slot, lv_has ls 6 [(5, .int (nI (k + j))), (4, .int x), (3, .int (nI (k + tk k d))), (0, .ref (adr G 0)), (1, .ref (adr G sc)), (2, .int (nI d))] → W p l e (rmU 5 111 0 0) s m ([.ref (adr G 0), .ref (adr G sc), .int (nI d)] : List Value).toArray below meth c H locs 0 0 (MQ below (QI G (lgM M sc np nr k (tk k d)) o (lgS M sc np nr k (tk k d)) sz) ([.ref (adr G 0), .ref (adr G sc), .int (nI d)] : List Value).toArray s 0 0 (pA G sz)) (F0 m 22 ls []) := by
    intro fuel_22
    induction fuel_22 with
    | zero =>
      intro j x hf hj hxx
      exact absurd hf (by omega)
    | succ fuel_22 ih_22 =>
      intro j x hf hj hxx H locs hP hS ls hl
      refine lv_iload hx hb dX4_letGoBy_22 (lv_at hl 0 rfl) ?_
      refine lv_iload_n hx hb dX4_letGoBy_24 rfl (lv_at hl 2 rfl) ?_
      refine lv_icmp_ge (tgt := 66) hx hb dX4_letGoBy_25 (by decide) (fun c_1 => ?_) (fun c_1 => ?_)
      · have hkt := tk_le d hkle
        have hj9 : j = tk k d := by
          have := lq_ge c_1 (by omega) (by omega)
          omega
        refine lv_iload hx hb dX4_letGoBy_66 (lv_at hl 1 rfl) ?_
        have hP := PW_eq (M' := lgM M sc np nr k (tk k d)) (by rw [hj9]) hP
        exact e_Ii C0 hr hP hS (by rw [hxx, hj9]) (by decide) dX4_letGoBy_68
      · have hkt := tk_le d hkle
        have hjt := lq_lt c_1 (by omega) (by omega)
        refine lv_aload_n hx hb dX4_letGoBy_28 rfl (lv_at hl 4 rfl) ?_
        refine k_VNV C0 hP hS (rest := []) (c_X2_passersWalk l G (lgM M sc np nr k j) o sc np hsc (by rw [lgM_h1 hsc]; exact hnp) hple) mf_X2_passersWalk ml_X4_161 (kd_lt (kdS hsc) (by decide)) (ct_2 (kdS hsc)) rfl hl.1 (by decide) (by decide) (Nat.le_of_ble_eq_true rfl) rfl rfl dX4_letGoBy_29 (fun H locs hP hS => ?_)
        refine lv_iload hx hb dX4_letGoBy_32 (lv_at hl 1 rfl) ?_
        refine lv_aload_n hx hb dX4_letGoBy_34 rfl (lv_at hl 4 rfl) ?_
        refine lv_aload_n hx hb dX4_letGoBy_35 rfl (lv_at hl 3 rfl) ?_
        refine gf_X4_12 C0 hP (k := 0) (show kd 0 = 4 by decide) dX4_letGoBy_36 ?_
        refine lv_iload hx hb dX4_letGoBy_39 (lv_at hl 0 rfl) ?_
        refine k_VNI C0 hP hS (rest := [.ref (adr G sc), .int x]) (c_X3_lightAt l G (pwM (lgM M sc np nr k j) sc np) o (k + j) (by omega)) mf_X3_lightAt ml_X4_154 (kd_lt (show kd 1 = 3 by decide) (by decide)) (ct_3 (show kd 1 = 3 by decide)) rfl hl.1 (by decide) (by decide) (Nat.le_of_ble_eq_true rfl) rfl rfl dX4_letGoBy_41 (fun H locs hP hS => ?_)
        refine lv_topE (y := ltF (M 2) (M 3) (k + j)) (by rw [pwM_row (by omega), pwM_row (by omega), lgM_lo hsc (by omega), lgM_lo hsc (by omega)]) ?_
        refine k_VNI C0 hP hS (rest := [.int x]) (c_X2_roomsPay l G (pwM (lgM M sc np nr k j) sc np) o sc (ltF (M 2) (M 3) (k + j)) np nr hsc (by rw [pwM_sl (by omega), lgM_h1 hsc]; exact hnp) hple (by rw [pwM_sl (by omega), lgM_h2 hsc]; exact hnr) hrle) mf_X2_roomsPay ml_X4_218 (kd_lt (kdS hsc) (by decide)) (ct_2 (kdS hsc)) rfl hl.1 (by decide) (by decide) (Nat.le_of_ble_eq_true rfl) rfl rfl dX4_letGoBy_44 (fun H locs hP hS => ?_)
        refine lv_iadd hx hb dX4_letGoBy_47 ?_
        refine lv_istore (lv' := [(4, .int (x + (rpS (pwM (lgM M sc np nr k j) sc np) sc (ltF (M 2) (M 3) (k + j)) np nr))), (5, .int (nI (k + j))), (3, .int (nI (k + tk k d))), (0, .ref (adr G 0)), (1, .ref (adr G sc)), (2, .int (nI d))]) hx hb dX4_letGoBy_48 hl (by decide) rfl (fun ls hl => ?_)
        refine lv_aload_n hx hb dX4_letGoBy_50 rfl (lv_at hl 4 rfl) ?_
        refine lv_dup hx hb dX4_letGoBy_51 rfl ?_
        refine gf_X4_151 C0 hP (k := sc) (kdS hsc) dX4_letGoBy_52 ?_
        refine lv_iconst (v := 1) hx hb dX4_letGoBy_55 (by decide) ?_
        refine lv_iadd hx hb dX4_letGoBy_56 ?_
        refine lv_topE (y := nI (k + j + 1)) (by rw [rpM_sl (by omega), pwM_sl (by omega), lgM_h0 hsc hk0]; exact nI_1 (k + j)) ?_
        refine pf_X4_151 C0 hP hS (k := sc) (kdS hsc) dX4_letGoBy_57 (fun H locs hP hS => ?_)
        refine lv_iinc (v := nI ((k + j) + 1)) (lv' := [(5, .int (nI ((k + j) + 1))), (4, .int (x + (rpS (pwM (lgM M sc np nr k j) sc np) sc (ltF (M 2) (M 3) (k + j)) np nr))), (3, .int (nI (k + tk k d))), (0, .ref (adr G 0)), (1, .ref (adr G sc)), (2, .int (nI d))]) hx hb dX4_letGoBy_60 hl (k := 1) rfl (nI_1 (k + j)) (by decide) rfl (fun ls hl => ?_)
        refine lv_goto (tgt := 22) hx hb dX4_letGoBy_63 (by decide) ?_
        have hP := PW_eq (M' := lgM M sc np nr k (j + 1)) rfl hP
        exact ih_22 (j + 1) _ (by omega) (by omega) (by rw [hxx]; rfl) _ _ hP hS _ (lv_sub hl [0, 1, 2, 3, 4, 5] rfl)
  exact loop_22 (tk k d + 1) 0 0 (by omega) (by omega) rfl _ _ hP hS _ (lv_sub hl [0, 1, 2, 3, 4, 5] rfl)

set_option maxHeartbeats 4000000 in
set_option maxRecDepth 100000 in
theorem c_X4_go (l : Launch) (G : GG) (M : Mem) (o : Nat → Int64) (np nr k : Nat) (hO : OKM M np nr k) (d : Nat) (hd1 : 1 ≤ d) (hd2 : d ≤ 720)  : MI l yX4_go cX4_go 2 (some .int) 6 136 G [.ref (adr G 0), .int (nI d)] M (lgM M 4 np nr k (tk k d)) o o (lgS M 4 np nr k (tk k d)) 0 0 := by
  refine MI_of RX4 rfl (by decide +kernel) (Nat.le_of_ble_eq_true rfl) ?_
  intro p e s m below meth c sz C0 hr hP ls hl
  have hx := C0.1
  have hb := C0.2.1
  have hS : va_S (pA G sz) s.heap s.heap [] := va_S.rf
  have hl : lv_has ls 2 [(0, .ref (adr G 0)), (1, .int (nI d))] := hl
  obtain ⟨hnp, hple, hnr, hrle, hk0, hkle⟩ := id hO
  refine lv_iload_n hx hb dX4_go_0 rfl (lv_at hl 1 rfl) ?_
  refine lv_sipush (v := 720) hx hb dX4_go_1 (by decide) ?_
  refine k_SV C0 hP hS (rest := []) (c_X4_needMinutes l G M o d 720 (by omega) (by omega) (by omega)) mf_X4_needMinutes rfl ml_X4_140 hl.1 (by decide) (by decide) (Nat.le_of_ble_eq_true rfl) rfl rfl dX4_go_4 (fun H locs hP hS => ?_)
  refine lv_aload_n hx hb dX4_go_7 rfl (lv_at hl 0 rfl) ?_
  refine lv_aload_n hx hb dX4_go_8 rfl (lv_at hl 0 rfl) ?_
  refine gf_X4_19 C0 hP (k := 0) (show kd 0 = 4 by decide) dX4_go_9 ?_
  refine lv_iload_n hx hb dX4_go_12 rfl (lv_at hl 1 rfl) ?_
  refine k_VI C0 hP hS (rest := []) (c_X4_letGoBy l G M o 4 np nr k d (Or.inl rfl) hnp hple hnr hrle hk0 hkle (by omega)) mf_X4_letGoBy ml_X4_143 (kd_lt (show kd 0 = 4 by decide) (by decide)) (ct_4 (show kd 0 = 4 by decide)) rfl hl.1 (by decide) (by decide) (Nat.le_of_ble_eq_true rfl) rfl rfl dX4_go_13 (fun H locs hP hS => ?_)
  exact e_Ii C0 hr hP hS rfl (by decide) dX4_go_16

set_option maxHeartbeats 4000000 in
set_option maxRecDepth 100000 in
theorem c_X4_go_a (l : Launch) (G : GG) (M : Mem) (o : Nat → Int64) (hst : l.stackTraces = false) (np nr k : Nat) (hO : OKM M np nr k) (x1 : Int32) (hbd : x1 < 1 ∨ ¬ x1 ≤ 720) : MX l yX4_go cX4_go 2 (some .int) 7 110 G [.ref (adr G 0), .int x1] M M o o "java/lang/IllegalArgumentException" 1 6 := by
  refine MX_of RX4 rfl (by decide +kernel) (Nat.le_of_ble_eq_true rfl) ?_
  intro p e s m below meth c sz C0 hx0 hP ls hl
  have hx := C0.1
  have hb := C0.2.1
  have hS : va_S (pA G sz) s.heap s.heap [] := va_S.rf
  have hl : lv_has ls 2 [(0, .ref (adr G 0)), (1, .int x1)] := hl
  obtain ⟨hnp, hple, hnr, hrle, hk0, hkle⟩ := id hO
  refine lv_iload_n hx hb dX4_go_0 rfl (lv_at hl 1 rfl) ?_
  refine lv_sipush (v := 720) hx hb dX4_go_1 (by decide) ?_
  refine k_SX C0 hP hS (rest := []) (c_X4_needMinutes_x l G M o hst x1 720 hbd) mf_X4_needMinutes rfl ml_X4_140 hl.1 (by decide) (by decide) (Nat.le_of_ble_eq_true rfl) rfl rfl dX4_go_4 (fun ce q9 H locs hP hS hce hcv hcl => ?_)
  exact e_X C0 hx0 hP hS hce hcv hcl (by decide)

set_option maxHeartbeats 4000000 in
set_option maxRecDepth 100000 in
theorem c_X4_foresee (l : Launch) (G : GG) (M : Mem) (o : Nat → Int64) (np nr k : Nat) (hO : OKM M np nr k) (d : Nat) (hd1 : 1 ≤ d) (hd2 : d ≤ 720) (w : Nat) (hw : w < 3) : MI l yX4_foresee cX4_foresee 4 (some .int) 6 136 G [.ref (adr G 0), .int (nI d), .int (nI w)] M (lgM (cpM M np nr) 25 np nr k (tk k d)) o o (fsF M np nr k d w) 0 0 := by
  refine MI_of RX4 rfl (by decide +kernel) (Nat.le_of_ble_eq_true rfl) ?_
  intro p e s m below meth c sz C0 hr hP ls hl
  have hx := C0.1
  have hb := C0.2.1
  have hS : va_S (pA G sz) s.heap s.heap [] := va_S.rf
  have hl : lv_has ls 4 [(0, .ref (adr G 0)), (1, .int (nI d)), (2, .int (nI w))] := hl
  obtain ⟨hnp, hple, hnr, hrle, hk0, hkle⟩ := id hO
  refine lv_iload_n hx hb dX4_foresee_0 rfl (lv_at hl 1 rfl) ?_
  refine lv_sipush (v := 720) hx hb dX4_foresee_1 (by decide) ?_
  refine k_SV C0 hP hS (rest := []) (c_X4_needMinutes l G M o d 720 (by omega) (by omega) (by omega)) mf_X4_needMinutes rfl ml_X4_140 hl.1 (by decide) (by decide) (Nat.le_of_ble_eq_true rfl) rfl rfl dX4_foresee_4 (fun H locs hP hS => ?_)
  refine lv_iload_n hx hb dX4_foresee_7 rfl (lv_at hl 2 rfl) ?_
  refine lv_iconst (v := 3) hx hb dX4_foresee_8 (by decide) ?_
  refine k_SV C0 hP hS (rest := []) (c_X4_needBelow l G M o w 3 (by omega) (by omega)) mf_X4_needBelow rfl ml_X4_105 hl.1 (by decide) (by decide) (Nat.le_of_ble_eq_true rfl) rfl rfl dX4_foresee_9 (fun H locs hP hS => ?_)
  refine lv_aload_n hx hb dX4_foresee_12 rfl (lv_at hl 0 rfl) ?_
  refine gf_X4_23 C0 hP (k := 0) (show kd 0 = 4 by decide) dX4_foresee_13 ?_
  refine lv_aload_n hx hb dX4_foresee_16 rfl (lv_at hl 0 rfl) ?_
  refine gf_X4_19 C0 hP (k := 0) (show kd 0 = 4 by decide) dX4_foresee_17 ?_
  refine k_VNV C0 hP hS (rest := []) (c_X2_copyFrom l G M o np nr hnp hple hnr hrle) mf_X2_copyFrom ml_X4_147 (kd_lt (show kd 25 = 2 by decide) (by decide)) (ct_2 (show kd 25 = 2 by decide)) rfl hl.1 (by decide) (by decide) (Nat.le_of_ble_eq_true rfl) rfl rfl dX4_foresee_20 (fun H locs hP hS => ?_)
  refine lv_aload_n hx hb dX4_foresee_23 rfl (lv_at hl 0 rfl) ?_
  refine lv_aload_n hx hb dX4_foresee_24 rfl (lv_at hl 0 rfl) ?_
  refine gf_X4_23 C0 hP (k := 0) (show kd 0 = 4 by decide) dX4_foresee_25 ?_
  refine lv_iload_n hx hb dX4_foresee_28 rfl (lv_at hl 1 rfl) ?_
  refine k_VI C0 hP hS (rest := []) (c_X4_letGoBy l G (cpM M np nr) o 25 np nr k d (Or.inr rfl) (by rw [cpM_25 (by decide)]; exact hnp) hple (by rw [cpM_25 (by decide)]; exact hnr) hrle (by rw [cpM_25 (by decide)]; exact hk0) hkle (by omega)) mf_X4_letGoBy ml_X4_143 (kd_lt (show kd 0 = 4 by decide) (by decide)) (ct_4 (show kd 0 = 4 by decide)) rfl hl.1 (by decide) (by decide) (Nat.le_of_ble_eq_true rfl) rfl rfl dX4_foresee_29 (fun H locs hP hS => ?_)
  refine lv_istore_n (lv' := [(3, .int (lgS (cpM M np nr) 25 np nr k (tk k d))), (0, .ref (adr G 0)), (1, .int (nI d)), (2, .int (nI w))]) hx hb dX4_foresee_32 rfl hl (by decide) rfl (fun ls hl => ?_)
  refine lv_iload_n hx hb dX4_foresee_33 rfl (lv_at hl 3 rfl) ?_
  refine lv_if_ne (tgt := 39) hx hb dX4_foresee_34 (by decide) (fun c_1 => ?_) (fun c_1 => ?_)
  · have hw1 : w ≠ 0 := fun z => c_1 (by rw [z]; rfl)
    refine lv_iload_n hx hb dX4_foresee_39 rfl (lv_at hl 3 rfl) ?_
    refine lv_iconst (v := 1) hx hb dX4_foresee_40 (by decide) ?_
    refine lv_icmp_ne (tgt := 54) hx hb dX4_foresee_41 (by decide) (fun c_2 => ?_) (fun c_2 => ?_)
    · have hw0 : w = 2 := by
        have : w ≠ 1 := fun z => c_2 (by rw [z]; rfl)
        omega
      refine lv_aload_n hx hb dX4_foresee_54 rfl (lv_at hl 1 rfl) ?_
      refine gf_X4_23 C0 hP (k := 0) (show kd 0 = 4 by decide) dX4_foresee_55 ?_
      refine gf_X4_36 C0 hP (k := 25) (show kd 25 = 2 by decide) dX4_foresee_58 ?_
      refine lv_topE (y := nI np) (by rw [lgM_h1 (Or.inr rfl), cpM_25 (by decide)]; exact hnp) ?_
      refine lv_aload_n hx hb dX4_foresee_61 rfl (lv_at hl 1 rfl) ?_
      refine gf_X4_23 C0 hP (k := 0) (show kd 0 = 4 by decide) dX4_foresee_62 ?_
      refine k_VNI C0 hP hS (rest := [.int (nI np)]) (c_X2_passersGone l G (lgM (cpM M np nr) 25 np nr k (tk k d)) o 25 np (Or.inr rfl) (by rw [lgM_h1 (Or.inr rfl), cpM_25 (by decide)]; exact hnp) hple) mf_X2_passersGone ml_X4_181 (kd_lt (show kd 25 = 2 by decide) (by decide)) (ct_2 (show kd 25 = 2 by decide)) rfl hl.1 (by decide) (by decide) (Nat.le_of_ble_eq_true rfl) rfl rfl dX4_foresee_65 (fun H locs hP hS => ?_)
      refine lv_isub hx hb dX4_foresee_68 ?_
      exact e_Ii C0 hr hP hS (by rw [hw0]; rfl) (by decide) dX4_foresee_69
    · have hw0 : w = 1 := (nI_eq (b := 1) (by omega) (by omega)).mp c_2
      refine lv_aload_n hx hb dX4_foresee_44 rfl (lv_at hl 1 rfl) ?_
      refine gf_X4_23 C0 hP (k := 0) (show kd 0 = 4 by decide) dX4_foresee_45 ?_
      refine k_VNI C0 hP hS (rest := []) (c_X2_allPeople l G (lgM (cpM M np nr) 25 np nr k (tk k d)) o 25 nr (Or.inr rfl) (by rw [lgM_h2 (Or.inr rfl), cpM_25 (by decide)]; exact hnr) hrle) mf_X2_allPeople ml_X4_178 (kd_lt (show kd 25 = 2 by decide) (by decide)) (ct_2 (show kd 25 = 2 by decide)) rfl hl.1 (by decide) (by decide) (Nat.le_of_ble_eq_true rfl) rfl rfl dX4_foresee_48 (fun H locs hP hS => ?_)
      refine lv_goto (tgt := 69) hx hb dX4_foresee_51 (by decide) ?_
      exact e_Ii C0 hr hP hS (by rw [hw0]; rfl) (by decide) dX4_foresee_69
  · have hw0 : w = 0 := (nI_eq (b := 0) (by omega) (by omega)).mp c_1
    refine lv_iload_n hx hb dX4_foresee_37 rfl (lv_at hl 0 rfl) ?_
    exact e_Ii C0 hr hP hS (by rw [hw0]; rfl) (by decide) dX4_foresee_38

set_option maxHeartbeats 4000000 in
set_option maxRecDepth 100000 in
theorem c_X4_foresee_a (l : Launch) (G : GG) (M : Mem) (o : Nat → Int64) (hst : l.stackTraces = false) (np nr k : Nat) (hO : OKM M np nr k) (x1 a2 : Int32) (hbd : x1 < 1 ∨ ¬ x1 ≤ 720) : MX l yX4_foresee cX4_foresee 4 (some .int) 7 110 G [.ref (adr G 0), .int x1, .int a2] M M o o "java/lang/IllegalArgumentException" 1 6 := by
  refine MX_of RX4 rfl (by decide +kernel) (Nat.le_of_ble_eq_true rfl) ?_
  intro p e s m below meth c sz C0 hx0 hP ls hl
  have hx := C0.1
  have hb := C0.2.1
  have hS : va_S (pA G sz) s.heap s.heap [] := va_S.rf
  have hl : lv_has ls 4 [(0, .ref (adr G 0)), (1, .int x1), (2, .int a2)] := hl
  obtain ⟨hnp, hple, hnr, hrle, hk0, hkle⟩ := id hO
  refine lv_iload_n hx hb dX4_foresee_0 rfl (lv_at hl 1 rfl) ?_
  refine lv_sipush (v := 720) hx hb dX4_foresee_1 (by decide) ?_
  refine k_SX C0 hP hS (rest := []) (c_X4_needMinutes_x l G M o hst x1 720 hbd) mf_X4_needMinutes rfl ml_X4_140 hl.1 (by decide) (by decide) (Nat.le_of_ble_eq_true rfl) rfl rfl dX4_foresee_4 (fun ce q9 H locs hP hS hce hcv hcl => ?_)
  exact e_X C0 hx0 hP hS hce hcv hcl (by decide)

set_option maxHeartbeats 4000000 in
set_option maxRecDepth 100000 in
theorem c_X4_foresee_i (l : Launch) (G : GG) (M : Mem) (o : Nat → Int64) (hst : l.stackTraces = false) (np nr k : Nat) (hO : OKM M np nr k) (d : Nat) (hd1 : 1 ≤ d) (hd2 : d ≤ 720) (a2 : Int32) (hbd : a2 < 0 ∨ ¬ a2 < 3) : MX l yX4_foresee cX4_foresee 4 (some .int) 7 110 G [.ref (adr G 0), .int (nI d), .int a2] M M o o "java/lang/IndexOutOfBoundsException" 1 6 := by
  refine MX_of RX4 rfl (by decide +kernel) (Nat.le_of_ble_eq_true rfl) ?_
  intro p e s m below meth c sz C0 hx0 hP ls hl
  have hx := C0.1
  have hb := C0.2.1
  have hS : va_S (pA G sz) s.heap s.heap [] := va_S.rf
  have hl : lv_has ls 4 [(0, .ref (adr G 0)), (1, .int (nI d)), (2, .int a2)] := hl
  obtain ⟨hnp, hple, hnr, hrle, hk0, hkle⟩ := id hO
  refine lv_iload_n hx hb dX4_foresee_0 rfl (lv_at hl 1 rfl) ?_
  refine lv_sipush (v := 720) hx hb dX4_foresee_1 (by decide) ?_
  refine k_SV C0 hP hS (rest := []) (c_X4_needMinutes l G M o d 720 (by omega) (by omega) (by omega)) mf_X4_needMinutes rfl ml_X4_140 hl.1 (by decide) (by decide) (Nat.le_of_ble_eq_true rfl) rfl rfl dX4_foresee_4 (fun H locs hP hS => ?_)
  refine lv_iload_n hx hb dX4_foresee_7 rfl (lv_at hl 2 rfl) ?_
  refine lv_iconst (v := 3) hx hb dX4_foresee_8 (by decide) ?_
  refine k_SX C0 hP hS (rest := []) (c_X4_needBelow_x l G M o hst a2 3 hbd) mf_X4_needBelow rfl ml_X4_105 hl.1 (by decide) (by decide) (Nat.le_of_ble_eq_true rfl) rfl rfl dX4_foresee_9 (fun ce q9 H locs hP hS hce hcv hcl => ?_)
  exact e_X C0 hx0 hP hS hce hcv hcl (by decide)

set_option maxHeartbeats 4000000 in
set_option maxRecDepth 100000 in
theorem c_X4_when (l : Launch) (G : GG) (M : Mem) (o : Nat → Int64) (np nr k : Nat) (hO : OKM M np nr k) (r : Nat) (hr0 : r < nr) : MI l yX4_when cX4_when 6 (some .int) 4 88 G [.ref (adr G 0), .int (nI r)] M (itW (cpM M np nr) 25 np (720 - k)) o o ((whF (0, -1) (whP M np nr k r) (fun j => nI (k + j)) (720 - k)).2) 0 0 := by
  refine MI_of RX4 rfl (by decide +kernel) (Nat.le_of_ble_eq_true rfl) ?_
  intro p e s m below meth c sz C0 hr hP ls hl
  have hx := C0.1
  have hb := C0.2.1
  have hS : va_S (pA G sz) s.heap s.heap [] := va_S.rf
  have hl : lv_has ls 6 [(0, .ref (adr G 0)), (1, .int (nI r))] := hl
  obtain ⟨hnp, hple, hnr, hrle, hk0, hkle⟩ := id hO
  refine lv_aload_n hx hb dX4_when_0 rfl (lv_at hl 0 rfl) ?_
  refine lv_iload_n hx hb dX4_when_1 rfl (lv_at hl 1 rfl) ?_
  refine k_VV C0 hP hS (rest := []) (c_X4_needRoom l G M o np nr k hO r (by omega)) mf_X4_needRoom ml_X4_86 (kd_lt (show kd 0 = 4 by decide) (by decide)) (ct_4 (show kd 0 = 4 by decide)) rfl hl.1 (by decide) (by decide) (Nat.le_of_ble_eq_true rfl) rfl rfl dX4_when_2 (fun H locs hP hS => ?_)
  refine lv_aload_n hx hb dX4_when_5 rfl (lv_at hl 0 rfl) ?_
  refine gf_X4_23 C0 hP (k := 0) (show kd 0 = 4 by decide) dX4_when_6 ?_
  refine lv_aload_n hx hb dX4_when_9 rfl (lv_at hl 0 rfl) ?_
  refine gf_X4_19 C0 hP (k := 0) (show kd 0 = 4 by decide) dX4_when_10 ?_
  refine k_VNV C0 hP hS (rest := []) (c_X2_copyFrom l G M o np nr hnp hple hnr hrle) mf_X2_copyFrom ml_X4_147 (kd_lt (show kd 25 = 2 by decide) (by decide)) (ct_2 (show kd 25 = 2 by decide)) rfl hl.1 (by decide) (by decide) (Nat.le_of_ble_eq_true rfl) rfl rfl dX4_when_13 (fun H locs hP hS => ?_)
  refine lv_iconst (v := 0) hx hb dX4_when_16 (by decide) ?_
  refine lv_istore_n (lv' := [(2, .int 0), (0, .ref (adr G 0)), (1, .int (nI r))]) hx hb dX4_when_17 rfl hl (by decide) rfl (fun ls hl => ?_)
  refine lv_iconst (v := -1) hx hb dX4_when_18 (by decide) ?_
  refine lv_istore_n (lv' := [(3, .int (-1)), (2, .int 0), (0, .ref (adr G 0)), (1, .int (nI r))]) hx hb dX4_when_19 rfl hl (by decide) rfl (fun ls hl => ?_)
  refine lv_aload_n hx hb dX4_when_20 rfl (lv_at hl 2 rfl) ?_
  refine gf_X4_19 C0 hP (k := 0) (show kd 0 = 4 by decide) dX4_when_21 ?_
  refine gf_X4_151 C0 hP (k := 4) (show kd 4 = 2 by decide) dX4_when_24 ?_
  refine lv_topE (y := nI k) (by rw [cpM_lo (by omega) hple hrle]; exact hk0) ?_
  refine lv_istore (lv' := [(4, .int (nI k)), (3, .int (-1)), (2, .int 0), (0, .ref (adr G 0)), (1, .int (nI r))]) hx hb dX4_when_27 hl (by decide) rfl (fun ls hl => ?_)
  have loop_29 : ∀ (fuel_29 : Nat) (j : Nat) (g : Int32) (b : Int32), (720 - k) + 1 ≤ j + fuel_29 → (k + j ≤ 720) → ((g, b) = whF (0, -1) (whP M np nr k r) (fun j => nI (k + j)) j) → ∀ (H : Heap) (locs : List Loc), PW G (itW (cpM M np nr) 25 np j) o H → va_S (pA G sz) s.heap H locs → ∀ ls : Array Slot, lv_has ls 6 [(4, .int (nI (k + j))), (3, .int b), (2, .int g), (0, .ref (adr G 0)), (1, .int (nI r))] → W p l e (rmU 4 88 0 0) s m ([.ref (adr G 0), .int (nI r)] : List Value).toArray below meth c H locs 0 0 (MQ below (QI G (itW (cpM M np nr) 25 np (720 - k)) o ((whF (0, -1) (whP M np nr k r) (fun j => nI (k + j)) (720 - k)).2) sz) ([.ref (adr G 0), .int (nI r)] : List Value).toArray s 0 0 (pA G sz)) (F0 m 29 ls []) := by
    intro fuel_29
    induction fuel_29 with
    | zero =>
      intro j g b hf hj hgb
      exact absurd hf (by omega)
    | succ fuel_29 ih_29 =>
      intro j g b hf hj hgb H locs hP hS ls hl
      refine lv_iload hx hb dX4_when_29 (lv_at hl 0 rfl) ?_
      refine lv_sipush (v := 720) hx hb dX4_when_31 (by decide) ?_
      refine lv_icmp_ge (tgt := 89) hx hb dX4_when_34 (by decide) (fun c_1 => ?_) (fun c_1 => ?_)
      · have hj9 : 720 - k = j := by
          have := lq_ge (n := 720) c_1 (by omega) (by omega)
          omega
        refine lv_iload_n hx hb dX4_when_89 rfl (lv_at hl 1 rfl) ?_
        have hP := PW_eq (M' := itW (cpM M np nr) 25 np (720 - k)) (by rw [hj9]) hP
        exact e_Ii C0 hr hP hS (by rw [hj9, ← hgb]) (by decide) dX4_when_90
      · have hjt := lq_lt (n := 720) c_1 (by omega) (by omega)
        refine lv_aload_n hx hb dX4_when_37 rfl (lv_at hl 3 rfl) ?_
        refine gf_X4_23 C0 hP (k := 0) (show kd 0 = 4 by decide) dX4_when_38 ?_
        refine lv_aload_n hx hb dX4_when_41 rfl (lv_at hl 3 rfl) ?_
        refine gf_X4_23 C0 hP (k := 0) (show kd 0 = 4 by decide) dX4_when_42 ?_
        refine gf_X4_76 C0 hP (k := 25) (show kd 25 = 2 by decide) dX4_when_45 ?_
        refine lv_iload_n hx hb dX4_when_48 rfl (lv_at hl 4 rfl) ?_
        refine w_aldR C0 hP (k := 25 + 2) (i := r) (kdS2 (Or.inr rfl)) (by omega) dX4_when_49 ?_
        refine lv_aload_n hx hb dX4_when_50 rfl (lv_at hl 3 rfl) ?_
        refine gf_X4_12 C0 hP (k := 0) (show kd 0 = 4 by decide) dX4_when_51 ?_
        refine lv_iload hx hb dX4_when_54 (lv_at hl 0 rfl) ?_
        refine k_VNI C0 hP hS (rest := [.ref (adr G (25 + 13 + r)), .ref (adr G 25)]) (c_X3_lightAt l G (itW (cpM M np nr) 25 np j) o (k + j) (by omega)) mf_X3_lightAt ml_X4_154 (kd_lt (show kd 1 = 3 by decide) (by decide)) (ct_3 (show kd 1 = 3 by decide)) rfl hl.1 (by decide) (by decide) (Nat.le_of_ble_eq_true rfl) rfl rfl dX4_when_56 (fun H locs hP hS => ?_)
        refine lv_topE (y := ltF (M 2) (M 3) (k + j)) (by rw [itW_row (by omega), itW_row (by omega), cpM_row (by omega) hple hrle, cpM_row (by omega) hple hrle]) ?_
        refine k_VNI C0 hP hS (rest := []) (c_X2_showIn l G (itW (cpM M np nr) 25 np j) o 25 (25 + 13 + r) (ltF (M 2) (M 3) (k + j)) np (Or.inr rfl) (kdSr (Or.inr rfl) (by omega)) (by rw [itW_h1, cpM_25 (by decide)]; exact hnp) hple) mf_X2_showIn ml_X4_157 (kd_lt (show kd 25 = 2 by decide) (by decide)) (ct_2 (show kd 25 = 2 by decide)) rfl hl.1 (by decide) (by decide) (Nat.le_of_ble_eq_true rfl) rfl rfl dX4_when_59 (fun H locs hP hS => ?_)
        refine lv_istore (lv' := [(5, .int (siM (itW (cpM M np nr) 25 np j) 25 (25 + 13 + r) (ltF (M 2) (M 3) (k + j)) np)), (4, .int (nI (k + j))), (3, .int b), (2, .int g), (0, .ref (adr G 0)), (1, .int (nI r))]) hx hb dX4_when_62 hl (by decide) rfl (fun ls hl => ?_)
        refine lv_iload hx hb dX4_when_64 (lv_at hl 0 rfl) ?_
        refine lv_iload_n hx hb dX4_when_66 rfl (lv_at hl 3 rfl) ?_
        refine lv_icmp_le (tgt := 76) hx hb dX4_when_67 (by decide) (fun c_2 => ?_) (fun c_2 => ?_)
        · have hk9 := hjt
          refine lv_aload_n hx hb dX4_when_76 rfl (lv_at hl 4 rfl) ?_
          refine gf_X4_23 C0 hP (k := 0) (show kd 0 = 4 by decide) dX4_when_77 ?_
          refine k_VNV C0 hP hS (rest := []) (c_X2_passersWalk l G (itW (cpM M np nr) 25 np j) o 25 np (Or.inr rfl) (by rw [itW_h1, cpM_25 (by decide)]; exact hnp) hple) mf_X2_passersWalk ml_X4_161 (kd_lt (show kd 25 = 2 by decide) (by decide)) (ct_2 (show kd 25 = 2 by decide)) rfl hl.1 (by decide) (by decide) (Nat.le_of_ble_eq_true rfl) rfl rfl dX4_when_80 (fun H locs hP hS => ?_)
          refine lv_iinc (v := nI ((k + j) + 1)) (lv' := [(4, .int (nI ((k + j) + 1))), (5, .int (siM (itW (cpM M np nr) 25 np j) 25 (25 + 13 + r) (ltF (M 2) (M 3) (k + j)) np)), (3, .int b), (2, .int g), (0, .ref (adr G 0)), (1, .int (nI r))]) hx hb dX4_when_83 hl (k := 1) rfl (nI_1 (k + j)) (by decide) rfl (fun ls hl => ?_)
          refine lv_goto (tgt := 29) hx hb dX4_when_86 (by decide) ?_
          have hP := PW_eq (M' := itW (cpM M np nr) 25 np (j + 1)) rfl hP
          exact ih_29 (j + 1) _ _ (by omega) (by omega) (whF_s1 c_2 hgb) _ _ hP hS _ (lv_sub hl [0, 2, 3, 4, 5] rfl)
        · have hk9 := hjt
          refine lv_iload hx hb dX4_when_70 (lv_at hl 0 rfl) ?_
          refine lv_istore_n (lv' := [(2, .int (siM (itW (cpM M np nr) 25 np j) 25 (25 + 13 + r) (ltF (M 2) (M 3) (k + j)) np)), (5, .int (siM (itW (cpM M np nr) 25 np j) 25 (25 + 13 + r) (ltF (M 2) (M 3) (k + j)) np)), (4, .int (nI (k + j))), (3, .int b), (0, .ref (adr G 0)), (1, .int (nI r))]) hx hb dX4_when_72 rfl hl (by decide) rfl (fun ls hl => ?_)
          refine lv_iload hx hb dX4_when_73 (lv_at hl 2 rfl) ?_
          refine lv_istore_n (lv' := [(3, .int (nI (k + j))), (2, .int (siM (itW (cpM M np nr) 25 np j) 25 (25 + 13 + r) (ltF (M 2) (M 3) (k + j)) np)), (5, .int (siM (itW (cpM M np nr) 25 np j) 25 (25 + 13 + r) (ltF (M 2) (M 3) (k + j)) np)), (4, .int (nI (k + j))), (0, .ref (adr G 0)), (1, .int (nI r))]) hx hb dX4_when_75 rfl hl (by decide) rfl (fun ls hl => ?_)
          refine lv_aload_n hx hb dX4_when_76 rfl (lv_at hl 4 rfl) ?_
          refine gf_X4_23 C0 hP (k := 0) (show kd 0 = 4 by decide) dX4_when_77 ?_
          refine k_VNV C0 hP hS (rest := []) (c_X2_passersWalk l G (itW (cpM M np nr) 25 np j) o 25 np (Or.inr rfl) (by rw [itW_h1, cpM_25 (by decide)]; exact hnp) hple) mf_X2_passersWalk ml_X4_161 (kd_lt (show kd 25 = 2 by decide) (by decide)) (ct_2 (show kd 25 = 2 by decide)) rfl hl.1 (by decide) (by decide) (Nat.le_of_ble_eq_true rfl) rfl rfl dX4_when_80 (fun H locs hP hS => ?_)
          refine lv_iinc (v := nI ((k + j) + 1)) (lv' := [(4, .int (nI ((k + j) + 1))), (3, .int (nI (k + j))), (2, .int (siM (itW (cpM M np nr) 25 np j) 25 (25 + 13 + r) (ltF (M 2) (M 3) (k + j)) np)), (5, .int (siM (itW (cpM M np nr) 25 np j) 25 (25 + 13 + r) (ltF (M 2) (M 3) (k + j)) np)), (0, .ref (adr G 0)), (1, .int (nI r))]) hx hb dX4_when_83 hl (k := 3) rfl (nI_1 (k + j)) (by decide) rfl (fun ls hl => ?_)
          refine lv_goto (tgt := 29) hx hb dX4_when_86 (by decide) ?_
          have hP := PW_eq (M' := itW (cpM M np nr) 25 np (j + 1)) rfl hP
          exact ih_29 (j + 1) _ _ (by omega) (by omega) (whF_s2 c_2 hgb) _ _ hP hS _ (lv_sub hl [0, 1, 2, 4, 5] rfl)
  exact loop_29 (720 - k + 1) 0 0 (-1) (by omega) (by omega) rfl _ _ hP hS _ (lv_sub hl [0, 1, 2, 3, 4] rfl)

set_option maxHeartbeats 4000000 in
set_option maxRecDepth 100000 in
theorem c_X4_when_i (l : Launch) (G : GG) (M : Mem) (o : Nat → Int64) (hst : l.stackTraces = false) (np nr k : Nat) (hO : OKM M np nr k) (x1 : Int32) (hbd : x1 < 0 ∨ ¬ x1 < nI nr) : MX l yX4_when cX4_when 6 (some .int) 8 131 G [.ref (adr G 0), .int x1] M M o o "java/lang/IndexOutOfBoundsException" 1 6 := by
  refine MX_of RX4 rfl (by decide +kernel) (Nat.le_of_ble_eq_true rfl) ?_
  intro p e s m below meth c sz C0 hx0 hP ls hl
  have hx := C0.1
  have hb := C0.2.1
  have hS : va_S (pA G sz) s.heap s.heap [] := va_S.rf
  have hl : lv_has ls 6 [(0, .ref (adr G 0)), (1, .int x1)] := hl
  obtain ⟨hnp, hple, hnr, hrle, hk0, hkle⟩ := id hO
  refine lv_aload_n hx hb dX4_when_0 rfl (lv_at hl 0 rfl) ?_
  refine lv_iload_n hx hb dX4_when_1 rfl (lv_at hl 1 rfl) ?_
  refine k_VX C0 hP hS (rest := []) (c_X4_needRoom_x l G M o hst np nr k hO x1 hbd) mf_X4_needRoom ml_X4_86 (kd_lt (show kd 0 = 4 by decide) (by decide)) (ct_4 (show kd 0 = 4 by decide)) rfl hl.1 (by decide) (by decide) (Nat.le_of_ble_eq_true rfl) rfl rfl dX4_when_2 (fun ce q9 H locs hP hS hce hcv hcl => ?_)
  exact e_X C0 hx0 hP hS hce hcv hcl (by decide)

set_option maxHeartbeats 4000000 in
set_option maxRecDepth 100000 in
theorem c_X4_paidWithHole (l : Launch) (G : GG) (M : Mem) (o : Nat → Int64) (np nr k : Nat) (hO : OKM M np nr k) (r h d : Nat) (hr0 : r < nr) (hd : d ≤ 720) : MI l yX4_paidWithHole cX4_paidWithHole 8 (some .int) 4 88 G [.ref (adr G 0), .int (nI r), .int (nI h), .int (nI d)] M (pwhM M np nr k r h (tk k d)) o o (pwhS M np nr k r h (tk k d)) 0 0 := by
  refine MI_of RX4 rfl (by decide +kernel) (Nat.le_of_ble_eq_true rfl) ?_
  intro p e s m below meth c sz C0 hr hP ls hl
  have hx := C0.1
  have hb := C0.2.1
  have hS : va_S (pA G sz) s.heap s.heap [] := va_S.rf
  have hl : lv_has ls 8 [(0, .ref (adr G 0)), (1, .int (nI r)), (2, .int (nI h)), (3, .int (nI d))] := hl
  obtain ⟨hnp, hple, hnr, hrle, hk0, hkle⟩ := id hO
  refine lv_aload_n hx hb dX4_paidWithHole_0 rfl (lv_at hl 0 rfl) ?_
  refine gf_X4_23 C0 hP (k := 0) (show kd 0 = 4 by decide) dX4_paidWithHole_1 ?_
  refine lv_aload_n hx hb dX4_paidWithHole_4 rfl (lv_at hl 0 rfl) ?_
  refine gf_X4_19 C0 hP (k := 0) (show kd 0 = 4 by decide) dX4_paidWithHole_5 ?_
  refine k_VNV C0 hP hS (rest := []) (c_X2_copyFrom l G M o np nr hnp hple hnr hrle) mf_X2_copyFrom ml_X4_147 (kd_lt (show kd 25 = 2 by decide) (by decide)) (ct_2 (show kd 25 = 2 by decide)) rfl hl.1 (by decide) (by decide) (Nat.le_of_ble_eq_true rfl) rfl rfl dX4_paidWithHole_8 (fun H locs hP hS => ?_)
  refine lv_aload_n hx hb dX4_paidWithHole_11 rfl (lv_at hl 0 rfl) ?_
  refine gf_X4_23 C0 hP (k := 0) (show kd 0 = 4 by decide) dX4_paidWithHole_12 ?_
  refine gf_X4_76 C0 hP (k := 25) (show kd 25 = 2 by decide) dX4_paidWithHole_15 ?_
  refine lv_iload_n hx hb dX4_paidWithHole_18 rfl (lv_at hl 1 rfl) ?_
  refine w_aldR C0 hP (k := 25 + 2) (i := r) (kdS2 (Or.inr rfl)) (by omega) dX4_paidWithHole_19 ?_
  refine lv_astore (lv' := [(4, .ref (adr G (25 + 13 + r))), (0, .ref (adr G 0)), (1, .int (nI r)), (2, .int (nI h)), (3, .int (nI d))]) hx hb dX4_paidWithHole_20 hl (by decide) rfl (fun ls hl => ?_)
  refine lv_aload hx hb dX4_paidWithHole_22 (lv_at hl 0 rfl) ?_
  refine lv_iload_n hx hb dX4_paidWithHole_24 rfl (lv_at hl 3 rfl) ?_
  refine pf_X4_90 C0 hP hS (k := 25 + 13 + r) (kdSr (Or.inr rfl) (by omega)) dX4_paidWithHole_25 (fun H locs hP hS => ?_)
  refine lv_aload_n hx hb dX4_paidWithHole_28 rfl (lv_at hl 1 rfl) ?_
  refine gf_X4_19 C0 hP (k := 0) (show kd 0 = 4 by decide) dX4_paidWithHole_29 ?_
  refine gf_X4_151 C0 hP (k := 4) (show kd 4 = 2 by decide) dX4_paidWithHole_32 ?_
  refine lv_iload_n hx hb dX4_paidWithHole_35 rfl (lv_at hl 4 rfl) ?_
  refine lv_iadd hx hb dX4_paidWithHole_36 ?_
  refine lv_sipush (v := 720) hx hb dX4_paidWithHole_37 (by decide) ?_
  refine m_min C0 ml_X4_213 hl.1 ⟨Nat.le_of_ble_eq_true rfl, by decide, by decide⟩ (by decide) dX4_paidWithHole_40 ?_
  refine lv_topE (y := nI (k + tk k d)) (mn_e (by rw [u2_ne (by omega), cpM_lo (by omega) hple hrle]; exact hk0) hkle hd) ?_
  refine lv_istore (lv' := [(5, .int (nI (k + tk k d))), (4, .ref (adr G (25 + 13 + r))), (0, .ref (adr G 0)), (1, .int (nI r)), (2, .int (nI h)), (3, .int (nI d))]) hx hb dX4_paidWithHole_43 hl (by decide) rfl (fun ls hl => ?_)
  refine lv_iconst (v := 0) hx hb dX4_paidWithHole_45 (by decide) ?_
  refine lv_istore (lv' := [(6, .int 0), (5, .int (nI (k + tk k d))), (4, .ref (adr G (25 + 13 + r))), (0, .ref (adr G 0)), (1, .int (nI r)), (2, .int (nI h)), (3, .int (nI d))]) hx hb dX4_paidWithHole_46 hl (by decide) rfl (fun ls hl => ?_)
  refine lv_aload_n hx hb dX4_paidWithHole_48 rfl (lv_at hl 3 rfl) ?_
  refine gf_X4_19 C0 hP (k := 0) (show kd 0 = 4 by decide) dX4_paidWithHole_49 ?_
  refine gf_X4_151 C0 hP (k := 4) (show kd 4 = 2 by decide) dX4_paidWithHole_52 ?_
  refine lv_topE (y := nI k) (by rw [u2_ne (by omega), cpM_lo (by omega) hple hrle]; exact hk0) ?_
  refine lv_istore (lv' := [(7, .int (nI k)), (6, .int 0), (5, .int (nI (k + tk k d))), (4, .ref (adr G (25 + 13 + r))), (0, .ref (adr G 0)), (1, .int (nI r)), (2, .int (nI h)), (3, .int (nI d))]) hx hb dX4_paidWithHole_55 hl (by decide) rfl (fun ls hl => ?_)
  have loop_57 : ∀ (fuel_57 : Nat) (j : Nat) (x : Int32), tk k d + 1 ≤ j + fuel_57 → (j ≤ tk k d) → (x = pwhS M np nr k r h j) → ∀ (H : Heap) (locs : List Loc), PW G (pwhM M np nr k r h j) o H → va_S (pA G sz) s.heap H locs → ∀ ls : Array Slot, lv_has ls 8 [(7, .int (nI (k + j))), (6, .int x), (5, .int (nI (k + tk k d))), (4, .ref (adr G (25 + 13 + r))), (0, .ref (adr G 0)), (1, .int (nI r)), (2, .int (nI h)), (3, .int (nI d))] → W p l e (rmU 4 88 0 0) s m ([.ref (adr G 0), .int (nI r), .int (nI h), .int (nI d)] : List Value).toArray below meth c H locs 0 0 (MQ below (QI G (pwhM M np nr k r h (tk k d)) o (pwhS M np nr k r h (tk k d)) sz) ([.ref (adr G 0), .int (nI r), .int (nI h), .int (nI d)] : List Value).toArray s 0 0 (pA G sz)) (F0 m 57 ls []) := by
    intro fuel_57
    induction fuel_57 with
    | zero =>
      intro j x hf hj hxx
      exact absurd hf (by omega)
    | succ fuel_57 ih_57 =>
      intro j x hf hj hxx H locs hP hS ls hl
      refine lv_iload hx hb dX4_paidWithHole_57 (lv_at hl 0 rfl) ?_
      refine lv_iload hx hb dX4_paidWithHole_59 (lv_at hl 2 rfl) ?_
      refine lv_icmp_ge (tgt := 105) hx hb dX4_paidWithHole_61 (by decide) (fun c_1 => ?_) (fun c_1 => ?_)
      · have hkt := tk_le d hkle
        have hj9 : j = tk k d := by
          have := lq_ge c_1 (by omega) (by omega)
          omega
        refine lv_iload hx hb dX4_paidWithHole_105 (lv_at hl 1 rfl) ?_
        have hP := PW_eq (M' := pwhM M np nr k r h (tk k d)) (by rw [hj9]) hP
        exact e_Ii C0 hr hP hS (by rw [hxx, hj9]) (by decide) dX4_paidWithHole_107
      · have hkt := tk_le d hkle
        have hjt := lq_lt c_1 (by omega) (by omega)
        refine lv_aload_n hx hb dX4_paidWithHole_64 rfl (lv_at hl 4 rfl) ?_
        refine gf_X4_23 C0 hP (k := 0) (show kd 0 = 4 by decide) dX4_paidWithHole_65 ?_
        refine k_VNV C0 hP hS (rest := []) (c_X2_passersWalk l G (pwhM M np nr k r h j) o 25 np (Or.inr rfl) (by rw [pdM_h (by omega), u2_ne (by omega), cpM_25 (by decide)]; exact hnp) hple) mf_X2_passersWalk ml_X4_161 (kd_lt (show kd 25 = 2 by decide) (by decide)) (ct_2 (show kd 25 = 2 by decide)) rfl hl.1 (by decide) (by decide) (Nat.le_of_ble_eq_true rfl) rfl rfl dX4_paidWithHole_68 (fun H locs hP hS => ?_)
        refine lv_iload hx hb dX4_paidWithHole_71 (lv_at hl 1 rfl) ?_
        refine lv_aload hx hb dX4_paidWithHole_73 (lv_at hl 3 rfl) ?_
        refine lv_aload_n hx hb dX4_paidWithHole_75 rfl (lv_at hl 4 rfl) ?_
        refine gf_X4_23 C0 hP (k := 0) (show kd 0 = 4 by decide) dX4_paidWithHole_76 ?_
        refine lv_aload hx hb dX4_paidWithHole_79 (lv_at hl 3 rfl) ?_
        refine lv_aload_n hx hb dX4_paidWithHole_81 rfl (lv_at hl 4 rfl) ?_
        refine gf_X4_12 C0 hP (k := 0) (show kd 0 = 4 by decide) dX4_paidWithHole_82 ?_
        refine lv_iload hx hb dX4_paidWithHole_85 (lv_at hl 0 rfl) ?_
        refine k_VNI C0 hP hS (rest := [.ref (adr G (25 + 13 + r)), .ref (adr G 25), .ref (adr G (25 + 13 + r)), .int x]) (c_X3_lightAt l G (pwM (pwhM M np nr k r h j) 25 np) o (k + j) (by omega)) mf_X3_lightAt ml_X4_154 (kd_lt (show kd 1 = 3 by decide) (by decide)) (ct_3 (show kd 1 = 3 by decide)) rfl hl.1 (by decide) (by decide) (Nat.le_of_ble_eq_true rfl) rfl rfl dX4_paidWithHole_87 (fun H locs hP hS => ?_)
        refine lv_topE (y := ltF (M 2) (M 3) (k + j)) (by rw [pwM_row (by omega), pwM_row (by omega), pdM_row (by omega), pdM_row (by omega), u2_ne (by omega), u2_ne (by omega), cpM_row (by omega) hple hrle, cpM_row (by omega) hple hrle]) ?_
        refine k_VNI C0 hP hS (rest := [.ref (adr G (25 + 13 + r)), .int x]) (c_X2_showIn l G (pwM (pwhM M np nr k r h j) 25 np) o 25 (25 + 13 + r) (ltF (M 2) (M 3) (k + j)) np (Or.inr rfl) (kdSr (Or.inr rfl) (by omega)) (by rw [pwM_sl (by omega), pdM_h (by omega), u2_ne (by omega), cpM_25 (by decide)]; exact hnp) hple) mf_X2_showIn ml_X4_157 (kd_lt (show kd 25 = 2 by decide) (by decide)) (ct_2 (show kd 25 = 2 by decide)) rfl hl.1 (by decide) (by decide) (Nat.le_of_ble_eq_true rfl) rfl rfl dX4_paidWithHole_90 (fun H locs hP hS => ?_)
        refine k_VNI C0 hP hS (rest := [.int x]) (c_X1_pay l G (pwM (pwhM M np nr k r h j) 25 np) o (25 + 13 + r) (siM (pwM (pwhM M np nr k r h j) 25 np) 25 (25 + 13 + r) (ltF (M 2) (M 3) (k + j)) np) (kdSr (Or.inr rfl) (by omega))) mf_X1_pay ml_X4_221 (kd_lt (kdSr (Or.inr rfl) (by omega)) (by decide)) (ct_1 (kdSr (Or.inr rfl) (by omega))) rfl hl.1 (by decide) (by decide) (Nat.le_of_ble_eq_true rfl) rfl rfl dX4_paidWithHole_93 (fun H locs hP hS => ?_)
        refine lv_iadd hx hb dX4_paidWithHole_96 ?_
        refine lv_istore (lv' := [(6, .int (x + (paF (siM (pwM (pwhM M np nr k r h j) 25 np) 25 (25 + 13 + r) (ltF (M 2) (M 3) (k + j)) np) ((pwM (pwhM M np nr k r h j) 25 np) (25 + 13 + r) 5)))), (7, .int (nI (k + j))), (5, .int (nI (k + tk k d))), (4, .ref (adr G (25 + 13 + r))), (0, .ref (adr G 0)), (1, .int (nI r)), (2, .int (nI h)), (3, .int (nI d))]) hx hb dX4_paidWithHole_97 hl (by decide) rfl (fun ls hl => ?_)
        refine lv_iinc (v := nI ((k + j) + 1)) (lv' := [(7, .int (nI ((k + j) + 1))), (6, .int (x + (paF (siM (pwM (pwhM M np nr k r h j) 25 np) 25 (25 + 13 + r) (ltF (M 2) (M 3) (k + j)) np) ((pwM (pwhM M np nr k r h j) 25 np) (25 + 13 + r) 5)))), (5, .int (nI (k + tk k d))), (4, .ref (adr G (25 + 13 + r))), (0, .ref (adr G 0)), (1, .int (nI r)), (2, .int (nI h)), (3, .int (nI d))]) hx hb dX4_paidWithHole_99 hl (k := 1) rfl (nI_1 (k + j)) (by decide) rfl (fun ls hl => ?_)
        refine lv_goto (tgt := 57) hx hb dX4_paidWithHole_102 (by decide) ?_
        have hP := PW_eq (M' := pwhM M np nr k r h (j + 1)) rfl hP
        exact ih_57 (j + 1) _ (by omega) (by omega) (by rw [hxx]; rfl) _ _ hP hS _ (lv_sub hl [0, 1, 2, 3, 4, 5, 6, 7] rfl)
  exact loop_57 (tk k d + 1) 0 0 (by omega) (by omega) rfl _ _ hP hS _ (lv_sub hl [0, 1, 2, 3, 4, 5, 6, 7] rfl)

set_option maxHeartbeats 4000000 in
set_option maxRecDepth 100000 in
theorem c_X4_advise (l : Launch) (G : GG) (M : Mem) (o : Nat → Int64) (np nr k : Nat) (hO : OKM M np nr k) (r : Nat) (hr0 : r < nr) (d : Nat) (hd1 : 1 ≤ d) (hd2 : d ≤ 200)  : MI l yX4_advise cX4_advise 7 (some .int) 5 115 G [.ref (adr G 0), .int (nI r), .int (nI d)] M (adM M np nr k r (tk k d) 9) o o ((whF (-1, 1) (adP M np nr k r (tk k d)) (fun j => nI (j + 1)) 9).2) 0 0 := by
  refine MI_of RX4 rfl (by decide +kernel) (Nat.le_of_ble_eq_true rfl) ?_
  intro p e s m below meth c sz C0 hr hP ls hl
  have hx := C0.1
  have hb := C0.2.1
  have hS : va_S (pA G sz) s.heap s.heap [] := va_S.rf
  have hl : lv_has ls 7 [(0, .ref (adr G 0)), (1, .int (nI r)), (2, .int (nI d))] := hl
  obtain ⟨hnp, hple, hnr, hrle, hk0, hkle⟩ := id hO
  refine lv_aload_n hx hb dX4_advise_0 rfl (lv_at hl 0 rfl) ?_
  refine lv_iload_n hx hb dX4_advise_1 rfl (lv_at hl 1 rfl) ?_
  refine k_VV C0 hP hS (rest := []) (c_X4_needRoom l G M o np nr k hO r (by omega)) mf_X4_needRoom ml_X4_86 (kd_lt (show kd 0 = 4 by decide) (by decide)) (ct_4 (show kd 0 = 4 by decide)) rfl hl.1 (by decide) (by decide) (Nat.le_of_ble_eq_true rfl) rfl rfl dX4_advise_2 (fun H locs hP hS => ?_)
  refine lv_iload_n hx hb dX4_advise_5 rfl (lv_at hl 2 rfl) ?_
  refine lv_sipush (v := 200) hx hb dX4_advise_6 (by decide) ?_
  refine k_SV C0 hP hS (rest := []) (c_X4_needMinutes l G M o d 200 (by omega) (by omega) (by omega)) mf_X4_needMinutes rfl ml_X4_140 hl.1 (by decide) (by decide) (Nat.le_of_ble_eq_true rfl) rfl rfl dX4_advise_9 (fun H locs hP hS => ?_)
  refine lv_iconst (v := -1) hx hb dX4_advise_12 (by decide) ?_
  refine lv_istore_n (lv' := [(3, .int (-1)), (0, .ref (adr G 0)), (1, .int (nI r)), (2, .int (nI d))]) hx hb dX4_advise_13 rfl hl (by decide) rfl (fun ls hl => ?_)
  refine lv_iconst (v := 1) hx hb dX4_advise_14 (by decide) ?_
  refine lv_istore (lv' := [(4, .int 1), (3, .int (-1)), (0, .ref (adr G 0)), (1, .int (nI r)), (2, .int (nI d))]) hx hb dX4_advise_15 hl (by decide) rfl (fun ls hl => ?_)
  refine lv_iconst (v := 1) hx hb dX4_advise_17 (by decide) ?_
  refine lv_istore (lv' := [(5, .int 1), (4, .int 1), (3, .int (-1)), (0, .ref (adr G 0)), (1, .int (nI r)), (2, .int (nI d))]) hx hb dX4_advise_18 hl (by decide) rfl (fun ls hl => ?_)
  have loop_20 : ∀ (fuel_20 : Nat) (j : Nat) (g : Int32) (b : Int32), 9 + 1 ≤ j + fuel_20 → (j ≤ 9) → ((g, b) = whF (-1, 1) (adP M np nr k r (tk k d)) (fun j => nI (j + 1)) j) → ∀ (H : Heap) (locs : List Loc), PW G (adM M np nr k r (tk k d) j) o H → va_S (pA G sz) s.heap H locs → ∀ ls : Array Slot, lv_has ls 7 [(5, .int (nI (j + 1))), (4, .int b), (3, .int g), (0, .ref (adr G 0)), (1, .int (nI r)), (2, .int (nI d))] → W p l e (rmU 5 115 0 0) s m ([.ref (adr G 0), .int (nI r), .int (nI d)] : List Value).toArray below meth c H locs 0 0 (MQ below (QI G (adM M np nr k r (tk k d) 9) o ((whF (-1, 1) (adP M np nr k r (tk k d)) (fun j => nI (j + 1)) 9).2) sz) ([.ref (adr G 0), .int (nI r), .int (nI d)] : List Value).toArray s 0 0 (pA G sz)) (F0 m 20 ls []) := by
    intro fuel_20
    induction fuel_20 with
    | zero =>
      intro j g b hf hj hgb
      exact absurd hf (by omega)
    | succ fuel_20 ih_20 =>
      intro j g b hf hj hgb H locs hP hS ls hl
      refine lv_iload hx hb dX4_advise_20 (lv_at hl 0 rfl) ?_
      refine lv_bipush (v := 9) hx hb dX4_advise_22 (by decide) ?_
      refine lv_icmp_gt (tgt := 56) hx hb dX4_advise_24 (by decide) (fun c_1 => ?_) (fun c_1 => ?_)
      · have hj9 : j = 9 := by
          have := (nI_ltI (a := 9) (by omega) (by omega)).mp c_1
          omega
        refine lv_iload hx hb dX4_advise_56 (lv_at hl 1 rfl) ?_
        have hP := PW_eq (M' := adM M np nr k r (tk k d) 9) (by rw [hj9]) hP
        exact e_Ii C0 hr hP hS (by rw [← hj9, ← hgb]) (by decide) dX4_advise_58
      · have hjt : j < 9 := by
          rcases Nat.lt_or_ge j 9 with z | z
          · exact z
          · exact absurd (nI_lt (a := 9) (b := j + 1) (by omega) (by omega)) c_1
        refine lv_aload_n hx hb dX4_advise_27 rfl (lv_at hl 3 rfl) ?_
        refine lv_iload_n hx hb dX4_advise_28 rfl (lv_at hl 4 rfl) ?_
        refine lv_iload hx hb dX4_advise_29 (lv_at hl 0 rfl) ?_
        refine lv_iload_n hx hb dX4_advise_31 rfl (lv_at hl 5 rfl) ?_
        refine k_VI C0 hP hS (rest := []) (c_X4_paidWithHole l G (adM M np nr k r (tk k d) j) o np nr k (adM_ok hO j) r (j + 1) d hr0 (by omega)) mf_X4_paidWithHole ml_X4_164 (kd_lt (show kd 0 = 4 by decide) (by decide)) (ct_4 (show kd 0 = 4 by decide)) rfl hl.1 (by decide) (by decide) (Nat.le_of_ble_eq_true rfl) rfl rfl dX4_advise_32 (fun H locs hP hS => ?_)
        refine lv_istore (lv' := [(6, .int (pwhS (adM M np nr k r (tk k d) j) np nr k r (j + 1) (tk k d))), (5, .int (nI (j + 1))), (4, .int b), (3, .int g), (0, .ref (adr G 0)), (1, .int (nI r)), (2, .int (nI d))]) hx hb dX4_advise_35 hl (by decide) rfl (fun ls hl => ?_)
        refine lv_iload hx hb dX4_advise_37 (lv_at hl 0 rfl) ?_
        refine lv_iload_n hx hb dX4_advise_39 rfl (lv_at hl 3 rfl) ?_
        refine lv_icmp_le (tgt := 50) hx hb dX4_advise_40 (by decide) (fun c_2 => ?_) (fun c_2 => ?_)
        · have hk9 := hjt
          refine lv_iinc (v := nI ((j + 1) + 1)) (lv' := [(5, .int (nI ((j + 1) + 1))), (6, .int (pwhS (adM M np nr k r (tk k d) j) np nr k r (j + 1) (tk k d))), (4, .int b), (3, .int g), (0, .ref (adr G 0)), (1, .int (nI r)), (2, .int (nI d))]) hx hb dX4_advise_50 hl (k := 1) rfl (nI_1 (j + 1)) (by decide) rfl (fun ls hl => ?_)
          refine lv_goto (tgt := 20) hx hb dX4_advise_53 (by decide) ?_
          have hP := PW_eq (M' := adM M np nr k r (tk k d) (j + 1)) rfl hP
          exact ih_20 (j + 1) _ _ (by omega) (by omega) (whF_s1 c_2 hgb) _ _ hP hS _ (lv_sub hl [0, 2, 3, 4, 5, 6] rfl)
        · have hk9 := hjt
          refine lv_iload hx hb dX4_advise_43 (lv_at hl 0 rfl) ?_
          refine lv_istore_n (lv' := [(3, .int (pwhS (adM M np nr k r (tk k d) j) np nr k r (j + 1) (tk k d))), (6, .int (pwhS (adM M np nr k r (tk k d) j) np nr k r (j + 1) (tk k d))), (5, .int (nI (j + 1))), (4, .int b), (0, .ref (adr G 0)), (1, .int (nI r)), (2, .int (nI d))]) hx hb dX4_advise_45 rfl hl (by decide) rfl (fun ls hl => ?_)
          refine lv_iload hx hb dX4_advise_46 (lv_at hl 2 rfl) ?_
          refine lv_istore (lv' := [(4, .int (nI (j + 1))), (3, .int (pwhS (adM M np nr k r (tk k d) j) np nr k r (j + 1) (tk k d))), (6, .int (pwhS (adM M np nr k r (tk k d) j) np nr k r (j + 1) (tk k d))), (5, .int (nI (j + 1))), (0, .ref (adr G 0)), (1, .int (nI r)), (2, .int (nI d))]) hx hb dX4_advise_48 hl (by decide) rfl (fun ls hl => ?_)
          refine lv_iinc (v := nI ((j + 1) + 1)) (lv' := [(5, .int (nI ((j + 1) + 1))), (4, .int (nI (j + 1))), (3, .int (pwhS (adM M np nr k r (tk k d) j) np nr k r (j + 1) (tk k d))), (6, .int (pwhS (adM M np nr k r (tk k d) j) np nr k r (j + 1) (tk k d))), (0, .ref (adr G 0)), (1, .int (nI r)), (2, .int (nI d))]) hx hb dX4_advise_50 hl (k := 3) rfl (nI_1 (j + 1)) (by decide) rfl (fun ls hl => ?_)
          refine lv_goto (tgt := 20) hx hb dX4_advise_53 (by decide) ?_
          have hP := PW_eq (M' := adM M np nr k r (tk k d) (j + 1)) rfl hP
          exact ih_20 (j + 1) _ _ (by omega) (by omega) (whF_s2 c_2 hgb) _ _ hP hS _ (lv_sub hl [0, 1, 2, 4, 5, 6] rfl)
  exact loop_20 (9 + 1) 0 (-1) 1 (by omega) (by omega) rfl _ _ hP hS _ (lv_sub hl [0, 1, 2, 3, 4, 5] rfl)

set_option maxHeartbeats 4000000 in
set_option maxRecDepth 100000 in
theorem c_X4_advise_i (l : Launch) (G : GG) (M : Mem) (o : Nat → Int64) (hst : l.stackTraces = false) (np nr k : Nat) (hO : OKM M np nr k) (x1 a2 : Int32) (hbd : x1 < 0 ∨ ¬ x1 < nI nr) : MX l yX4_advise cX4_advise 7 (some .int) 8 131 G [.ref (adr G 0), .int x1, .int a2] M M o o "java/lang/IndexOutOfBoundsException" 1 6 := by
  refine MX_of RX4 rfl (by decide +kernel) (Nat.le_of_ble_eq_true rfl) ?_
  intro p e s m below meth c sz C0 hx0 hP ls hl
  have hx := C0.1
  have hb := C0.2.1
  have hS : va_S (pA G sz) s.heap s.heap [] := va_S.rf
  have hl : lv_has ls 7 [(0, .ref (adr G 0)), (1, .int x1), (2, .int a2)] := hl
  obtain ⟨hnp, hple, hnr, hrle, hk0, hkle⟩ := id hO
  refine lv_aload_n hx hb dX4_advise_0 rfl (lv_at hl 0 rfl) ?_
  refine lv_iload_n hx hb dX4_advise_1 rfl (lv_at hl 1 rfl) ?_
  refine k_VX C0 hP hS (rest := []) (c_X4_needRoom_x l G M o hst np nr k hO x1 hbd) mf_X4_needRoom ml_X4_86 (kd_lt (show kd 0 = 4 by decide) (by decide)) (ct_4 (show kd 0 = 4 by decide)) rfl hl.1 (by decide) (by decide) (Nat.le_of_ble_eq_true rfl) rfl rfl dX4_advise_2 (fun ce q9 H locs hP hS hce hcv hcl => ?_)
  exact e_X C0 hx0 hP hS hce hcv hcl (by decide)

set_option maxHeartbeats 4000000 in
set_option maxRecDepth 100000 in
theorem c_X4_advise_a (l : Launch) (G : GG) (M : Mem) (o : Nat → Int64) (hst : l.stackTraces = false) (np nr k : Nat) (hO : OKM M np nr k) (r : Nat) (hr0 : r < nr) (a2 : Int32) (hbd : a2 < 1 ∨ ¬ a2 ≤ 200) : MX l yX4_advise cX4_advise 7 (some .int) 7 110 G [.ref (adr G 0), .int (nI r), .int a2] M M o o "java/lang/IllegalArgumentException" 1 6 := by
  refine MX_of RX4 rfl (by decide +kernel) (Nat.le_of_ble_eq_true rfl) ?_
  intro p e s m below meth c sz C0 hx0 hP ls hl
  have hx := C0.1
  have hb := C0.2.1
  have hS : va_S (pA G sz) s.heap s.heap [] := va_S.rf
  have hl : lv_has ls 7 [(0, .ref (adr G 0)), (1, .int (nI r)), (2, .int a2)] := hl
  obtain ⟨hnp, hple, hnr, hrle, hk0, hkle⟩ := id hO
  refine lv_aload_n hx hb dX4_advise_0 rfl (lv_at hl 0 rfl) ?_
  refine lv_iload_n hx hb dX4_advise_1 rfl (lv_at hl 1 rfl) ?_
  refine k_VV C0 hP hS (rest := []) (c_X4_needRoom l G M o np nr k hO r (by omega)) mf_X4_needRoom ml_X4_86 (kd_lt (show kd 0 = 4 by decide) (by decide)) (ct_4 (show kd 0 = 4 by decide)) rfl hl.1 (by decide) (by decide) (Nat.le_of_ble_eq_true rfl) rfl rfl dX4_advise_2 (fun H locs hP hS => ?_)
  refine lv_iload_n hx hb dX4_advise_5 rfl (lv_at hl 2 rfl) ?_
  refine lv_sipush (v := 200) hx hb dX4_advise_6 (by decide) ?_
  refine k_SX C0 hP hS (rest := []) (c_X4_needMinutes_x l G M o hst a2 200 hbd) mf_X4_needMinutes rfl ml_X4_140 hl.1 (by decide) (by decide) (Nat.le_of_ble_eq_true rfl) rfl rfl dX4_advise_9 (fun ce q9 H locs hP hS hce hcv hcl => ?_)
  exact e_X C0 hx0 hP hS hce hcv hcl (by decide)

set_option maxHeartbeats 4000000 in
set_option maxRecDepth 100000 in
theorem c_X4_seen (l : Launch) (G : GG) (M : Mem) (o : Nat → Int64) (np nr k : Nat) (hO : OKM M np nr k) (i : Nat) (hi : i < np) : MI l yX4_seen cX4_seen 5 (some .int) 3 65 G [.ref (adr G 0), .int (nI i)] M (snM M i (719 - k)) o o (snW M nr i (719 - k)) 0 0 := by
  refine MI_of RX4 rfl (by decide +kernel) (Nat.le_of_ble_eq_true rfl) ?_
  intro p e s m below meth c sz C0 hr hP ls hl
  have hx := C0.1
  have hb := C0.2.1
  have hS : va_S (pA G sz) s.heap s.heap [] := va_S.rf
  have hl : lv_has ls 5 [(0, .ref (adr G 0)), (1, .int (nI i))] := hl
  obtain ⟨hnp, hple, hnr, hrle, hk0, hkle⟩ := id hO
  refine lv_aload_n hx hb dX4_seen_0 rfl (lv_at hl 0 rfl) ?_
  refine lv_iload_n hx hb dX4_seen_1 rfl (lv_at hl 1 rfl) ?_
  refine k_VV C0 hP hS (rest := []) (c_X4_needPasser l G M o np nr k hO i (by omega)) mf_X4_needPasser ml_X4_102 (kd_lt (show kd 0 = 4 by decide) (by decide)) (ct_4 (show kd 0 = 4 by decide)) rfl hl.1 (by decide) (by decide) (Nat.le_of_ble_eq_true rfl) rfl rfl dX4_seen_2 (fun H locs hP hS => ?_)
  refine lv_aload_n hx hb dX4_seen_5 rfl (lv_at hl 0 rfl) ?_
  refine gf_X4_23 C0 hP (k := 0) (show kd 0 = 4 by decide) dX4_seen_6 ?_
  refine gf_X4_43 C0 hP (k := 25) (show kd 25 = 2 by decide) dX4_seen_9 ?_
  refine lv_iload_n hx hb dX4_seen_12 rfl (lv_at hl 1 rfl) ?_
  refine w_aldP C0 hP (k := 25 + 1) (i := i) (kdS1 (Or.inr rfl)) (by omega) dX4_seen_13 ?_
  refine lv_astore_n (lv' := [(2, .ref (adr G (25 + 3 + i))), (0, .ref (adr G 0)), (1, .int (nI i))]) hx hb dX4_seen_14 rfl hl (by decide) rfl (fun ls hl => ?_)
  refine lv_aload_n hx hb dX4_seen_15 rfl (lv_at hl 0 rfl) ?_
  refine lv_aload_n hx hb dX4_seen_16 rfl (lv_at hl 1 rfl) ?_
  refine gf_X4_19 C0 hP (k := 0) (show kd 0 = 4 by decide) dX4_seen_17 ?_
  refine gf_X4_43 C0 hP (k := 4) (show kd 4 = 2 by decide) dX4_seen_20 ?_
  refine lv_iload_n hx hb dX4_seen_23 rfl (lv_at hl 2 rfl) ?_
  refine w_aldP C0 hP (k := 4 + 1) (i := i) (kdS1 (Or.inl rfl)) (by omega) dX4_seen_24 ?_
  refine k_VNV C0 hP hS (rest := []) (c_X0_copyFrom l G M o (25 + 3 + i) (4 + 3 + i) (kdSp (Or.inr rfl) (by omega)) (kdSp (Or.inl rfl) (by omega))) mf_X0_copyFrom ml_X4_168 (kd_lt (kdSp (Or.inr rfl) (by omega)) (by decide)) (ct_0 (kdSp (Or.inr rfl) (by omega))) rfl hl.1 (by decide) (by decide) (Nat.le_of_ble_eq_true rfl) rfl rfl dX4_seen_25 (fun H locs hP hS => ?_)
  refine lv_aload_n hx hb dX4_seen_28 rfl (lv_at hl 1 rfl) ?_
  refine gf_X4_19 C0 hP (k := 0) (show kd 0 = 4 by decide) dX4_seen_29 ?_
  refine lv_aload_n hx hb dX4_seen_32 rfl (lv_at hl 0 rfl) ?_
  refine k_VNI C0 hP hS (rest := []) (c_X2_wallsWith l G (cmM M (25 + 3 + i) (M (4 + 3 + i) 0) (M (4 + 3 + i) 1) (M (4 + 3 + i) 2) (M (4 + 3 + i) 3)) o 4 (25 + 3 + i) nr (Or.inl rfl) (kdSp (Or.inr rfl) (by omega)) (by first | (rw [cmM_lo (by omega)]; exact hnr) | (rw [snM_lo (by omega)]; exact hnr) | (rw [u2_ne (by omega), snM_lo (by omega)]; exact hnr)) hrle) mf_X2_wallsWith ml_X4_171 (kd_lt (show kd 4 = 2 by decide) (by decide)) (ct_2 (show kd 4 = 2 by decide)) rfl hl.1 (by decide) (by decide) (Nat.le_of_ble_eq_true rfl) rfl rfl dX4_seen_33 (fun H locs hP hS => ?_)
  refine lv_istore_n (lv' := [(3, .int (waM (cmM M (25 + 3 + i) (M (4 + 3 + i) 0) (M (4 + 3 + i) 1) (M (4 + 3 + i) 2) (M (4 + 3 + i) 3)) 4 (25 + 3 + i) nr)), (2, .ref (adr G (25 + 3 + i))), (0, .ref (adr G 0)), (1, .int (nI i))]) hx hb dX4_seen_36 rfl hl (by decide) rfl (fun ls hl => ?_)
  refine lv_aload_n hx hb dX4_seen_37 rfl (lv_at hl 2 rfl) ?_
  refine gf_X4_19 C0 hP (k := 0) (show kd 0 = 4 by decide) dX4_seen_38 ?_
  refine gf_X4_151 C0 hP (k := 4) (show kd 4 = 2 by decide) dX4_seen_41 ?_
  refine lv_iconst (v := 1) hx hb dX4_seen_44 (by decide) ?_
  refine lv_iadd hx hb dX4_seen_45 ?_
  refine lv_topE (y := nI (k + 1)) (by rw [cmM_lo (by omega), hk0]; exact nI_1 k) ?_
  refine lv_istore (lv' := [(4, .int (nI (k + 1))), (3, .int (waM (cmM M (25 + 3 + i) (M (4 + 3 + i) 0) (M (4 + 3 + i) 1) (M (4 + 3 + i) 2) (M (4 + 3 + i) 3)) 4 (25 + 3 + i) nr)), (2, .ref (adr G (25 + 3 + i))), (0, .ref (adr G 0)), (1, .int (nI i))]) hx hb dX4_seen_46 hl (by decide) rfl (fun ls hl => ?_)
  have loop_48 : ∀ (fuel_48 : Nat) (j : Nat) (x : Int32), (719 - k) + 1 ≤ j + fuel_48 → (j ≤ 719 - k) → (x = snW M nr i j) → ∀ (H : Heap) (locs : List Loc), PW G (snM M i j) o H → va_S (pA G sz) s.heap H locs → ∀ ls : Array Slot, lv_has ls 5 [(4, .int (nI (k + 1 + j))), (3, .int x), (2, .ref (adr G (25 + 3 + i))), (0, .ref (adr G 0)), (1, .int (nI i))] → W p l e (rmU 3 65 0 0) s m ([.ref (adr G 0), .int (nI i)] : List Value).toArray below meth c H locs 0 0 (MQ below (QI G (snM M i (719 - k)) o (snW M nr i (719 - k)) sz) ([.ref (adr G 0), .int (nI i)] : List Value).toArray s 0 0 (pA G sz)) (F0 m 48 ls []) := by
    intro fuel_48
    induction fuel_48 with
    | zero =>
      intro j x hf hj hxx
      exact absurd hf (by omega)
    | succ fuel_48 ih_48 =>
      intro j x hf hj hxx H locs hP hS ls hl
      refine lv_iload hx hb dX4_seen_48 (lv_at hl 0 rfl) ?_
      refine lv_sipush (v := 720) hx hb dX4_seen_50 (by decide) ?_
      refine lv_icmp_ge (tgt := 77) hx hb dX4_seen_53 (by decide) (fun c_1 => ?_) (fun c_1 => ?_)
      · have hj9 : j = 719 - k := by
          have := (nI_leI (a := 720) (by omega) (by omega)).mp c_1
          omega
        refine lv_iload_n hx hb dX4_seen_77 rfl (lv_at hl 1 rfl) ?_
        have hP := PW_eq (M' := snM M i (719 - k)) (by rw [hj9]) hP
        exact e_Ii C0 hr hP hS (by rw [hxx, hj9]) (by decide) dX4_seen_78
      · have hjt : k + 1 + j < 720 := by
          rcases Nat.lt_or_ge (k + 1 + j) 720 with z | z
          · exact z
          · exact absurd (nI_le (a := 720) z (by omega)) c_1
        refine lv_aload_n hx hb dX4_seen_56 rfl (lv_at hl 2 rfl) ?_
        refine k_VNV C0 hP hS (rest := []) (c_X0_walk l G (snM M i j) o (25 + 3 + i) (kdSp (Or.inr rfl) (by omega))) mf_X0_walk ml_X4_175 (kd_lt (kdSp (Or.inr rfl) (by omega)) (by decide)) (ct_0 (kdSp (Or.inr rfl) (by omega))) rfl hl.1 (by decide) (by decide) (Nat.le_of_ble_eq_true rfl) rfl rfl dX4_seen_57 (fun H locs hP hS => ?_)
        refine lv_iload_n hx hb dX4_seen_60 rfl (lv_at hl 1 rfl) ?_
        refine lv_aload_n hx hb dX4_seen_61 rfl (lv_at hl 3 rfl) ?_
        refine gf_X4_19 C0 hP (k := 0) (show kd 0 = 4 by decide) dX4_seen_62 ?_
        refine lv_aload_n hx hb dX4_seen_65 rfl (lv_at hl 2 rfl) ?_
        refine k_VNI C0 hP hS (rest := [.int x]) (c_X2_wallsWith l G (u2 (snM M i j) (25 + 3 + i) 0 (wk ((snM M i j) (25 + 3 + i) 0) ((snM M i j) (25 + 3 + i) 1))) o 4 (25 + 3 + i) nr (Or.inl rfl) (kdSp (Or.inr rfl) (by omega)) (by first | (rw [cmM_lo (by omega)]; exact hnr) | (rw [snM_lo (by omega)]; exact hnr) | (rw [u2_ne (by omega), snM_lo (by omega)]; exact hnr)) hrle) mf_X2_wallsWith ml_X4_171 (kd_lt (show kd 4 = 2 by decide) (by decide)) (ct_2 (show kd 4 = 2 by decide)) rfl hl.1 (by decide) (by decide) (Nat.le_of_ble_eq_true rfl) rfl rfl dX4_seen_66 (fun H locs hP hS => ?_)
        refine lv_ior hx hb dX4_seen_69 ?_
        refine lv_istore_n (lv' := [(3, .int (x ||| (waM (u2 (snM M i j) (25 + 3 + i) 0 (wk ((snM M i j) (25 + 3 + i) 0) ((snM M i j) (25 + 3 + i) 1))) 4 (25 + 3 + i) nr))), (4, .int (nI (k + 1 + j))), (2, .ref (adr G (25 + 3 + i))), (0, .ref (adr G 0)), (1, .int (nI i))]) hx hb dX4_seen_70 rfl hl (by decide) rfl (fun ls hl => ?_)
        refine lv_iinc (v := nI ((k + 1 + j) + 1)) (lv' := [(4, .int (nI ((k + 1 + j) + 1))), (3, .int (x ||| (waM (u2 (snM M i j) (25 + 3 + i) 0 (wk ((snM M i j) (25 + 3 + i) 0) ((snM M i j) (25 + 3 + i) 1))) 4 (25 + 3 + i) nr))), (2, .ref (adr G (25 + 3 + i))), (0, .ref (adr G 0)), (1, .int (nI i))]) hx hb dX4_seen_71 hl (k := 1) rfl (nI_1 (k + 1 + j)) (by decide) rfl (fun ls hl => ?_)
        refine lv_goto (tgt := 48) hx hb dX4_seen_74 (by decide) ?_
        have hP := PW_eq (M' := snM M i (j + 1)) rfl hP
        exact ih_48 (j + 1) _ (by omega) (by omega) (by rw [hxx]; rfl) _ _ hP hS _ (lv_sub hl [0, 1, 2, 3, 4] rfl)
  exact loop_48 (719 - k + 1) 0 _ (by omega) (by omega) rfl _ _ hP hS _ (lv_sub hl [0, 1, 2, 3, 4] rfl)

set_option maxHeartbeats 4000000 in
set_option maxRecDepth 100000 in
theorem c_X4_seen_i (l : Launch) (G : GG) (M : Mem) (o : Nat → Int64) (hst : l.stackTraces = false) (np nr k : Nat) (hO : OKM M np nr k) (x1 : Int32) (hbd : x1 < 0 ∨ ¬ x1 < nI np) : MX l yX4_seen cX4_seen 5 (some .int) 8 131 G [.ref (adr G 0), .int x1] M M o o "java/lang/IndexOutOfBoundsException" 1 6 := by
  refine MX_of RX4 rfl (by decide +kernel) (Nat.le_of_ble_eq_true rfl) ?_
  intro p e s m below meth c sz C0 hx0 hP ls hl
  have hx := C0.1
  have hb := C0.2.1
  have hS : va_S (pA G sz) s.heap s.heap [] := va_S.rf
  have hl : lv_has ls 5 [(0, .ref (adr G 0)), (1, .int x1)] := hl
  obtain ⟨hnp, hple, hnr, hrle, hk0, hkle⟩ := id hO
  refine lv_aload_n hx hb dX4_seen_0 rfl (lv_at hl 0 rfl) ?_
  refine lv_iload_n hx hb dX4_seen_1 rfl (lv_at hl 1 rfl) ?_
  refine k_VX C0 hP hS (rest := []) (c_X4_needPasser_x l G M o hst np nr k hO x1 hbd) mf_X4_needPasser ml_X4_102 (kd_lt (show kd 0 = 4 by decide) (by decide)) (ct_4 (show kd 0 = 4 by decide)) rfl hl.1 (by decide) (by decide) (Nat.le_of_ble_eq_true rfl) rfl rfl dX4_seen_2 (fun ce q9 H locs hP hS hce hcv hcl => ?_)
  exact e_X C0 hx0 hP hS hce hcv hcl (by decide)

set_option maxHeartbeats 4000000 in
set_option maxRecDepth 100000 in
theorem c_X4_digest (l : Launch) (G : GG) (M : Mem) (o : Nat → Int64) (np nr k : Nat) (hO : OKM M np nr k)  : ML l yX4_digest cX4_digest 5 (some .long) 6 132 G [.ref (adr G 0)] M M o o (ffF (rfF M np k) 8 (ffF (pfF M nr k) 5 (fdF (fun h => 10 * M 2 h + M 3 h) (fdF (hfF M np nr k) 853 9) 12) np) nr) 0 0 := by
  refine ML_of RX4 rfl (by decide +kernel) (Nat.le_of_ble_eq_true rfl) ?_
  intro p e s m below meth c sz C0 hr hP ls hl
  have hx := C0.1
  have hb := C0.2.1
  have hS : va_S (pA G sz) s.heap s.heap [] := va_S.rf
  have hl : lv_has ls 5 [(0, .ref (adr G 0))] := hl
  obtain ⟨hnp, hple, hnr, hrle, hk0, hkle⟩ := id hO
  refine lv_ldc2 (v := 853) hx hb C0.ow (C0.ts _ kl_X4_187) dX4_digest_0 ?_
  refine lv_lstore_n (lv' := [(1, .long 853), (0, .ref (adr G 0))]) hx hb dX4_digest_3 rfl hl (by decide) rfl (fun ls hl => ?_)
  refine lv_iconst (v := 0) hx hb dX4_digest_4 (by decide) ?_
  refine lv_istore_n (lv' := [(3, .int 0), (1, .long 853), (0, .ref (adr G 0))]) hx hb dX4_digest_5 rfl hl (by decide) rfl (fun ls hl => ?_)
  have loop_6 : ∀ (fuel_6 : Nat) (w : Nat) (x : Int64), 9 + 1 ≤ w + fuel_6 → (w ≤ 9) → (x = fdF (hfF M np nr k) 853 w) → ∀ (H : Heap) (locs : List Loc), PW G M o H → va_S (pA G sz) s.heap H locs → ∀ ls : Array Slot, lv_has ls 5 [(3, .int (nI w)), (1, .long x), (0, .ref (adr G 0))] → W p l e (rmU 6 132 0 0) s m ([.ref (adr G 0)] : List Value).toArray below meth c H locs 0 0 (MQ below (QL G M o (ffF (rfF M np k) 8 (ffF (pfF M nr k) 5 (fdF (fun h => 10 * M 2 h + M 3 h) (fdF (hfF M np nr k) 853 9) 12) np) nr) sz) ([.ref (adr G 0)] : List Value).toArray s 0 0 (pA G sz)) (F0 m 6 ls []) := by
    intro fuel_6
    induction fuel_6 with
    | zero =>
      intro w x hf hw hxx
      exact absurd hf (by omega)
    | succ fuel_6 ih_6 =>
      intro w x hf hw hxx H locs hP hS ls hl
      refine lv_iload_n hx hb dX4_digest_6 rfl (lv_at hl 0 rfl) ?_
      refine lv_bipush (v := 9) hx hb dX4_digest_7 (by decide) ?_
      refine lv_icmp_ge (tgt := 31) hx hb dX4_digest_9 (by decide) (fun c_1 => ?_) (fun c_1 => ?_)
      · have hw9 := lp_ge (n := 9) c_1 (by omega) hw
        refine lv_iconst (v := 0) hx hb dX4_digest_31 (by decide) ?_
        refine lv_istore_n (lv' := [(3, .int 0), (1, .long x), (0, .ref (adr G 0))]) hx hb dX4_digest_32 rfl hl (by decide) rfl (fun ls hl => ?_)
        have loop_33 : ∀ (fuel_33 : Nat) (w2 : Nat) (x2 : Int64), 12 + 1 ≤ w2 + fuel_33 → (w2 ≤ 12) → (x2 = fdF (fun h => 10 * M 2 h + M 3 h) (fdF (hfF M np nr k) 853 9) w2) → ∀ (H : Heap) (locs : List Loc), PW G M o H → va_S (pA G sz) s.heap H locs → ∀ ls : Array Slot, lv_has ls 5 [(3, .int (nI w2)), (1, .long x2), (0, .ref (adr G 0))] → W p l e (rmU 6 132 0 0) s m ([.ref (adr G 0)] : List Value).toArray below meth c H locs 0 0 (MQ below (QL G M o (ffF (rfF M np k) 8 (ffF (pfF M nr k) 5 (fdF (fun h => 10 * M 2 h + M 3 h) (fdF (hfF M np nr k) 853 9) 12) np) nr) sz) ([.ref (adr G 0)] : List Value).toArray s 0 0 (pA G sz)) (F0 m 33 ls []) := by
          intro fuel_33
          induction fuel_33 with
          | zero =>
            intro w2 x2 hf hw2 hx2
            exact absurd hf (by omega)
          | succ fuel_33 ih_33 =>
            intro w2 x2 hf hw2 hx2 H locs hP hS ls hl
            refine lv_iload_n hx hb dX4_digest_33 rfl (lv_at hl 0 rfl) ?_
            refine lv_bipush (v := 12) hx hb dX4_digest_34 (by decide) ?_
            refine lv_icmp_ge (tgt := 61) hx hb dX4_digest_36 (by decide) (fun c_2 => ?_) (fun c_2 => ?_)
            · have hw29 := lp_ge (n := 12) c_2 (by omega) hw2
              refine lv_iconst (v := 0) hx hb dX4_digest_61 (by decide) ?_
              refine lv_istore_n (lv' := [(3, .int 0), (1, .long x2), (0, .ref (adr G 0))]) hx hb dX4_digest_62 rfl hl (by decide) rfl (fun ls hl => ?_)
              have loop_63 : ∀ (fuel_63 : Nat) (i : Nat) (x3 : Int64), np + 1 ≤ i + fuel_63 → (i ≤ np) → (x3 = ffF (pfF M nr k) 5 (fdF (fun h => 10 * M 2 h + M 3 h) (fdF (hfF M np nr k) 853 9) 12) i) → ∀ (H : Heap) (locs : List Loc), PW G M o H → va_S (pA G sz) s.heap H locs → ∀ ls : Array Slot, lv_has ls 5 [(3, .int (nI i)), (1, .long x3), (0, .ref (adr G 0))] → W p l e (rmU 6 132 0 0) s m ([.ref (adr G 0)] : List Value).toArray below meth c H locs 0 0 (MQ below (QL G M o (ffF (rfF M np k) 8 (ffF (pfF M nr k) 5 (fdF (fun h => 10 * M 2 h + M 3 h) (fdF (hfF M np nr k) 853 9) 12) np) nr) sz) ([.ref (adr G 0)] : List Value).toArray s 0 0 (pA G sz)) (F0 m 63 ls []) := by
                intro fuel_63
                induction fuel_63 with
                | zero =>
                  intro i x3 hf hi hx3
                  exact absurd hf (by omega)
                | succ fuel_63 ih_63 =>
                  intro i x3 hf hi hx3 H locs hP hS ls hl
                  refine lv_iload_n hx hb dX4_digest_63 rfl (lv_at hl 0 rfl) ?_
                  refine lv_aload_n hx hb dX4_digest_64 rfl (lv_at hl 2 rfl) ?_
                  refine gf_X4_19 C0 hP (k := 0) (show kd 0 = 4 by decide) dX4_digest_65 ?_
                  refine gf_X4_36 C0 hP (k := 4) (show kd 4 = 2 by decide) dX4_digest_68 ?_
                  refine lv_icmp_ge (tgt := 110) hx hb dX4_digest_71 (by decide) (fun c_3 => ?_) (fun c_3 => ?_)
                  · rw [hnp] at c_3
                    have hi9 := lp_ge (n := np) c_3 (by omega) hi
                    refine lv_iconst (v := 0) hx hb dX4_digest_110 (by decide) ?_
                    refine lv_istore_n (lv' := [(3, .int 0), (1, .long x3), (0, .ref (adr G 0))]) hx hb dX4_digest_111 rfl hl (by decide) rfl (fun ls hl => ?_)
                    have loop_112 : ∀ (fuel_112 : Nat) (r : Nat) (x5 : Int64), nr + 1 ≤ r + fuel_112 → (r ≤ nr) → (x5 = ffF (rfF M np k) 8 (ffF (pfF M nr k) 5 (fdF (fun h => 10 * M 2 h + M 3 h) (fdF (hfF M np nr k) 853 9) 12) np) r) → ∀ (H : Heap) (locs : List Loc), PW G M o H → va_S (pA G sz) s.heap H locs → ∀ ls : Array Slot, lv_has ls 5 [(3, .int (nI r)), (1, .long x5), (0, .ref (adr G 0))] → W p l e (rmU 6 132 0 0) s m ([.ref (adr G 0)] : List Value).toArray below meth c H locs 0 0 (MQ below (QL G M o (ffF (rfF M np k) 8 (ffF (pfF M nr k) 5 (fdF (fun h => 10 * M 2 h + M 3 h) (fdF (hfF M np nr k) 853 9) 12) np) nr) sz) ([.ref (adr G 0)] : List Value).toArray s 0 0 (pA G sz)) (F0 m 112 ls []) := by
                      intro fuel_112
                      induction fuel_112 with
                      | zero =>
                        intro r x5 hf hr5 hx5
                        exact absurd hf (by omega)
                      | succ fuel_112 ih_112 =>
                        intro r x5 hf hr5 hx5 H locs hP hS ls hl
                        refine lv_iload_n hx hb dX4_digest_112 rfl (lv_at hl 0 rfl) ?_
                        refine lv_aload_n hx hb dX4_digest_113 rfl (lv_at hl 2 rfl) ?_
                        refine gf_X4_19 C0 hP (k := 0) (show kd 0 = 4 by decide) dX4_digest_114 ?_
                        refine gf_X4_70 C0 hP (k := 4) (show kd 4 = 2 by decide) dX4_digest_117 ?_
                        refine lv_icmp_ge (tgt := 160) hx hb dX4_digest_120 (by decide) (fun c_4 => ?_) (fun c_4 => ?_)
                        · rw [hnr] at c_4
                          have hr59 := lp_ge (n := nr) c_4 (by omega) hr5
                          refine lv_lload_n hx hb dX4_digest_160 rfl (lv_at hl 1 rfl) ?_
                          exact e_L C0 hr hP hS (by rw [hx5, hr59]) (by decide) dX4_digest_161
                        · rw [hnr] at c_4
                          have hr5t := lp_lt (n := nr) c_4 (by omega) hr5
                          refine lv_iconst (v := 0) hx hb dX4_digest_123 (by decide) ?_
                          refine lv_istore (lv' := [(4, .int 0), (3, .int (nI r)), (1, .long x5), (0, .ref (adr G 0))]) hx hb dX4_digest_124 hl (by decide) rfl (fun ls hl => ?_)
                          have loop_126 : ∀ (fuel_126 : Nat) (w6 : Nat) (x6 : Int64), 8 + 1 ≤ w6 + fuel_126 → (w6 ≤ 8) → (x6 = fdF (rfF M np k r) (ffF (rfF M np k) 8 (ffF (pfF M nr k) 5 (fdF (fun h => 10 * M 2 h + M 3 h) (fdF (hfF M np nr k) 853 9) 12) np) r) w6) → ∀ (H : Heap) (locs : List Loc), PW G M o H → va_S (pA G sz) s.heap H locs → ∀ ls : Array Slot, lv_has ls 5 [(4, .int (nI w6)), (3, .int (nI r)), (1, .long x6), (0, .ref (adr G 0))] → W p l e (rmU 6 132 0 0) s m ([.ref (adr G 0)] : List Value).toArray below meth c H locs 0 0 (MQ below (QL G M o (ffF (rfF M np k) 8 (ffF (pfF M nr k) 5 (fdF (fun h => 10 * M 2 h + M 3 h) (fdF (hfF M np nr k) 853 9) 12) np) nr) sz) ([.ref (adr G 0)] : List Value).toArray s 0 0 (pA G sz)) (F0 m 126 ls []) := by
                            intro fuel_126
                            induction fuel_126 with
                            | zero =>
                              intro w6 x6 hf hw6 hx6
                              exact absurd hf (by omega)
                            | succ fuel_126 ih_126 =>
                              intro w6 x6 hf hw6 hx6 H locs hP hS ls hl
                              refine lv_iload hx hb dX4_digest_126 (lv_at hl 0 rfl) ?_
                              refine lv_bipush (v := 8) hx hb dX4_digest_128 (by decide) ?_
                              refine lv_icmp_ge (tgt := 154) hx hb dX4_digest_130 (by decide) (fun c_5 => ?_) (fun c_5 => ?_)
                              · have hw69 := lp_ge (n := 8) c_5 (by omega) hw6
                                refine lv_iinc (v := nI (r + 1)) (lv' := [(3, .int (nI (r + 1))), (4, .int (nI w6)), (1, .long x6), (0, .ref (adr G 0))]) hx hb dX4_digest_154 hl (k := 1) rfl (nI_1 r) (by decide) rfl (fun ls hl => ?_)
                                refine lv_goto (tgt := 112) hx hb dX4_digest_157 (by decide) ?_
                                exact ih_112 (r + 1) _ (by omega) (by omega) (by rw [hx6, hw69]; rfl) _ _ hP hS _ (lv_sub hl [0, 2, 3] rfl)
                              · have hw6t := lp_lt (n := 8) c_5 (by omega) hw6
                                refine lv_lload_n hx hb dX4_digest_133 rfl (lv_at hl 2 rfl) ?_
                                refine lv_ldc2 (v := 31) hx hb C0.ow (C0.ts _ kl_X4_189) dX4_digest_134 ?_
                                refine lv_lmul hx hb dX4_digest_137 ?_
                                refine lv_aload_n hx hb dX4_digest_138 rfl (lv_at hl 3 rfl) ?_
                                refine lv_iload_n hx hb dX4_digest_139 rfl (lv_at hl 1 rfl) ?_
                                refine lv_iload hx hb dX4_digest_140 (lv_at hl 0 rfl) ?_
                                refine k_VI C0 hP hS (rest := [.long (x6 * 31)]) (c_X4_roomFact l G M o np nr k hO r w6 (by omega) (by omega)) mf_X4_roomFact ml_X4_113 (kd_lt (show kd 0 = 4 by decide) (by decide)) (ct_4 (show kd 0 = 4 by decide)) rfl hl.1 (by decide) (by decide) (Nat.le_of_ble_eq_true rfl) rfl rfl dX4_digest_142 (fun H locs hP hS => ?_)
                                refine lv_i2l hx hb dX4_digest_145 rfl ?_
                                refine lv_ladd hx hb dX4_digest_146 ?_
                                refine lv_lstore_n (lv' := [(1, .long ((x6 * 31) + (Int32.toInt64 (rfF M np k r w6)))), (4, .int (nI w6)), (3, .int (nI r)), (0, .ref (adr G 0))]) hx hb dX4_digest_147 rfl hl (by decide) rfl (fun ls hl => ?_)
                                refine lv_iinc (v := nI (w6 + 1)) (lv' := [(4, .int (nI (w6 + 1))), (1, .long ((x6 * 31) + (Int32.toInt64 (rfF M np k r w6)))), (3, .int (nI r)), (0, .ref (adr G 0))]) hx hb dX4_digest_148 hl (k := 1) rfl (nI_1 w6) (by decide) rfl (fun ls hl => ?_)
                                refine lv_goto (tgt := 126) hx hb dX4_digest_151 (by decide) ?_
                                exact ih_126 (w6 + 1) _ (by omega) (by omega) (by rw [hx6]; rfl) _ _ hP hS _ (lv_sub hl [0, 2, 1, 3] rfl)
                          exact loop_126 (8 + 1) 0 _ (by omega) (by omega) (by rw [hx5]; rfl) _ _ hP hS _ (lv_sub hl [0, 1, 2, 3] rfl)
                    exact loop_112 (nr + 1) 0 _ (by omega) (by omega) (by rw [hx3, hi9]; rfl) _ _ hP hS _ (lv_sub hl [0, 1, 2] rfl)
                  · rw [hnp] at c_3
                    have hit := lp_lt (n := np) c_3 (by omega) hi
                    refine lv_iconst (v := 0) hx hb dX4_digest_74 (by decide) ?_
                    refine lv_istore (lv' := [(4, .int 0), (3, .int (nI i)), (1, .long x3), (0, .ref (adr G 0))]) hx hb dX4_digest_75 hl (by decide) rfl (fun ls hl => ?_)
                    have loop_77 : ∀ (fuel_77 : Nat) (w4 : Nat) (x4 : Int64), 5 + 1 ≤ w4 + fuel_77 → (w4 ≤ 5) → (x4 = fdF (pfF M nr k i) (ffF (pfF M nr k) 5 (fdF (fun h => 10 * M 2 h + M 3 h) (fdF (hfF M np nr k) 853 9) 12) i) w4) → ∀ (H : Heap) (locs : List Loc), PW G M o H → va_S (pA G sz) s.heap H locs → ∀ ls : Array Slot, lv_has ls 5 [(4, .int (nI w4)), (3, .int (nI i)), (1, .long x4), (0, .ref (adr G 0))] → W p l e (rmU 6 132 0 0) s m ([.ref (adr G 0)] : List Value).toArray below meth c H locs 0 0 (MQ below (QL G M o (ffF (rfF M np k) 8 (ffF (pfF M nr k) 5 (fdF (fun h => 10 * M 2 h + M 3 h) (fdF (hfF M np nr k) 853 9) 12) np) nr) sz) ([.ref (adr G 0)] : List Value).toArray s 0 0 (pA G sz)) (F0 m 77 ls []) := by
                      intro fuel_77
                      induction fuel_77 with
                      | zero =>
                        intro w4 x4 hf hw4 hx4
                        exact absurd hf (by omega)
                      | succ fuel_77 ih_77 =>
                        intro w4 x4 hf hw4 hx4 H locs hP hS ls hl
                        refine lv_iload hx hb dX4_digest_77 (lv_at hl 0 rfl) ?_
                        refine lv_iconst (v := 5) hx hb dX4_digest_79 (by decide) ?_
                        refine lv_icmp_ge (tgt := 104) hx hb dX4_digest_80 (by decide) (fun c_6 => ?_) (fun c_6 => ?_)
                        · have hw49 := lp_ge (n := 5) c_6 (by omega) hw4
                          refine lv_iinc (v := nI (i + 1)) (lv' := [(3, .int (nI (i + 1))), (4, .int (nI w4)), (1, .long x4), (0, .ref (adr G 0))]) hx hb dX4_digest_104 hl (k := 1) rfl (nI_1 i) (by decide) rfl (fun ls hl => ?_)
                          refine lv_goto (tgt := 63) hx hb dX4_digest_107 (by decide) ?_
                          exact ih_63 (i + 1) _ (by omega) (by omega) (by rw [hx4, hw49]; rfl) _ _ hP hS _ (lv_sub hl [0, 2, 3] rfl)
                        · have hw4t := lp_lt (n := 5) c_6 (by omega) hw4
                          refine lv_lload_n hx hb dX4_digest_83 rfl (lv_at hl 2 rfl) ?_
                          refine lv_ldc2 (v := 31) hx hb C0.ow (C0.ts _ kl_X4_189) dX4_digest_84 ?_
                          refine lv_lmul hx hb dX4_digest_87 ?_
                          refine lv_aload_n hx hb dX4_digest_88 rfl (lv_at hl 3 rfl) ?_
                          refine lv_iload_n hx hb dX4_digest_89 rfl (lv_at hl 1 rfl) ?_
                          refine lv_iload hx hb dX4_digest_90 (lv_at hl 0 rfl) ?_
                          refine k_VI C0 hP hS (rest := [.long (x4 * 31)]) (c_X4_passerFact l G M o np nr k hO i w4 (by omega) (by omega)) mf_X4_passerFact ml_X4_109 (kd_lt (show kd 0 = 4 by decide) (by decide)) (ct_4 (show kd 0 = 4 by decide)) rfl hl.1 (by decide) (by decide) (Nat.le_of_ble_eq_true rfl) rfl rfl dX4_digest_92 (fun H locs hP hS => ?_)
                          refine lv_i2l hx hb dX4_digest_95 rfl ?_
                          refine lv_ladd hx hb dX4_digest_96 ?_
                          refine lv_lstore_n (lv' := [(1, .long ((x4 * 31) + (Int32.toInt64 (pfF M nr k i w4)))), (4, .int (nI w4)), (3, .int (nI i)), (0, .ref (adr G 0))]) hx hb dX4_digest_97 rfl hl (by decide) rfl (fun ls hl => ?_)
                          refine lv_iinc (v := nI (w4 + 1)) (lv' := [(4, .int (nI (w4 + 1))), (1, .long ((x4 * 31) + (Int32.toInt64 (pfF M nr k i w4)))), (3, .int (nI i)), (0, .ref (adr G 0))]) hx hb dX4_digest_98 hl (k := 1) rfl (nI_1 w4) (by decide) rfl (fun ls hl => ?_)
                          refine lv_goto (tgt := 77) hx hb dX4_digest_101 (by decide) ?_
                          exact ih_77 (w4 + 1) _ (by omega) (by omega) (by rw [hx4]; rfl) _ _ hP hS _ (lv_sub hl [0, 2, 1, 3] rfl)
                    exact loop_77 (5 + 1) 0 _ (by omega) (by omega) (by rw [hx3]; rfl) _ _ hP hS _ (lv_sub hl [0, 1, 2, 3] rfl)
              exact loop_63 (np + 1) 0 _ (by omega) (by omega) (by rw [hx2, hw29]; rfl) _ _ hP hS _ (lv_sub hl [0, 1, 2] rfl)
            · have hw2t := lp_lt (n := 12) c_2 (by omega) hw2
              refine lv_lload_n hx hb dX4_digest_39 rfl (lv_at hl 1 rfl) ?_
              refine lv_ldc2 (v := 31) hx hb C0.ow (C0.ts _ kl_X4_189) dX4_digest_40 ?_
              refine lv_lmul hx hb dX4_digest_43 ?_
              refine lv_aload_n hx hb dX4_digest_44 rfl (lv_at hl 2 rfl) ?_
              refine gf_X4_12 C0 hP (k := 0) (show kd 0 = 4 by decide) dX4_digest_45 ?_
              refine lv_iload_n hx hb dX4_digest_48 rfl (lv_at hl 0 rfl) ?_
              refine k_VNI C0 hP hS (rest := [.long (x2 * 31)]) (c_X3_entry l G M o w2 (by omega)) mf_X3_entry ml_X4_59 (kd_lt (show kd 1 = 3 by decide) (by decide)) (ct_3 (show kd 1 = 3 by decide)) rfl hl.1 (by decide) (by decide) (Nat.le_of_ble_eq_true rfl) rfl rfl dX4_digest_49 (fun H locs hP hS => ?_)
              refine lv_i2l hx hb dX4_digest_52 rfl ?_
              refine lv_ladd hx hb dX4_digest_53 ?_
              refine lv_lstore_n (lv' := [(1, .long ((x2 * 31) + (Int32.toInt64 (10 * M 2 w2 + M 3 w2)))), (3, .int (nI w2)), (0, .ref (adr G 0))]) hx hb dX4_digest_54 rfl hl (by decide) rfl (fun ls hl => ?_)
              refine lv_iinc (v := nI (w2 + 1)) (lv' := [(3, .int (nI (w2 + 1))), (1, .long ((x2 * 31) + (Int32.toInt64 (10 * M 2 w2 + M 3 w2)))), (0, .ref (adr G 0))]) hx hb dX4_digest_55 hl (k := 1) rfl (nI_1 w2) (by decide) rfl (fun ls hl => ?_)
              refine lv_goto (tgt := 33) hx hb dX4_digest_58 (by decide) ?_
              exact ih_33 (w2 + 1) _ (by omega) (by omega) (by rw [hx2]; rfl) _ _ hP hS _ (lv_sub hl [0, 1, 2] rfl)
        exact loop_33 (12 + 1) 0 _ (by omega) (by omega) (by rw [hxx, hw9]; rfl) _ _ hP hS _ (lv_sub hl [0, 1, 2] rfl)
      · have hwt := lp_lt (n := 9) c_1 (by omega) hw
        refine lv_lload_n hx hb dX4_digest_12 rfl (lv_at hl 1 rfl) ?_
        refine lv_ldc2 (v := 31) hx hb C0.ow (C0.ts _ kl_X4_189) dX4_digest_13 ?_
        refine lv_lmul hx hb dX4_digest_16 ?_
        refine lv_aload_n hx hb dX4_digest_17 rfl (lv_at hl 2 rfl) ?_
        refine lv_iload_n hx hb dX4_digest_18 rfl (lv_at hl 0 rfl) ?_
        refine k_VI C0 hP hS (rest := [.long (x * 31)]) (c_X4_houseFact l G M o np nr k hO w (by omega)) mf_X4_houseFact ml_X4_137 (kd_lt (show kd 0 = 4 by decide) (by decide)) (ct_4 (show kd 0 = 4 by decide)) rfl hl.1 (by decide) (by decide) (Nat.le_of_ble_eq_true rfl) rfl rfl dX4_digest_19 (fun H locs hP hS => ?_)
        refine lv_i2l hx hb dX4_digest_22 rfl ?_
        refine lv_ladd hx hb dX4_digest_23 ?_
        refine lv_lstore_n (lv' := [(1, .long ((x * 31) + (Int32.toInt64 (hfF M np nr k w)))), (3, .int (nI w)), (0, .ref (adr G 0))]) hx hb dX4_digest_24 rfl hl (by decide) rfl (fun ls hl => ?_)
        refine lv_iinc (v := nI (w + 1)) (lv' := [(3, .int (nI (w + 1))), (1, .long ((x * 31) + (Int32.toInt64 (hfF M np nr k w)))), (0, .ref (adr G 0))]) hx hb dX4_digest_25 hl (k := 1) rfl (nI_1 w) (by decide) rfl (fun ls hl => ?_)
        refine lv_goto (tgt := 6) hx hb dX4_digest_28 (by decide) ?_
        exact ih_6 (w + 1) _ (by omega) (by omega) (by rw [hxx]; rfl) _ _ hP hS _ (lv_sub hl [0, 1, 2] rfl)
  exact loop_6 (9 + 1) 0 853 (by omega) (by omega) rfl _ _ hP hS _ (lv_sub hl [0, 1, 2] rfl)
end CLD
