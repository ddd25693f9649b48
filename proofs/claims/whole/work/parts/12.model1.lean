section MO1
variable {p : Program} {l : Launch} {e : Env} {R : Room} {s : State} {m : MethodId} {args : Array Value} {below : List Frame} {meth : Method} {c : Code} {H : Heap} {locs : List Loc} {cells slots : Nat} {Q : State → Prop} {cc : ByteArray} {pc : Nat} {ls : Array Slot} {rest : List Value} {own : String} {nL : Nat} {G : GG} {sz : Nat} {M : Mem} {o : Nat → Int64}
def inF (x a b : Int32) : Int32 := if x < a then 0 else if b < x then 0 else 1
def shT (M : Mem) (t r i : Nat) : Int32 := shF (M (t + 1) i) (M 52 r) (M 53 r)
def brT (M : Mem) (t : Nat) (li : Int32) (r i : Nat) : Int32 := brF li (M 51 i) (M (t + 2) r) (M 53 r) (M 54 r)
def wlT (M : Mem) (t : Nat) (li : Int32) (r i : Nat) : Int32 := wlF (M (t + 1) i) (M 52 r) (M 53 r) (M (t + 2) r) (M 50 i) li (M 51 i) (M 54 r)
def swT (M : Mem) (t : Nat) (li : Int32) (r n : Nat) : Int32 := cntF (fun i => wlT M t li r i) n
def psM (M : Mem) (t n : Nat) : Mem := fun a b => if a = t + 1 ∧ b < n then wk (M a b) (M 49 b) else M a b
def qsM (M : Mem) (t : Nat) (li : Int32) (np n : Nat) : Mem := fun a b => if a = t + 3 ∧ b < n then ppF (swT M t li b np) (M a b) (M 55 b) else if a = t + 4 ∧ b < n then M a b + paF (swT M t li b np) (M (t + 3) b) else M a b
def goT (M : Mem) (t np nr k : Nat) : Mem := u2 (qsM (psM M t np) t (ltF (M 47) (M 48) k) np nr) t 0 (nI (k + 1))
def g1 (M : Mem) (t np nr k : Nat) : Mem := if k < 720 then goT M t np nr k else M
def cyM (M : Mem) (a b : Nat) : Mem := fun x y => if x = b ∧ y < ln a then M a y else M x y
def gT (M : Mem) (t np nr k : Nat) : Nat → Mem
  | 0 => M
  | j + 1 => goT (gT M t np nr k j) t np nr (k + j)
def bcM (M : Mem) : Mem := fun a b => if a = 61 ∧ b = 0 then M 56 0 else if a = 62 ∧ b < 10 then M 57 b else if (63 ≤ a ∧ a ≤ 65) ∧ b < 8 then M (a - 5) b else M a b
theorem bcM_e {M : Mem} : cyM (cyM (cyM (cyM (u2 M 61 0 (M 56 0)) 57 62) 58 63) 59 64) 60 65 = bcM M := by
  funext a b
  have e1 : ln 57 = 10 := by decide
  have e2 : ln 58 = 8 := by decide
  have e3 : ln 59 = 8 := by decide
  have e4 : ln 60 = 8 := by decide
  unfold cyM bcM u2
  rw [e1, e2, e3, e4]
  by_cases h1 : a = 61
  · subst h1; simp
  by_cases h2 : a = 62
  · subst h2; simp
  by_cases h3 : a = 63
  · subst h3; simp
  by_cases h4 : a = 64
  · subst h4; simp
  by_cases h5 : a = 65
  · subst h5; simp
  have h6 : ¬ (63 ≤ a ∧ a ≤ 65) := by omega
  simp only [h1, h2, h3, h4, h5, h6, false_and, if_false]
theorem stp_in {v : Int32} : stp v = inF v 0 59 := by
  have e : (60 : Int32) ≤ v ↔ 59 < v := by
    rw [Int32.le_iff_toInt_le, Int32.lt_iff_toInt_lt, show (60 : Int32).toInt = 60 from by decide, show (59 : Int32).toInt = 59 from by decide]
    omega
  unfold stp inF
  by_cases h : 59 < v
  · rw [if_pos h, if_pos (e.mpr h)]
  · rw [if_neg h, if_neg (fun z => h (e.mp z))]
theorem wk_in {x y : Int32} : wk x y = if x = -1 then x else if inF (x + y) 0 59 = 0 then -1 else x + y := by
  unfold wk gn
  rw [stp_in]
  by_cases h : x = -1
  · rw [if_pos h, if_pos h, if_neg (by decide)]
  · rw [if_neg h, if_neg h, if_pos rfl]
theorem mx_comm (x y : Int32) : mx x y = mx y x := by
  unfold mx
  by_cases h : x < y
  · rw [if_pos h, if_neg (fun z => absurd (Int32.lt_trans h z) (Int32.lt_irrefl))]
  · rw [if_neg h]
    by_cases h2 : y < x
    · rw [if_pos h2]
    · rw [if_neg h2]
      exact Int32.le_antisymm (Int32.not_lt.mp h2) (Int32.not_lt.mp h)
theorem mn_comm (x y : Int32) : mn x y = mn y x := by
  unfold mn
  by_cases h : x < y
  · rw [if_pos h, if_neg (fun z => absurd (Int32.lt_trans h z) (Int32.lt_irrefl))]
  · rw [if_neg h]
    by_cases h2 : y < x
    · rw [if_pos h2]
    · rw [if_neg h2]
      exact Int32.le_antisymm (Int32.not_lt.mp h2) (Int32.not_lt.mp h)
theorem ppF_m {sh pe se : Int32} : ppF sh pe se = if sh = 0 then mx 0 (pe - 1) else if sh ≤ 1 then pe else if se ≤ pe then pe else pe + 1 := by
  have e : sh < 2 ↔ sh ≤ 1 := by
    rw [Int32.le_iff_toInt_le, Int32.lt_iff_toInt_lt, show (2 : Int32).toInt = 2 from by decide, show (1 : Int32).toInt = 1 from by decide]
    omega
  unfold ppF
  rw [mx_comm]
  by_cases h : sh < 2
  · rw [if_pos h, if_pos (e.mp h)]
  · rw [if_neg h, if_neg (fun z => h (e.mpr z))]
theorem paF_m {sh pe : Int32} : paF sh pe = if sh = 0 then 0 else pe * mn 2 sh := by
  unfold paF
  rw [mn_comm]
theorem psM_z {M : Mem} {t : Nat} : psM M t 0 = M := by
  funext a b
  unfold psM
  rw [if_neg (by omega)]
theorem psM_0 {M : Mem} {t n a b : Nat} (h : a ≠ t + 1) : psM M t n a b = M a b := by
  unfold psM
  rw [if_neg (by omega)]
theorem psM_row {M : Mem} {t n a : Nat} (h : a ≠ t + 1) : psM M t n a = M a := by
  funext b
  exact psM_0 h
theorem psM_h {M : Mem} {t n : Nat} : psM M t n (t + 1) n = M (t + 1) n := by
  unfold psM
  rw [if_neg (by omega)]
theorem psM_b {M : Mem} {t i : Nat} {v : Int32} (ht : t = 56 ∨ t = 61) (hv : v = wk (psM M t i (t + 1) i) (psM M t i 49 i)) : u2 (psM M t i) (t + 1) i v = psM M t (i + 1) := by
  funext a b
  rw [hv, psM_h, psM_0 (a := 49) (by omega)]
  unfold u2
  by_cases h : a = t + 1 ∧ b = i
  · obtain ⟨rfl, rfl⟩ := h
    rw [if_pos ⟨rfl, rfl⟩]
    unfold psM
    rw [if_pos ⟨rfl, by omega⟩]
  · rw [if_neg h]
    unfold psM
    by_cases h2 : a = t + 1 ∧ b < i
    · rw [if_pos h2, if_pos (by omega)]
    · rw [if_neg h2, if_neg (by omega)]
theorem psM_a {M : Mem} {t i : Nat} (h : psM M t i (t + 1) i = -1) : psM M t i = psM M t (i + 1) := by
  rw [psM_h] at h
  funext a b
  unfold psM
  by_cases h2 : a = t + 1 ∧ b < i
  · rw [if_pos h2, if_pos (by omega)]
  · rw [if_neg h2]
    by_cases h3 : a = t + 1 ∧ b = i
    · obtain ⟨rfl, rfl⟩ := h3
      rw [if_pos (by omega), wk_in, if_pos h]
    · rw [if_neg (by omega)]
theorem qsM_z {M : Mem} {t np : Nat} {li : Int32} : qsM M t li np 0 = M := by
  funext a b
  unfold qsM
  rw [if_neg (by omega), if_neg (by omega)]
theorem qsM_0 {M : Mem} {t np n a b : Nat} {li : Int32} (h : a ≠ t + 3 ∧ a ≠ t + 4) : qsM M t li np n a b = M a b := by
  unfold qsM
  rw [if_neg (by omega), if_neg (by omega)]
theorem qsM_row {M : Mem} {t np n a : Nat} {li : Int32} (h : a ≠ t + 3 ∧ a ≠ t + 4) : qsM M t li np n a = M a := by
  funext b
  exact qsM_0 h
theorem qsM_h3 {M : Mem} {t np n : Nat} {li : Int32} : qsM M t li np n (t + 3) n = M (t + 3) n := by
  unfold qsM
  rw [if_neg (by omega), if_neg (by omega)]
theorem qsM_h4 {M : Mem} {t np n : Nat} {li : Int32} : qsM M t li np n (t + 4) n = M (t + 4) n := by
  unfold qsM
  rw [if_neg (by omega), if_neg (by omega)]
theorem swT_qs {M : Mem} {t np n r m : Nat} {li li2 : Int32} (ht : t = 56 ∨ t = 61) : swT (qsM M t li np n) t li2 r m = swT M t li2 r m := by
  unfold swT
  refine cntF_congr (fun i _ => ?_)
  unfold wlT
  rw [qsM_0 (a := t + 1) (by omega), qsM_0 (a := 52) (by omega), qsM_0 (a := 53) (by omega), qsM_0 (a := t + 2) (by omega), qsM_0 (a := 50) (by omega), qsM_0 (a := 51) (by omega), qsM_0 (a := 54) (by omega)]
theorem qsM_s {M X : Mem} {t np r : Nat} {li : Int32} (ht : t = 56 ∨ t = 61) (h3 : X (t + 3) r = ppF (swT M t li r np) (M (t + 3) r) (M 55 r)) (h4 : X (t + 4) r = M (t + 4) r + paF (swT M t li r np) (M (t + 3) r)) (ho : ∀ a b, ¬ (a = t + 3 ∧ b = r) → ¬ (a = t + 4 ∧ b = r) → X a b = qsM M t li np r a b) : X = qsM M t li np (r + 1) := by
  funext a b
  by_cases e3 : a = t + 3 ∧ b = r
  · obtain ⟨rfl, rfl⟩ := e3
    rw [h3]
    unfold qsM
    rw [if_pos ⟨rfl, by omega⟩]
  by_cases e4 : a = t + 4 ∧ b = r
  · obtain ⟨rfl, rfl⟩ := e4
    rw [h4]
    unfold qsM
    rw [if_neg (by omega), if_pos ⟨rfl, by omega⟩]
  rw [ho a b e3 e4]
  unfold qsM
  by_cases h1 : a = t + 3 ∧ b < r
  · rw [if_pos h1, if_pos (by omega)]
  · rw [if_neg h1, if_neg (show ¬ (a = t + 3 ∧ b < r + 1) by omega)]
    by_cases h2 : a = t + 4 ∧ b < r
    · rw [if_pos h2, if_pos (by omega)]
    · rw [if_neg h2, if_neg (by omega)]
theorem goT_lo {M : Mem} {t np nr k a : Nat} (h : a ≠ t ∧ a ≠ t + 1 ∧ a ≠ t + 3 ∧ a ≠ t + 4) : goT M t np nr k a = M a := by
  unfold goT
  rw [u2_ne h.1, qsM_row h.2.2, psM_row h.2.1]
theorem gT_lo {M : Mem} {t np nr k a : Nat} (h : a ≠ t ∧ a ≠ t + 1 ∧ a ≠ t + 3 ∧ a ≠ t + 4) : ∀ {j : Nat}, gT M t np nr k j a = M a
  | 0 => rfl
  | j + 1 => by
    unfold gT
    rw [goT_lo h, gT_lo h]
theorem gT_t {M : Mem} {t np nr k : Nat} (h : M t 0 = nI k) : ∀ {j : Nat}, gT M t np nr k j t 0 = nI (k + j)
  | 0 => h
  | j + 1 => by
    unfold gT goT
    exact u2_at
theorem tk_z {k : Nat} (hk : k ≤ 720) : tk k 0 = 0 := by unfold tk; omega
theorem gT_s {M : Mem} {t np nr k j : Nat} (hk : k ≤ 720) : g1 (gT M t np nr k (tk k j)) t np nr (k + tk k j) = gT M t np nr k (tk k (j + 1)) := by
  unfold g1
  by_cases h : k + tk k j < 720
  · rw [if_pos h, show tk k (j + 1) = tk k j + 1 by unfold tk at *; omega]
    rfl
  · rw [if_neg h, show tk k (j + 1) = tk k j by unfold tk at *; omega]
theorem mI_nle {a b : Nat} (h : b < a) (ha : a < 2000) : ¬ nI a ≤ nI b := fun z => by
  have := (nI_leI (by omega) (by omega)).mp z
  omega
theorem w_copy (C0 : CX p s m args meth c cc own nL G sz) (hP : PW G M o H) (hS : va_S (pA G sz) s.heap H locs) {k1 k2 idx n : Nat} (h1 : kd k1 = 7) (h2 : kd k2 = 7) (hn : ln k1 = n) (hlen : ln k1 = ln k2) (hl64 : ln k1 < 64) (hlink : Cond.methodLink own idx arraycopyName ∈ UU) (hls : ls.size = nL) (hR : 1 ≤ R.frames ∧ (rest.map fun v => v.category).sum + (nativeFrameWords "java/lang/System" "arraycopy" 5 + 11) ≤ R.locals) (dg : decode cc pc = .ok (.invokestatic idx, 3))
    (kk : ∀ (H1 : Heap) (locs1 : List Loc), PW G (cyM M k1 k2) o H1 → va_S (pA G sz) s.heap H1 locs1 → W p l e R s m args below meth c H1 locs1 cells slots Q (F0 m (pc + 3) ls (rest))) : W p l e R s m args below meth c H locs cells slots Q (F0 m pc ls (.int (nI n) :: .int 0 :: .ref (adr G k2) :: .int 0 :: .ref (adr G k1) :: rest)) := by
  subst hn
  refine va_copyi (D := DG G) C0.1 C0.2.1 (C0.2.2.1.trans hls.symm) C0.ow (C0.ts _ hlink) (C0.ts _ (List.mem_filter.mpr ⟨List.mem_append_right _ (List.mem_append_right _ (List.mem_append_right _ (List.mem_append_right _ (List.mem_of_getElem? (i := 44) rfl)))), rfl⟩)) (C0.ts _ (List.mem_filter.mpr ⟨List.mem_append_right _ (List.mem_append_right _ (List.mem_append_right _ (List.mem_append_right _ (List.mem_of_getElem? (i := 43) rfl)))), rfl⟩)) (C0.ts _ (List.mem_filter.mpr ⟨List.mem_append_right _ (List.mem_append_left _ (List.mem_of_getElem? (i := 15) rfl)), rfl⟩)) C0.K hP (wld_D C0.inj) hS k1 k2 0 0 (by rw [wld_at (kd_lt h1 (by decide)), ct_7 h1]) (by rw [wld_at (kd_lt h2 (by decide)), ct_7 h2]) rfl rfl rfl (by decide) (by decide) (nI_pos (by omega)) (by rw [nI_clamp (by omega)]; show 0 + ln k1 ≤ _; omega) (by rw [nI_clamp (by omega)]; show 0 + ln k1 ≤ _; omega) (fun _ _ => rfl) hR.1 hR.2 dg (fun H1 locs1 hP1 _ hS1 => ?_)
  rw [wld_set (M' := cyM M k1 k2) (o' := o) (kd_lt h2 (by decide)) (by
    rw [ct_7 h2, nI_clamp (by omega)]
    congr 5
    funext b
    unfold cyM va_cpy
    show (if k2 = k2 ∧ b < ln k1 then M k1 b else M k2 b) = (if 0 ≤ b ∧ b < 0 + ln k1 then M k1 (0 + (b - 0)) else M k2 b)
    by_cases hb : b < ln k1
    · rw [if_pos ⟨rfl, hb⟩, if_pos ⟨by omega, by omega⟩, show 0 + (b - 0) = b by omega]
    · rw [if_neg (fun z => hb z.2), if_neg (fun z => hb (by omega))]) (fun i hi => ct_same (by
    funext b
    unfold cyM
    rw [if_neg (fun z => hi z.1)]))] at hP1
  exact kk H1 locs1 hP1 hS1
theorem ml_X5_28 : Cond.methodLink RX5 28 arraycopyName ∈ UU := List.mem_filter.mpr ⟨List.mem_append_right _ (List.mem_append_right _ (List.mem_append_right _ (List.mem_append_right _ (List.mem_of_getElem? (i := 42) rfl)))), rfl⟩
set_option maxHeartbeats 4000000 in
set_option maxRecDepth 100000 in
theorem c_X6_isIn (l : Launch) (G : GG) (M : Mem) (o : Nat → Int64) (x a b : Int32) : MI l yX6_isIn cX6_isIn 3 (some .boolean) 0 0 G [.int x, .int a, .int b] M M o o (inF x a b) 0 0 := by
  refine MI_of RX6 rfl (by decide +kernel) (Nat.le_of_ble_eq_true rfl) ?_
  intro p e s m below meth c sz C0 hr hP ls hl
  have hx := C0.1
  have hb := C0.2.1
  have hS : va_S (pA G sz) s.heap s.heap [] := va_S.rf
  have hl : lv_has ls 3 [(0, .int x), (1, .int a), (2, .int b)] := hl
  refine lv_iload_n hx hb dX6_isIn_0 rfl (lv_at hl 0 rfl) ?_
  refine lv_iload_n hx hb dX6_isIn_1 rfl (lv_at hl 1 rfl) ?_
  refine lv_icmp_lt (tgt := 14) hx hb dX6_isIn_2 (by decide) (fun c_1 => ?_) (fun c_1 => ?_)
  · refine lv_iconst (v := 0) hx hb dX6_isIn_14 (by decide) ?_
    exact e_I (ty := .boolean) C0 hr (by decide +kernel) hP hS (by simp [inF, c_1]) (by decide) dX6_isIn_15
  · refine lv_iload_n hx hb dX6_isIn_5 rfl (lv_at hl 0 rfl) ?_
    refine lv_iload_n hx hb dX6_isIn_6 rfl (lv_at hl 2 rfl) ?_
    refine lv_icmp_gt (tgt := 14) hx hb dX6_isIn_7 (by decide) (fun c_2 => ?_) (fun c_2 => ?_)
    · refine lv_iconst (v := 0) hx hb dX6_isIn_14 (by decide) ?_
      exact e_I (ty := .boolean) C0 hr (by decide +kernel) hP hS (by simp [inF, c_1, c_2]) (by decide) dX6_isIn_15
    · refine lv_iconst (v := 1) hx hb dX6_isIn_10 (by decide) ?_
      refine lv_goto (tgt := 15) hx hb dX6_isIn_11 (by decide) ?_
      exact e_I (ty := .boolean) C0 hr (by decide +kernel) hP hS (by simp [inF, c_1, c_2]) (by decide) dX6_isIn_15

set_option maxHeartbeats 4000000 in
set_option maxRecDepth 100000 in
theorem c_X5_lightNow (l : Launch) (G : GG) (M : Mem) (o : Nat → Int64) (t : Nat) (ht : t = 56 ∨ t = 61) (k : Nat) (hk0 : M t 0 = nI k) (hk : k ≤ 720)  : MI l yX5_lightNow cX5_lightNow 1 (some .int) 0 0 G [.ref (adr G t)] M M o o (ltF (M 47) (M 48) k) 0 0 := by
  refine MI_of RX5 rfl (by decide +kernel) (Nat.le_of_ble_eq_true rfl) ?_
  intro p e s m below meth c sz C0 hr hP ls hl
  have hx := C0.1
  have hb := C0.2.1
  have hS : va_S (pA G sz) s.heap s.heap [] := va_S.rf
  have hl : lv_has ls 1 [(0, .ref (adr G t))] := hl
  refine lv_aload_n hx hb dX5_lightNow_0 rfl (lv_at hl 0 rfl) ?_
  refine gf_X5_34 C0 hP (k := t) (kdT ht) dX5_lightNow_1 ?_
  refine lv_topE (y := nI k) (hk0) ?_
  refine lv_sipush (v := 720) hx hb dX5_lightNow_4 (by decide) ?_
  refine lv_icmp_ge (tgt := 50) hx hb dX5_lightNow_7 (by decide) (fun c_1 => ?_) (fun c_1 => ?_)
  · have hk2 : ¬ k < 720 := fun z => absurd c_1 (mI_nle (a := 720) (b := k) z (by omega))
    refine lv_iconst (v := 0) hx hb dX5_lightNow_50 (by decide) ?_
    exact e_Ii C0 hr hP hS (by simp [ltF, hk2]) (by decide) dX5_lightNow_51
  · have hk2 : k < 720 := by
      rcases Nat.lt_or_ge k 720 with z | z
      · exact z
      · exact absurd (nI_le (a := 720) (b := k) z (by omega)) c_1
    refine lv_aload_n hx hb dX5_lightNow_10 rfl (lv_at hl 0 rfl) ?_
    refine gf_X5_3 C0 hP (k := t) (kdT ht) dX5_lightNow_11 ?_
    refine gf_X5_42 C0 hP (k := 46) (show kd 46 = 6 by decide) dX5_lightNow_14 ?_
    refine lv_aload_n hx hb dX5_lightNow_17 rfl (lv_at hl 0 rfl) ?_
    refine gf_X5_34 C0 hP (k := t) (kdT ht) dX5_lightNow_18 ?_
    refine lv_topE (y := nI k) (hk0) ?_
    refine lv_bipush (v := 60) hx hb dX5_lightNow_21 (by decide) ?_
    refine lv_idiv hx hb dX5_lightNow_23 (by decide) ?_
    rw [show (nI k / 60 : Int32) = nI (k / 60) from pk_div (by omega) (by decide) (by decide)]
    refine w_ialdN C0 hP (k := 47) (i := (k / 60)) (show kd 47 = 7 by decide) (show (k / 60) < 12 by omega) (by omega) dX5_lightNow_24 ?_
    refine lv_bipush (v := 10) hx hb dX5_lightNow_25 (by decide) ?_
    refine lv_aload_n hx hb dX5_lightNow_27 rfl (lv_at hl 0 rfl) ?_
    refine gf_X5_3 C0 hP (k := t) (kdT ht) dX5_lightNow_28 ?_
    refine gf_X5_45 C0 hP (k := 46) (show kd 46 = 6 by decide) dX5_lightNow_31 ?_
    refine lv_aload_n hx hb dX5_lightNow_34 rfl (lv_at hl 0 rfl) ?_
    refine gf_X5_34 C0 hP (k := t) (kdT ht) dX5_lightNow_35 ?_
    refine lv_topE (y := nI k) (hk0) ?_
    refine lv_bipush (v := 60) hx hb dX5_lightNow_38 (by decide) ?_
    refine lv_idiv hx hb dX5_lightNow_40 (by decide) ?_
    rw [show (nI k / 60 : Int32) = nI (k / 60) from pk_div (by omega) (by decide) (by decide)]
    refine w_ialdN C0 hP (k := 48) (i := (k / 60)) (show kd 48 = 7 by decide) (show (k / 60) < 12 by omega) (by omega) dX5_lightNow_41 ?_
    refine lv_isub hx hb dX5_lightNow_42 ?_
    refine lv_imul hx hb dX5_lightNow_43 ?_
    refine lv_bipush (v := 10) hx hb dX5_lightNow_44 (by decide) ?_
    refine lv_idiv hx hb dX5_lightNow_46 (by decide) ?_
    refine lv_goto (tgt := 51) hx hb dX5_lightNow_47 (by decide) ?_
    exact e_Ii C0 hr hP hS (by simp [ltF, hk2]) (by decide) dX5_lightNow_51

set_option maxHeartbeats 4000000 in
set_option maxRecDepth 100000 in
theorem c_X5_isShown (l : Launch) (G : GG) (M : Mem) (o : Nat → Int64) (t : Nat) (ht : t = 56 ∨ t = 61) (r i : Nat) (hr0 : r < 8) (hi0 : i < 10)  : MI l yX5_isShown cX5_isShown 3 (some .boolean) 1 21 G [.ref (adr G t), .int (nI r), .int (nI i)] M M o o (shT M t r i) 0 0 := by
  refine MI_of RX5 rfl (by decide +kernel) (Nat.le_of_ble_eq_true rfl) ?_
  intro p e s m below meth c sz C0 hr hP ls hl
  have hx := C0.1
  have hb := C0.2.1
  have hS : va_S (pA G sz) s.heap s.heap [] := va_S.rf
  have hl : lv_has ls 3 [(0, .ref (adr G t)), (1, .int (nI r)), (2, .int (nI i))] := hl
  refine lv_aload_n hx hb dX5_isShown_0 rfl (lv_at hl 0 rfl) ?_
  refine gf_X5_15 C0 hP (k := t) (kdT ht) dX5_isShown_1 ?_
  refine lv_iload_n hx hb dX5_isShown_4 rfl (lv_at hl 2 rfl) ?_
  refine w_ialdN C0 hP (k := t + 1) (i := i) (kdT1 ht) (by rw [lnT1 ht]; omega) (by omega) dX5_isShown_5 ?_
  refine lv_iconst (v := -1) hx hb dX5_isShown_6 (by decide) ?_
  refine lv_icmp_eq (tgt := 47) hx hb dX5_isShown_7 (by decide) (fun c_1 => ?_) (fun c_1 => ?_)
  · refine lv_iconst (v := 0) hx hb dX5_isShown_47 (by decide) ?_
    exact e_I (ty := .boolean) C0 hr (by decide +kernel) hP hS (by simp [shT, shF, gn, c_1]) (by decide) dX5_isShown_48
  · refine lv_aload_n hx hb dX5_isShown_10 rfl (lv_at hl 0 rfl) ?_
    refine gf_X5_15 C0 hP (k := t) (kdT ht) dX5_isShown_11 ?_
    refine lv_iload_n hx hb dX5_isShown_14 rfl (lv_at hl 2 rfl) ?_
    refine w_ialdN C0 hP (k := t + 1) (i := i) (kdT1 ht) (by rw [lnT1 ht]; omega) (by omega) dX5_isShown_15 ?_
    refine lv_aload_n hx hb dX5_isShown_16 rfl (lv_at hl 0 rfl) ?_
    refine gf_X5_3 C0 hP (k := t) (kdT ht) dX5_isShown_17 ?_
    refine gf_X5_48 C0 hP (k := 46) (show kd 46 = 6 by decide) dX5_isShown_20 ?_
    refine lv_iload_n hx hb dX5_isShown_23 rfl (lv_at hl 1 rfl) ?_
    refine w_ialdN C0 hP (k := 52) (i := r) (show kd 52 = 7 by decide) (show r < 8 by omega) (by omega) dX5_isShown_24 ?_
    refine lv_isub hx hb dX5_isShown_25 ?_
    refine m_abs C0 ml_X5_51 hl.1 ⟨Nat.le_of_ble_eq_true rfl, by decide, by decide⟩ (by decide) dX5_isShown_26 ?_
    refine lv_iconst (v := 4) hx hb dX5_isShown_29 (by decide) ?_
    refine lv_aload_n hx hb dX5_isShown_30 rfl (lv_at hl 0 rfl) ?_
    refine gf_X5_3 C0 hP (k := t) (kdT ht) dX5_isShown_31 ?_
    refine gf_X5_57 C0 hP (k := 46) (show kd 46 = 6 by decide) dX5_isShown_34 ?_
    refine lv_iload_n hx hb dX5_isShown_37 rfl (lv_at hl 1 rfl) ?_
    refine w_ialdN C0 hP (k := 53) (i := r) (show kd 53 = 7 by decide) (show r < 8 by omega) (by omega) dX5_isShown_38 ?_
    refine lv_imul hx hb dX5_isShown_39 ?_
    refine lv_icmp_gt (tgt := 47) hx hb dX5_isShown_40 (by decide) (fun c_2 => ?_) (fun c_2 => ?_)
    · refine lv_iconst (v := 0) hx hb dX5_isShown_47 (by decide) ?_
      exact e_I (ty := .boolean) C0 hr (by decide +kernel) hP hS (by simp [shT, shF, gn, c_1, c_2]) (by decide) dX5_isShown_48
    · refine lv_iconst (v := 1) hx hb dX5_isShown_43 (by decide) ?_
      refine lv_goto (tgt := 48) hx hb dX5_isShown_44 (by decide) ?_
      exact e_I (ty := .boolean) C0 hr (by decide +kernel) hP hS (by simp [shT, shF, gn, c_1, c_2]) (by decide) dX5_isShown_48

set_option maxHeartbeats 4000000 in
set_option maxRecDepth 100000 in
theorem c_X5_brightness (l : Launch) (G : GG) (M : Mem) (o : Nat → Int64) (t : Nat) (ht : t = 56 ∨ t = 61) (k : Nat) (hk0 : M t 0 = nI k) (hk : k ≤ 720) (r i : Nat) (hr0 : r < 8) (hi0 : i < 10) (hdz : 10 * M 53 r * M 53 r ≠ 0) : MI l yX5_brightness cX5_brightness 4 (some .int) 1 20 G [.ref (adr G t), .int (nI r), .int (nI i)] M M o o (brT M t (ltF (M 47) (M 48) k) r i) 0 0 := by
  refine MI_of RX5 rfl (by decide +kernel) (Nat.le_of_ble_eq_true rfl) ?_
  intro p e s m below meth c sz C0 hr hP ls hl
  have hx := C0.1
  have hb := C0.2.1
  have hS : va_S (pA G sz) s.heap s.heap [] := va_S.rf
  have hl : lv_has ls 4 [(0, .ref (adr G t)), (1, .int (nI r)), (2, .int (nI i))] := hl
  refine lv_aload_n hx hb dX5_brightness_0 rfl (lv_at hl 0 rfl) ?_
  refine k_VI C0 hP hS (rest := []) (c_X5_lightNow l G M o t ht k hk0 hk) mf_X5_lightNow ml_X5_60 (kd_lt (kdT ht) (by decide)) (ct_5 (kdT ht)) rfl hl.1 (by decide) (by decide) (Nat.le_of_ble_eq_true rfl) rfl rfl dX5_brightness_1 (fun H locs hP hS => ?_)
  refine lv_aload_n hx hb dX5_brightness_4 rfl (lv_at hl 0 rfl) ?_
  refine gf_X5_3 C0 hP (k := t) (kdT ht) dX5_brightness_5 ?_
  refine gf_X5_64 C0 hP (k := 46) (show kd 46 = 6 by decide) dX5_brightness_8 ?_
  refine lv_iload_n hx hb dX5_brightness_11 rfl (lv_at hl 2 rfl) ?_
  refine w_ialdN C0 hP (k := 51) (i := i) (show kd 51 = 7 by decide) (show i < 10 by omega) (by omega) dX5_brightness_12 ?_
  refine lv_imul hx hb dX5_brightness_13 ?_
  refine lv_aload_n hx hb dX5_brightness_14 rfl (lv_at hl 0 rfl) ?_
  refine gf_X5_19 C0 hP (k := t) (kdT ht) dX5_brightness_15 ?_
  refine lv_iload_n hx hb dX5_brightness_18 rfl (lv_at hl 1 rfl) ?_
  refine w_ialdN C0 hP (k := t + 2) (i := r) (kdT2 ht) (by rw [lnT2 ht]; omega) (by omega) dX5_brightness_19 ?_
  refine lv_imul hx hb dX5_brightness_20 ?_
  refine lv_aload_n hx hb dX5_brightness_21 rfl (lv_at hl 0 rfl) ?_
  refine gf_X5_19 C0 hP (k := t) (kdT ht) dX5_brightness_22 ?_
  refine lv_iload_n hx hb dX5_brightness_25 rfl (lv_at hl 1 rfl) ?_
  refine w_ialdN C0 hP (k := t + 2) (i := r) (kdT2 ht) (by rw [lnT2 ht]; omega) (by omega) dX5_brightness_26 ?_
  refine lv_imul hx hb dX5_brightness_27 ?_
  refine lv_bipush (v := 10) hx hb dX5_brightness_28 (by decide) ?_
  refine lv_aload_n hx hb dX5_brightness_30 rfl (lv_at hl 0 rfl) ?_
  refine gf_X5_3 C0 hP (k := t) (kdT ht) dX5_brightness_31 ?_
  refine gf_X5_57 C0 hP (k := 46) (show kd 46 = 6 by decide) dX5_brightness_34 ?_
  refine lv_iload_n hx hb dX5_brightness_37 rfl (lv_at hl 1 rfl) ?_
  refine w_ialdN C0 hP (k := 53) (i := r) (show kd 53 = 7 by decide) (show r < 8 by omega) (by omega) dX5_brightness_38 ?_
  refine lv_imul hx hb dX5_brightness_39 ?_
  refine lv_aload_n hx hb dX5_brightness_40 rfl (lv_at hl 0 rfl) ?_
  refine gf_X5_3 C0 hP (k := t) (kdT ht) dX5_brightness_41 ?_
  refine gf_X5_57 C0 hP (k := 46) (show kd 46 = 6 by decide) dX5_brightness_44 ?_
  refine lv_iload_n hx hb dX5_brightness_47 rfl (lv_at hl 1 rfl) ?_
  refine w_ialdN C0 hP (k := 53) (i := r) (show kd 53 = 7 by decide) (show r < 8 by omega) (by omega) dX5_brightness_48 ?_
  refine lv_imul hx hb dX5_brightness_49 ?_
  refine lv_idiv hx hb dX5_brightness_50 hdz ?_
  refine lv_istore_n (lv' := [(3, .int (((((ltF (M 47) (M 48) k) * (M 51 i)) * (M (t + 2) r)) * (M (t + 2) r)) / ((10 * (M 53 r)) * (M 53 r)))), (0, .ref (adr G t)), (1, .int (nI r)), (2, .int (nI i))]) hx hb dX5_brightness_51 rfl hl (by decide) rfl (fun ls hl => ?_)
  refine lv_iload_n hx hb dX5_brightness_52 rfl (lv_at hl 0 rfl) ?_
  refine lv_bipush (v := 10) hx hb dX5_brightness_53 (by decide) ?_
  refine lv_aload_n hx hb dX5_brightness_55 rfl (lv_at hl 1 rfl) ?_
  refine gf_X5_3 C0 hP (k := t) (kdT ht) dX5_brightness_56 ?_
  refine gf_X5_67 C0 hP (k := 46) (show kd 46 = 6 by decide) dX5_brightness_59 ?_
  refine lv_iload_n hx hb dX5_brightness_62 rfl (lv_at hl 2 rfl) ?_
  refine w_ialdN C0 hP (k := 54) (i := r) (show kd 54 = 7 by decide) (show r < 8 by omega) (by omega) dX5_brightness_63 ?_
  refine lv_isub hx hb dX5_brightness_64 ?_
  refine lv_imul hx hb dX5_brightness_65 ?_
  refine lv_bipush (v := 10) hx hb dX5_brightness_66 (by decide) ?_
  refine lv_idiv hx hb dX5_brightness_68 (by decide) ?_
  exact e_Ii C0 hr hP hS rfl (by decide) dX5_brightness_69

set_option maxHeartbeats 4000000 in
set_option maxRecDepth 100000 in
theorem c_X5_isWell (l : Launch) (G : GG) (M : Mem) (o : Nat → Int64) (t : Nat) (ht : t = 56 ∨ t = 61) (k : Nat) (hk0 : M t 0 = nI k) (hk : k ≤ 720) (r i : Nat) (hr0 : r < 8) (hi0 : i < 10) (hdz : 10 * M 53 r * M 53 r ≠ 0) : MI l yX5_isWell cX5_isWell 3 (some .boolean) 2 43 G [.ref (adr G t), .int (nI r), .int (nI i)] M M o o (wlT M t (ltF (M 47) (M 48) k) r i) 0 0 := by
  refine MI_of RX5 rfl (by decide +kernel) (Nat.le_of_ble_eq_true rfl) ?_
  intro p e s m below meth c sz C0 hr hP ls hl
  have hx := C0.1
  have hb := C0.2.1
  have hS : va_S (pA G sz) s.heap s.heap [] := va_S.rf
  have hl : lv_has ls 3 [(0, .ref (adr G t)), (1, .int (nI r)), (2, .int (nI i))] := hl
  refine lv_aload_n hx hb dX5_isWell_0 rfl (lv_at hl 0 rfl) ?_
  refine lv_iload_n hx hb dX5_isWell_1 rfl (lv_at hl 1 rfl) ?_
  refine lv_iload_n hx hb dX5_isWell_2 rfl (lv_at hl 2 rfl) ?_
  refine k_VI C0 hP hS (rest := []) (c_X5_isShown l G M o t ht r i (by omega) (by omega)) mf_X5_isShown ml_X5_70 (kd_lt (kdT ht) (by decide)) (ct_5 (kdT ht)) rfl hl.1 (by decide) (by decide) (Nat.le_of_ble_eq_true rfl) rfl rfl dX5_isWell_3 (fun H locs hP hS => ?_)
  refine lv_if_eq (tgt := 53) hx hb dX5_isWell_6 (by decide) (fun c_1 => ?_) (fun c_1 => ?_)
  · unfold shT at c_1
    refine lv_iconst (v := 0) hx hb dX5_isWell_53 (by decide) ?_
    exact e_I (ty := .boolean) C0 hr (by decide +kernel) hP hS (by simp [wlT, wlF, c_1]) (by decide) dX5_isWell_54
  · unfold shT at c_1
    refine lv_aload_n hx hb dX5_isWell_9 rfl (lv_at hl 0 rfl) ?_
    refine lv_iload_n hx hb dX5_isWell_10 rfl (lv_at hl 1 rfl) ?_
    refine lv_iload_n hx hb dX5_isWell_11 rfl (lv_at hl 2 rfl) ?_
    refine k_VI C0 hP hS (rest := []) (c_X5_brightness l G M o t ht k hk0 hk r i (by omega) (by omega) hdz) mf_X5_brightness ml_X5_74 (kd_lt (kdT ht) (by decide)) (ct_5 (kdT ht)) rfl hl.1 (by decide) (by decide) (Nat.le_of_ble_eq_true rfl) rfl rfl dX5_isWell_12 (fun H locs hP hS => ?_)
    refine lv_iconst (v := 5) hx hb dX5_isWell_15 (by decide) ?_
    refine lv_icmp_lt (tgt := 53) hx hb dX5_isWell_16 (by decide) (fun c_2 => ?_) (fun c_2 => ?_)
    · unfold brT at c_2
      refine lv_iconst (v := 0) hx hb dX5_isWell_53 (by decide) ?_
      exact e_I (ty := .boolean) C0 hr (by decide +kernel) hP hS (by simp [wlT, wlF, c_1, c_2]) (by decide) dX5_isWell_54
    · unfold brT at c_2
      refine lv_aload_n hx hb dX5_isWell_19 rfl (lv_at hl 0 rfl) ?_
      refine gf_X5_19 C0 hP (k := t) (kdT ht) dX5_isWell_20 ?_
      refine lv_iload_n hx hb dX5_isWell_23 rfl (lv_at hl 1 rfl) ?_
      refine w_ialdN C0 hP (k := t + 2) (i := r) (kdT2 ht) (by rw [lnT2 ht]; omega) (by omega) dX5_isWell_24 ?_
      refine lv_aload_n hx hb dX5_isWell_25 rfl (lv_at hl 0 rfl) ?_
      refine gf_X5_3 C0 hP (k := t) (kdT ht) dX5_isWell_26 ?_
      refine gf_X5_57 C0 hP (k := 46) (show kd 46 = 6 by decide) dX5_isWell_29 ?_
      refine lv_iload_n hx hb dX5_isWell_32 rfl (lv_at hl 1 rfl) ?_
      refine w_ialdN C0 hP (k := 53) (i := r) (show kd 53 = 7 by decide) (show r < 8 by omega) (by omega) dX5_isWell_33 ?_
      refine lv_imul hx hb dX5_isWell_34 ?_
      refine lv_iconst (v := 3) hx hb dX5_isWell_35 (by decide) ?_
      refine lv_idiv hx hb dX5_isWell_36 (by decide) ?_
      refine lv_aload_n hx hb dX5_isWell_37 rfl (lv_at hl 0 rfl) ?_
      refine gf_X5_3 C0 hP (k := t) (kdT ht) dX5_isWell_38 ?_
      refine gf_X5_78 C0 hP (k := 46) (show kd 46 = 6 by decide) dX5_isWell_41 ?_
      refine lv_iload_n hx hb dX5_isWell_44 rfl (lv_at hl 2 rfl) ?_
      refine w_ialdN C0 hP (k := 50) (i := i) (show kd 50 = 7 by decide) (show i < 10 by omega) (by omega) dX5_isWell_45 ?_
      refine lv_icmp_gt (tgt := 53) hx hb dX5_isWell_46 (by decide) (fun c_3 => ?_) (fun c_3 => ?_)
      · refine lv_iconst (v := 0) hx hb dX5_isWell_53 (by decide) ?_
        exact e_I (ty := .boolean) C0 hr (by decide +kernel) hP hS (by simp [wlT, wlF, c_1, c_2, c_3]) (by decide) dX5_isWell_54
      · refine lv_iconst (v := 1) hx hb dX5_isWell_49 (by decide) ?_
        refine lv_goto (tgt := 54) hx hb dX5_isWell_50 (by decide) ?_
        exact e_I (ty := .boolean) C0 hr (by decide +kernel) hP hS (by simp [wlT, wlF, c_1, c_2, c_3]) (by decide) dX5_isWell_54

set_option maxHeartbeats 4000000 in
set_option maxRecDepth 100000 in
theorem c_X5_show (l : Launch) (G : GG) (M : Mem) (o : Nat → Int64) (t : Nat) (ht : t = 56 ∨ t = 61) (k : Nat) (hk0 : M t 0 = nI k) (hk : k ≤ 720) (np : Nat) (hnp : M 46 1 = nI np) (hple : np ≤ 10) (r : Nat) (hr0 : r < 8) (hdz : 10 * M 53 r * M 53 r ≠ 0) : MI l yX5_show cX5_show 4 (some .int) 3 65 G [.ref (adr G t), .int (nI r)] M M o o (swT M t (ltF (M 47) (M 48) k) r np) 0 0 := by
  refine MI_of RX5 rfl (by decide +kernel) (Nat.le_of_ble_eq_true rfl) ?_
  intro p e s m below meth c sz C0 hr hP ls hl
  have hx := C0.1
  have hb := C0.2.1
  have hS : va_S (pA G sz) s.heap s.heap [] := va_S.rf
  have hl : lv_has ls 4 [(0, .ref (adr G t)), (1, .int (nI r))] := hl
  refine lv_iconst (v := 0) hx hb dX5_show_0 (by decide) ?_
  refine lv_istore_n (lv' := [(2, .int 0), (0, .ref (adr G t)), (1, .int (nI r))]) hx hb dX5_show_1 rfl hl (by decide) rfl (fun ls hl => ?_)
  refine lv_iconst (v := 0) hx hb dX5_show_2 (by decide) ?_
  refine lv_istore_n (lv' := [(3, .int 0), (2, .int 0), (0, .ref (adr G t)), (1, .int (nI r))]) hx hb dX5_show_3 rfl hl (by decide) rfl (fun ls hl => ?_)
  have loop_4 : ∀ (fuel_4 : Nat) (i : Nat) (x : Int32), np + 1 ≤ i + fuel_4 → (i ≤ np) → (x = swT M t (ltF (M 47) (M 48) k) r i) → ∀ (H : Heap) (locs : List Loc), PW G M o H → va_S (pA G sz) s.heap H locs → ∀ ls : Array Slot, lv_has ls 4 [(3, .int (nI i)), (2, .int x), (0, .ref (adr G t)), (1, .int (nI r))] → W p l e (rmU 3 65 0 0) s m ([.ref (adr G t), .int (nI r)] : List Value).toArray below meth c H locs 0 0 (MQ below (QI G M o (swT M t (ltF (M 47) (M 48) k) r np) sz) ([.ref (adr G t), .int (nI r)] : List Value).toArray s 0 0 (pA G sz)) (F0 m 4 ls []) := by
    intro fuel_4
    induction fuel_4 with
    | zero =>
      intro i x hf hi hxx
      exact absurd hf (by omega)
    | succ fuel_4 ih_4 =>
      intro i x hf hi hxx H locs hP hS ls hl
      refine lv_iload_n hx hb dX5_show_4 rfl (lv_at hl 0 rfl) ?_
      refine lv_aload_n hx hb dX5_show_5 rfl (lv_at hl 2 rfl) ?_
      refine gf_X5_3 C0 hP (k := t) (kdT ht) dX5_show_6 ?_
      refine gf_X5_81 C0 hP (k := 46) (show kd 46 = 6 by decide) dX5_show_9 ?_
      refine lv_topE (y := nI np) (hnp) ?_
      refine lv_icmp_ge (tgt := 38) hx hb dX5_show_12 (by decide) (fun c_1 => ?_) (fun c_1 => ?_)
      · have hi9 := lp_ge (n := np) c_1 (by omega) hi
        refine lv_iload_n hx hb dX5_show_38 rfl (lv_at hl 1 rfl) ?_
        exact e_Ii C0 hr hP hS (by rw [hxx, hi9]) (by decide) dX5_show_39
      · have hlt := lp_lt (n := np) c_1 (by omega) hi
        refine lv_iload_n hx hb dX5_show_15 rfl (lv_at hl 1 rfl) ?_
        refine lv_aload_n hx hb dX5_show_16 rfl (lv_at hl 2 rfl) ?_
        refine lv_iload_n hx hb dX5_show_17 rfl (lv_at hl 3 rfl) ?_
        refine lv_iload_n hx hb dX5_show_18 rfl (lv_at hl 0 rfl) ?_
        refine k_VI C0 hP hS (rest := [.int x]) (c_X5_isWell l G M o t ht k hk0 hk r i (by omega) (by omega) hdz) mf_X5_isWell ml_X5_84 (kd_lt (kdT ht) (by decide)) (ct_5 (kdT ht)) rfl hl.1 (by decide) (by decide) (Nat.le_of_ble_eq_true rfl) rfl rfl dX5_show_19 (fun H locs hP hS => ?_)
        refine lv_if_eq (tgt := 29) hx hb dX5_show_22 (by decide) (fun c_2 => ?_) (fun c_2 => ?_)
        · refine lv_iconst (v := 0) hx hb dX5_show_29 (by decide) ?_
          refine lv_iadd hx hb dX5_show_30 ?_
          refine lv_istore_n (lv' := [(2, .int (x + 0)), (3, .int (nI i)), (0, .ref (adr G t)), (1, .int (nI r))]) hx hb dX5_show_31 rfl hl (by decide) rfl (fun ls hl => ?_)
          refine lv_iinc (v := nI (i + 1)) (lv' := [(3, .int (nI (i + 1))), (2, .int (x + 0)), (0, .ref (adr G t)), (1, .int (nI r))]) hx hb dX5_show_32 hl (k := 1) rfl (nI_1 i) (by decide) rfl (fun ls hl => ?_)
          refine lv_goto (tgt := 4) hx hb dX5_show_35 (by decide) ?_
          exact ih_4 (i + 1) _ (by omega) (by omega) (by rw [hxx]; simp [swT, cntF, c_1, c_2]) _ _ hP hS _ (lv_sub hl [0, 1, 2, 3] rfl)
        · refine lv_iconst (v := 1) hx hb dX5_show_25 (by decide) ?_
          refine lv_goto (tgt := 30) hx hb dX5_show_26 (by decide) ?_
          refine lv_iadd hx hb dX5_show_30 ?_
          refine lv_istore_n (lv' := [(2, .int (x + 1)), (3, .int (nI i)), (0, .ref (adr G t)), (1, .int (nI r))]) hx hb dX5_show_31 rfl hl (by decide) rfl (fun ls hl => ?_)
          refine lv_iinc (v := nI (i + 1)) (lv' := [(3, .int (nI (i + 1))), (2, .int (x + 1)), (0, .ref (adr G t)), (1, .int (nI r))]) hx hb dX5_show_32 hl (k := 1) rfl (nI_1 i) (by decide) rfl (fun ls hl => ?_)
          refine lv_goto (tgt := 4) hx hb dX5_show_35 (by decide) ?_
          exact ih_4 (i + 1) _ (by omega) (by omega) (by rw [hxx]; simp [swT, cntF, c_1, c_2]) _ _ hP hS _ (lv_sub hl [0, 1, 2, 3] rfl)
  exact loop_4 (np + 1) 0 0 (by omega) (by omega) rfl _ _ hP hS _ (lv_sub hl [0, 1, 2, 3] rfl)

set_option maxHeartbeats 4000000 in
set_option maxRecDepth 100000 in
theorem c_X5_gone (l : Launch) (G : GG) (M : Mem) (o : Nat → Int64) (t : Nat) (ht : t = 56 ∨ t = 61) (np : Nat) (hnp : M 46 1 = nI np) (hple : np ≤ 10)  : MI l yX5_gone cX5_gone 3 (some .int) 0 0 G [.ref (adr G t)] M M o o (cntF (fun i => gn (M (t + 1) i)) np) 0 0 := by
  refine MI_of RX5 rfl (by decide +kernel) (Nat.le_of_ble_eq_true rfl) ?_
  intro p e s m below meth c sz C0 hr hP ls hl
  have hx := C0.1
  have hb := C0.2.1
  have hS : va_S (pA G sz) s.heap s.heap [] := va_S.rf
  have hl : lv_has ls 3 [(0, .ref (adr G t))] := hl
  refine lv_iconst (v := 0) hx hb dX5_gone_0 (by decide) ?_
  refine lv_istore_n (lv' := [(1, .int 0), (0, .ref (adr G t))]) hx hb dX5_gone_1 rfl hl (by decide) rfl (fun ls hl => ?_)
  refine lv_iconst (v := 0) hx hb dX5_gone_2 (by decide) ?_
  refine lv_istore_n (lv' := [(2, .int 0), (1, .int 0), (0, .ref (adr G t))]) hx hb dX5_gone_3 rfl hl (by decide) rfl (fun ls hl => ?_)
  have loop_4 : ∀ (fuel_4 : Nat) (i : Nat) (x : Int32), np + 1 ≤ i + fuel_4 → (i ≤ np) → (x = cntF (fun i => gn (M (t + 1) i)) i) → ∀ (H : Heap) (locs : List Loc), PW G M o H → va_S (pA G sz) s.heap H locs → ∀ ls : Array Slot, lv_has ls 3 [(2, .int (nI i)), (1, .int x), (0, .ref (adr G t))] → W p l e (rmU 0 0 0 0) s m ([.ref (adr G t)] : List Value).toArray below meth c H locs 0 0 (MQ below (QI G M o (cntF (fun i => gn (M (t + 1) i)) np) sz) ([.ref (adr G t)] : List Value).toArray s 0 0 (pA G sz)) (F0 m 4 ls []) := by
    intro fuel_4
    induction fuel_4 with
    | zero =>
      intro i x hf hi hxx
      exact absurd hf (by omega)
    | succ fuel_4 ih_4 =>
      intro i x hf hi hxx H locs hP hS ls hl
      refine lv_iload_n hx hb dX5_gone_4 rfl (lv_at hl 0 rfl) ?_
      refine lv_aload_n hx hb dX5_gone_5 rfl (lv_at hl 2 rfl) ?_
      refine gf_X5_3 C0 hP (k := t) (kdT ht) dX5_gone_6 ?_
      refine gf_X5_81 C0 hP (k := 46) (show kd 46 = 6 by decide) dX5_gone_9 ?_
      refine lv_topE (y := nI np) (hnp) ?_
      refine lv_icmp_ge (tgt := 39) hx hb dX5_gone_12 (by decide) (fun c_1 => ?_) (fun c_1 => ?_)
      · have hi9 := lp_ge (n := np) c_1 (by omega) hi
        refine lv_iload_n hx hb dX5_gone_39 rfl (lv_at hl 1 rfl) ?_
        exact e_Ii C0 hr hP hS (by rw [hxx, hi9]) (by decide) dX5_gone_40
      · have hlt := lp_lt (n := np) c_1 (by omega) hi
        refine lv_iload_n hx hb dX5_gone_15 rfl (lv_at hl 1 rfl) ?_
        refine lv_aload_n hx hb dX5_gone_16 rfl (lv_at hl 2 rfl) ?_
        refine gf_X5_15 C0 hP (k := t) (kdT ht) dX5_gone_17 ?_
        refine lv_iload_n hx hb dX5_gone_20 rfl (lv_at hl 0 rfl) ?_
        refine w_ialdN C0 hP (k := t + 1) (i := i) (kdT1 ht) (by rw [lnT1 ht]; omega) (by omega) dX5_gone_21 ?_
        refine lv_iconst (v := -1) hx hb dX5_gone_22 (by decide) ?_
        refine lv_icmp_ne (tgt := 30) hx hb dX5_gone_23 (by decide) (fun c_2 => ?_) (fun c_2 => ?_)
        · refine lv_iconst (v := 0) hx hb dX5_gone_30 (by decide) ?_
          refine lv_iadd hx hb dX5_gone_31 ?_
          refine lv_istore_n (lv' := [(1, .int (x + 0)), (2, .int (nI i)), (0, .ref (adr G t))]) hx hb dX5_gone_32 rfl hl (by decide) rfl (fun ls hl => ?_)
          refine lv_iinc (v := nI (i + 1)) (lv' := [(2, .int (nI (i + 1))), (1, .int (x + 0)), (0, .ref (adr G t))]) hx hb dX5_gone_33 hl (k := 1) rfl (nI_1 i) (by decide) rfl (fun ls hl => ?_)
          refine lv_goto (tgt := 4) hx hb dX5_gone_36 (by decide) ?_
          exact ih_4 (i + 1) _ (by omega) (by omega) (by rw [hxx]; simp [cntF, gn, c_1, c_2]) _ _ hP hS _ (lv_sub hl [0, 1, 2] rfl)
        · refine lv_iconst (v := 1) hx hb dX5_gone_26 (by decide) ?_
          refine lv_goto (tgt := 31) hx hb dX5_gone_27 (by decide) ?_
          refine lv_iadd hx hb dX5_gone_31 ?_
          refine lv_istore_n (lv' := [(1, .int (x + 1)), (2, .int (nI i)), (0, .ref (adr G t))]) hx hb dX5_gone_32 rfl hl (by decide) rfl (fun ls hl => ?_)
          refine lv_iinc (v := nI (i + 1)) (lv' := [(2, .int (nI (i + 1))), (1, .int (x + 1)), (0, .ref (adr G t))]) hx hb dX5_gone_33 hl (k := 1) rfl (nI_1 i) (by decide) rfl (fun ls hl => ?_)
          refine lv_goto (tgt := 4) hx hb dX5_gone_36 (by decide) ?_
          exact ih_4 (i + 1) _ (by omega) (by omega) (by rw [hxx]; simp [cntF, gn, c_1, c_2]) _ _ hP hS _ (lv_sub hl [0, 1, 2] rfl)
  exact loop_4 (np + 1) 0 0 (by omega) (by omega) rfl _ _ hP hS _ (lv_sub hl [0, 1, 2] rfl)

set_option maxHeartbeats 4000000 in
set_option maxRecDepth 100000 in
theorem c_X5_inAll (l : Launch) (G : GG) (M : Mem) (o : Nat → Int64) (t : Nat) (ht : t = 56 ∨ t = 61) (nr : Nat) (hnr : M 46 2 = nI nr) (hrle : nr ≤ 8)  : MI l yX5_inAll cX5_inAll 3 (some .int) 0 0 G [.ref (adr G t)] M M o o (sumF (M (t + 3)) nr) 0 0 := by
  refine MI_of RX5 rfl (by decide +kernel) (Nat.le_of_ble_eq_true rfl) ?_
  intro p e s m below meth c sz C0 hr hP ls hl
  have hx := C0.1
  have hb := C0.2.1
  have hS : va_S (pA G sz) s.heap s.heap [] := va_S.rf
  have hl : lv_has ls 3 [(0, .ref (adr G t))] := hl
  refine lv_iconst (v := 0) hx hb dX5_inAll_0 (by decide) ?_
  refine lv_istore_n (lv' := [(1, .int 0), (0, .ref (adr G t))]) hx hb dX5_inAll_1 rfl hl (by decide) rfl (fun ls hl => ?_)
  refine lv_iconst (v := 0) hx hb dX5_inAll_2 (by decide) ?_
  refine lv_istore_n (lv' := [(2, .int 0), (1, .int 0), (0, .ref (adr G t))]) hx hb dX5_inAll_3 rfl hl (by decide) rfl (fun ls hl => ?_)
  have loop_4 : ∀ (fuel_4 : Nat) (i : Nat) (x : Int32), nr + 1 ≤ i + fuel_4 → (i ≤ nr) → (x = sumF (M (t + 3)) i) → ∀ (H : Heap) (locs : List Loc), PW G M o H → va_S (pA G sz) s.heap H locs → ∀ ls : Array Slot, lv_has ls 3 [(2, .int (nI i)), (1, .int x), (0, .ref (adr G t))] → W p l e (rmU 0 0 0 0) s m ([.ref (adr G t)] : List Value).toArray below meth c H locs 0 0 (MQ below (QI G M o (sumF (M (t + 3)) nr) sz) ([.ref (adr G t)] : List Value).toArray s 0 0 (pA G sz)) (F0 m 4 ls []) := by
    intro fuel_4
    induction fuel_4 with
    | zero =>
      intro i x hf hi hxx
      exact absurd hf (by omega)
    | succ fuel_4 ih_4 =>
      intro i x hf hi hxx H locs hP hS ls hl
      refine lv_iload_n hx hb dX5_inAll_4 rfl (lv_at hl 0 rfl) ?_
      refine lv_aload_n hx hb dX5_inAll_5 rfl (lv_at hl 2 rfl) ?_
      refine gf_X5_3 C0 hP (k := t) (kdT ht) dX5_inAll_6 ?_
      refine gf_X5_94 C0 hP (k := 46) (show kd 46 = 6 by decide) dX5_inAll_9 ?_
      refine lv_topE (y := nI nr) (hnr) ?_
      refine lv_icmp_ge (tgt := 30) hx hb dX5_inAll_12 (by decide) (fun c_1 => ?_) (fun c_1 => ?_)
      · have hi9 := lp_ge (n := nr) c_1 (by omega) hi
        refine lv_iload_n hx hb dX5_inAll_30 rfl (lv_at hl 1 rfl) ?_
        exact e_Ii C0 hr hP hS (by rw [hxx, hi9]) (by decide) dX5_inAll_31
      · have hlt := lp_lt (n := nr) c_1 (by omega) hi
        refine lv_iload_n hx hb dX5_inAll_15 rfl (lv_at hl 1 rfl) ?_
        refine lv_aload_n hx hb dX5_inAll_16 rfl (lv_at hl 2 rfl) ?_
        refine gf_X5_22 C0 hP (k := t) (kdT ht) dX5_inAll_17 ?_
        refine lv_iload_n hx hb dX5_inAll_20 rfl (lv_at hl 0 rfl) ?_
        refine w_ialdN C0 hP (k := t + 3) (i := i) (kdT3 ht) (by rw [lnT3 ht]; omega) (by omega) dX5_inAll_21 ?_
        refine lv_iadd hx hb dX5_inAll_22 ?_
        refine lv_istore_n (lv' := [(1, .int (x + (M (t + 3) i))), (2, .int (nI i)), (0, .ref (adr G t))]) hx hb dX5_inAll_23 rfl hl (by decide) rfl (fun ls hl => ?_)
        refine lv_iinc (v := nI (i + 1)) (lv' := [(2, .int (nI (i + 1))), (1, .int (x + (M (t + 3) i))), (0, .ref (adr G t))]) hx hb dX5_inAll_24 hl (k := 1) rfl (nI_1 i) (by decide) rfl (fun ls hl => ?_)
        refine lv_goto (tgt := 4) hx hb dX5_inAll_27 (by decide) ?_
        exact ih_4 (i + 1) _ (by omega) (by omega) (by rw [hxx]; simp [sumF, c_1]) _ _ hP hS _ (lv_sub hl [0, 1, 2] rfl)
  exact loop_4 (nr + 1) 0 0 (by omega) (by omega) rfl _ _ hP hS _ (lv_sub hl [0, 1, 2] rfl)

set_option maxHeartbeats 4000000 in
set_option maxRecDepth 100000 in
theorem c_X5_paidInAll (l : Launch) (G : GG) (M : Mem) (o : Nat → Int64) (t : Nat) (ht : t = 56 ∨ t = 61) (nr : Nat) (hnr : M 46 2 = nI nr) (hrle : nr ≤ 8)  : MI l yX5_paidInAll cX5_paidInAll 3 (some .int) 0 0 G [.ref (adr G t)] M M o o (sumF (M (t + 4)) nr) 0 0 := by
  refine MI_of RX5 rfl (by decide +kernel) (Nat.le_of_ble_eq_true rfl) ?_
  intro p e s m below meth c sz C0 hr hP ls hl
  have hx := C0.1
  have hb := C0.2.1
  have hS : va_S (pA G sz) s.heap s.heap [] := va_S.rf
  have hl : lv_has ls 3 [(0, .ref (adr G t))] := hl
  refine lv_iconst (v := 0) hx hb dX5_paidInAll_0 (by decide) ?_
  refine lv_istore_n (lv' := [(1, .int 0), (0, .ref (adr G t))]) hx hb dX5_paidInAll_1 rfl hl (by decide) rfl (fun ls hl => ?_)
  refine lv_iconst (v := 0) hx hb dX5_paidInAll_2 (by decide) ?_
  refine lv_istore_n (lv' := [(2, .int 0), (1, .int 0), (0, .ref (adr G t))]) hx hb dX5_paidInAll_3 rfl hl (by decide) rfl (fun ls hl => ?_)
  have loop_4 : ∀ (fuel_4 : Nat) (i : Nat) (x : Int32), nr + 1 ≤ i + fuel_4 → (i ≤ nr) → (x = sumF (M (t + 4)) i) → ∀ (H : Heap) (locs : List Loc), PW G M o H → va_S (pA G sz) s.heap H locs → ∀ ls : Array Slot, lv_has ls 3 [(2, .int (nI i)), (1, .int x), (0, .ref (adr G t))] → W p l e (rmU 0 0 0 0) s m ([.ref (adr G t)] : List Value).toArray below meth c H locs 0 0 (MQ below (QI G M o (sumF (M (t + 4)) nr) sz) ([.ref (adr G t)] : List Value).toArray s 0 0 (pA G sz)) (F0 m 4 ls []) := by
    intro fuel_4
    induction fuel_4 with
    | zero =>
      intro i x hf hi hxx
      exact absurd hf (by omega)
    | succ fuel_4 ih_4 =>
      intro i x hf hi hxx H locs hP hS ls hl
      refine lv_iload_n hx hb dX5_paidInAll_4 rfl (lv_at hl 0 rfl) ?_
      refine lv_aload_n hx hb dX5_paidInAll_5 rfl (lv_at hl 2 rfl) ?_
      refine gf_X5_3 C0 hP (k := t) (kdT ht) dX5_paidInAll_6 ?_
      refine gf_X5_94 C0 hP (k := 46) (show kd 46 = 6 by decide) dX5_paidInAll_9 ?_
      refine lv_topE (y := nI nr) (hnr) ?_
      refine lv_icmp_ge (tgt := 30) hx hb dX5_paidInAll_12 (by decide) (fun c_1 => ?_) (fun c_1 => ?_)
      · have hi9 := lp_ge (n := nr) c_1 (by omega) hi
        refine lv_iload_n hx hb dX5_paidInAll_30 rfl (lv_at hl 1 rfl) ?_
        exact e_Ii C0 hr hP hS (by rw [hxx, hi9]) (by decide) dX5_paidInAll_31
      · have hlt := lp_lt (n := nr) c_1 (by omega) hi
        refine lv_iload_n hx hb dX5_paidInAll_15 rfl (lv_at hl 1 rfl) ?_
        refine lv_aload_n hx hb dX5_paidInAll_16 rfl (lv_at hl 2 rfl) ?_
        refine gf_X5_25 C0 hP (k := t) (kdT ht) dX5_paidInAll_17 ?_
        refine lv_iload_n hx hb dX5_paidInAll_20 rfl (lv_at hl 0 rfl) ?_
        refine w_ialdN C0 hP (k := t + 4) (i := i) (kdT4 ht) (by rw [lnT4 ht]; omega) (by omega) dX5_paidInAll_21 ?_
        refine lv_iadd hx hb dX5_paidInAll_22 ?_
        refine lv_istore_n (lv' := [(1, .int (x + (M (t + 4) i))), (2, .int (nI i)), (0, .ref (adr G t))]) hx hb dX5_paidInAll_23 rfl hl (by decide) rfl (fun ls hl => ?_)
        refine lv_iinc (v := nI (i + 1)) (lv' := [(2, .int (nI (i + 1))), (1, .int (x + (M (t + 4) i))), (0, .ref (adr G t))]) hx hb dX5_paidInAll_24 hl (k := 1) rfl (nI_1 i) (by decide) rfl (fun ls hl => ?_)
        refine lv_goto (tgt := 4) hx hb dX5_paidInAll_27 (by decide) ?_
        exact ih_4 (i + 1) _ (by omega) (by omega) (by rw [hxx]; simp [sumF, c_1]) _ _ hP hS _ (lv_sub hl [0, 1, 2] rfl)
  exact loop_4 (nr + 1) 0 0 (by omega) (by omega) rfl _ _ hP hS _ (lv_sub hl [0, 1, 2] rfl)

set_option maxHeartbeats 4000000 in
set_option maxRecDepth 100000 in
theorem c_X5_copy (l : Launch) (G : GG) (M : Mem) (o : Nat → Int64) (t : Nat) (ht : t = 56 ∨ t = 61) (k1 k2 : Nat) (h1 : kd k1 = 7) (h2 : kd k2 = 7) (hlen : ln k1 = ln k2) (hl64 : ln k1 < 64) : MV l yX5_copy cX5_copy 3 none 1 29 G [.ref (adr G t), .ref (adr G k1), .ref (adr G k2)] M (cyM M k1 k2) o o 0 0 := by
  refine MV_of RX5 rfl (by decide +kernel) (Nat.le_of_ble_eq_true rfl) ?_
  intro p e s m below meth c sz C0 hr hP ls hl
  have hx := C0.1
  have hb := C0.2.1
  have hS : va_S (pA G sz) s.heap s.heap [] := va_S.rf
  have hl : lv_has ls 3 [(0, .ref (adr G t)), (1, .ref (adr G k1)), (2, .ref (adr G k2))] := hl
  refine lv_aload_n hx hb dX5_copy_0 rfl (lv_at hl 1 rfl) ?_
  refine lv_iconst (v := 0) hx hb dX5_copy_1 (by decide) ?_
  refine lv_aload_n hx hb dX5_copy_2 rfl (lv_at hl 2 rfl) ?_
  refine lv_iconst (v := 0) hx hb dX5_copy_3 (by decide) ?_
  refine lv_aload_n hx hb dX5_copy_4 rfl (lv_at hl 1 rfl) ?_
  refine w_alen C0 hP (k := k1) h1 dX5_copy_5 ?_
  refine w_copy C0 hP hS h1 h2 rfl hlen hl64 ml_X5_28 hl.1 (by decide) dX5_copy_6 (fun H locs hP hS => ?_)
  exact e_V C0 hr hP hS (by decide) dX5_copy_9

set_option maxHeartbeats 4000000 in
set_option maxRecDepth 100000 in
theorem c_X5_become (l : Launch) (G : GG) (M : Mem) (o : Nat → Int64)  : MV l yX5_become cX5_become 2 none 2 51 G [.ref (adr G 61), .ref (adr G 56)] M (bcM M) o o 0 0 := by
  refine MV_of RX5 rfl (by decide +kernel) (Nat.le_of_ble_eq_true rfl) ?_
  intro p e s m below meth c sz C0 hr hP ls hl
  have hx := C0.1
  have hb := C0.2.1
  have hS : va_S (pA G sz) s.heap s.heap [] := va_S.rf
  have hl : lv_has ls 2 [(0, .ref (adr G 61)), (1, .ref (adr G 56))] := hl
  refine lv_aload_n hx hb dX5_become_0 rfl (lv_at hl 0 rfl) ?_
  refine lv_aload_n hx hb dX5_become_1 rfl (lv_at hl 1 rfl) ?_
  refine gf_X5_34 C0 hP (k := 56) (show kd 56 = 5 by decide) dX5_become_2 ?_
  refine pf_X5_34 C0 hP hS (k := 61) (show kd 61 = 5 by decide) dX5_become_5 (fun H locs hP hS => ?_)
  refine lv_aload_n hx hb dX5_become_8 rfl (lv_at hl 0 rfl) ?_
  refine lv_aload_n hx hb dX5_become_9 rfl (lv_at hl 1 rfl) ?_
  refine gf_X5_15 C0 hP (k := 56) (show kd 56 = 5 by decide) dX5_become_10 ?_
  refine lv_aload_n hx hb dX5_become_13 rfl (lv_at hl 0 rfl) ?_
  refine gf_X5_15 C0 hP (k := 61) (show kd 61 = 5 by decide) dX5_become_14 ?_
  refine k_VV C0 hP hS (rest := []) (c_X5_copy l G (u2 M 61 0 (M 56 0)) o 61 (Or.inr rfl) (56 + 1) (61 + 1) (kdT1 (Or.inl rfl)) (kdT1 (Or.inr rfl)) (by decide) (by decide)) mf_X5_copy ml_X5_38 (kd_lt (show kd 61 = 5 by decide) (by decide)) (ct_5 (show kd 61 = 5 by decide)) rfl hl.1 (by decide) (by decide) (Nat.le_of_ble_eq_true rfl) rfl rfl dX5_become_17 (fun H locs hP hS => ?_)
  refine lv_aload_n hx hb dX5_become_20 rfl (lv_at hl 0 rfl) ?_
  refine lv_aload_n hx hb dX5_become_21 rfl (lv_at hl 1 rfl) ?_
  refine gf_X5_19 C0 hP (k := 56) (show kd 56 = 5 by decide) dX5_become_22 ?_
  refine lv_aload_n hx hb dX5_become_25 rfl (lv_at hl 0 rfl) ?_
  refine gf_X5_19 C0 hP (k := 61) (show kd 61 = 5 by decide) dX5_become_26 ?_
  refine k_VV C0 hP hS (rest := []) (c_X5_copy l G (cyM (u2 M 61 0 (M 56 0)) (56 + 1) (61 + 1)) o 61 (Or.inr rfl) (56 + 2) (61 + 2) (kdT2 (Or.inl rfl)) (kdT2 (Or.inr rfl)) (by decide) (by decide)) mf_X5_copy ml_X5_38 (kd_lt (show kd 61 = 5 by decide) (by decide)) (ct_5 (show kd 61 = 5 by decide)) rfl hl.1 (by decide) (by decide) (Nat.le_of_ble_eq_true rfl) rfl rfl dX5_become_29 (fun H locs hP hS => ?_)
  refine lv_aload_n hx hb dX5_become_32 rfl (lv_at hl 0 rfl) ?_
  refine lv_aload_n hx hb dX5_become_33 rfl (lv_at hl 1 rfl) ?_
  refine gf_X5_22 C0 hP (k := 56) (show kd 56 = 5 by decide) dX5_become_34 ?_
  refine lv_aload_n hx hb dX5_become_37 rfl (lv_at hl 0 rfl) ?_
  refine gf_X5_22 C0 hP (k := 61) (show kd 61 = 5 by decide) dX5_become_38 ?_
  refine k_VV C0 hP hS (rest := []) (c_X5_copy l G (cyM (cyM (u2 M 61 0 (M 56 0)) (56 + 1) (61 + 1)) (56 + 2) (61 + 2)) o 61 (Or.inr rfl) (56 + 3) (61 + 3) (kdT3 (Or.inl rfl)) (kdT3 (Or.inr rfl)) (by decide) (by decide)) mf_X5_copy ml_X5_38 (kd_lt (show kd 61 = 5 by decide) (by decide)) (ct_5 (show kd 61 = 5 by decide)) rfl hl.1 (by decide) (by decide) (Nat.le_of_ble_eq_true rfl) rfl rfl dX5_become_41 (fun H locs hP hS => ?_)
  refine lv_aload_n hx hb dX5_become_44 rfl (lv_at hl 0 rfl) ?_
  refine lv_aload_n hx hb dX5_become_45 rfl (lv_at hl 1 rfl) ?_
  refine gf_X5_25 C0 hP (k := 56) (show kd 56 = 5 by decide) dX5_become_46 ?_
  refine lv_aload_n hx hb dX5_become_49 rfl (lv_at hl 0 rfl) ?_
  refine gf_X5_25 C0 hP (k := 61) (show kd 61 = 5 by decide) dX5_become_50 ?_
  refine k_VV C0 hP hS (rest := []) (c_X5_copy l G (cyM (cyM (cyM (u2 M 61 0 (M 56 0)) (56 + 1) (61 + 1)) (56 + 2) (61 + 2)) (56 + 3) (61 + 3)) o 61 (Or.inr rfl) (56 + 4) (61 + 4) (kdT4 (Or.inl rfl)) (kdT4 (Or.inr rfl)) (by decide) (by decide)) mf_X5_copy ml_X5_38 (kd_lt (show kd 61 = 5 by decide) (by decide)) (ct_5 (show kd 61 = 5 by decide)) rfl hl.1 (by decide) (by decide) (Nat.le_of_ble_eq_true rfl) rfl rfl dX5_become_53 (fun H locs hP hS => ?_)
  have hP := PW_eq (M' := bcM M) bcM_e hP
  exact e_V C0 hr hP hS (by decide) dX5_become_56

set_option maxHeartbeats 4000000 in
set_option maxRecDepth 100000 in
theorem c_X5_go (l : Launch) (G : GG) (M : Mem) (o : Nat → Int64) (t : Nat) (ht : t = 56 ∨ t = 61) (k : Nat) (hk0 : M t 0 = nI k) (hk : k ≤ 720) (np : Nat) (hnp : M 46 1 = nI np) (hple : np ≤ 10) (nr : Nat) (hnr : M 46 2 = nI nr) (hrle : nr ≤ 8) (hdz : ∀ r, r < nr → 10 * M 53 r * M 53 r ≠ 0)  : MV l yX5_go cX5_go 3 none 4 88 G [.ref (adr G t)] M (g1 M t np nr k) o o 0 0 := by
  refine MV_of RX5 rfl (by decide +kernel) (Nat.le_of_ble_eq_true rfl) ?_
  intro p e s m below meth c sz C0 hr hP ls hl
  have hx := C0.1
  have hb := C0.2.1
  have hS : va_S (pA G sz) s.heap s.heap [] := va_S.rf
  have hl : lv_has ls 3 [(0, .ref (adr G t))] := hl
  refine lv_aload_n hx hb dX5_go_0 rfl (lv_at hl 0 rfl) ?_
  refine gf_X5_34 C0 hP (k := t) (kdT ht) dX5_go_1 ?_
  refine lv_topE (y := nI k) (hk0) ?_
  refine lv_sipush (v := 720) hx hb dX5_go_4 (by decide) ?_
  refine lv_icmp_ne (tgt := 11) hx hb dX5_go_7 (by decide) (fun c_1 => ?_) (fun c_1 => ?_)
  · have hk7 : k < 720 := by
      have : k ≠ 720 := fun z => by
        subst z
        exact absurd (rfl : nI 720 = 720) c_1
      omega
    refine lv_iconst (v := 0) hx hb dX5_go_11 (by decide) ?_
    refine lv_istore_n (lv' := [(1, .int 0), (0, .ref (adr G t))]) hx hb dX5_go_12 rfl hl (by decide) rfl (fun ls hl => ?_)
    have loop_13 : ∀ (fuel_13 : Nat) (i : Nat), np + 1 ≤ i + fuel_13 → (i ≤ np) → ∀ (H : Heap) (locs : List Loc), PW G (psM M t i) o H → va_S (pA G sz) s.heap H locs → ∀ ls : Array Slot, lv_has ls 3 [(1, .int (nI i)), (0, .ref (adr G t))] → W p l e (rmU 4 88 0 0) s m ([.ref (adr G t)] : List Value).toArray below meth c H locs 0 0 (MQ below (QV G (g1 M t np nr k) o sz) ([.ref (adr G t)] : List Value).toArray s 0 0 (pA G sz)) (F0 m 13 ls []) := by
      intro fuel_13
      induction fuel_13 with
      | zero =>
        intro i hf hi
        exact absurd hf (by omega)
      | succ fuel_13 ih_13 =>
        intro i hf hi H locs hP hS ls hl
        refine lv_iload_n hx hb dX5_go_13 rfl (lv_at hl 0 rfl) ?_
        refine lv_aload_n hx hb dX5_go_14 rfl (lv_at hl 1 rfl) ?_
        refine gf_X5_3 C0 hP (k := t) (kdT ht) dX5_go_15 ?_
        refine gf_X5_81 C0 hP (k := 46) (show kd 46 = 6 by decide) dX5_go_18 ?_
        refine lv_topE (y := nI np) (by rw [psM_0 (by omega)]; exact hnp) ?_
        refine lv_icmp_ge (tgt := 81) hx hb dX5_go_21 (by decide) (fun c_2 => ?_) (fun c_2 => ?_)
        · have hi9 := lp_ge (n := np) c_2 (by omega) hi
          refine lv_iconst (v := 0) hx hb dX5_go_81 (by decide) ?_
          refine lv_istore_n (lv' := [(1, .int 0), (0, .ref (adr G t))]) hx hb dX5_go_82 rfl hl (by decide) rfl (fun ls hl => ?_)
          have loop_83 : ∀ (fuel_83 : Nat) (r : Nat), nr + 1 ≤ r + fuel_83 → (r ≤ nr) → ∀ (H : Heap) (locs : List Loc), PW G (qsM (psM M t np) t (ltF (M 47) (M 48) k) np r) o H → va_S (pA G sz) s.heap H locs → ∀ ls : Array Slot, lv_has ls 3 [(1, .int (nI r)), (0, .ref (adr G t))] → W p l e (rmU 4 88 0 0) s m ([.ref (adr G t)] : List Value).toArray below meth c H locs 0 0 (MQ below (QV G (g1 M t np nr k) o sz) ([.ref (adr G t)] : List Value).toArray s 0 0 (pA G sz)) (F0 m 83 ls []) := by
            intro fuel_83
            induction fuel_83 with
            | zero =>
              intro r hf hr1
              exact absurd hf (by omega)
            | succ fuel_83 ih_83 =>
              intro r hf hr1 H locs hP hS ls hl
              refine lv_iload_n hx hb dX5_go_83 rfl (lv_at hl 0 rfl) ?_
              refine lv_aload_n hx hb dX5_go_84 rfl (lv_at hl 1 rfl) ?_
              refine gf_X5_3 C0 hP (k := t) (kdT ht) dX5_go_85 ?_
              refine gf_X5_94 C0 hP (k := 46) (show kd 46 = 6 by decide) dX5_go_88 ?_
              refine lv_topE (y := nI nr) (by rw [qsM_0 (by omega), psM_0 (by omega)]; exact hnr) ?_
              refine lv_icmp_ge (tgt := 185) hx hb dX5_go_91 (by decide) (fun c_3 => ?_) (fun c_3 => ?_)
              · have hr9 := lp_ge (n := nr) c_3 (by omega) hr1
                refine lv_aload_n hx hb dX5_go_185 rfl (lv_at hl 1 rfl) ?_
                refine lv_dup hx hb dX5_go_186 rfl ?_
                refine gf_X5_34 C0 hP (k := t) (kdT ht) dX5_go_187 ?_
                refine lv_topE (y := nI k) (by rw [qsM_0 (by omega), psM_0 (by omega)]; exact hk0) ?_
                refine lv_iconst (v := 1) hx hb dX5_go_190 (by decide) ?_
                refine lv_iadd hx hb dX5_go_191 ?_
                refine pf_X5_34 C0 hP hS (k := t) (kdT ht) dX5_go_192 (fun H locs hP hS => ?_)
                have hP := PW_eq (M' := g1 M t np nr k) (by rw [g1, if_pos hk7, goT, ← hr9, nI_1]) hP
                exact e_V C0 hr hP hS (by decide) dX5_go_195
              · have hrt := lp_lt (n := nr) c_3 (by omega) hr1
                refine lv_aload_n hx hb dX5_go_94 rfl (lv_at hl 1 rfl) ?_
                refine lv_iload_n hx hb dX5_go_95 rfl (lv_at hl 0 rfl) ?_
                refine k_VI C0 hP hS (rest := []) (c_X5_show l G (qsM (psM M t np) t (ltF (M 47) (M 48) k) np r) o t ht k (by rw [qsM_0 (by omega), psM_0 (by omega)]; exact hk0) hk np (by rw [qsM_0 (by omega), psM_0 (by omega)]; exact hnp) hple r (by omega) (by rw [qsM_0 (by omega), psM_0 (by omega)]; exact hdz r hrt)) mf_X5_show ml_X5_97 (kd_lt (kdT ht) (by decide)) (ct_5 (kdT ht)) rfl hl.1 (by decide) (by decide) (Nat.le_of_ble_eq_true rfl) rfl rfl dX5_go_96 (fun H locs hP hS => ?_)
                refine lv_topE (y := swT (psM M t np) t (ltF (M 47) (M 48) k) r np) (by rw [swT_qs ht, qsM_row (by omega), qsM_row (by omega), psM_row (by omega), psM_row (by omega)]) ?_
                refine lv_istore_n (lv' := [(2, .int (swT (psM M t np) t (ltF (M 47) (M 48) k) r np)), (1, .int (nI r)), (0, .ref (adr G t))]) hx hb dX5_go_99 rfl hl (by decide) rfl (fun ls hl => ?_)
                refine lv_iload_n hx hb dX5_go_100 rfl (lv_at hl 0 rfl) ?_
                refine lv_if_ne (tgt := 125) hx hb dX5_go_101 (by decide) (fun c_4 => ?_) (fun c_4 => ?_)
                · refine lv_aload_n hx hb dX5_go_125 rfl (lv_at hl 2 rfl) ?_
                  refine gf_X5_25 C0 hP (k := t) (kdT ht) dX5_go_126 ?_
                  refine lv_iload_n hx hb dX5_go_129 rfl (lv_at hl 1 rfl) ?_
                  refine lv_dup2_11 hx hb dX5_go_130 rfl rfl ?_
                  refine w_ialdN C0 hP (k := t + 4) (i := r) (kdT4 ht) (by rw [lnT4 ht]; omega) (by omega) dX5_go_131 ?_
                  refine lv_aload_n hx hb dX5_go_132 rfl (lv_at hl 2 rfl) ?_
                  refine gf_X5_22 C0 hP (k := t) (kdT ht) dX5_go_133 ?_
                  refine lv_iload_n hx hb dX5_go_136 rfl (lv_at hl 1 rfl) ?_
                  refine w_ialdN C0 hP (k := t + 3) (i := r) (kdT3 ht) (by rw [lnT3 ht]; omega) (by omega) dX5_go_137 ?_
                  refine lv_iconst (v := 2) hx hb dX5_go_138 (by decide) ?_
                  refine lv_iload_n hx hb dX5_go_139 rfl (lv_at hl 0 rfl) ?_
                  refine m_min C0 ml_X5_103 hl.1 ⟨Nat.le_of_ble_eq_true rfl, by decide, by decide⟩ (by decide) dX5_go_140 ?_
                  refine lv_imul hx hb dX5_go_143 ?_
                  refine lv_iadd hx hb dX5_go_144 ?_
                  refine w_iastN C0 hP hS (k := t + 4) (i := r) (kdT4 ht) (by rw [lnT4 ht]; omega) (by omega) dX5_go_145 (fun H locs hP hS => ?_)
                  refine lv_iload_n hx hb dX5_go_146 rfl (lv_at hl 0 rfl) ?_
                  refine lv_iconst (v := 1) hx hb dX5_go_147 (by decide) ?_
                  refine lv_icmp_le (tgt := 179) hx hb dX5_go_148 (by decide) (fun c_5 => ?_) (fun c_5 => ?_)
                  · refine lv_iinc (v := nI (r + 1)) (lv' := [(1, .int (nI (r + 1))), (2, .int (swT (psM M t np) t (ltF (M 47) (M 48) k) r np)), (0, .ref (adr G t))]) hx hb dX5_go_179 hl (k := 1) rfl (nI_1 r) (by decide) rfl (fun ls hl => ?_)
                    refine lv_goto (tgt := 83) hx hb dX5_go_182 (by decide) ?_
                    have hP := PW_eq (M' := qsM (psM M t np) t (ltF (M 47) (M 48) k) np (r + 1)) (qsM_s ht (by simp [u2, qsM_h3, qsM_h4, ppF_m, c_3, c_4, c_5]) (by simp [u2, qsM_h3, qsM_h4, paF_m, c_3, c_4, c_5]) (fun a b h1 h2 => by simp [u2, h1, h2])) hP
                    exact ih_83 (r + 1) (by omega) (by omega) _ _ hP hS _ (lv_sub hl [0, 2] rfl)
                  · refine lv_aload_n hx hb dX5_go_151 rfl (lv_at hl 2 rfl) ?_
                    refine gf_X5_22 C0 hP (k := t) (kdT ht) dX5_go_152 ?_
                    refine lv_iload_n hx hb dX5_go_155 rfl (lv_at hl 1 rfl) ?_
                    refine w_ialdN C0 hP (k := t + 3) (i := r) (kdT3 ht) (by rw [lnT3 ht]; omega) (by omega) dX5_go_156 ?_
                    refine lv_aload_n hx hb dX5_go_157 rfl (lv_at hl 2 rfl) ?_
                    refine gf_X5_3 C0 hP (k := t) (kdT ht) dX5_go_158 ?_
                    refine gf_X5_106 C0 hP (k := 46) (show kd 46 = 6 by decide) dX5_go_161 ?_
                    refine lv_iload_n hx hb dX5_go_164 rfl (lv_at hl 1 rfl) ?_
                    refine w_ialdN C0 hP (k := 55) (i := r) (show kd 55 = 7 by decide) (show r < 8 by omega) (by omega) dX5_go_165 ?_
                    refine lv_icmp_ge (tgt := 179) hx hb dX5_go_166 (by decide) (fun c_6 => ?_) (fun c_6 => ?_)
                    · rw [u2_ne (by omega), u2_ne (by omega), qsM_row (by omega), qsM_h3] at c_6
                      refine lv_iinc (v := nI (r + 1)) (lv' := [(1, .int (nI (r + 1))), (2, .int (swT (psM M t np) t (ltF (M 47) (M 48) k) r np)), (0, .ref (adr G t))]) hx hb dX5_go_179 hl (k := 1) rfl (nI_1 r) (by decide) rfl (fun ls hl => ?_)
                      refine lv_goto (tgt := 83) hx hb dX5_go_182 (by decide) ?_
                      have hP := PW_eq (M' := qsM (psM M t np) t (ltF (M 47) (M 48) k) np (r + 1)) (qsM_s ht (by simp [u2, qsM_h3, qsM_h4, ppF_m, c_3, c_4, c_5, c_6]) (by simp [u2, qsM_h3, qsM_h4, paF_m, c_3, c_4, c_5, c_6]) (fun a b h1 h2 => by simp [u2, h1, h2])) hP
                      exact ih_83 (r + 1) (by omega) (by omega) _ _ hP hS _ (lv_sub hl [0, 2] rfl)
                    · rw [u2_ne (by omega), u2_ne (by omega), qsM_row (by omega), qsM_h3] at c_6
                      refine lv_aload_n hx hb dX5_go_169 rfl (lv_at hl 2 rfl) ?_
                      refine gf_X5_22 C0 hP (k := t) (kdT ht) dX5_go_170 ?_
                      refine lv_iload_n hx hb dX5_go_173 rfl (lv_at hl 1 rfl) ?_
                      refine lv_dup2_11 hx hb dX5_go_174 rfl rfl ?_
                      refine w_ialdN C0 hP (k := t + 3) (i := r) (kdT3 ht) (by rw [lnT3 ht]; omega) (by omega) dX5_go_175 ?_
                      refine lv_iconst (v := 1) hx hb dX5_go_176 (by decide) ?_
                      refine lv_iadd hx hb dX5_go_177 ?_
                      refine w_iastN C0 hP hS (k := t + 3) (i := r) (kdT3 ht) (by rw [lnT3 ht]; omega) (by omega) dX5_go_178 (fun H locs hP hS => ?_)
                      refine lv_iinc (v := nI (r + 1)) (lv' := [(1, .int (nI (r + 1))), (2, .int (swT (psM M t np) t (ltF (M 47) (M 48) k) r np)), (0, .ref (adr G t))]) hx hb dX5_go_179 hl (k := 1) rfl (nI_1 r) (by decide) rfl (fun ls hl => ?_)
                      refine lv_goto (tgt := 83) hx hb dX5_go_182 (by decide) ?_
                      have hP := PW_eq (M' := qsM (psM M t np) t (ltF (M 47) (M 48) k) np (r + 1)) (qsM_s ht (by simp [u2, qsM_h3, qsM_h4, ppF_m, c_3, c_4, c_5, c_6]) (by simp [u2, qsM_h3, qsM_h4, paF_m, c_3, c_4, c_5, c_6]) (fun a b h1 h2 => by simp [u2, h1, h2])) hP
                      exact ih_83 (r + 1) (by omega) (by omega) _ _ hP hS _ (lv_sub hl [0, 2] rfl)
                · refine lv_aload_n hx hb dX5_go_104 rfl (lv_at hl 2 rfl) ?_
                  refine gf_X5_22 C0 hP (k := t) (kdT ht) dX5_go_105 ?_
                  refine lv_iload_n hx hb dX5_go_108 rfl (lv_at hl 1 rfl) ?_
                  refine lv_iconst (v := 0) hx hb dX5_go_109 (by decide) ?_
                  refine lv_aload_n hx hb dX5_go_110 rfl (lv_at hl 2 rfl) ?_
                  refine gf_X5_22 C0 hP (k := t) (kdT ht) dX5_go_111 ?_
                  refine lv_iload_n hx hb dX5_go_114 rfl (lv_at hl 1 rfl) ?_
                  refine w_ialdN C0 hP (k := t + 3) (i := r) (kdT3 ht) (by rw [lnT3 ht]; omega) (by omega) dX5_go_115 ?_
                  refine lv_iconst (v := 1) hx hb dX5_go_116 (by decide) ?_
                  refine lv_isub hx hb dX5_go_117 ?_
                  refine m_max C0 ml_X5_100 hl.1 ⟨Nat.le_of_ble_eq_true rfl, by decide, by decide⟩ (by decide) dX5_go_118 ?_
                  refine w_iastN C0 hP hS (k := t + 3) (i := r) (kdT3 ht) (by rw [lnT3 ht]; omega) (by omega) dX5_go_121 (fun H locs hP hS => ?_)
                  refine lv_goto (tgt := 146) hx hb dX5_go_122 (by decide) ?_
                  refine lv_iload_n hx hb dX5_go_146 rfl (lv_at hl 0 rfl) ?_
                  refine lv_iconst (v := 1) hx hb dX5_go_147 (by decide) ?_
                  refine lv_icmp_le (tgt := 179) hx hb dX5_go_148 (by decide) (fun c_7 => ?_) (fun c_7 => ?_)
                  · refine lv_iinc (v := nI (r + 1)) (lv' := [(1, .int (nI (r + 1))), (2, .int (swT (psM M t np) t (ltF (M 47) (M 48) k) r np)), (0, .ref (adr G t))]) hx hb dX5_go_179 hl (k := 1) rfl (nI_1 r) (by decide) rfl (fun ls hl => ?_)
                    refine lv_goto (tgt := 83) hx hb dX5_go_182 (by decide) ?_
                    have hP := PW_eq (M' := qsM (psM M t np) t (ltF (M 47) (M 48) k) np (r + 1)) (qsM_s ht (by simp [u2, qsM_h3, qsM_h4, ppF_m, c_3, c_4, c_7]) (by simp [u2, qsM_h3, qsM_h4, paF_m, c_3, c_4, c_7]) (fun a b h1 h2 => by simp [u2, h1, h2])) hP
                    exact ih_83 (r + 1) (by omega) (by omega) _ _ hP hS _ (lv_sub hl [0, 2] rfl)
                  · exact absurd (by rw [c_4]; decide) c_7
          have hP := PW_eq (M' := qsM (psM M t np) t (ltF (M 47) (M 48) k) np 0) (by rw [hi9, qsM_z]) hP
          exact loop_83 (nr + 1) 0 (by omega) (by omega) _ _ hP hS _ (lv_sub hl [0, 1] rfl)
        · have hlt := lp_lt (n := np) c_2 (by omega) hi
          refine lv_aload_n hx hb dX5_go_24 rfl (lv_at hl 1 rfl) ?_
          refine gf_X5_15 C0 hP (k := t) (kdT ht) dX5_go_25 ?_
          refine lv_iload_n hx hb dX5_go_28 rfl (lv_at hl 0 rfl) ?_
          refine w_ialdN C0 hP (k := t + 1) (i := i) (kdT1 ht) (by rw [lnT1 ht]; omega) (by omega) dX5_go_29 ?_
          refine lv_iconst (v := -1) hx hb dX5_go_30 (by decide) ?_
          refine lv_icmp_ne (tgt := 37) hx hb dX5_go_31 (by decide) (fun c_8 => ?_) (fun c_8 => ?_)
          · refine lv_aload_n hx hb dX5_go_37 rfl (lv_at hl 1 rfl) ?_
            refine gf_X5_15 C0 hP (k := t) (kdT ht) dX5_go_38 ?_
            refine lv_iload_n hx hb dX5_go_41 rfl (lv_at hl 0 rfl) ?_
            refine w_ialdN C0 hP (k := t + 1) (i := i) (kdT1 ht) (by rw [lnT1 ht]; omega) (by omega) dX5_go_42 ?_
            refine lv_aload_n hx hb dX5_go_43 rfl (lv_at hl 1 rfl) ?_
            refine gf_X5_3 C0 hP (k := t) (kdT ht) dX5_go_44 ?_
            refine gf_X5_87 C0 hP (k := 46) (show kd 46 = 6 by decide) dX5_go_47 ?_
            refine lv_iload_n hx hb dX5_go_50 rfl (lv_at hl 0 rfl) ?_
            refine w_ialdN C0 hP (k := 49) (i := i) (show kd 49 = 7 by decide) (show i < 10 by omega) (by omega) dX5_go_51 ?_
            refine lv_iadd hx hb dX5_go_52 ?_
            refine lv_istore_n (lv' := [(2, .int (((psM M t i) (t + 1) i) + ((psM M t i) 49 i))), (1, .int (nI i)), (0, .ref (adr G t))]) hx hb dX5_go_53 rfl hl (by decide) rfl (fun ls hl => ?_)
            refine lv_aload_n hx hb dX5_go_54 rfl (lv_at hl 2 rfl) ?_
            refine gf_X5_15 C0 hP (k := t) (kdT ht) dX5_go_55 ?_
            refine lv_iload_n hx hb dX5_go_58 rfl (lv_at hl 1 rfl) ?_
            refine lv_iload_n hx hb dX5_go_59 rfl (lv_at hl 0 rfl) ?_
            refine lv_iconst (v := 0) hx hb dX5_go_60 (by decide) ?_
            refine lv_bipush (v := 59) hx hb dX5_go_61 (by decide) ?_
            refine k_SNI C0 hP hS (rest := [.int (nI i), .ref (adr G (t + 1))]) (c_X6_isIn l G (psM M t i) o (((psM M t i) (t + 1) i) + ((psM M t i) 49 i)) 0 59) mf_X6_isIn ml_X5_90 hl.1 (by decide) (by decide) (Nat.le_of_ble_eq_true rfl) rfl rfl dX5_go_63 (fun H locs hP hS => ?_)
            refine lv_if_eq (tgt := 73) hx hb dX5_go_66 (by decide) (fun c_9 => ?_) (fun c_9 => ?_)
            · refine lv_iconst (v := -1) hx hb dX5_go_73 (by decide) ?_
              refine w_iastN C0 hP hS (k := t + 1) (i := i) (kdT1 ht) (by rw [lnT1 ht]; omega) (by omega) dX5_go_74 (fun H locs hP hS => ?_)
              refine lv_iinc (v := nI (i + 1)) (lv' := [(1, .int (nI (i + 1))), (2, .int (((psM M t i) (t + 1) i) + ((psM M t i) 49 i))), (0, .ref (adr G t))]) hx hb dX5_go_75 hl (k := 1) rfl (nI_1 i) (by decide) rfl (fun ls hl => ?_)
              refine lv_goto (tgt := 13) hx hb dX5_go_78 (by decide) ?_
              have hP := PW_eq (M' := psM M t (i + 1)) (psM_b ht (by simp [wk_in, c_2, c_8, c_9])) hP
              exact ih_13 (i + 1) (by omega) (by omega) _ _ hP hS _ (lv_sub hl [0, 2] rfl)
            · refine lv_iload_n hx hb dX5_go_69 rfl (lv_at hl 0 rfl) ?_
              refine lv_goto (tgt := 74) hx hb dX5_go_70 (by decide) ?_
              refine w_iastN C0 hP hS (k := t + 1) (i := i) (kdT1 ht) (by rw [lnT1 ht]; omega) (by omega) dX5_go_74 (fun H locs hP hS => ?_)
              refine lv_iinc (v := nI (i + 1)) (lv' := [(1, .int (nI (i + 1))), (2, .int (((psM M t i) (t + 1) i) + ((psM M t i) 49 i))), (0, .ref (adr G t))]) hx hb dX5_go_75 hl (k := 1) rfl (nI_1 i) (by decide) rfl (fun ls hl => ?_)
              refine lv_goto (tgt := 13) hx hb dX5_go_78 (by decide) ?_
              have hP := PW_eq (M' := psM M t (i + 1)) (psM_b ht (by simp [wk_in, c_2, c_8, c_9])) hP
              exact ih_13 (i + 1) (by omega) (by omega) _ _ hP hS _ (lv_sub hl [0, 2] rfl)
          · refine lv_goto (tgt := 75) hx hb dX5_go_34 (by decide) ?_
            refine lv_iinc (v := nI (i + 1)) (lv' := [(1, .int (nI (i + 1))), (0, .ref (adr G t))]) hx hb dX5_go_75 hl (k := 0) rfl (nI_1 i) (by decide) rfl (fun ls hl => ?_)
            refine lv_goto (tgt := 13) hx hb dX5_go_78 (by decide) ?_
            have hP := PW_eq (M' := psM M t (i + 1)) (psM_a c_8) hP
            exact ih_13 (i + 1) (by omega) (by omega) _ _ hP hS _ (lv_sub hl [0, 1] rfl)
    have hP := PW_eq (M' := psM M t 0) psM_z.symm hP
    exact loop_13 (np + 1) 0 (by omega) (by omega) _ _ hP hS _ (lv_sub hl [0, 1] rfl)
  · have hk7 : ¬ k < 720 := by
      intro z
      have z2 : nI k ≠ 720 := fun y => absurd ((nI_eq (a := k) (b := 720) (by omega) (by omega)).mp y) (by omega)
      exact absurd c_1 (by simp [z2])
    have hP := PW_eq (M' := g1 M t np nr k) (by rw [g1, if_neg hk7]) hP
    exact e_V C0 hr hP hS (by decide) dX5_go_10

set_option maxHeartbeats 4000000 in
set_option maxRecDepth 100000 in
theorem c_X5_go_ (l : Launch) (G : GG) (M : Mem) (o : Nat → Int64) (t : Nat) (ht : t = 56 ∨ t = 61) (k : Nat) (hk0 : M t 0 = nI k) (hk : k ≤ 720) (np : Nat) (hnp : M 46 1 = nI np) (hple : np ≤ 10) (nr : Nat) (hnr : M 46 2 = nI nr) (hrle : nr ≤ 8) (hdz : ∀ r, r < nr → 10 * M 53 r * M 53 r ≠ 0) (d : Nat) (hd : d ≤ 720) : MV l yX5_go_ cX5_go_ 3 none 5 110 G [.ref (adr G t), .int (nI d)] M (gT M t np nr k (tk k d)) o o 0 0 := by
  refine MV_of RX5 rfl (by decide +kernel) (Nat.le_of_ble_eq_true rfl) ?_
  intro p e s m below meth c sz C0 hr hP ls hl
  have hx := C0.1
  have hb := C0.2.1
  have hS : va_S (pA G sz) s.heap s.heap [] := va_S.rf
  have hl : lv_has ls 3 [(0, .ref (adr G t)), (1, .int (nI d))] := hl
  refine lv_iconst (v := 0) hx hb dX5_go__0 (by decide) ?_
  refine lv_istore_n (lv' := [(2, .int 0), (0, .ref (adr G t)), (1, .int (nI d))]) hx hb dX5_go__1 rfl hl (by decide) rfl (fun ls hl => ?_)
  have loop_2 : ∀ (fuel_2 : Nat) (j : Nat), d + 1 ≤ j + fuel_2 → (j ≤ d) → ∀ (H : Heap) (locs : List Loc), PW G (gT M t np nr k (tk k j)) o H → va_S (pA G sz) s.heap H locs → ∀ ls : Array Slot, lv_has ls 3 [(2, .int (nI j)), (0, .ref (adr G t)), (1, .int (nI d))] → W p l e (rmU 5 110 0 0) s m ([.ref (adr G t), .int (nI d)] : List Value).toArray below meth c H locs 0 0 (MQ below (QV G (gT M t np nr k (tk k d)) o sz) ([.ref (adr G t), .int (nI d)] : List Value).toArray s 0 0 (pA G sz)) (F0 m 2 ls []) := by
    intro fuel_2
    induction fuel_2 with
    | zero =>
      intro j hf hj
      exact absurd hf (by omega)
    | succ fuel_2 ih_2 =>
      intro j hf hj H locs hP hS ls hl
      refine lv_iload_n hx hb dX5_go__2 rfl (lv_at hl 0 rfl) ?_
      refine lv_iload_n hx hb dX5_go__3 rfl (lv_at hl 2 rfl) ?_
      refine lv_icmp_ge (tgt := 17) hx hb dX5_go__4 (by decide) (fun c_1 => ?_) (fun c_1 => ?_)
      · have hj9 := lq_ge (n := d) c_1 (by omega) hj
        have hP := PW_eq (M' := gT M t np nr k (tk k d)) (by rw [hj9]) hP
        exact e_V C0 hr hP hS (by decide) dX5_go__17
      · have hjt := lq_lt (n := d) c_1 (by omega) hj
        refine lv_aload_n hx hb dX5_go__7 rfl (lv_at hl 1 rfl) ?_
        refine k_VV C0 hP hS (rest := []) (c_X5_go l G (gT M t np nr k (tk k j)) o t ht (k + tk k j) (gT_t hk0) (tk_le j hk) np (by rw [gT_lo (by omega)]; exact hnp) hple nr (by rw [gT_lo (by omega)]; exact hnr) hrle (fun r h => by rw [gT_lo (by omega)]; exact hdz r h)) mf_X5_go ml_X5_109 (kd_lt (kdT ht) (by decide)) (ct_5 (kdT ht)) rfl hl.1 (by decide) (by decide) (Nat.le_of_ble_eq_true rfl) rfl rfl dX5_go__8 (fun H locs hP hS => ?_)
        refine lv_iinc (v := nI (j + 1)) (lv' := [(2, .int (nI (j + 1))), (0, .ref (adr G t)), (1, .int (nI d))]) hx hb dX5_go__11 hl (k := 0) rfl (nI_1 j) (by decide) rfl (fun ls hl => ?_)
        refine lv_goto (tgt := 2) hx hb dX5_go__14 (by decide) ?_
        have hP := PW_eq (M' := gT M t np nr k (tk k (j + 1))) (gT_s hk) hP
        exact ih_2 (j + 1) (by omega) (by omega) _ _ hP hS _ (lv_sub hl [0, 1, 2] rfl)
  have hP := PW_eq (M' := gT M t np nr k (tk k 0)) (by rw [tk_z hk]; rfl) hP
  exact loop_2 (d + 1) 0 (by omega) (by omega) _ _ hP hS _ (lv_sub hl [0, 1, 2] rfl)
end MO1
