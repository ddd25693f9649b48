section ROW
variable {p : Program} {l : Launch} {e : Env} {R : Room} {s : State} {m : MethodId} {args : Array Value} {below : List Frame} {meth : Method} {c : Code} {H : Heap} {locs : List Loc} {cells slots : Nat} {Q : State → Prop} {cc : ByteArray} {pc : Nat} {ls : Array Slot} {rest : List Value} {own : String} {nL : Nat} {G : GG} {sz : Nat} {M : Mem} {o : Nat → Int64}

theorem CX.hz (C0 : CX p s m args meth c cc own nL G sz) : s.heap.size = sz := C0.2.2.2.2.2.1.1
theorem CX.K (C0 : CX p s m args meth c cc own nL G sz) : va_K (DG G) vwCl (tysG G) s := C0.2.2.2.2.2.1.2.1
theorem CX.nx (C0 : CX p s m args meth c cc own nL G sz) : NX s := C0.2.2.2.2.2.1.2.2.1
theorem CX.inj (C0 : CX p s m args meth c cc own nL G sz) : injG G := C0.2.2.2.2.2.1.2.2.2.1
theorem CX.ts (C0 : CX p s m args meth c cc own nL G sz) : ∀ w ∈ UU, w.before args s = true := C0.2.2.2.2.1
theorem CX.ow (C0 : CX p s m args meth c cc own nL G sz) : s.vm.findClass own = some m.cls := C0.2.2.2.1
theorem CX.ev (C0 : CX p s m args meth c cc own nL G sz) : EV G sz s := C0.2.2.2.2.2.1
theorem CX.lk (C0 : CX p s m args meth c cc own nL G sz) : meth.locks = false := C0.2.2.2.2.2.2
theorem CX.mono (C0 : CX p s m args meth c cc own nL G sz) (hS : va_S (pA G sz) s.heap H locs) : ∀ q, pA G H.size q → pA G sz q := fun q hq => hq.elim Or.inl (fun z => Or.inr (Nat.le_trans (by rw [← C0.hz]; exact hS.1) z))
theorem w_get (C0 : CX p s m args meth c cc own nL G sz) (hP : PW G M o H) {k ci j idx N : Nat} {C : String} {T : u_T} {fs : List Value} {v : Value} (hk : k < 67) (hct : ct G M o k = .inr (ci, fs)) (hin : ∀ w ∈ u_ws C T N, w ∈ UU) (hc : vwCl[ci]? = some (C, T, N)) (hj : j < N) (hown : (T j).1 = C)
    (hlink : Cond.fieldLink own idx C (T j).2.1 (T j).2.2.1 ∈ UU) (hv : fs[j]? = some v) (dg : decode cc pc = .ok (.getfield idx, 3))
    (kk : W p l e R s m args below meth c H locs cells slots Q (F0 m (pc + 3) ls (v :: rest))) : W p l e R s m args below meth c H locs cells slots Q (F0 m pc ls (.ref (adr G k) :: rest)) :=
  va_get (D := DG G) (ci := ci) (v := v) (C := C) (T := T) (N := N) (ref := C) C0.1 C0.2.1 C0.ts hin C0.ow C0.K hP k (by rw [wld_at hk, hct]) hc j hj (C0.ts _ hlink) (fun x h => by rw [hown] at h; exact h) hv dg kk
theorem w_getN (C0 : CX p s m args meth c cc own nL G sz) (hP : PW G M o H) {k ci j idx N : Nat} {C host : String} {T : u_T} {fs : List Value} {v : Value} (hk : k < 67) (hct : ct G M o k = .inr (ci, fs)) (hin : ∀ w ∈ u_ws C T N, w ∈ UU) (hc : vwCl[ci]? = some (C, T, N)) (hj : j < N) (hown : (T j).1 = C)
    (hlink : (own, idx, C, (T j).2.1, (T j).2.2.1, host) ∈ nestF) (hv : fs[j]? = some v) (dg : decode cc pc = .ok (.getfield idx, 3))
    (kk : W p l e R s m args below meth c H locs cells slots Q (F0 m (pc + 3) ls (v :: rest))) : W p l e R s m args below meth c H locs cells slots Q (F0 m pc ls (.ref (adr G k) :: rest)) :=
  va_getN (D := DG G) (ci := ci) (v := v) (C := C) (T := T) (N := N) (ref := C) (host := host) C0.1 C0.2.1 C0.ts hin C0.ow C0.K hP k (by rw [wld_at hk, hct]) hc j hj (va_Nw.use rfl (C0.nx.1 _ hlink)) (fun x h => by rw [hown] at h; exact h) hv dg kk
theorem w_put (C0 : CX p s m args meth c cc own nL G sz) (hP : PW G M o H) (hS : va_S (pA G sz) s.heap H locs) {k ci j idx N : Nat} {C : String} {T : u_T} {fs : List Value} {v : Int32} (ty0 : Nat → FieldType) (hty : ∀ k, k < N → parseFieldDescriptor (T k).2.2.1 = some (ty0 k)) (hnm : ∀ a, a < N → ∀ b, b < N → a ≠ b → (T a).2.1 ≠ (T b).2.1) (hk : k < 67) (hct : ct G M o k = .inr (ci, fs)) (hct2 : ct G (u2 M k j v) o k = .inr (ci, fs.set j (.int v))) (hin : ∀ w ∈ u_ws C T N, w ∈ UU) (hc : vwCl[ci]? = some (C, T, N)) (hj : j < N) (hown : (T j).1 = C)
    (hlink : Cond.fieldLink own idx C (T j).2.1 (T j).2.2.1 ∈ UU) (hfin : (T j).2.2.2 = false) (hd : parseFieldDescriptor (T j).2.2.1 = some .int) (hl : j < fs.length) (dg : decode cc pc = .ok (.putfield idx, 3))
    (kk : ∀ (H1 : Heap) (locs1 : List Loc), PW G (u2 M k j v) o H1 → va_S (pA G sz) s.heap H1 locs1 → W p l e R s m args below meth c H1 locs1 cells slots Q (F0 m (pc + 3) ls (rest))) : W p l e R s m args below meth c H locs cells slots Q (F0 m pc ls (.int v :: .ref (adr G k) :: rest)) := by
  refine va_put (D := DG G) (ci := ci) (v := .int v) (ty := .int) (C := C) (T := T) (N := N) (ref := C) C0.1 C0.2.1 C0.ts hin ty0 hty hnm C0.ow C0.K hP (wld_D C0.inj) hS k (by rw [wld_at hk, hct]) hc j hj (C0.ts _ hlink) (fun x h => by rw [hown] at h; exact h) hfin hd rfl rfl hl dg (fun H1 locs1 hP1 _ hS1 => ?_)
  rw [wld_set hk hct2 (fun i hi => ct_same (u2_ne hi))] at hP1
  exact kk H1 locs1 hP1 hS1
theorem w_putN (C0 : CX p s m args meth c cc own nL G sz) (hP : PW G M o H) (hS : va_S (pA G sz) s.heap H locs) {k ci j idx N : Nat} {C host : String} {T : u_T} {fs : List Value} {v : Int32} (ty0 : Nat → FieldType) (hty : ∀ k, k < N → parseFieldDescriptor (T k).2.2.1 = some (ty0 k)) (hnm : ∀ a, a < N → ∀ b, b < N → a ≠ b → (T a).2.1 ≠ (T b).2.1) (hk : k < 67) (hct : ct G M o k = .inr (ci, fs)) (hct2 : ct G (u2 M k j v) o k = .inr (ci, fs.set j (.int v))) (hin : ∀ w ∈ u_ws C T N, w ∈ UU) (hc : vwCl[ci]? = some (C, T, N)) (hj : j < N) (hown : (T j).1 = C)
    (hlink : (own, idx, C, (T j).2.1, (T j).2.2.1, host) ∈ nestF) (hfin : (T j).2.2.2 = false) (hd : parseFieldDescriptor (T j).2.2.1 = some .int) (hl : j < fs.length) (dg : decode cc pc = .ok (.putfield idx, 3))
    (kk : ∀ (H1 : Heap) (locs1 : List Loc), PW G (u2 M k j v) o H1 → va_S (pA G sz) s.heap H1 locs1 → W p l e R s m args below meth c H1 locs1 cells slots Q (F0 m (pc + 3) ls (rest))) : W p l e R s m args below meth c H locs cells slots Q (F0 m pc ls (.int v :: .ref (adr G k) :: rest)) := by
  refine va_putN (D := DG G) (ci := ci) (v := .int v) (ty := .int) (C := C) (T := T) (N := N) (ref := C) (host := host) C0.1 C0.2.1 C0.ts hin ty0 hty hnm C0.ow C0.K hP (wld_D C0.inj) hS k (by rw [wld_at hk, hct]) hc j hj (va_Nw.use rfl (C0.nx.1 _ hlink)) (fun x h => by rw [hown] at h; exact h) hfin hd rfl rfl hl dg (fun H1 locs1 hP1 _ hS1 => ?_)
  rw [wld_set hk hct2 (fun i hi => ct_same (u2_ne hi))] at hP1
  exact kk H1 locs1 hP1 hS1
/-- arrays of ints -/
theorem w_iald (C0 : CX p s m args meth c cc own nL G sz) (hP : PW G M o H) {k : Nat} {x : Int32} (hk : kd k = 7) (hin : vp_in x (ln k)) (dg : decode cc pc = .ok (.iaload, 1))
    (kk : W p l e R s m args below meth c H locs cells slots Q (F0 m (pc + 1) ls (.int (M k x.toNatClampNeg) :: rest))) : W p l e R s m args below meth c H locs cells slots Q (F0 m pc ls (.int x :: .ref (adr G k) :: rest)) :=
  va_iald (D := DG G) C0.1 C0.2.1 C0.K hP k 0 (by rw [wld_at (kd_lt hk (by decide)), ct_7 hk]) rfl hin dg kk
theorem w_ialdN (C0 : CX p s m args meth c cc own nL G sz) (hP : PW G M o H) {k i : Nat} (hk : kd k = 7) (hin : i < ln k) (hi : i < 64) (dg : decode cc pc = .ok (.iaload, 1))
    (kk : W p l e R s m args below meth c H locs cells slots Q (F0 m (pc + 1) ls (.int (M k i) :: rest))) : W p l e R s m args below meth c H locs cells slots Q (F0 m pc ls (.int (nI i) :: .ref (adr G k) :: rest)) :=
  w_iald C0 hP hk (vp_in_iff.mpr (by rw [nI_toInt (by omega)]; omega)) dg (by rw [nI_clamp (by omega)]; exact kk)
theorem w_iast (C0 : CX p s m args meth c cc own nL G sz) (hP : PW G M o H) (hS : va_S (pA G sz) s.heap H locs) {k : Nat} {x v : Int32} (hk : kd k = 7) (hin : vp_in x (ln k)) (dg : decode cc pc = .ok (.iastore, 1))
    (kk : ∀ (H1 : Heap) (locs1 : List Loc), PW G (u2 M k x.toNatClampNeg v) o H1 → va_S (pA G sz) s.heap H1 locs1 → W p l e R s m args below meth c H1 locs1 cells slots Q (F0 m (pc + 1) ls (rest))) : W p l e R s m args below meth c H locs cells slots Q (F0 m pc ls (.int v :: .int x :: .ref (adr G k) :: rest)) := by
  refine va_iast (D := DG G) C0.1 C0.2.1 C0.K hP (wld_D C0.inj) hS k 0 (by rw [wld_at (kd_lt hk (by decide)), ct_7 hk]) rfl hin dg (fun H1 locs1 hP1 _ hS1 => ?_)
  rw [wld_set (M' := u2 M k x.toNatClampNeg v) (o' := o) (kd_lt hk (by decide)) (by rw [ct_7 hk, u2_row]) (fun i hi => ct_same (u2_ne hi))] at hP1
  exact kk H1 locs1 hP1 hS1
theorem w_iastN (C0 : CX p s m args meth c cc own nL G sz) (hP : PW G M o H) (hS : va_S (pA G sz) s.heap H locs) {k i : Nat} {v : Int32} (hk : kd k = 7) (hin : i < ln k) (hi : i < 64) (dg : decode cc pc = .ok (.iastore, 1))
    (kk : ∀ (H1 : Heap) (locs1 : List Loc), PW G (u2 M k i v) o H1 → va_S (pA G sz) s.heap H1 locs1 → W p l e R s m args below meth c H1 locs1 cells slots Q (F0 m (pc + 1) ls (rest))) : W p l e R s m args below meth c H locs cells slots Q (F0 m pc ls (.int v :: .int (nI i) :: .ref (adr G k) :: rest)) :=
  w_iast C0 hP hS hk (vp_in_iff.mpr (by rw [nI_toInt (by omega)]; omega)) dg (by rw [nI_clamp (by omega)]; exact kk)
theorem w_aldP (C0 : CX p s m args meth c cc own nL G sz) (hP : PW G M o H) {k i : Nat} (hk : kd k = 8) (hin : i < 10) (dg : decode cc pc = .ok (.aaload, 1))
    (kk : W p l e R s m args below meth c H locs cells slots Q (F0 m (pc + 1) ls (.ref (adr G (k + 2 + i)) :: rest))) : W p l e R s m args below meth c H locs cells slots Q (F0 m pc ls (.int (nI i) :: .ref (adr G k) :: rest)) :=
  va_aldq (D := DG G) (C := RX0) C0.1 C0.2.1 C0.K hP k 1 (by rw [wld_at (kd_lt hk (by decide)), ct_8 hk]) rfl (vp_in_iff.mpr (by rw [nI_toInt (by omega)]; omega)) dg (by rw [nI_clamp (by omega)]; exact kk)
theorem w_aldR (C0 : CX p s m args meth c cc own nL G sz) (hP : PW G M o H) {k i : Nat} (hk : kd k = 9) (hin : i < 8) (dg : decode cc pc = .ok (.aaload, 1))
    (kk : W p l e R s m args below meth c H locs cells slots Q (F0 m (pc + 1) ls (.ref (adr G (k + 11 + i)) :: rest))) : W p l e R s m args below meth c H locs cells slots Q (F0 m pc ls (.int (nI i) :: .ref (adr G k) :: rest)) :=
  va_aldq (D := DG G) (C := RX1) C0.1 C0.2.1 C0.K hP k 2 (by rw [wld_at (kd_lt hk (by decide)), ct_9 hk]) rfl (vp_in_iff.mpr (by rw [nI_toInt (by omega)]; omega)) dg (by rw [nI_clamp (by omega)]; exact kk)
theorem w_alen (C0 : CX p s m args meth c cc own nL G sz) (hP : PW G M o H) {k : Nat} (hk : kd k = 7) (dg : decode cc pc = .ok (.arraylength, 1))
    (kk : W p l e R s m args below meth c H locs cells slots Q (F0 m (pc + 1) ls (.int (nI (ln k)) :: rest))) : W p l e R s m args below meth c H locs cells slots Q (F0 m pc ls (.ref (adr G k) :: rest)) :=
  va_alen (D := DG G) (x := (ln k, .inl (M k))) C0.1 C0.2.1 C0.K hP k 0 (by rw [wld_at (kd_lt hk (by decide)), ct_7 hk]) rfl rfl dg kk
/-- the law's out -/
theorem w_outst (C0 : CX p s m args meth c cc own nL G sz) (hP : PW G M o H) (hS : va_S (pA G sz) s.heap H locs) {v : Int64} (dg : decode cc pc = .ok (.lastore, 1))
    (kk : ∀ (H1 : Heap) (locs1 : List Loc), PW G M (vp_updL o 0 v) H1 → va_S (pA G sz) s.heap H1 locs1 → W p l e R s m args below meth c H1 locs1 cells slots Q (F0 m (pc + 1) ls (rest))) : W p l e R s m args below meth c H locs cells slots Q (F0 m pc ls (.long v :: .int 0 :: .ref (adr G 66) :: rest)) := by
  refine va_last (D := DG G) C0.1 C0.2.1 C0.K hP (wld_D C0.inj) hS 66 3 (by rw [wld_at (by decide), ct_10 (by decide)]) rfl (vp_in_iff.mpr (by decide)) dg (fun H1 locs1 hP1 _ hS1 => ?_)
  rw [wld_set (M' := M) (o' := vp_updL o 0 v) (by decide) (by rw [ct_10 (by decide)]; rfl) (fun i hi => ?_)] at hP1
  · exact kk H1 locs1 hP1 hS1
  · by_cases h : i < 67
    · refine ct_out (fun z => hi ?_)
      have := (by decide +kernel : ∀ i, i < 67 → kd i = 10 → i = 66) i h z
      exact this
    · unfold ct
      have h9 : kd i = 99 := by
        unfold kd
        rw [List.getD_eq_getElem?_getD, List.getElem?_eq_none (by show 67 ≤ i; omega)]
        rfl
      rw [h9]; rfl
theorem w_outld (C0 : CX p s m args meth c cc own nL G sz) (hP : PW G M o H) (dg : decode cc pc = .ok (.laload, 1))
    (kk : W p l e R s m args below meth c H locs cells slots Q (F0 m (pc + 1) ls (.long (o 0) :: rest))) : W p l e R s m args below meth c H locs cells slots Q (F0 m pc ls (.int 0 :: .ref (adr G 66) :: rest)) :=
  va_lald (D := DG G) C0.1 C0.2.1 C0.K hP 66 3 (by rw [wld_at (by decide), ct_10 (by decide)]) rfl (vp_in_iff.mpr (by decide)) dg kk
/-- facts of a method: its code stands among the words .. -/
def MFV (C : String) (y : MethodName) (b : ByteArray) (n : Nat) (r : Option FieldType) (na : Nat) : Prop :=
  (Cond.code y b n r ∈ UU ∧ Cond.instanceMethod y ∈ UU ∧ Cond.selects C y y ∈ UU ∧ Cond.initialized C ∈ UU) ∧ y.cls = C ∧ y.cls ≠ "java/lang/invoke/MethodHandle" ∧ y.cls ≠ "java/lang/invoke/VarHandle" ∧ (parseMethodDescriptor y.desc).map (fun d => d.parameters.length) = some na
def MFS (y : MethodName) (b : ByteArray) (n : Nat) (r : Option FieldType) (na : Nat) : Prop :=
  (Cond.code y b n r ∈ UU ∧ Cond.static y ∈ UU ∧ Cond.initialized y.cls ∈ UU) ∧ y.cls ≠ "java/lang/invoke/MethodHandle" ∧ y.cls ≠ "java/lang/invoke/VarHandle" ∧ (parseMethodDescriptor y.desc).map (fun d => d.parameters.length) = some na
theorem wsU_in {y : MethodName} {b : ByteArray} {n : Nat} {r : Option FieldType} (h : Cond.code y b n r ∈ UU) : GoodIn UU (wsU y b n r) := fun w hw => by
  rcases List.mem_cons.mp hw with e | hw
  · rw [e]; exact ⟨h, UU_good _ h⟩
  · exact ⟨hw, UU_good _ hw⟩
theorem wsV_in {idx : Nat} {C : String} {y : MethodName} {b : ByteArray} {n na : Nat} {r : Option FieldType} (h : MFV C y b n r na) (hl : Cond.methodLink own idx y ∈ UU) : GoodIn UU (wsV own idx C y (wsU y b n r)) := by
  obtain ⟨⟨h1, h2, h3, h4⟩, -⟩ := h
  refine goodIn_app (fun w hw => ?_) (wsU_in h1)
  simp only [List.mem_cons, List.not_mem_nil, or_false] at hw
  rcases hw with e | e | e | e <;> rw [e]
  · exact ⟨hl, UU_good _ hl⟩
  · exact ⟨h2, UU_good _ h2⟩
  · exact ⟨h3, UU_good _ h3⟩
  · exact ⟨h4, UU_good _ h4⟩
theorem w_recv (C0 : CX p s m args meth c cc own nL G sz) (hP : PW G M o H) {k ci : Nat} {fs : List Value} {q : vw_C} (hk : k < 67) (hct : ct G M o k = .inr (ci, fs)) (hc : vwCl[ci]? = some q) : ∃ cell : Cell, H[adr G k]? = some cell ∧ cell.vm.isStatics = false ∧ s.vm.findClass q.1 = some cell.cls :=
  va_recv C0.K hP hc (by rw [wld_at hk, hct])
theorem k_VI (C0 : CX p s m args meth c cc own nL G sz) (hP : PW G M o H) (hS : va_S (pA G sz) s.heap H locs) {k ci na n fr lo mc ms idx : Nat} {C : String} {T : u_T} {N : Nat} {fs As rest st0 : List Value} {y : MethodName} {b : ByteArray} {r : Option FieldType} {M' : Mem} {o' : Nat → Int64} {res : Int32} (hM : MI l y b n r fr lo G (.ref (adr G k) :: As) M M' o o' res mc ms) (mf : MFV C y b n r na) (hlink : Cond.methodLink own idx y ∈ UU) (hk : k < 67) (hct : ct G M o k = .inr (ci, fs)) (hc : vwCl[ci]? = some (C, T, N)) (hls : ls.size = nL) (hR : fr + 1 ≤ R.frames ∧ 8 + (n + 11) + lo ≤ R.locals) (hroom : cells + mc ≤ R.cells ∧ slots + ms ≤ R.slots) (hw : (rest.map fun v => v.category).sum ≤ 8) (hna : As.length = na) (hst : st0 = As.reverse ++ .ref (adr G k) :: rest) (dg : decode cc pc = .ok (.invokevirtual idx, 3))
    (kk : ∀ (H1 : Heap) (locs1 : List Loc), PW G M' o' H1 → va_S (pA G sz) s.heap H1 locs1 → W p l e R s m args below meth c H1 locs1 (cells + mc) (slots + ms) Q (F0 m (pc + 3) ls (.int res :: rest))) : W p l e R s m args below meth c H locs cells slots Q (F0 m pc ls (st0)) := by
  refine va_calli (va_runV (As := As) (rest := rest) ⟨C0.1, C0.2.1, C0.2.2.1, C0.ow, C0.ts⟩ (hM H.size) (cwV na C0.ts (wsV_in mf hlink) rfl rfl rfl mf.2 hR) ⟨PCW_blind, w_recv C0 hP hk hct hc, fun U hU hW => ⟨rfl, C0.ev.call hS hU hW, by rw [hU]; exact hP⟩⟩ rfl hna hls hst (lv_room hw) dg hroom) hS (fun q _ h => C0.mono hS q h) (C0.mono hS) (fun r1 u t H1 locs1 ht hvm hw1 hB hz1 hk1 hS1 => ?_)
  rw [ht] at hB
  subst hw1
  exact kk H1 locs1 hB hS1
theorem k_VNI (C0 : CX p s m args meth c cc own nL G sz) (hP : PW G M o H) (hS : va_S (pA G sz) s.heap H locs) {k ci na n fr lo mc ms idx : Nat} {C : String} {T : u_T} {N : Nat} {fs As rest st0 : List Value} {y : MethodName} {b : ByteArray} {r : Option FieldType} {M' : Mem} {o' : Nat → Int64} {res : Int32} {host : String} (hM : MI l y b n r fr lo G (.ref (adr G k) :: As) M M' o o' res mc ms) (mf : MFV C y b n r na) (hlink : (own, idx, y, host) ∈ nestM) (hk : k < 67) (hct : ct G M o k = .inr (ci, fs)) (hc : vwCl[ci]? = some (C, T, N)) (hls : ls.size = nL) (hR : fr + 1 ≤ R.frames ∧ 8 + (n + 11) + lo ≤ R.locals) (hroom : cells + mc ≤ R.cells ∧ slots + ms ≤ R.slots) (hw : (rest.map fun v => v.category).sum ≤ 8) (hna : As.length = na) (hst : st0 = As.reverse ++ .ref (adr G k) :: rest) (dg : decode cc pc = .ok (.invokevirtual idx, 3))
    (kk : ∀ (H1 : Heap) (locs1 : List Loc), PW G M' o' H1 → va_S (pA G sz) s.heap H1 locs1 → W p l e R s m args below meth c H1 locs1 (cells + mc) (slots + ms) Q (F0 m (pc + 3) ls (.int res :: rest))) : W p l e R s m args below meth c H locs cells slots Q (F0 m pc ls (st0)) := by
  refine va_calli (va_runVN (As := As) (rest := rest) (host := host) ⟨C0.1, C0.2.1, C0.2.2.1, C0.ow, C0.ts⟩ (hM H.size) ⟨va_cnB na C0.ts (wsU_in mf.1.1) rfl rfl rfl (C0.nx.2 _ hlink) (by rw [mf.2.1]; exact C0.ts _ mf.1.2.2.2) mf.2.2 hR, C0.ts _ mf.1.2.1, C0.ts _ mf.1.2.2.1⟩ ⟨PCW_blind, w_recv C0 hP hk hct hc, fun U hU hW => ⟨rfl, C0.ev.call hS hU hW, by rw [hU]; exact hP⟩⟩ rfl hna hls hst (lv_room hw) dg hroom) hS (fun q _ h => C0.mono hS q h) (C0.mono hS) (fun r1 u t H1 locs1 ht hvm hw1 hB hz1 hk1 hS1 => ?_)
  rw [ht] at hB
  subst hw1
  exact kk H1 locs1 hB hS1
theorem k_SI (C0 : CX p s m args meth c cc own nL G sz) (hP : PW G M o H) (hS : va_S (pA G sz) s.heap H locs) {na n fr lo mc ms idx : Nat} {As rest st0 : List Value} {y : MethodName} {b : ByteArray} {r : Option FieldType} {M' : Mem} {o' : Nat → Int64} {res : Int32} (hM : MI l y b n r fr lo G As M M' o o' res mc ms) (mf : MFS y b n r na) (hy : y.cls = own) (hlink : Cond.methodLink own idx y ∈ UU) (hls : ls.size = nL) (hR : fr + 1 ≤ R.frames ∧ 8 + (n + 11) + lo ≤ R.locals) (hroom : cells + mc ≤ R.cells ∧ slots + ms ≤ R.slots) (hw : (rest.map fun v => v.category).sum ≤ 8) (hna : As.length = na) (hst : st0 = As.reverse ++ rest) (dg : decode cc pc = .ok (.invokestatic idx, 3))
    (kk : ∀ (H1 : Heap) (locs1 : List Loc), PW G M' o' H1 → va_S (pA G sz) s.heap H1 locs1 → W p l e R s m args below meth c H1 locs1 (cells + mc) (slots + ms) Q (F0 m (pc + 3) ls (.int res :: rest))) : W p l e R s m args below meth c H locs cells slots Q (F0 m pc ls (st0)) := by
  refine va_calli (va_runS (As := As) (rest := rest) ⟨C0.1, C0.2.1, C0.2.2.1, C0.ow, C0.ts⟩ (hM H.size) ⟨callB_of na C0.ts (wsU_in mf.1.1) rfl rfl rfl (C0.ts _ mf.1.2.2) (C0.ts _ hlink) mf.2 hR, C0.ts _ mf.1.2.1⟩ ⟨PCW_blind, fun U hU hW => ⟨rfl, C0.ev.call hS hU hW, by rw [hU]; exact hP⟩⟩ rfl hna hls hst (lv_room hw) dg hroom) hS (fun q _ h => C0.mono hS q h) (C0.mono hS) (fun r1 u t H1 locs1 ht hvm hw1 hB hz1 hk1 hS1 => ?_)
  rw [ht] at hB
  subst hw1
  exact kk H1 locs1 hB hS1
theorem k_SNI (C0 : CX p s m args meth c cc own nL G sz) (hP : PW G M o H) (hS : va_S (pA G sz) s.heap H locs) {na n fr lo mc ms idx : Nat} {As rest st0 : List Value} {y : MethodName} {b : ByteArray} {r : Option FieldType} {M' : Mem} {o' : Nat → Int64} {res : Int32} {host : String} (hM : MI l y b n r fr lo G As M M' o o' res mc ms) (mf : MFS y b n r na) (hlink : (own, idx, y, host) ∈ nestM) (hls : ls.size = nL) (hR : fr + 1 ≤ R.frames ∧ 8 + (n + 11) + lo ≤ R.locals) (hroom : cells + mc ≤ R.cells ∧ slots + ms ≤ R.slots) (hw : (rest.map fun v => v.category).sum ≤ 8) (hna : As.length = na) (hst : st0 = As.reverse ++ rest) (dg : decode cc pc = .ok (.invokestatic idx, 3))
    (kk : ∀ (H1 : Heap) (locs1 : List Loc), PW G M' o' H1 → va_S (pA G sz) s.heap H1 locs1 → W p l e R s m args below meth c H1 locs1 (cells + mc) (slots + ms) Q (F0 m (pc + 3) ls (.int res :: rest))) : W p l e R s m args below meth c H locs cells slots Q (F0 m pc ls (st0)) := by
  refine va_calli (va_runSN (As := As) (rest := rest) (host := host) ⟨C0.1, C0.2.1, C0.2.2.1, C0.ow, C0.ts⟩ (hM H.size) ⟨va_cnB na C0.ts (wsU_in mf.1.1) rfl rfl rfl (C0.nx.2 _ hlink) (C0.ts _ mf.1.2.2) mf.2 hR, C0.ts _ mf.1.2.1, trivial⟩ ⟨PCW_blind, fun U hU hW => ⟨rfl, C0.ev.call hS hU hW, by rw [hU]; exact hP⟩⟩ rfl hna hls hst (lv_room hw) dg hroom) hS (fun q _ h => C0.mono hS q h) (C0.mono hS) (fun r1 u t H1 locs1 ht hvm hw1 hB hz1 hk1 hS1 => ?_)
  rw [ht] at hB
  subst hw1
  exact kk H1 locs1 hB hS1
theorem k_VL (C0 : CX p s m args meth c cc own nL G sz) (hP : PW G M o H) (hS : va_S (pA G sz) s.heap H locs) {k ci na n fr lo mc ms idx : Nat} {C : String} {T : u_T} {N : Nat} {fs As rest st0 : List Value} {y : MethodName} {b : ByteArray} {r : Option FieldType} {M' : Mem} {o' : Nat → Int64} {res : Int64} (hM : ML l y b n r fr lo G (.ref (adr G k) :: As) M M' o o' res mc ms) (mf : MFV C y b n r na) (hlink : Cond.methodLink own idx y ∈ UU) (hk : k < 67) (hct : ct G M o k = .inr (ci, fs)) (hc : vwCl[ci]? = some (C, T, N)) (hls : ls.size = nL) (hR : fr + 1 ≤ R.frames ∧ 8 + (n + 11) + lo ≤ R.locals) (hroom : cells + mc ≤ R.cells ∧ slots + ms ≤ R.slots) (hw : (rest.map fun v => v.category).sum ≤ 8) (hna : As.length = na) (hst : st0 = As.reverse ++ .ref (adr G k) :: rest) (dg : decode cc pc = .ok (.invokevirtual idx, 3))
    (kk : ∀ (H1 : Heap) (locs1 : List Loc), PW G M' o' H1 → va_S (pA G sz) s.heap H1 locs1 → W p l e R s m args below meth c H1 locs1 (cells + mc) (slots + ms) Q (F0 m (pc + 3) ls (.long res :: rest))) : W p l e R s m args below meth c H locs cells slots Q (F0 m pc ls (st0)) := by
  refine va_calll (va_runV (As := As) (rest := rest) ⟨C0.1, C0.2.1, C0.2.2.1, C0.ow, C0.ts⟩ (hM H.size) (cwV na C0.ts (wsV_in mf hlink) rfl rfl rfl mf.2 hR) ⟨PCW_blind, w_recv C0 hP hk hct hc, fun U hU hW => ⟨rfl, C0.ev.call hS hU hW, by rw [hU]; exact hP⟩⟩ rfl hna hls hst (lv_room hw) dg hroom) hS (fun q _ h => C0.mono hS q h) (C0.mono hS) (fun r1 u t H1 locs1 ht hvm hw1 hB hz1 hk1 hS1 => ?_)
  rw [ht] at hB
  subst hw1
  exact kk H1 locs1 hB hS1
theorem k_VNL (C0 : CX p s m args meth c cc own nL G sz) (hP : PW G M o H) (hS : va_S (pA G sz) s.heap H locs) {k ci na n fr lo mc ms idx : Nat} {C : String} {T : u_T} {N : Nat} {fs As rest st0 : List Value} {y : MethodName} {b : ByteArray} {r : Option FieldType} {M' : Mem} {o' : Nat → Int64} {res : Int64} {host : String} (hM : ML l y b n r fr lo G (.ref (adr G k) :: As) M M' o o' res mc ms) (mf : MFV C y b n r na) (hlink : (own, idx, y, host) ∈ nestM) (hk : k < 67) (hct : ct G M o k = .inr (ci, fs)) (hc : vwCl[ci]? = some (C, T, N)) (hls : ls.size = nL) (hR : fr + 1 ≤ R.frames ∧ 8 + (n + 11) + lo ≤ R.locals) (hroom : cells + mc ≤ R.cells ∧ slots + ms ≤ R.slots) (hw : (rest.map fun v => v.category).sum ≤ 8) (hna : As.length = na) (hst : st0 = As.reverse ++ .ref (adr G k) :: rest) (dg : decode cc pc = .ok (.invokevirtual idx, 3))
    (kk : ∀ (H1 : Heap) (locs1 : List Loc), PW G M' o' H1 → va_S (pA G sz) s.heap H1 locs1 → W p l e R s m args below meth c H1 locs1 (cells + mc) (slots + ms) Q (F0 m (pc + 3) ls (.long res :: rest))) : W p l e R s m args below meth c H locs cells slots Q (F0 m pc ls (st0)) := by
  refine va_calll (va_runVN (As := As) (rest := rest) (host := host) ⟨C0.1, C0.2.1, C0.2.2.1, C0.ow, C0.ts⟩ (hM H.size) ⟨va_cnB na C0.ts (wsU_in mf.1.1) rfl rfl rfl (C0.nx.2 _ hlink) (by rw [mf.2.1]; exact C0.ts _ mf.1.2.2.2) mf.2.2 hR, C0.ts _ mf.1.2.1, C0.ts _ mf.1.2.2.1⟩ ⟨PCW_blind, w_recv C0 hP hk hct hc, fun U hU hW => ⟨rfl, C0.ev.call hS hU hW, by rw [hU]; exact hP⟩⟩ rfl hna hls hst (lv_room hw) dg hroom) hS (fun q _ h => C0.mono hS q h) (C0.mono hS) (fun r1 u t H1 locs1 ht hvm hw1 hB hz1 hk1 hS1 => ?_)
  rw [ht] at hB
  subst hw1
  exact kk H1 locs1 hB hS1
theorem k_SL (C0 : CX p s m args meth c cc own nL G sz) (hP : PW G M o H) (hS : va_S (pA G sz) s.heap H locs) {na n fr lo mc ms idx : Nat} {As rest st0 : List Value} {y : MethodName} {b : ByteArray} {r : Option FieldType} {M' : Mem} {o' : Nat → Int64} {res : Int64} (hM : ML l y b n r fr lo G As M M' o o' res mc ms) (mf : MFS y b n r na) (hy : y.cls = own) (hlink : Cond.methodLink own idx y ∈ UU) (hls : ls.size = nL) (hR : fr + 1 ≤ R.frames ∧ 8 + (n + 11) + lo ≤ R.locals) (hroom : cells + mc ≤ R.cells ∧ slots + ms ≤ R.slots) (hw : (rest.map fun v => v.category).sum ≤ 8) (hna : As.length = na) (hst : st0 = As.reverse ++ rest) (dg : decode cc pc = .ok (.invokestatic idx, 3))
    (kk : ∀ (H1 : Heap) (locs1 : List Loc), PW G M' o' H1 → va_S (pA G sz) s.heap H1 locs1 → W p l e R s m args below meth c H1 locs1 (cells + mc) (slots + ms) Q (F0 m (pc + 3) ls (.long res :: rest))) : W p l e R s m args below meth c H locs cells slots Q (F0 m pc ls (st0)) := by
  refine va_calll (va_runS (As := As) (rest := rest) ⟨C0.1, C0.2.1, C0.2.2.1, C0.ow, C0.ts⟩ (hM H.size) ⟨callB_of na C0.ts (wsU_in mf.1.1) rfl rfl rfl (C0.ts _ mf.1.2.2) (C0.ts _ hlink) mf.2 hR, C0.ts _ mf.1.2.1⟩ ⟨PCW_blind, fun U hU hW => ⟨rfl, C0.ev.call hS hU hW, by rw [hU]; exact hP⟩⟩ rfl hna hls hst (lv_room hw) dg hroom) hS (fun q _ h => C0.mono hS q h) (C0.mono hS) (fun r1 u t H1 locs1 ht hvm hw1 hB hz1 hk1 hS1 => ?_)
  rw [ht] at hB
  subst hw1
  exact kk H1 locs1 hB hS1
theorem k_SNL (C0 : CX p s m args meth c cc own nL G sz) (hP : PW G M o H) (hS : va_S (pA G sz) s.heap H locs) {na n fr lo mc ms idx : Nat} {As rest st0 : List Value} {y : MethodName} {b : ByteArray} {r : Option FieldType} {M' : Mem} {o' : Nat → Int64} {res : Int64} {host : String} (hM : ML l y b n r fr lo G As M M' o o' res mc ms) (mf : MFS y b n r na) (hlink : (own, idx, y, host) ∈ nestM) (hls : ls.size = nL) (hR : fr + 1 ≤ R.frames ∧ 8 + (n + 11) + lo ≤ R.locals) (hroom : cells + mc ≤ R.cells ∧ slots + ms ≤ R.slots) (hw : (rest.map fun v => v.category).sum ≤ 8) (hna : As.length = na) (hst : st0 = As.reverse ++ rest) (dg : decode cc pc = .ok (.invokestatic idx, 3))
    (kk : ∀ (H1 : Heap) (locs1 : List Loc), PW G M' o' H1 → va_S (pA G sz) s.heap H1 locs1 → W p l e R s m args below meth c H1 locs1 (cells + mc) (slots + ms) Q (F0 m (pc + 3) ls (.long res :: rest))) : W p l e R s m args below meth c H locs cells slots Q (F0 m pc ls (st0)) := by
  refine va_calll (va_runSN (As := As) (rest := rest) (host := host) ⟨C0.1, C0.2.1, C0.2.2.1, C0.ow, C0.ts⟩ (hM H.size) ⟨va_cnB na C0.ts (wsU_in mf.1.1) rfl rfl rfl (C0.nx.2 _ hlink) (C0.ts _ mf.1.2.2) mf.2 hR, C0.ts _ mf.1.2.1, trivial⟩ ⟨PCW_blind, fun U hU hW => ⟨rfl, C0.ev.call hS hU hW, by rw [hU]; exact hP⟩⟩ rfl hna hls hst (lv_room hw) dg hroom) hS (fun q _ h => C0.mono hS q h) (C0.mono hS) (fun r1 u t H1 locs1 ht hvm hw1 hB hz1 hk1 hS1 => ?_)
  rw [ht] at hB
  subst hw1
  exact kk H1 locs1 hB hS1
theorem k_VV (C0 : CX p s m args meth c cc own nL G sz) (hP : PW G M o H) (hS : va_S (pA G sz) s.heap H locs) {k ci na n fr lo mc ms idx : Nat} {C : String} {T : u_T} {N : Nat} {fs As rest st0 : List Value} {y : MethodName} {b : ByteArray} {r : Option FieldType} {M' : Mem} {o' : Nat → Int64}  (hM : MV l y b n r fr lo G (.ref (adr G k) :: As) M M' o o'  mc ms) (mf : MFV C y b n r na) (hlink : Cond.methodLink own idx y ∈ UU) (hk : k < 67) (hct : ct G M o k = .inr (ci, fs)) (hc : vwCl[ci]? = some (C, T, N)) (hls : ls.size = nL) (hR : fr + 1 ≤ R.frames ∧ 8 + (n + 11) + lo ≤ R.locals) (hroom : cells + mc ≤ R.cells ∧ slots + ms ≤ R.slots) (hw : (rest.map fun v => v.category).sum ≤ 8) (hna : As.length = na) (hst : st0 = As.reverse ++ .ref (adr G k) :: rest) (dg : decode cc pc = .ok (.invokevirtual idx, 3))
    (kk : ∀ (H1 : Heap) (locs1 : List Loc), PW G M' o' H1 → va_S (pA G sz) s.heap H1 locs1 → W p l e R s m args below meth c H1 locs1 (cells + mc) (slots + ms) Q (F0 m (pc + 3) ls (rest))) : W p l e R s m args below meth c H locs cells slots Q (F0 m pc ls (st0)) := by
  refine va_callv (va_runV (As := As) (rest := rest) ⟨C0.1, C0.2.1, C0.2.2.1, C0.ow, C0.ts⟩ (hM H.size) (cwV na C0.ts (wsV_in mf hlink) rfl rfl rfl mf.2 hR) ⟨PCW_blind, w_recv C0 hP hk hct hc, fun U hU hW => ⟨rfl, C0.ev.call hS hU hW, by rw [hU]; exact hP⟩⟩ rfl hna hls hst (lv_room hw) dg hroom) hS (fun q _ h => C0.mono hS q h) (C0.mono hS) (fun u t H1 locs1 ht hvm hw1 hB hz1 hk1 hS1 => ?_)
  rw [ht] at hB
  exact kk H1 locs1 hB hS1
theorem k_VNV (C0 : CX p s m args meth c cc own nL G sz) (hP : PW G M o H) (hS : va_S (pA G sz) s.heap H locs) {k ci na n fr lo mc ms idx : Nat} {C : String} {T : u_T} {N : Nat} {fs As rest st0 : List Value} {y : MethodName} {b : ByteArray} {r : Option FieldType} {M' : Mem} {o' : Nat → Int64}  {host : String} (hM : MV l y b n r fr lo G (.ref (adr G k) :: As) M M' o o'  mc ms) (mf : MFV C y b n r na) (hlink : (own, idx, y, host) ∈ nestM) (hk : k < 67) (hct : ct G M o k = .inr (ci, fs)) (hc : vwCl[ci]? = some (C, T, N)) (hls : ls.size = nL) (hR : fr + 1 ≤ R.frames ∧ 8 + (n + 11) + lo ≤ R.locals) (hroom : cells + mc ≤ R.cells ∧ slots + ms ≤ R.slots) (hw : (rest.map fun v => v.category).sum ≤ 8) (hna : As.length = na) (hst : st0 = As.reverse ++ .ref (adr G k) :: rest) (dg : decode cc pc = .ok (.invokevirtual idx, 3))
    (kk : ∀ (H1 : Heap) (locs1 : List Loc), PW G M' o' H1 → va_S (pA G sz) s.heap H1 locs1 → W p l e R s m args below meth c H1 locs1 (cells + mc) (slots + ms) Q (F0 m (pc + 3) ls (rest))) : W p l e R s m args below meth c H locs cells slots Q (F0 m pc ls (st0)) := by
  refine va_callv (va_runVN (As := As) (rest := rest) (host := host) ⟨C0.1, C0.2.1, C0.2.2.1, C0.ow, C0.ts⟩ (hM H.size) ⟨va_cnB na C0.ts (wsU_in mf.1.1) rfl rfl rfl (C0.nx.2 _ hlink) (by rw [mf.2.1]; exact C0.ts _ mf.1.2.2.2) mf.2.2 hR, C0.ts _ mf.1.2.1, C0.ts _ mf.1.2.2.1⟩ ⟨PCW_blind, w_recv C0 hP hk hct hc, fun U hU hW => ⟨rfl, C0.ev.call hS hU hW, by rw [hU]; exact hP⟩⟩ rfl hna hls hst (lv_room hw) dg hroom) hS (fun q _ h => C0.mono hS q h) (C0.mono hS) (fun u t H1 locs1 ht hvm hw1 hB hz1 hk1 hS1 => ?_)
  rw [ht] at hB
  exact kk H1 locs1 hB hS1
theorem k_SV (C0 : CX p s m args meth c cc own nL G sz) (hP : PW G M o H) (hS : va_S (pA G sz) s.heap H locs) {na n fr lo mc ms idx : Nat} {As rest st0 : List Value} {y : MethodName} {b : ByteArray} {r : Option FieldType} {M' : Mem} {o' : Nat → Int64}  (hM : MV l y b n r fr lo G As M M' o o'  mc ms) (mf : MFS y b n r na) (hy : y.cls = own) (hlink : Cond.methodLink own idx y ∈ UU) (hls : ls.size = nL) (hR : fr + 1 ≤ R.frames ∧ 8 + (n + 11) + lo ≤ R.locals) (hroom : cells + mc ≤ R.cells ∧ slots + ms ≤ R.slots) (hw : (rest.map fun v => v.category).sum ≤ 8) (hna : As.length = na) (hst : st0 = As.reverse ++ rest) (dg : decode cc pc = .ok (.invokestatic idx, 3))
    (kk : ∀ (H1 : Heap) (locs1 : List Loc), PW G M' o' H1 → va_S (pA G sz) s.heap H1 locs1 → W p l e R s m args below meth c H1 locs1 (cells + mc) (slots + ms) Q (F0 m (pc + 3) ls (rest))) : W p l e R s m args below meth c H locs cells slots Q (F0 m pc ls (st0)) := by
  refine va_callv (va_runS (As := As) (rest := rest) ⟨C0.1, C0.2.1, C0.2.2.1, C0.ow, C0.ts⟩ (hM H.size) ⟨callB_of na C0.ts (wsU_in mf.1.1) rfl rfl rfl (C0.ts _ mf.1.2.2) (C0.ts _ hlink) mf.2 hR, C0.ts _ mf.1.2.1⟩ ⟨PCW_blind, fun U hU hW => ⟨rfl, C0.ev.call hS hU hW, by rw [hU]; exact hP⟩⟩ rfl hna hls hst (lv_room hw) dg hroom) hS (fun q _ h => C0.mono hS q h) (C0.mono hS) (fun u t H1 locs1 ht hvm hw1 hB hz1 hk1 hS1 => ?_)
  rw [ht] at hB
  exact kk H1 locs1 hB hS1
theorem k_SNV (C0 : CX p s m args meth c cc own nL G sz) (hP : PW G M o H) (hS : va_S (pA G sz) s.heap H locs) {na n fr lo mc ms idx : Nat} {As rest st0 : List Value} {y : MethodName} {b : ByteArray} {r : Option FieldType} {M' : Mem} {o' : Nat → Int64}  {host : String} (hM : MV l y b n r fr lo G As M M' o o'  mc ms) (mf : MFS y b n r na) (hlink : (own, idx, y, host) ∈ nestM) (hls : ls.size = nL) (hR : fr + 1 ≤ R.frames ∧ 8 + (n + 11) + lo ≤ R.locals) (hroom : cells + mc ≤ R.cells ∧ slots + ms ≤ R.slots) (hw : (rest.map fun v => v.category).sum ≤ 8) (hna : As.length = na) (hst : st0 = As.reverse ++ rest) (dg : decode cc pc = .ok (.invokestatic idx, 3))
    (kk : ∀ (H1 : Heap) (locs1 : List Loc), PW G M' o' H1 → va_S (pA G sz) s.heap H1 locs1 → W p l e R s m args below meth c H1 locs1 (cells + mc) (slots + ms) Q (F0 m (pc + 3) ls (rest))) : W p l e R s m args below meth c H locs cells slots Q (F0 m pc ls (st0)) := by
  refine va_callv (va_runSN (As := As) (rest := rest) (host := host) ⟨C0.1, C0.2.1, C0.2.2.1, C0.ow, C0.ts⟩ (hM H.size) ⟨va_cnB na C0.ts (wsU_in mf.1.1) rfl rfl rfl (C0.nx.2 _ hlink) (C0.ts _ mf.1.2.2) mf.2 hR, C0.ts _ mf.1.2.1, trivial⟩ ⟨PCW_blind, fun U hU hW => ⟨rfl, C0.ev.call hS hU hW, by rw [hU]; exact hP⟩⟩ rfl hna hls hst (lv_room hw) dg hroom) hS (fun q _ h => C0.mono hS q h) (C0.mono hS) (fun u t H1 locs1 ht hvm hw1 hB hz1 hk1 hS1 => ?_)
  rw [ht] at hB
  exact kk H1 locs1 hB hS1

theorem e_I {below : List Frame} {M' : Mem} {o' : Nat → Int64} {res v : Int32} {ty : FieldType} {av : List Value} (C0 : CX p s m av.toArray meth c cc own nL G sz) (hr : meth.sig.returnType = some ty) (hn : narrow ty (.int v) = .int v) (hP : PW G M' o' H) (hS : va_S (pA G sz) s.heap H locs) (hv : v = res) (dg : decode cc pc = .ok (.ireturn, 1)) : W p l e R s m av.toArray below meth c H locs cells slots (MQ below (QI G M' o' res sz) av.toArray s cells slots (pA G sz)) (F0 m pc ls [.int v]) :=
  W.zret (v := v) (ty := ty) C0.1 C0.2.1 hr hn (fun t ht hW => ⟨⟨v, (), rfl, hv, by show PW G M' o' t.heap; rw [ht]; exact hP⟩, hS.F ht⟩) hS.2.2 dg C0.lk
theorem e_Ii {below : List Frame} {M' : Mem} {o' : Nat → Int64} {res v : Int32} {av : List Value} (C0 : CX p s m av.toArray meth c cc own nL G sz) (hr : meth.sig.returnType = some .int) (hP : PW G M' o' H) (hS : va_S (pA G sz) s.heap H locs) (hv : v = res) (dg : decode cc pc = .ok (.ireturn, 1)) : W p l e R s m av.toArray below meth c H locs cells slots (MQ below (QI G M' o' res sz) av.toArray s cells slots (pA G sz)) (F0 m pc ls [.int v]) :=
  W.iret (v := v) C0.1 C0.2.1 hr (fun t ht hW => ⟨⟨v, (), rfl, hv, by show PW G M' o' t.heap; rw [ht]; exact hP⟩, hS.F ht⟩) hS.2.2 dg C0.lk
theorem e_L {below : List Frame} {M' : Mem} {o' : Nat → Int64} {res v : Int64} {av : List Value} (C0 : CX p s m av.toArray meth c cc own nL G sz) (hr : meth.sig.returnType = some .long) (hP : PW G M' o' H) (hS : va_S (pA G sz) s.heap H locs) (hv : v = res) (dg : decode cc pc = .ok (.lreturn, 1)) : W p l e R s m av.toArray below meth c H locs cells slots (MQ below (QL G M' o' res sz) av.toArray s cells slots (pA G sz)) (F0 m pc ls [.long v]) :=
  W.lret (v := v) C0.1 C0.2.1 hr (fun t ht hW => ⟨⟨v, (), rfl, hv, by show PW G M' o' t.heap; rw [ht]; exact hP⟩, hS.F ht⟩) hS.2.2 dg C0.lk
theorem e_V {below : List Frame} {M' : Mem} {o' : Nat → Int64} {av : List Value} (C0 : CX p s m av.toArray meth c cc own nL G sz) (hr : meth.sig.returnType = none) (hP : PW G M' o' H) (hS : va_S (pA G sz) s.heap H locs) (dg : decode cc pc = .ok (.return_, 1)) : W p l e R s m av.toArray below meth c H locs cells slots (MQ below (QV G M' o' sz) av.toArray s cells slots (pA G sz)) (F0 m pc ls []) :=
  W.vret C0.1 C0.2.1 hr (fun t ht hW => ⟨⟨(), rfl, trivial, by show PW G M' o' t.heap; rw [ht]; exact hP⟩, hS.F ht⟩) hS.2.2 dg C0.lk
theorem bz_narrow {x : Int32} (h : x = 0 ∨ x = 1) : narrow .boolean (.int x) = .int x := by rcases h with rfl | rfl <;> decide +kernel
end ROW
