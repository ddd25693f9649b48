section MOR
variable {p : Program} {l : Launch} {e : Env} {R : Room} {s : State} {m : MethodId} {args : Array Value} {below : List Frame} {meth : Method} {c : Code} {H : Heap} {locs : List Loc} {cells slots : Nat} {Q : State → Prop} {cc : ByteArray} {pc : Nat} {ls : Array Slot} {rest : List Value} {own : String} {nL : Nat} {G : GG} {sz : Nat} {M : Mem} {o : Nat → Int64}

abbrev QD (G : GG) (M' : Mem) (o' : Nat → Int64) (res : UInt64) (sz : Nat) : Array Value → State → Outcome → State → Prop := va_Qd (fun (r' : UInt64) (_ : Unit) => r' = res) (fun _ t => PW G M' o' t.heap) (pA G sz)
def MD (l : Launch) (y : MethodName) (b : ByteArray) (n : Nat) (r : Option FieldType) (fr lo : Nat) (G : GG) (av : List Value) (M M' : Mem) (o o' : Nat → Int64) (res : UInt64) (mc ms : Nat) : Prop := ∀ sz, Met l y (wsU y b n r) (rmU fr lo mc ms) (PCW G sz M o av) (QD G M' o' res sz) mc ms (pA G sz)
theorem MD_of {y : MethodName} {b : ByteArray} {n : Nat} {r : Option FieldType} {fr lo : Nat} {av : List Value} {M' : Mem} {o' : Nat → Int64} {res : UInt64} {mc ms : Nat} (own : String) (hown : y.cls = own) (hy : plainName y.cls = true) (hn : (lg_sl av).length ≤ n)
    (body : ∀ p e s m below meth c sz, CX p s m av.toArray meth c b own n G sz → meth.sig.returnType = r → PW G M o s.heap → ∀ ls, lv_has ls n (lv_args 0 av) →
      W p l e (rmU fr lo mc ms) s m av.toArray below meth c s.heap [] 0 0 (MQ below (QD G M' o' res sz) av.toArray s mc ms (pA G sz)) (F0 m 0 ls [])) : MD l y b n r fr lo G av M M' o o' res mc ms := by
  intro sz
  refine Met.ofW (cc := b) (maxL := n) (ret := r) hy rfl ?_
  intro p e s m args below meth c s₁ B hml hv
  obtain ⟨rfl, hE, hP⟩ := hv
  subst hown
  have hl := lv_entry av (n := n) hn
  rw [lg_entry_eq]
  generalize (lg_sl av ++ List.replicate (n - (lg_sl av).length) Slot.unset).toArray = ls at hl ⊢
  exact body p e s m below meth c sz ⟨B.exec, B.bytes, hml, findClass_of_methodNamed B.named, fun w hw => atoms_spec (ws := wsU y b n r) B.pre w (List.mem_cons_of_mem _ hw), hE, B.notSynchronized⟩ B.returns hP ls hl
theorem e_D {below : List Frame} {mc ms : Nat} {M' : Mem} {o' : Nat → Int64} {res v : UInt64} {av : List Value} (C0 : CX p s m av.toArray meth c cc own nL G sz) (hr : meth.sig.returnType = some .double) (hP : PW G M' o' H) (hS : va_S (pA G sz) s.heap H locs) (hv : v = res) (hw : cells ≤ mc ∧ slots ≤ ms) (dg : decode cc pc = .ok (.dreturn, 1)) : W p l e R s m av.toArray below meth c H locs cells slots (MQ below (QD G M' o' res sz) av.toArray s mc ms (pA G sz)) (F0 m pc ls [.double v]) :=
  have hlocks := C0.lk
  W.widen (k := mc) (n := ms) hw.1 hw.2 (W.dret (v := v) C0.1 C0.2.1 hr (fun t ht hW => ⟨⟨v, (), rfl, hv, by show PW G M' o' t.heap; rw [ht]; exact hP⟩, hS.F ht⟩) hS.2.2 dg hlocks)
theorem k_VD (C0 : CX p s m args meth c cc own nL G sz) (hP : PW G M o H) (hS : va_S (pA G sz) s.heap H locs) {k ci na n fr lo mc ms idx : Nat} {C : String} {T : u_T} {N : Nat} {fs As rest st0 : List Value} {y : MethodName} {b : ByteArray} {r : Option FieldType} {M' : Mem} {o' : Nat → Int64} {res : UInt64} (hM : MD l y b n r fr lo G (.ref (adr G k) :: As) M M' o o' res mc ms) (mf : MFV C y b n r na) (hlink : Cond.methodLink own idx y ∈ UU) (hk : k < 67) (hct : ct G M o k = .inr (ci, fs)) (hc : vwCl[ci]? = some (C, T, N)) (hls : ls.size = nL) (hR : fr + 1 ≤ R.frames ∧ 8 + (n + 11) + lo ≤ R.locals) (hroom : cells + mc ≤ R.cells ∧ slots + ms ≤ R.slots) (hw : (rest.map fun v => v.category).sum ≤ 8) (hna : As.length = na) (hst : st0 = As.reverse ++ .ref (adr G k) :: rest) (dg : decode cc pc = .ok (.invokevirtual idx, 3))
    (kk : ∀ (H1 : Heap) (locs1 : List Loc), PW G M' o' H1 → va_S (pA G sz) s.heap H1 locs1 → W p l e R s m args below meth c H1 locs1 (cells + mc) (slots + ms) Q (F0 m (pc + 3) ls (.double res :: rest))) : W p l e R s m args below meth c H locs cells slots Q (F0 m pc ls (st0)) := by
  refine va_calld (va_runV (As := As) (rest := rest) ⟨C0.1, C0.2.1, C0.2.2.1, C0.ow, C0.ts⟩ (hM H.size) (cwV na C0.ts (wsV_in mf hlink) rfl rfl rfl mf.2 hR) ⟨PCW_blind, w_recv C0 hP hk hct hc, fun U hU hW => ⟨rfl, C0.ev.call hS hU hW, by rw [hU]; exact hP⟩⟩ rfl hna hls hst (lv_room hw) dg hroom) hS (fun q _ h => C0.mono hS q h) (C0.mono hS) (fun r1 u t H1 locs1 ht hvm hw1 hB hz1 hk1 hS1 => ?_)
  rw [ht] at hB
  subst hw1
  exact kk H1 locs1 hB hS1
/-- 'throw new E()' -/
def NG : List Cond := nestD.map (fun x => Cond.declares x) ++ nestC.map (fun E => Cond.castable E E)
theorem NG_ok (h : NX s) : ∀ w ∈ NG, w.before args s = true := by
  intro w hw
  rcases List.mem_append.mp hw with hw | hw
  · obtain ⟨x, hx, rfl⟩ := List.mem_map.mp hw
    exact va_Nw.use rfl (h.2.2.1 x hx)
  · obtain ⟨x, hx, rfl⟩ := List.mem_map.mp hw
    exact va_Nw.use rfl (h.2.2.2.1 x hx)
theorem PW_kept {H1 : Heap} (hP : PW G M o H) (hq : ∀ q : Nat, q < H.size → H1[q]? = H[q]?) : PW G M o H1 := va_P.kept hP (fun k q hk => hq q.1 (va_at.lt (hP k q hk)))
theorem w_throw {below : List Frame} {mc ms ik ic : Nat} {cls : String} {names : List String} {av : List Value} (C0 : CX p s m av.toArray meth c cc own nL G sz) (hst : l.stackTraces = false) (hx0 : ∀ x ∈ c.exceptionTable.toList, False) (hP : PW G M o H) (hS : va_S (pA G sz) s.heap H locs)
    (hcls : Bundle.fit cls = true) (hnames : ∀ n ∈ names, Bundle.fit n = true) (hk : Cond.classLink own ik cls ∈ UU) (hini : Cond.initialized cls ∈ UU)
    (h1 : ∀ w ∈ (vx_at0 own ic cls names).filter goodWord, w ∈ lw_tbl) (h2 : ∀ w ∈ (vx_at0 own ic cls names).filter (fun w => !goodWord w), w ∈ NG)
    (hgood : ∀ w ∈ Cond.classLink own ik cls :: Cond.initialized cls :: vx_at0 own ic cls names, vx_ot w = true)
    (hls : ls.size = nL) (d0 : decode cc pc = .ok (.new ik, 3)) (d3 : decode cc (pc + 3) = .ok (.dup, 1)) (d4 : decode cc (pc + 4) = .ok (.invokespecial ic, 3)) (d7 : decode cc (pc + 7) = .ok (.athrow, 1))
    (hR : names.length + 3 < R.frames ∧ (rest.map fun v => v.category).sum + (13 * (names.length + 1) + 42) ≤ R.locals ∧ cells + 1 ≤ R.cells ∧ slots + 6 ≤ R.slots) (hw : cells + 1 ≤ mc ∧ slots + 6 ≤ ms) :
    W p l e R s m av.toArray below meth c H locs cells slots (vx_MQ below QN (QX G M o cls sz) av.toArray s mc ms (pA G sz)) (F0 m pc ls rest) := by
  refine vx_throw0 C0.1 C0.2.1 hst C0.ow hcls hnames (C0.ts _ hk) (C0.ts _ hini) (vx_hat (B := NG) (fun w hw => C0.ts w (List.mem_filter.mpr ⟨h1 w hw, (List.mem_filter.mp hw).2⟩)) h2 (NG_ok C0.nx)) hgood (A := pA G sz) C0.ev.2.2.2.2.1 C0.ev.2.2.2.2.2 hS (hls.trans C0.2.2.1.symm) d0 d3 d4 d7 (fun x hx => (hx0 x hx).elim) hR.1 hR.2.1 hR.2.2.1 hR.2.2.2 C0.lk ?_ hS.2.2 hw.1 hw.2
  intro t hvm hz hq
  refine ⟨(), trivial, ⟨rfl, PW_kept hP hq⟩, Nat.le_trans hS.1 hz, fun q h1 h2 => ?_⟩
  rw [hq q (Nat.lt_of_lt_of_le h1 hS.1)]
  exact hS.2.1 q h1 h2
/-- a callee that throws -/
theorem k_thr {rest st0 : List Value} {a : Array Value} {mc ms sz1 : Nat} {free : Addr → Prop} {M' : Mem} {o' : Nat → Int64} {E : String} (hr : vx_Run p l e R s m args below meth c H locs cells slots mc ms (F0 m pc ls st0) rest (QN a) (QX G M' o' E sz1) free) (hS : va_S (pA G sz) s.heap H locs) (hAX : ∀ q, pA G sz1 q → pA G sz q) (hf : ∀ q, free q → pA G sz q)
    (kx : ∀ (ce : Cell) (q9 : Addr) (H1 : Heap) (locs1 : List Loc), PW G M' o' H1 → va_S (pA G sz) s.heap H1 locs1 → H1[q9]? = some ce → ce.vm = .none → s.vm.findClass E = some ce.cls → vx_W p l e R s m args below meth c H1 locs1 (cells + mc) (slots + ms) Q (F0 m pc ls rest) q9) : W p l e R s m args below meth c H locs cells slots Q (F0 m pc ls st0) := by
  intro T hT X
  rcases hr T hT X with ⟨v, st₀, t, T', L, h0, X', hL, e1, e2, hF, st⟩ | ⟨q, st₀, t, T', L, E9, ce, h0, X', hL, e1, e2, ⟨u, hp, ⟨hE, hB⟩, hF⟩, hce, hcv, hcl, st⟩
  · exact hF.elim
  · subst hE
    obtain ⟨k1, k2, k3⟩ := vx_keep h0 e1 hS (fun q _ h => hAX q h) hf hL hF
    obtain ⟨t2, a1, b1⟩ := kx ce q T'.heap (locs ++ L) (by rw [e1]; exact hB) k3 (by rw [e1]; exact hce) hcv hcl T' rfl X'
    exact ⟨t2, st.trans a1, b1⟩
theorem k_VX (C0 : CX p s m args meth c cc own nL G sz) (hP : PW G M o H) (hS : va_S (pA G sz) s.heap H locs) {k ci na n fr lo mc ms idx : Nat} {C : String} {T : u_T} {N : Nat} {fs As rest st0 : List Value} {y : MethodName} {b : ByteArray} {r : Option FieldType} {M' : Mem} {o' : Nat → Int64} {E : String} (hM : MX l y b n r fr lo G (.ref (adr G k) :: As) M M' o o' E mc ms) (mf : MFV C y b n r na) (hlink : Cond.methodLink own idx y ∈ UU) (hk : k < 67) (hct : ct G M o k = .inr (ci, fs)) (hc : vwCl[ci]? = some (C, T, N)) (hls : ls.size = nL) (hR : fr + 1 ≤ R.frames ∧ 8 + (n + 11) + lo ≤ R.locals) (hroom : cells + mc ≤ R.cells ∧ slots + ms ≤ R.slots) (hw : (rest.map fun v => v.category).sum ≤ 8) (hna : As.length = na) (hst : st0 = As.reverse ++ .ref (adr G k) :: rest) (dg : decode cc pc = .ok (.invokevirtual idx, 3))
    (kx : ∀ (ce : Cell) (q9 : Addr) (H1 : Heap) (locs1 : List Loc), PW G M' o' H1 → va_S (pA G sz) s.heap H1 locs1 → H1[q9]? = some ce → ce.vm = .none → s.vm.findClass E = some ce.cls → vx_W p l e R s m args below meth c H1 locs1 (cells + mc) (slots + ms) Q (F0 m pc ls rest) q9) : W p l e R s m args below meth c H locs cells slots Q (F0 m pc ls (st0)) :=
  k_thr (vx_runV (As := As) (rest := rest) ⟨C0.1, C0.2.1, C0.2.2.1, C0.ow, C0.ts⟩ (hM H.size) (cwV na C0.ts (wsV_in mf hlink) rfl rfl rfl mf.2 hR) ⟨PCW_blind, w_recv C0 hP hk hct hc, fun U hU hW => ⟨rfl, C0.ev.call hS hU hW, by rw [hU]; exact hP⟩⟩ rfl hna hls hst (lv_room hw) dg hroom) hS (C0.mono hS) (C0.mono hS) kx
theorem k_SX (C0 : CX p s m args meth c cc own nL G sz) (hP : PW G M o H) (hS : va_S (pA G sz) s.heap H locs) {na n fr lo mc ms idx : Nat} {As rest st0 : List Value} {y : MethodName} {b : ByteArray} {r : Option FieldType} {M' : Mem} {o' : Nat → Int64} {E : String} (hM : MX l y b n r fr lo G As M M' o o' E mc ms) (mf : MFS y b n r na) (hy : y.cls = own) (hlink : Cond.methodLink own idx y ∈ UU) (hls : ls.size = nL) (hR : fr + 1 ≤ R.frames ∧ 8 + (n + 11) + lo ≤ R.locals) (hroom : cells + mc ≤ R.cells ∧ slots + ms ≤ R.slots) (hw : (rest.map fun v => v.category).sum ≤ 8) (hna : As.length = na) (hst : st0 = As.reverse ++ rest) (dg : decode cc pc = .ok (.invokestatic idx, 3))
    (kx : ∀ (ce : Cell) (q9 : Addr) (H1 : Heap) (locs1 : List Loc), PW G M' o' H1 → va_S (pA G sz) s.heap H1 locs1 → H1[q9]? = some ce → ce.vm = .none → s.vm.findClass E = some ce.cls → vx_W p l e R s m args below meth c H1 locs1 (cells + mc) (slots + ms) Q (F0 m pc ls rest) q9) : W p l e R s m args below meth c H locs cells slots Q (F0 m pc ls (st0)) :=
  k_thr (vx_runS (As := As) (rest := rest) ⟨C0.1, C0.2.1, C0.2.2.1, C0.ow, C0.ts⟩ (hM H.size) ⟨callB_of na C0.ts (wsU_in mf.1.1) rfl rfl rfl (C0.ts _ mf.1.2.2) (C0.ts _ hlink) mf.2 hR, C0.ts _ mf.1.2.1⟩ ⟨PCW_blind, fun U hU hW => ⟨rfl, C0.ev.call hS hU hW, by rw [hU]; exact hP⟩⟩ rfl hna hls hst (lv_room hw) dg hroom) hS (C0.mono hS) (C0.mono hS) kx
/-- it goes on to the caller -/
theorem e_X {below : List Frame} {mc ms : Nat} {M' : Mem} {o' : Nat → Int64} {E : String} {ce : Cell} {q9 : Addr} {av : List Value} (C0 : CX p s m av.toArray meth c cc own nL G sz) (hx0 : ∀ x ∈ c.exceptionTable.toList, False) (hP : PW G M' o' H) (hS : va_S (pA G sz) s.heap H locs) (hce : H[q9]? = some ce) (hcv : ce.vm = .none) (hcl : s.vm.findClass E = some ce.cls) (hw : cells ≤ mc ∧ slots ≤ ms) : vx_W p l e R s m av.toArray below meth c H locs cells slots (vx_MQ below QN (QX G M' o' E sz) av.toArray s mc ms (pA G sz)) (F0 m pc ls rest) q9 :=
  vx_out (fun x hx => (hx0 x hx).elim) C0.lk hce hcv hcl (fun t ht hvm => ⟨(), trivial, ⟨rfl, by rw [ht]; exact hP⟩, hS.F ht⟩) hS.2.2 hw.1 hw.2
theorem th_IAE_k : Cond.classLink RX4 33 "java/lang/IllegalArgumentException" ∈ UU := List.mem_filter.mpr ⟨List.mem_append_right _ (List.mem_append_right _ (List.mem_append_left _ (List.mem_of_getElem? (i := 2) rfl))), rfl⟩
theorem th_IAE_i : Cond.initialized "java/lang/IllegalArgumentException" ∈ UU := List.mem_filter.mpr ⟨List.mem_append_right _ (List.mem_append_left _ (List.mem_of_getElem? (i := 11) rfl)), rfl⟩
theorem th_IAE_2 : ∀ w ∈ (vx_at0 RX4 35 "java/lang/IllegalArgumentException" ["java/lang/RuntimeException", "java/lang/Exception"]).filter (fun w => !goodWord w), w ∈ NG := by decide +kernel
theorem th_IAE_g : ∀ w ∈ Cond.classLink RX4 33 "java/lang/IllegalArgumentException" :: Cond.initialized "java/lang/IllegalArgumentException" :: vx_at0 RX4 35 "java/lang/IllegalArgumentException" ["java/lang/RuntimeException", "java/lang/Exception"], vx_ot w = true := by decide +kernel
theorem th_IAE {below : List Frame} {mc ms : Nat} {av : List Value} (C0 : CX p s m av.toArray meth c cc RX4 nL G sz) (hst : l.stackTraces = false) (hx0 : ∀ x ∈ c.exceptionTable.toList, False) (hP : PW G M o H) (hS : va_S (pA G sz) s.heap H locs) (hls : ls.size = nL) (d0 : decode cc pc = .ok (.new 33, 3)) (d3 : decode cc (pc + 3) = .ok (.dup, 1)) (d4 : decode cc (pc + 4) = .ok (.invokespecial 35, 3)) (d7 : decode cc (pc + 7) = .ok (.athrow, 1))
    (hR : 5 < R.frames ∧ (rest.map fun v => v.category).sum + 81 ≤ R.locals ∧ cells + 1 ≤ R.cells ∧ slots + 6 ≤ R.slots) (hw : cells + 1 ≤ mc ∧ slots + 6 ≤ ms) :
    W p l e R s m av.toArray below meth c H locs cells slots (vx_MQ below QN (QX G M o "java/lang/IllegalArgumentException" sz) av.toArray s mc ms (pA G sz)) (F0 m pc ls rest) :=
  w_throw (names := ["java/lang/RuntimeException", "java/lang/Exception"]) C0 hst hx0 hP hS (by decide +kernel) (by decide +kernel) th_IAE_k th_IAE_i wsL_law_x0 th_IAE_2 th_IAE_g hls d0 d3 d4 d7 hR hw
theorem th_ISE_k : Cond.classLink RX4 40 "java/lang/IllegalStateException" ∈ UU := List.mem_filter.mpr ⟨List.mem_append_right _ (List.mem_append_right _ (List.mem_append_left _ (List.mem_of_getElem? (i := 65) rfl))), rfl⟩
theorem th_ISE_i : Cond.initialized "java/lang/IllegalStateException" ∈ UU := List.mem_filter.mpr ⟨List.mem_append_right _ (List.mem_append_left _ (List.mem_of_getElem? (i := 12) rfl)), rfl⟩
theorem th_ISE_2 : ∀ w ∈ (vx_at0 RX4 42 "java/lang/IllegalStateException" ["java/lang/RuntimeException", "java/lang/Exception"]).filter (fun w => !goodWord w), w ∈ NG := by decide +kernel
theorem th_ISE_g : ∀ w ∈ Cond.classLink RX4 40 "java/lang/IllegalStateException" :: Cond.initialized "java/lang/IllegalStateException" :: vx_at0 RX4 42 "java/lang/IllegalStateException" ["java/lang/RuntimeException", "java/lang/Exception"], vx_ot w = true := by decide +kernel
theorem th_ISE {below : List Frame} {mc ms : Nat} {av : List Value} (C0 : CX p s m av.toArray meth c cc RX4 nL G sz) (hst : l.stackTraces = false) (hx0 : ∀ x ∈ c.exceptionTable.toList, False) (hP : PW G M o H) (hS : va_S (pA G sz) s.heap H locs) (hls : ls.size = nL) (d0 : decode cc pc = .ok (.new 40, 3)) (d3 : decode cc (pc + 3) = .ok (.dup, 1)) (d4 : decode cc (pc + 4) = .ok (.invokespecial 42, 3)) (d7 : decode cc (pc + 7) = .ok (.athrow, 1))
    (hR : 5 < R.frames ∧ (rest.map fun v => v.category).sum + 81 ≤ R.locals ∧ cells + 1 ≤ R.cells ∧ slots + 6 ≤ R.slots) (hw : cells + 1 ≤ mc ∧ slots + 6 ≤ ms) :
    W p l e R s m av.toArray below meth c H locs cells slots (vx_MQ below QN (QX G M o "java/lang/IllegalStateException" sz) av.toArray s mc ms (pA G sz)) (F0 m pc ls rest) :=
  w_throw (names := ["java/lang/RuntimeException", "java/lang/Exception"]) C0 hst hx0 hP hS (by decide +kernel) (by decide +kernel) th_ISE_k th_ISE_i wsL_law_x1 th_ISE_2 th_ISE_g hls d0 d3 d4 d7 hR hw
theorem th_IOE_k : Cond.classLink RX4 53 "java/lang/IndexOutOfBoundsException" ∈ UU := List.mem_filter.mpr ⟨List.mem_append_right _ (List.mem_append_right _ (List.mem_append_left _ (List.mem_of_getElem? (i := 92) rfl))), rfl⟩
theorem th_IOE_i : Cond.initialized "java/lang/IndexOutOfBoundsException" ∈ UU := List.mem_filter.mpr ⟨List.mem_append_right _ (List.mem_append_left _ (List.mem_of_getElem? (i := 13) rfl)), rfl⟩
theorem th_IOE_2 : ∀ w ∈ (vx_at0 RX4 55 "java/lang/IndexOutOfBoundsException" ["java/lang/RuntimeException", "java/lang/Exception"]).filter (fun w => !goodWord w), w ∈ NG := by decide +kernel
theorem th_IOE_g : ∀ w ∈ Cond.classLink RX4 53 "java/lang/IndexOutOfBoundsException" :: Cond.initialized "java/lang/IndexOutOfBoundsException" :: vx_at0 RX4 55 "java/lang/IndexOutOfBoundsException" ["java/lang/RuntimeException", "java/lang/Exception"], vx_ot w = true := by decide +kernel
theorem th_IOE {below : List Frame} {mc ms : Nat} {av : List Value} (C0 : CX p s m av.toArray meth c cc RX4 nL G sz) (hst : l.stackTraces = false) (hx0 : ∀ x ∈ c.exceptionTable.toList, False) (hP : PW G M o H) (hS : va_S (pA G sz) s.heap H locs) (hls : ls.size = nL) (d0 : decode cc pc = .ok (.new 53, 3)) (d3 : decode cc (pc + 3) = .ok (.dup, 1)) (d4 : decode cc (pc + 4) = .ok (.invokespecial 55, 3)) (d7 : decode cc (pc + 7) = .ok (.athrow, 1))
    (hR : 5 < R.frames ∧ (rest.map fun v => v.category).sum + 81 ≤ R.locals ∧ cells + 1 ≤ R.cells ∧ slots + 6 ≤ R.slots) (hw : cells + 1 ≤ mc ∧ slots + 6 ≤ ms) :
    W p l e R s m av.toArray below meth c H locs cells slots (vx_MQ below QN (QX G M o "java/lang/IndexOutOfBoundsException" sz) av.toArray s mc ms (pA G sz)) (F0 m pc ls rest) :=
  w_throw (names := ["java/lang/RuntimeException", "java/lang/Exception"]) C0 hst hx0 hP hS (by decide +kernel) (by decide +kernel) th_IOE_k th_IOE_i wsL_law_x2 th_IOE_2 th_IOE_g hls d0 d3 d4 d7 hR hw
/-- a whole number over one that isn't 0 is a number -/
theorem dv_num {x y : Int32} (hy : y ≠ 0) : vf_n64 (FP.ddiv (FP.i2d x) (FP.i2d y)) := by
  have hb := Jvm.FP.Core.i2d_fin y
  have hz : ¬ Jvm.FP.Core.DZero (Jvm.FP.Core.i2d y) := by
    rw [Jvm.FP.Core.zero_bits2]
    exact Jvm.FP.Core.i2d_ne_zero hy
  have ha : Jvm.FP.Core.dIsNaN (Jvm.FP.Core.i2d x) = false := (Jvm.FP.Core.notNaN_iff _).mpr (Jvm.FP.Core.i2d_fin x).ne_nan
  have h := Jvm.FP.Core.ddiv_out ha hb hz
  have h2 : ¬ 9218868437227405312 < (FP.ddiv (FP.i2d x) (FP.i2d y)).toNat % 2 ^ 63 := by
    intro z
    have := (Jvm.FP.Core.isNaN_bits (FP.ddiv (FP.i2d x) (FP.i2d y))).mpr z
    have e : Jvm.FP.Core.dIsNaN (FP.ddiv (FP.i2d x) (FP.i2d y)) = false := h
    rw [e] at this
    cases this
  unfold vf_n64
  rw [UInt64.le_iff_toNat_le, UInt64.toNat_and]
  have e1 : (9223372036854775807 : UInt64).toNat = 2 ^ 63 - 1 := by decide
  have e2 : (9218868437227405312 : UInt64).toNat = 9218868437227405312 := by decide
  rw [show (0x7fffffffffffffff : UInt64).toNat = 2 ^ 63 - 1 from by decide, Nat.and_two_pow_sub_one_eq_mod, show (0x7ff0000000000000 : UInt64).toNat = 9218868437227405312 from by decide]
  omega
end MOR
