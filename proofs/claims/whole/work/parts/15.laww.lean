section LWA
variable {p : Program} {l : Launch} {e : Env} {R : Room} {s : State} {m : MethodId} {args : Array Value} {below : List Frame} {meth : Method} {c : Code} {H : Heap} {locs : List Loc} {cells slots : Nat} {Q : State → Prop} {cc : ByteArray} {pc : Nat} {ls : Array Slot} {rest : List Value} {own : String} {nL : Nat} {G : GG} {sz : Nat} {M : Mem} {o : Nat → Int64}
def MFW (y : MethodName) (b : ByteArray) (n : Nat) (r : Option FieldType) (hh : List (Nat × Nat × Nat × Nat)) (na : Nat) : Prop :=
  (Cond.codeWith y b n r hh ∈ UU ∧ Cond.static y ∈ UU ∧ Cond.initialized y.cls ∈ UU) ∧ y.cls ≠ "java/lang/invoke/MethodHandle" ∧ y.cls ≠ "java/lang/invoke/VarHandle" ∧ (parseMethodDescriptor y.desc).map (fun d => d.parameters.length) = some na
def MJ (l : Launch) (y : MethodName) (b : ByteArray) (n : Nat) (r : Option FieldType) (hh : List (Nat × Nat × Nat × Nat)) (fr lo : Nat) (G : GG) (av : List Value) (M M' : Mem) (o o' : Nat → Int64) (res : Int32) (mc ms : Nat) : Prop := ∀ sz, Met l y (wsW y b n r hh) (rmU fr lo mc ms) (PCW G sz M o av) (QI G M' o' res sz) mc ms (pA G sz)
theorem MJ_of {l : Launch} {y : MethodName} {b : ByteArray} {n : Nat} {r : Option FieldType} {hh : List (Nat × Nat × Nat × Nat)} {fr lo : Nat} {G : GG} {av : List Value} {M M' : Mem} {o o' : Nat → Int64} {res : Int32} {mc ms : Nat} (own : String) (hown : y.cls = own) (hy : plainName y.cls = true) (hn : (lg_sl av).length ≤ n)
    (body : ∀ p e s m below meth c sz, CX p s m av.toArray meth c b own n G sz → meth.sig.returnType = r → c.exceptionTable.toList = tableOf hh → PW G M o s.heap → ∀ ls, lv_has ls n (lv_args 0 av) →
      W p l e (rmU fr lo mc ms) s m av.toArray below meth c s.heap [] 0 0 (MQ below (QI G M' o' res sz) av.toArray s mc ms (pA G sz)) (F0 m 0 ls [])) : MJ l y b n r hh fr lo G av M M' o o' res mc ms := by
  intro sz
  refine va_MetW (cc := b) (maxL := n) (ret := r) (hh := hh) hy rfl ?_
  intro p e s m args below meth c s₁ B hml hv
  obtain ⟨rfl, hE, hP⟩ := hv
  subst hown
  have hT := vx_table (x := y) B (atoms_spec (ws := wsW y b n r hh) B.pre _ List.mem_cons_self)
  have hl := lv_entry av (n := n) hn
  rw [lg_entry_eq]
  generalize (lg_sl av ++ List.replicate (n - (lg_sl av).length) Slot.unset).toArray = ls at hl ⊢
  exact body p e s m below meth c sz ⟨B.exec, B.bytes, hml, findClass_of_methodNamed B.named, fun w hw => atoms_spec (ws := wsW y b n r hh) B.pre w (List.mem_cons_of_mem _ hw), hE, B.notSynchronized⟩ B.returns hT hP ls hl
theorem ml_L_7 : Cond.methodLink RL 7 yX4_pass ∈ UU := List.mem_filter.mpr ⟨List.mem_append_right _ (List.mem_append_left _ (List.mem_of_getElem? (i := 232) rfl)), rfl⟩
theorem mf_L_pass : MFW yL_pass cL_pass 7 (some .int) [(0, 14, 17, 13), (0, 14, 21, 15)] 6 := ⟨⟨List.mem_filter.mpr ⟨List.mem_append_right _ (List.mem_append_left _ (List.mem_of_getElem? (i := 229) rfl)), rfl⟩, List.mem_filter.mpr ⟨List.mem_append_right _ (List.mem_append_left _ (List.mem_of_getElem? (i := 228) rfl)), rfl⟩, List.mem_filter.mpr ⟨List.mem_append_right _ (List.mem_append_left _ (List.mem_of_getElem? (i := 0) rfl)), rfl⟩⟩, by decide +kernel, by decide +kernel, by decide +kernel⟩
theorem ml_L_17 : Cond.methodLink RL 17 yX4_setLight ∈ UU := List.mem_filter.mpr ⟨List.mem_append_right _ (List.mem_append_right _ (List.mem_append_left _ (List.mem_of_getElem? (i := 88) rfl))), rfl⟩
theorem mf_L_setLight : MFW yL_setLight cL_setLight 6 (some .int) [(0, 12, 15, 21), (0, 12, 19, 13)] 5 := ⟨⟨List.mem_filter.mpr ⟨List.mem_append_right _ (List.mem_append_right _ (List.mem_append_left _ (List.mem_of_getElem? (i := 86) rfl))), rfl⟩, List.mem_filter.mpr ⟨List.mem_append_right _ (List.mem_append_right _ (List.mem_append_left _ (List.mem_of_getElem? (i := 85) rfl))), rfl⟩, List.mem_filter.mpr ⟨List.mem_append_right _ (List.mem_append_left _ (List.mem_of_getElem? (i := 0) rfl)), rfl⟩⟩, by decide +kernel, by decide +kernel, by decide +kernel⟩
theorem ml_L_23 : Cond.methodLink RL 23 yX4_addRoom ∈ UU := List.mem_filter.mpr ⟨List.mem_append_right _ (List.mem_append_right _ (List.mem_append_left _ (List.mem_of_getElem? (i := 113) rfl))), rfl⟩
theorem mf_L_addRoom : MFW yL_addRoom cL_addRoom 6 (some .int) [(0, 12, 15, 13), (0, 12, 19, 15)] 5 := ⟨⟨List.mem_filter.mpr ⟨List.mem_append_right _ (List.mem_append_right _ (List.mem_append_left _ (List.mem_of_getElem? (i := 112) rfl))), rfl⟩, List.mem_filter.mpr ⟨List.mem_append_right _ (List.mem_append_right _ (List.mem_append_left _ (List.mem_of_getElem? (i := 111) rfl))), rfl⟩, List.mem_filter.mpr ⟨List.mem_append_right _ (List.mem_append_left _ (List.mem_of_getElem? (i := 0) rfl)), rfl⟩⟩, by decide +kernel, by decide +kernel, by decide +kernel⟩
theorem ml_L_26 : Cond.methodLink RL 26 yX4_bore ∈ UU := List.mem_filter.mpr ⟨List.mem_append_right _ (List.mem_append_right _ (List.mem_append_left _ (List.mem_of_getElem? (i := 128) rfl))), rfl⟩
theorem mf_L_bore : MFW yL_bore cL_bore 5 (some .int) [(0, 10, 13, 21), (0, 10, 17, 13)] 4 := ⟨⟨List.mem_filter.mpr ⟨List.mem_append_right _ (List.mem_append_right _ (List.mem_append_left _ (List.mem_of_getElem? (i := 127) rfl))), rfl⟩, List.mem_filter.mpr ⟨List.mem_append_right _ (List.mem_append_right _ (List.mem_append_left _ (List.mem_of_getElem? (i := 126) rfl))), rfl⟩, List.mem_filter.mpr ⟨List.mem_append_right _ (List.mem_append_left _ (List.mem_of_getElem? (i := 0) rfl)), rfl⟩⟩, by decide +kernel, by decide +kernel, by decide +kernel⟩
theorem ml_L_30 : Cond.methodLink RL 30 yX4_paint ∈ UU := List.mem_filter.mpr ⟨List.mem_append_right _ (List.mem_append_right _ (List.mem_append_left _ (List.mem_of_getElem? (i := 142) rfl))), rfl⟩
theorem mf_L_paint : MFW yL_paint cL_paint 5 (some .int) [(0, 10, 13, 21), (0, 10, 17, 13)] 4 := ⟨⟨List.mem_filter.mpr ⟨List.mem_append_right _ (List.mem_append_right _ (List.mem_append_left _ (List.mem_of_getElem? (i := 141) rfl))), rfl⟩, List.mem_filter.mpr ⟨List.mem_append_right _ (List.mem_append_right _ (List.mem_append_left _ (List.mem_of_getElem? (i := 140) rfl))), rfl⟩, List.mem_filter.mpr ⟨List.mem_append_right _ (List.mem_append_left _ (List.mem_of_getElem? (i := 0) rfl)), rfl⟩⟩, by decide +kernel, by decide +kernel, by decide +kernel⟩
theorem ml_L_33 : Cond.methodLink RL 33 yX4_seat ∈ UU := List.mem_filter.mpr ⟨List.mem_append_right _ (List.mem_append_right _ (List.mem_append_left _ (List.mem_of_getElem? (i := 149) rfl))), rfl⟩
theorem mf_L_seat : MFW yL_seat cL_seat 5 (some .int) [(0, 10, 13, 21), (0, 10, 17, 13), (0, 10, 21, 15)] 4 := ⟨⟨List.mem_filter.mpr ⟨List.mem_append_right _ (List.mem_append_right _ (List.mem_append_left _ (List.mem_of_getElem? (i := 148) rfl))), rfl⟩, List.mem_filter.mpr ⟨List.mem_append_right _ (List.mem_append_right _ (List.mem_append_left _ (List.mem_of_getElem? (i := 147) rfl))), rfl⟩, List.mem_filter.mpr ⟨List.mem_append_right _ (List.mem_append_left _ (List.mem_of_getElem? (i := 0) rfl)), rfl⟩⟩, by decide +kernel, by decide +kernel, by decide +kernel⟩
theorem ml_L_36 : Cond.methodLink RL 36 yX4_passer ∈ UU := List.mem_filter.mpr ⟨List.mem_append_right _ (List.mem_append_right _ (List.mem_append_left _ (List.mem_of_getElem? (i := 156) rfl))), rfl⟩
theorem mf_L_passer : MFW yL_passer cL_passer 5 (some .int) [(0, 10, 13, 21)] 4 := ⟨⟨List.mem_filter.mpr ⟨List.mem_append_right _ (List.mem_append_right _ (List.mem_append_left _ (List.mem_of_getElem? (i := 155) rfl))), rfl⟩, List.mem_filter.mpr ⟨List.mem_append_right _ (List.mem_append_right _ (List.mem_append_left _ (List.mem_of_getElem? (i := 154) rfl))), rfl⟩, List.mem_filter.mpr ⟨List.mem_append_right _ (List.mem_append_left _ (List.mem_of_getElem? (i := 0) rfl)), rfl⟩⟩, by decide +kernel, by decide +kernel, by decide +kernel⟩
theorem ml_L_39 : Cond.methodLink RL 39 yX4_room ∈ UU := List.mem_filter.mpr ⟨List.mem_append_right _ (List.mem_append_right _ (List.mem_append_left _ (List.mem_of_getElem? (i := 167) rfl))), rfl⟩
theorem mf_L_room : MFW yL_room cL_room 5 (some .int) [(0, 10, 13, 21)] 4 := ⟨⟨List.mem_filter.mpr ⟨List.mem_append_right _ (List.mem_append_right _ (List.mem_append_left _ (List.mem_of_getElem? (i := 166) rfl))), rfl⟩, List.mem_filter.mpr ⟨List.mem_append_right _ (List.mem_append_right _ (List.mem_append_left _ (List.mem_of_getElem? (i := 165) rfl))), rfl⟩, List.mem_filter.mpr ⟨List.mem_append_right _ (List.mem_append_left _ (List.mem_of_getElem? (i := 0) rfl)), rfl⟩⟩, by decide +kernel, by decide +kernel, by decide +kernel⟩
theorem ml_L_42 : Cond.methodLink RL 42 yX4_wall ∈ UU := List.mem_filter.mpr ⟨List.mem_append_right _ (List.mem_append_right _ (List.mem_append_left _ (List.mem_of_getElem? (i := 174) rfl))), rfl⟩
theorem mf_L_wall : MFW yL_wall cL_wall 5 (some .int) [(0, 10, 13, 21)] 4 := ⟨⟨List.mem_filter.mpr ⟨List.mem_append_right _ (List.mem_append_right _ (List.mem_append_left _ (List.mem_of_getElem? (i := 173) rfl))), rfl⟩, List.mem_filter.mpr ⟨List.mem_append_right _ (List.mem_append_right _ (List.mem_append_left _ (List.mem_of_getElem? (i := 172) rfl))), rfl⟩, List.mem_filter.mpr ⟨List.mem_append_right _ (List.mem_append_left _ (List.mem_of_getElem? (i := 0) rfl)), rfl⟩⟩, by decide +kernel, by decide +kernel, by decide +kernel⟩
theorem ml_L_45 : Cond.methodLink RL 45 yX4_bright ∈ UU := List.mem_filter.mpr ⟨List.mem_append_right _ (List.mem_append_right _ (List.mem_append_left _ (List.mem_of_getElem? (i := 186) rfl))), rfl⟩
theorem mf_L_bright : MFW yL_bright cL_bright 5 (some .int) [(0, 10, 13, 21)] 4 := ⟨⟨List.mem_filter.mpr ⟨List.mem_append_right _ (List.mem_append_right _ (List.mem_append_left _ (List.mem_of_getElem? (i := 185) rfl))), rfl⟩, List.mem_filter.mpr ⟨List.mem_append_right _ (List.mem_append_right _ (List.mem_append_left _ (List.mem_of_getElem? (i := 184) rfl))), rfl⟩, List.mem_filter.mpr ⟨List.mem_append_right _ (List.mem_append_left _ (List.mem_of_getElem? (i := 0) rfl)), rfl⟩⟩, by decide +kernel, by decide +kernel, by decide +kernel⟩
theorem ml_L_48 : Cond.methodLink RL 48 yX4_count ∈ UU := List.mem_filter.mpr ⟨List.mem_append_right _ (List.mem_append_right _ (List.mem_append_left _ (List.mem_of_getElem? (i := 195) rfl))), rfl⟩
theorem mf_L_count : MFW yL_count cL_count 4 (some .int) [(0, 9, 12, 21)] 3 := ⟨⟨List.mem_filter.mpr ⟨List.mem_append_right _ (List.mem_append_right _ (List.mem_append_left _ (List.mem_of_getElem? (i := 194) rfl))), rfl⟩, List.mem_filter.mpr ⟨List.mem_append_right _ (List.mem_append_right _ (List.mem_append_left _ (List.mem_of_getElem? (i := 193) rfl))), rfl⟩, List.mem_filter.mpr ⟨List.mem_append_right _ (List.mem_append_left _ (List.mem_of_getElem? (i := 0) rfl)), rfl⟩⟩, by decide +kernel, by decide +kernel, by decide +kernel⟩
theorem ml_L_52 : Cond.methodLink RL 52 yX4_go ∈ UU := List.mem_filter.mpr ⟨List.mem_append_right _ (List.mem_append_right _ (List.mem_append_left _ (List.mem_of_getElem? (i := 202) rfl))), rfl⟩
theorem mf_L_go : MFW yL_go cL_go 4 (some .int) [(0, 9, 12, 13)] 3 := ⟨⟨List.mem_filter.mpr ⟨List.mem_append_right _ (List.mem_append_right _ (List.mem_append_left _ (List.mem_of_getElem? (i := 201) rfl))), rfl⟩, List.mem_filter.mpr ⟨List.mem_append_right _ (List.mem_append_right _ (List.mem_append_left _ (List.mem_of_getElem? (i := 200) rfl))), rfl⟩, List.mem_filter.mpr ⟨List.mem_append_right _ (List.mem_append_left _ (List.mem_of_getElem? (i := 0) rfl)), rfl⟩⟩, by decide +kernel, by decide +kernel, by decide +kernel⟩
theorem ml_L_55 : Cond.methodLink RL 55 yX4_when ∈ UU := List.mem_filter.mpr ⟨List.mem_append_right _ (List.mem_append_right _ (List.mem_append_right _ (List.mem_append_left _ (List.mem_of_getElem? (i := 1) rfl)))), rfl⟩
theorem mf_L_when : MFW yL_when cL_when 4 (some .int) [(0, 9, 12, 21)] 3 := ⟨⟨List.mem_filter.mpr ⟨List.mem_append_right _ (List.mem_append_right _ (List.mem_append_right _ (List.mem_append_left _ (List.mem_of_getElem? (i := 0) rfl)))), rfl⟩, List.mem_filter.mpr ⟨List.mem_append_right _ (List.mem_append_right _ (List.mem_append_left _ (List.mem_of_getElem? (i := 239) rfl))), rfl⟩, List.mem_filter.mpr ⟨List.mem_append_right _ (List.mem_append_left _ (List.mem_of_getElem? (i := 0) rfl)), rfl⟩⟩, by decide +kernel, by decide +kernel, by decide +kernel⟩
theorem ml_L_58 : Cond.methodLink RL 58 yX4_advise ∈ UU := List.mem_filter.mpr ⟨List.mem_append_right _ (List.mem_append_right _ (List.mem_append_right _ (List.mem_append_left _ (List.mem_of_getElem? (i := 22) rfl)))), rfl⟩
theorem mf_L_advise : MFW yL_advise cL_advise 5 (some .int) [(0, 10, 13, 21), (0, 10, 17, 13)] 4 := ⟨⟨List.mem_filter.mpr ⟨List.mem_append_right _ (List.mem_append_right _ (List.mem_append_right _ (List.mem_append_left _ (List.mem_of_getElem? (i := 21) rfl)))), rfl⟩, List.mem_filter.mpr ⟨List.mem_append_right _ (List.mem_append_right _ (List.mem_append_right _ (List.mem_append_left _ (List.mem_of_getElem? (i := 20) rfl)))), rfl⟩, List.mem_filter.mpr ⟨List.mem_append_right _ (List.mem_append_left _ (List.mem_of_getElem? (i := 0) rfl)), rfl⟩⟩, by decide +kernel, by decide +kernel, by decide +kernel⟩
theorem ml_L_61 : Cond.methodLink RL 61 yX4_seen ∈ UU := List.mem_filter.mpr ⟨List.mem_append_right _ (List.mem_append_right _ (List.mem_append_right _ (List.mem_append_left _ (List.mem_of_getElem? (i := 34) rfl)))), rfl⟩
theorem mf_L_seen : MFW yL_seen cL_seen 4 (some .int) [(0, 9, 12, 21)] 3 := ⟨⟨List.mem_filter.mpr ⟨List.mem_append_right _ (List.mem_append_right _ (List.mem_append_right _ (List.mem_append_left _ (List.mem_of_getElem? (i := 33) rfl)))), rfl⟩, List.mem_filter.mpr ⟨List.mem_append_right _ (List.mem_append_right _ (List.mem_append_right _ (List.mem_append_left _ (List.mem_of_getElem? (i := 32) rfl)))), rfl⟩, List.mem_filter.mpr ⟨List.mem_append_right _ (List.mem_append_left _ (List.mem_of_getElem? (i := 0) rfl)), rfl⟩⟩, by decide +kernel, by decide +kernel, by decide +kernel⟩
theorem ml_L_64 : Cond.methodLink RL 64 yX4_foresee ∈ UU := List.mem_filter.mpr ⟨List.mem_append_right _ (List.mem_append_right _ (List.mem_append_right _ (List.mem_append_left _ (List.mem_of_getElem? (i := 48) rfl)))), rfl⟩
theorem mf_L_foresee : MFW yL_foresee cL_foresee 5 (some .int) [(0, 10, 13, 13), (0, 10, 17, 21)] 4 := ⟨⟨List.mem_filter.mpr ⟨List.mem_append_right _ (List.mem_append_right _ (List.mem_append_right _ (List.mem_append_left _ (List.mem_of_getElem? (i := 47) rfl)))), rfl⟩, List.mem_filter.mpr ⟨List.mem_append_right _ (List.mem_append_right _ (List.mem_append_right _ (List.mem_append_left _ (List.mem_of_getElem? (i := 46) rfl)))), rfl⟩, List.mem_filter.mpr ⟨List.mem_append_right _ (List.mem_append_left _ (List.mem_of_getElem? (i := 0) rfl)), rfl⟩⟩, by decide +kernel, by decide +kernel, by decide +kernel⟩
theorem cl_L_13 : Cond.classLink RL 13 "java/lang/IllegalArgumentException" ∈ UU := List.mem_filter.mpr ⟨List.mem_append_right _ (List.mem_append_left _ (List.mem_of_getElem? (i := 230) rfl)), rfl⟩
theorem cl_L_15 : Cond.classLink RL 15 "java/lang/IllegalStateException" ∈ UU := List.mem_filter.mpr ⟨List.mem_append_right _ (List.mem_append_left _ (List.mem_of_getElem? (i := 231) rfl)), rfl⟩
theorem cl_L_21 : Cond.classLink RL 21 "java/lang/IndexOutOfBoundsException" ∈ UU := List.mem_filter.mpr ⟨List.mem_append_right _ (List.mem_append_right _ (List.mem_append_left _ (List.mem_of_getElem? (i := 87) rfl))), rfl⟩
set_option maxHeartbeats 4000000 in
set_option maxRecDepth 100000 in
theorem c_L_pass (l : Launch) (G : GG) (M : Mem) (o : Nat → Int64) (np nr k : Nat) (hO : OKM M np nr k) (a1 a2 a3 a4 : Int32) (hbd : ¬ bdP a1 a2 a3 a4) (hroom : np < 10) : MJ l yL_pass cL_pass 7 (some .int) [(0, 14, 17, 13), (0, 14, 21, 15)] 2 49 G [.ref (adr G 0), .int a1, .int a2, .int a3, .int a4, .ref (adr G 66)] M (u2 (cmM M (4 + 3 + np) a1 a2 a3 a4) 4 1 (nI (np + 1))) o (vp_updL o 0 (Int32.toInt64 (nI np))) 0 0 0 := by
  refine MJ_of RL rfl (by decide +kernel) (Nat.le_of_ble_eq_true rfl) ?_
  intro p e s m below meth c sz C0 hr hT hP ls hl
  have hx := C0.1
  have hb := C0.2.1
  have hS : va_S (pA G sz) s.heap s.heap [] := va_S.rf
  have hl : lv_has ls 7 [(0, .ref (adr G 0)), (1, .int a1), (2, .int a2), (3, .int a3), (4, .int a4), (5, .ref (adr G 66))] := hl
  refine lv_aload hx hb dL_pass_0 (lv_at hl 5 rfl) ?_
  refine lv_iconst (v := 0) hx hb dL_pass_2 (by decide) ?_
  refine lv_aload_n hx hb dL_pass_3 rfl (lv_at hl 0 rfl) ?_
  refine lv_iload_n hx hb dL_pass_4 rfl (lv_at hl 1 rfl) ?_
  refine lv_iload_n hx hb dL_pass_5 rfl (lv_at hl 2 rfl) ?_
  refine lv_iload_n hx hb dL_pass_6 rfl (lv_at hl 3 rfl) ?_
  refine lv_iload hx hb dL_pass_7 (lv_at hl 4 rfl) ?_
  refine k_VI C0 hP hS (rest := [.int 0, .ref (adr G 66)]) (c_X4_pass l G M o np nr k hO a1 a2 a3 a4 hbd hroom) mf_X4_pass ml_L_7 (kd_lt (show kd 0 = 4 by decide) (by decide)) (ct_4 (show kd 0 = 4 by decide)) rfl hl.1 (by decide) (by decide) (Nat.le_of_ble_eq_true rfl) rfl rfl dL_pass_9 (fun H locs hP hS => ?_)
  refine lv_i2l hx hb dL_pass_12 rfl ?_
  refine w_outst C0 hP hS dL_pass_13 (fun H locs hP hS => ?_)
  refine lv_goto (tgt := 25) hx hb dL_pass_14 (by decide) ?_
  refine lv_iconst (v := 0) hx hb dL_pass_25 (by decide) ?_
  exact e_Ii C0 hr hP hS rfl (by decide) dL_pass_26
set_option maxHeartbeats 4000000 in
set_option maxRecDepth 100000 in
theorem c_L_pass_a (l : Launch) (G : GG) (M : Mem) (o : Nat → Int64) (hst : l.stackTraces = false) (np nr k : Nat) (hO : OKM M np nr k) (a1 a2 a3 a4 : Int32) (hbd : bdP a1 a2 a3 a4) : MJ l yL_pass cL_pass 7 (some .int) [(0, 14, 17, 13), (0, 14, 21, 15)] 7 114 G [.ref (adr G 0), .int a1, .int a2, .int a3, .int a4, .ref (adr G 66)] M M o o 1 1 6 := by
  refine MJ_of RL rfl (by decide +kernel) (Nat.le_of_ble_eq_true rfl) ?_
  intro p e s m below meth c sz C0 hr hT hP ls hl
  have hx := C0.1
  have hb := C0.2.1
  have hS : va_S (pA G sz) s.heap s.heap [] := va_S.rf
  have hl : lv_has ls 7 [(0, .ref (adr G 0)), (1, .int a1), (2, .int a2), (3, .int a3), (4, .int a4), (5, .ref (adr G 66))] := hl
  refine lv_aload hx hb dL_pass_0 (lv_at hl 5 rfl) ?_
  refine lv_iconst (v := 0) hx hb dL_pass_2 (by decide) ?_
  refine lv_aload_n hx hb dL_pass_3 rfl (lv_at hl 0 rfl) ?_
  refine lv_iload_n hx hb dL_pass_4 rfl (lv_at hl 1 rfl) ?_
  refine lv_iload_n hx hb dL_pass_5 rfl (lv_at hl 2 rfl) ?_
  refine lv_iload_n hx hb dL_pass_6 rfl (lv_at hl 3 rfl) ?_
  refine lv_iload hx hb dL_pass_7 (lv_at hl 4 rfl) ?_
  refine k_VX C0 hP hS (rest := [.int 0, .ref (adr G 66)]) (c_X4_pass_a l G M o hst np nr k hO a1 a2 a3 a4 hbd) mf_X4_pass ml_L_7 (kd_lt (show kd 0 = 4 by decide) (by decide)) (ct_4 (show kd 0 = 4 by decide)) rfl hl.1 (by decide) (by decide) (Nat.le_of_ble_eq_true rfl) rfl rfl dL_pass_9 (fun ce q9 H locs hP hS hce hcv hcl => ?_)
  refine vx_catch C0.ow [] ⟨0, 14, 17, 13⟩ [⟨0, 14, 21, 15⟩] hT (fun z hz => absurd hz List.not_mem_nil) (by decide) (by decide) (name := "java/lang/IllegalArgumentException") (C0.ts _ cl_L_13) (va_Nw.use rfl (C0.nx.2.2.2.1 _ (by decide))) hce hcv hcl ?_
  refine lv_astore (lv' := [(6, .ref q9), (0, .ref (adr G 0)), (1, .int a1), (2, .int a2), (3, .int a3), (4, .int a4), (5, .ref (adr G 66))]) hx hb dL_pass_17 hl (by decide) rfl (fun ls hl => ?_)
  refine lv_iconst (v := 1) hx hb dL_pass_19 (by decide) ?_
  exact e_Ii C0 hr hP hS rfl (by decide) dL_pass_20
set_option maxHeartbeats 4000000 in
set_option maxRecDepth 100000 in
theorem c_L_pass_s (l : Launch) (G : GG) (M : Mem) (o : Nat → Int64) (hst : l.stackTraces = false) (np nr k : Nat) (hO : OKM M np nr k) (a1 a2 a3 a4 : Int32) (hbd : ¬ bdP a1 a2 a3 a4) (hroom : ¬ np < 10) : MJ l yL_pass cL_pass 7 (some .int) [(0, 14, 17, 13), (0, 14, 21, 15)] 7 114 G [.ref (adr G 0), .int a1, .int a2, .int a3, .int a4, .ref (adr G 66)] M M o o 2 1 6 := by
  refine MJ_of RL rfl (by decide +kernel) (Nat.le_of_ble_eq_true rfl) ?_
  intro p e s m below meth c sz C0 hr hT hP ls hl
  have hx := C0.1
  have hb := C0.2.1
  have hS : va_S (pA G sz) s.heap s.heap [] := va_S.rf
  have hl : lv_has ls 7 [(0, .ref (adr G 0)), (1, .int a1), (2, .int a2), (3, .int a3), (4, .int a4), (5, .ref (adr G 66))] := hl
  refine lv_aload hx hb dL_pass_0 (lv_at hl 5 rfl) ?_
  refine lv_iconst (v := 0) hx hb dL_pass_2 (by decide) ?_
  refine lv_aload_n hx hb dL_pass_3 rfl (lv_at hl 0 rfl) ?_
  refine lv_iload_n hx hb dL_pass_4 rfl (lv_at hl 1 rfl) ?_
  refine lv_iload_n hx hb dL_pass_5 rfl (lv_at hl 2 rfl) ?_
  refine lv_iload_n hx hb dL_pass_6 rfl (lv_at hl 3 rfl) ?_
  refine lv_iload hx hb dL_pass_7 (lv_at hl 4 rfl) ?_
  refine k_VX C0 hP hS (rest := [.int 0, .ref (adr G 66)]) (c_X4_pass_s l G M o hst np nr k hO a1 a2 a3 a4 hbd hroom) mf_X4_pass ml_L_7 (kd_lt (show kd 0 = 4 by decide) (by decide)) (ct_4 (show kd 0 = 4 by decide)) rfl hl.1 (by decide) (by decide) (Nat.le_of_ble_eq_true rfl) rfl rfl dL_pass_9 (fun ce q9 H locs hP hS hce hcv hcl => ?_)
  refine vx_catch C0.ow [⟨0, 14, 17, 13⟩] ⟨0, 14, 21, 15⟩ [] hT (fun z hz => by rcases List.mem_cons.mp hz with rfl | hz; exact Or.inr ⟨by decide, "java/lang/IllegalArgumentException", C0.ts _ cl_L_13, C0.nx.2.2.2.2 ("java/lang/IllegalStateException", "java/lang/IllegalArgumentException") (by decide)⟩; exact absurd hz List.not_mem_nil) (by decide) (by decide) (name := "java/lang/IllegalStateException") (C0.ts _ cl_L_15) (va_Nw.use rfl (C0.nx.2.2.2.1 _ (by decide))) hce hcv hcl ?_
  refine lv_astore (lv' := [(6, .ref q9), (0, .ref (adr G 0)), (1, .int a1), (2, .int a2), (3, .int a3), (4, .int a4), (5, .ref (adr G 66))]) hx hb dL_pass_21 hl (by decide) rfl (fun ls hl => ?_)
  refine lv_iconst (v := 2) hx hb dL_pass_23 (by decide) ?_
  exact e_Ii C0 hr hP hS rfl (by decide) dL_pass_24
set_option maxHeartbeats 4000000 in
set_option maxRecDepth 100000 in
theorem c_L_setLight (l : Launch) (G : GG) (M : Mem) (o : Nat → Int64) (np nr k : Nat) (hO : OKM M np nr k) (h : Nat) (hh : h < 12) (a2 a3 : Int32) (hbd : ¬ bdL a2 a3) : MJ l yL_setLight cL_setLight 6 (some .int) [(0, 12, 15, 21), (0, 12, 19, 13)] 2 45 G [.ref (adr G 0), .int (nI h), .int a2, .int a3, .ref (adr G 66)] M (u2 (u2 M 2 h a2) 3 h a3) o (vp_updL o 0 (Int32.toInt64 (10 * M 2 h + M 3 h))) 0 0 0 := by
  refine MJ_of RL rfl (by decide +kernel) (Nat.le_of_ble_eq_true rfl) ?_
  intro p e s m below meth c sz C0 hr hT hP ls hl
  have hx := C0.1
  have hb := C0.2.1
  have hS : va_S (pA G sz) s.heap s.heap [] := va_S.rf
  have hl : lv_has ls 6 [(0, .ref (adr G 0)), (1, .int (nI h)), (2, .int a2), (3, .int a3), (4, .ref (adr G 66))] := hl
  refine lv_aload hx hb dL_setLight_0 (lv_at hl 4 rfl) ?_
  refine lv_iconst (v := 0) hx hb dL_setLight_2 (by decide) ?_
  refine lv_aload_n hx hb dL_setLight_3 rfl (lv_at hl 0 rfl) ?_
  refine lv_iload_n hx hb dL_setLight_4 rfl (lv_at hl 1 rfl) ?_
  refine lv_iload_n hx hb dL_setLight_5 rfl (lv_at hl 2 rfl) ?_
  refine lv_iload_n hx hb dL_setLight_6 rfl (lv_at hl 3 rfl) ?_
  refine k_VI C0 hP hS (rest := [.int 0, .ref (adr G 66)]) (c_X4_setLight l G M o np nr k hO h hh a2 a3 hbd) mf_X4_setLight ml_L_17 (kd_lt (show kd 0 = 4 by decide) (by decide)) (ct_4 (show kd 0 = 4 by decide)) rfl hl.1 (by decide) (by decide) (Nat.le_of_ble_eq_true rfl) rfl rfl dL_setLight_7 (fun H locs hP hS => ?_)
  refine lv_i2l hx hb dL_setLight_10 rfl ?_
  refine w_outst C0 hP hS dL_setLight_11 (fun H locs hP hS => ?_)
  refine lv_goto (tgt := 23) hx hb dL_setLight_12 (by decide) ?_
  refine lv_iconst (v := 0) hx hb dL_setLight_23 (by decide) ?_
  exact e_Ii C0 hr hP hS rfl (by decide) dL_setLight_24
set_option maxHeartbeats 4000000 in
set_option maxRecDepth 100000 in
theorem c_L_setLight_a (l : Launch) (G : GG) (M : Mem) (o : Nat → Int64) (hst : l.stackTraces = false) (np nr k : Nat) (hO : OKM M np nr k) (h : Nat) (hh : h < 12) (a2 a3 : Int32) (hbd : bdL a2 a3) : MJ l yL_setLight cL_setLight 6 (some .int) [(0, 12, 15, 21), (0, 12, 19, 13)] 7 113 G [.ref (adr G 0), .int (nI h), .int a2, .int a3, .ref (adr G 66)] M M o o 2 1 6 := by
  refine MJ_of RL rfl (by decide +kernel) (Nat.le_of_ble_eq_true rfl) ?_
  intro p e s m below meth c sz C0 hr hT hP ls hl
  have hx := C0.1
  have hb := C0.2.1
  have hS : va_S (pA G sz) s.heap s.heap [] := va_S.rf
  have hl : lv_has ls 6 [(0, .ref (adr G 0)), (1, .int (nI h)), (2, .int a2), (3, .int a3), (4, .ref (adr G 66))] := hl
  refine lv_aload hx hb dL_setLight_0 (lv_at hl 4 rfl) ?_
  refine lv_iconst (v := 0) hx hb dL_setLight_2 (by decide) ?_
  refine lv_aload_n hx hb dL_setLight_3 rfl (lv_at hl 0 rfl) ?_
  refine lv_iload_n hx hb dL_setLight_4 rfl (lv_at hl 1 rfl) ?_
  refine lv_iload_n hx hb dL_setLight_5 rfl (lv_at hl 2 rfl) ?_
  refine lv_iload_n hx hb dL_setLight_6 rfl (lv_at hl 3 rfl) ?_
  refine k_VX C0 hP hS (rest := [.int 0, .ref (adr G 66)]) (c_X4_setLight_a l G M o hst np nr k hO h hh a2 a3 hbd) mf_X4_setLight ml_L_17 (kd_lt (show kd 0 = 4 by decide) (by decide)) (ct_4 (show kd 0 = 4 by decide)) rfl hl.1 (by decide) (by decide) (Nat.le_of_ble_eq_true rfl) rfl rfl dL_setLight_7 (fun ce q9 H locs hP hS hce hcv hcl => ?_)
  refine vx_catch C0.ow [⟨0, 12, 15, 21⟩] ⟨0, 12, 19, 13⟩ [] hT (fun z hz => by rcases List.mem_cons.mp hz with rfl | hz; exact Or.inr ⟨by decide, "java/lang/IndexOutOfBoundsException", C0.ts _ cl_L_21, C0.nx.2.2.2.2 ("java/lang/IllegalArgumentException", "java/lang/IndexOutOfBoundsException") (by decide)⟩; exact absurd hz List.not_mem_nil) (by decide) (by decide) (name := "java/lang/IllegalArgumentException") (C0.ts _ cl_L_13) (va_Nw.use rfl (C0.nx.2.2.2.1 _ (by decide))) hce hcv hcl ?_
  refine lv_astore (lv' := [(5, .ref q9), (0, .ref (adr G 0)), (1, .int (nI h)), (2, .int a2), (3, .int a3), (4, .ref (adr G 66))]) hx hb dL_setLight_19 hl (by decide) rfl (fun ls hl => ?_)
  refine lv_iconst (v := 2) hx hb dL_setLight_21 (by decide) ?_
  exact e_Ii C0 hr hP hS rfl (by decide) dL_setLight_22
set_option maxHeartbeats 4000000 in
set_option maxRecDepth 100000 in
theorem c_L_setLight_i (l : Launch) (G : GG) (M : Mem) (o : Nat → Int64) (hst : l.stackTraces = false) (np nr k : Nat) (hO : OKM M np nr k) (x1 a2 a3 : Int32) (hbd : x1 < 0 ∨ ¬ x1 < 12) : MJ l yL_setLight cL_setLight 6 (some .int) [(0, 12, 15, 21), (0, 12, 19, 13)] 7 113 G [.ref (adr G 0), .int x1, .int a2, .int a3, .ref (adr G 66)] M M o o 1 1 6 := by
  refine MJ_of RL rfl (by decide +kernel) (Nat.le_of_ble_eq_true rfl) ?_
  intro p e s m below meth c sz C0 hr hT hP ls hl
  have hx := C0.1
  have hb := C0.2.1
  have hS : va_S (pA G sz) s.heap s.heap [] := va_S.rf
  have hl : lv_has ls 6 [(0, .ref (adr G 0)), (1, .int x1), (2, .int a2), (3, .int a3), (4, .ref (adr G 66))] := hl
  refine lv_aload hx hb dL_setLight_0 (lv_at hl 4 rfl) ?_
  refine lv_iconst (v := 0) hx hb dL_setLight_2 (by decide) ?_
  refine lv_aload_n hx hb dL_setLight_3 rfl (lv_at hl 0 rfl) ?_
  refine lv_iload_n hx hb dL_setLight_4 rfl (lv_at hl 1 rfl) ?_
  refine lv_iload_n hx hb dL_setLight_5 rfl (lv_at hl 2 rfl) ?_
  refine lv_iload_n hx hb dL_setLight_6 rfl (lv_at hl 3 rfl) ?_
  refine k_VX C0 hP hS (rest := [.int 0, .ref (adr G 66)]) (c_X4_setLight_i l G M o hst np nr k hO x1 a2 a3 hbd) mf_X4_setLight ml_L_17 (kd_lt (show kd 0 = 4 by decide) (by decide)) (ct_4 (show kd 0 = 4 by decide)) rfl hl.1 (by decide) (by decide) (Nat.le_of_ble_eq_true rfl) rfl rfl dL_setLight_7 (fun ce q9 H locs hP hS hce hcv hcl => ?_)
  refine vx_catch C0.ow [] ⟨0, 12, 15, 21⟩ [⟨0, 12, 19, 13⟩] hT (fun z hz => absurd hz List.not_mem_nil) (by decide) (by decide) (name := "java/lang/IndexOutOfBoundsException") (C0.ts _ cl_L_21) (va_Nw.use rfl (C0.nx.2.2.2.1 _ (by decide))) hce hcv hcl ?_
  refine lv_astore (lv' := [(5, .ref q9), (0, .ref (adr G 0)), (1, .int x1), (2, .int a2), (3, .int a3), (4, .ref (adr G 66))]) hx hb dL_setLight_15 hl (by decide) rfl (fun ls hl => ?_)
  refine lv_iconst (v := 1) hx hb dL_setLight_17 (by decide) ?_
  exact e_Ii C0 hr hP hS rfl (by decide) dL_setLight_18
set_option maxHeartbeats 4000000 in
set_option maxRecDepth 100000 in
theorem c_L_addRoom (l : Launch) (G : GG) (M : Mem) (o : Nat → Int64) (np nr k : Nat) (hO : OKM M np nr k) (a1 a2 a3 : Int32) (hbd : ¬ bdR a1 a2 a3) (hroom : nr < 8) (hfree : hhM M 4 a1 nr = 0) : MJ l yL_addRoom cL_addRoom 6 (some .int) [(0, 12, 15, 13), (0, 12, 19, 15)] 2 47 G [.ref (adr G 0), .int a1, .int a2, .int a3, .ref (adr G 66)] M (u2 (bdM M (4 + 13 + nr) a1 a2 a3) 4 2 (nI (nr + 1))) o (vp_updL o 0 (Int32.toInt64 (nI nr))) 0 0 0 := by
  refine MJ_of RL rfl (by decide +kernel) (Nat.le_of_ble_eq_true rfl) ?_
  intro p e s m below meth c sz C0 hr hT hP ls hl
  have hx := C0.1
  have hb := C0.2.1
  have hS : va_S (pA G sz) s.heap s.heap [] := va_S.rf
  have hl : lv_has ls 6 [(0, .ref (adr G 0)), (1, .int a1), (2, .int a2), (3, .int a3), (4, .ref (adr G 66))] := hl
  refine lv_aload hx hb dL_addRoom_0 (lv_at hl 4 rfl) ?_
  refine lv_iconst (v := 0) hx hb dL_addRoom_2 (by decide) ?_
  refine lv_aload_n hx hb dL_addRoom_3 rfl (lv_at hl 0 rfl) ?_
  refine lv_iload_n hx hb dL_addRoom_4 rfl (lv_at hl 1 rfl) ?_
  refine lv_iload_n hx hb dL_addRoom_5 rfl (lv_at hl 2 rfl) ?_
  refine lv_iload_n hx hb dL_addRoom_6 rfl (lv_at hl 3 rfl) ?_
  refine k_VI C0 hP hS (rest := [.int 0, .ref (adr G 66)]) (c_X4_addRoom l G M o np nr k hO a1 a2 a3 hbd hroom hfree) mf_X4_addRoom ml_L_23 (kd_lt (show kd 0 = 4 by decide) (by decide)) (ct_4 (show kd 0 = 4 by decide)) rfl hl.1 (by decide) (by decide) (Nat.le_of_ble_eq_true rfl) rfl rfl dL_addRoom_7 (fun H locs hP hS => ?_)
  refine lv_i2l hx hb dL_addRoom_10 rfl ?_
  refine w_outst C0 hP hS dL_addRoom_11 (fun H locs hP hS => ?_)
  refine lv_goto (tgt := 23) hx hb dL_addRoom_12 (by decide) ?_
  refine lv_iconst (v := 0) hx hb dL_addRoom_23 (by decide) ?_
  exact e_Ii C0 hr hP hS rfl (by decide) dL_addRoom_24
set_option maxHeartbeats 4000000 in
set_option maxRecDepth 100000 in
theorem c_L_addRoom_a (l : Launch) (G : GG) (M : Mem) (o : Nat → Int64) (hst : l.stackTraces = false) (np nr k : Nat) (hO : OKM M np nr k) (a1 a2 a3 : Int32) (hbd : bdR a1 a2 a3) : MJ l yL_addRoom cL_addRoom 6 (some .int) [(0, 12, 15, 13), (0, 12, 19, 15)] 7 113 G [.ref (adr G 0), .int a1, .int a2, .int a3, .ref (adr G 66)] M M o o 1 1 6 := by
  refine MJ_of RL rfl (by decide +kernel) (Nat.le_of_ble_eq_true rfl) ?_
  intro p e s m below meth c sz C0 hr hT hP ls hl
  have hx := C0.1
  have hb := C0.2.1
  have hS : va_S (pA G sz) s.heap s.heap [] := va_S.rf
  have hl : lv_has ls 6 [(0, .ref (adr G 0)), (1, .int a1), (2, .int a2), (3, .int a3), (4, .ref (adr G 66))] := hl
  refine lv_aload hx hb dL_addRoom_0 (lv_at hl 4 rfl) ?_
  refine lv_iconst (v := 0) hx hb dL_addRoom_2 (by decide) ?_
  refine lv_aload_n hx hb dL_addRoom_3 rfl (lv_at hl 0 rfl) ?_
  refine lv_iload_n hx hb dL_addRoom_4 rfl (lv_at hl 1 rfl) ?_
  refine lv_iload_n hx hb dL_addRoom_5 rfl (lv_at hl 2 rfl) ?_
  refine lv_iload_n hx hb dL_addRoom_6 rfl (lv_at hl 3 rfl) ?_
  refine k_VX C0 hP hS (rest := [.int 0, .ref (adr G 66)]) (c_X4_addRoom_a l G M o hst np nr k hO a1 a2 a3 hbd) mf_X4_addRoom ml_L_23 (kd_lt (show kd 0 = 4 by decide) (by decide)) (ct_4 (show kd 0 = 4 by decide)) rfl hl.1 (by decide) (by decide) (Nat.le_of_ble_eq_true rfl) rfl rfl dL_addRoom_7 (fun ce q9 H locs hP hS hce hcv hcl => ?_)
  refine vx_catch C0.ow [] ⟨0, 12, 15, 13⟩ [⟨0, 12, 19, 15⟩] hT (fun z hz => absurd hz List.not_mem_nil) (by decide) (by decide) (name := "java/lang/IllegalArgumentException") (C0.ts _ cl_L_13) (va_Nw.use rfl (C0.nx.2.2.2.1 _ (by decide))) hce hcv hcl ?_
  refine lv_astore (lv' := [(5, .ref q9), (0, .ref (adr G 0)), (1, .int a1), (2, .int a2), (3, .int a3), (4, .ref (adr G 66))]) hx hb dL_addRoom_15 hl (by decide) rfl (fun ls hl => ?_)
  refine lv_iconst (v := 1) hx hb dL_addRoom_17 (by decide) ?_
  exact e_Ii C0 hr hP hS rfl (by decide) dL_addRoom_18
set_option maxHeartbeats 4000000 in
set_option maxRecDepth 100000 in
theorem c_L_addRoom_s (l : Launch) (G : GG) (M : Mem) (o : Nat → Int64) (hst : l.stackTraces = false) (np nr k : Nat) (hO : OKM M np nr k) (a1 a2 a3 : Int32) (hbd : ¬ bdR a1 a2 a3) (hroom : ¬ nr < 8 ∨ ¬ hhM M 4 a1 nr = 0) : MJ l yL_addRoom cL_addRoom 6 (some .int) [(0, 12, 15, 13), (0, 12, 19, 15)] 7 113 G [.ref (adr G 0), .int a1, .int a2, .int a3, .ref (adr G 66)] M M o o 2 1 6 := by
  refine MJ_of RL rfl (by decide +kernel) (Nat.le_of_ble_eq_true rfl) ?_
  intro p e s m below meth c sz C0 hr hT hP ls hl
  have hx := C0.1
  have hb := C0.2.1
  have hS : va_S (pA G sz) s.heap s.heap [] := va_S.rf
  have hl : lv_has ls 6 [(0, .ref (adr G 0)), (1, .int a1), (2, .int a2), (3, .int a3), (4, .ref (adr G 66))] := hl
  refine lv_aload hx hb dL_addRoom_0 (lv_at hl 4 rfl) ?_
  refine lv_iconst (v := 0) hx hb dL_addRoom_2 (by decide) ?_
  refine lv_aload_n hx hb dL_addRoom_3 rfl (lv_at hl 0 rfl) ?_
  refine lv_iload_n hx hb dL_addRoom_4 rfl (lv_at hl 1 rfl) ?_
  refine lv_iload_n hx hb dL_addRoom_5 rfl (lv_at hl 2 rfl) ?_
  refine lv_iload_n hx hb dL_addRoom_6 rfl (lv_at hl 3 rfl) ?_
  refine k_VX C0 hP hS (rest := [.int 0, .ref (adr G 66)]) (c_X4_addRoom_s l G M o hst np nr k hO a1 a2 a3 hbd hroom) mf_X4_addRoom ml_L_23 (kd_lt (show kd 0 = 4 by decide) (by decide)) (ct_4 (show kd 0 = 4 by decide)) rfl hl.1 (by decide) (by decide) (Nat.le_of_ble_eq_true rfl) rfl rfl dL_addRoom_7 (fun ce q9 H locs hP hS hce hcv hcl => ?_)
  refine vx_catch C0.ow [⟨0, 12, 15, 13⟩] ⟨0, 12, 19, 15⟩ [] hT (fun z hz => by rcases List.mem_cons.mp hz with rfl | hz; exact Or.inr ⟨by decide, "java/lang/IllegalArgumentException", C0.ts _ cl_L_13, C0.nx.2.2.2.2 ("java/lang/IllegalStateException", "java/lang/IllegalArgumentException") (by decide)⟩; exact absurd hz List.not_mem_nil) (by decide) (by decide) (name := "java/lang/IllegalStateException") (C0.ts _ cl_L_15) (va_Nw.use rfl (C0.nx.2.2.2.1 _ (by decide))) hce hcv hcl ?_
  refine lv_astore (lv' := [(5, .ref q9), (0, .ref (adr G 0)), (1, .int a1), (2, .int a2), (3, .int a3), (4, .ref (adr G 66))]) hx hb dL_addRoom_19 hl (by decide) rfl (fun ls hl => ?_)
  refine lv_iconst (v := 2) hx hb dL_addRoom_21 (by decide) ?_
  exact e_Ii C0 hr hP hS rfl (by decide) dL_addRoom_22
set_option maxHeartbeats 4000000 in
set_option maxRecDepth 100000 in
theorem c_L_bore (l : Launch) (G : GG) (M : Mem) (o : Nat → Int64) (np nr k : Nat) (hO : OKM M np nr k) (r : Nat) (hr0 : r < nr) (a2 : Int32) (hbd : ¬ otn a2 = 0) : MJ l yL_bore cL_bore 5 (some .int) [(0, 10, 13, 21), (0, 10, 17, 13)] 3 65 G [.ref (adr G 0), .int (nI r), .int a2, .ref (adr G 66)] M (u2 M (4 + 13 + r) 2 a2) o (vp_updL o 0 (Int32.toInt64 (M (4 + 13 + r) 2))) 0 0 0 := by
  refine MJ_of RL rfl (by decide +kernel) (Nat.le_of_ble_eq_true rfl) ?_
  intro p e s m below meth c sz C0 hr hT hP ls hl
  have hx := C0.1
  have hb := C0.2.1
  have hS : va_S (pA G sz) s.heap s.heap [] := va_S.rf
  have hl : lv_has ls 5 [(0, .ref (adr G 0)), (1, .int (nI r)), (2, .int a2), (3, .ref (adr G 66))] := hl
  refine lv_aload_n hx hb dL_bore_0 rfl (lv_at hl 3 rfl) ?_
  refine lv_iconst (v := 0) hx hb dL_bore_1 (by decide) ?_
  refine lv_aload_n hx hb dL_bore_2 rfl (lv_at hl 0 rfl) ?_
  refine lv_iload_n hx hb dL_bore_3 rfl (lv_at hl 1 rfl) ?_
  refine lv_iload_n hx hb dL_bore_4 rfl (lv_at hl 2 rfl) ?_
  refine k_VI C0 hP hS (rest := [.int 0, .ref (adr G 66)]) (c_X4_bore l G M o np nr k hO r hr0 a2 hbd) mf_X4_bore ml_L_26 (kd_lt (show kd 0 = 4 by decide) (by decide)) (ct_4 (show kd 0 = 4 by decide)) rfl hl.1 (by decide) (by decide) (Nat.le_of_ble_eq_true rfl) rfl rfl dL_bore_5 (fun H locs hP hS => ?_)
  refine lv_i2l hx hb dL_bore_8 rfl ?_
  refine w_outst C0 hP hS dL_bore_9 (fun H locs hP hS => ?_)
  refine lv_goto (tgt := 21) hx hb dL_bore_10 (by decide) ?_
  refine lv_iconst (v := 0) hx hb dL_bore_21 (by decide) ?_
  exact e_Ii C0 hr hP hS rfl (by decide) dL_bore_22
set_option maxHeartbeats 4000000 in
set_option maxRecDepth 100000 in
theorem c_L_bore_a (l : Launch) (G : GG) (M : Mem) (o : Nat → Int64) (hst : l.stackTraces = false) (np nr k : Nat) (hO : OKM M np nr k) (r : Nat) (hr0 : r < nr) (a2 : Int32) (hbd : otn a2 = 0) : MJ l yL_bore cL_bore 5 (some .int) [(0, 10, 13, 21), (0, 10, 17, 13)] 7 112 G [.ref (adr G 0), .int (nI r), .int a2, .ref (adr G 66)] M M o o 2 1 6 := by
  refine MJ_of RL rfl (by decide +kernel) (Nat.le_of_ble_eq_true rfl) ?_
  intro p e s m below meth c sz C0 hr hT hP ls hl
  have hx := C0.1
  have hb := C0.2.1
  have hS : va_S (pA G sz) s.heap s.heap [] := va_S.rf
  have hl : lv_has ls 5 [(0, .ref (adr G 0)), (1, .int (nI r)), (2, .int a2), (3, .ref (adr G 66))] := hl
  refine lv_aload_n hx hb dL_bore_0 rfl (lv_at hl 3 rfl) ?_
  refine lv_iconst (v := 0) hx hb dL_bore_1 (by decide) ?_
  refine lv_aload_n hx hb dL_bore_2 rfl (lv_at hl 0 rfl) ?_
  refine lv_iload_n hx hb dL_bore_3 rfl (lv_at hl 1 rfl) ?_
  refine lv_iload_n hx hb dL_bore_4 rfl (lv_at hl 2 rfl) ?_
  refine k_VX C0 hP hS (rest := [.int 0, .ref (adr G 66)]) (c_X4_bore_a l G M o hst np nr k hO r hr0 a2 hbd) mf_X4_bore ml_L_26 (kd_lt (show kd 0 = 4 by decide) (by decide)) (ct_4 (show kd 0 = 4 by decide)) rfl hl.1 (by decide) (by decide) (Nat.le_of_ble_eq_true rfl) rfl rfl dL_bore_5 (fun ce q9 H locs hP hS hce hcv hcl => ?_)
  refine vx_catch C0.ow [⟨0, 10, 13, 21⟩] ⟨0, 10, 17, 13⟩ [] hT (fun z hz => by rcases List.mem_cons.mp hz with rfl | hz; exact Or.inr ⟨by decide, "java/lang/IndexOutOfBoundsException", C0.ts _ cl_L_21, C0.nx.2.2.2.2 ("java/lang/IllegalArgumentException", "java/lang/IndexOutOfBoundsException") (by decide)⟩; exact absurd hz List.not_mem_nil) (by decide) (by decide) (name := "java/lang/IllegalArgumentException") (C0.ts _ cl_L_13) (va_Nw.use rfl (C0.nx.2.2.2.1 _ (by decide))) hce hcv hcl ?_
  refine lv_astore (lv' := [(4, .ref q9), (0, .ref (adr G 0)), (1, .int (nI r)), (2, .int a2), (3, .ref (adr G 66))]) hx hb dL_bore_17 hl (by decide) rfl (fun ls hl => ?_)
  refine lv_iconst (v := 2) hx hb dL_bore_19 (by decide) ?_
  exact e_Ii C0 hr hP hS rfl (by decide) dL_bore_20
set_option maxHeartbeats 4000000 in
set_option maxRecDepth 100000 in
theorem c_L_bore_i (l : Launch) (G : GG) (M : Mem) (o : Nat → Int64) (hst : l.stackTraces = false) (np nr k : Nat) (hO : OKM M np nr k) (x1 a2 : Int32) (hbd : x1 < 0 ∨ ¬ x1 < nI nr) : MJ l yL_bore cL_bore 5 (some .int) [(0, 10, 13, 21), (0, 10, 17, 13)] 9 154 G [.ref (adr G 0), .int x1, .int a2, .ref (adr G 66)] M M o o 1 1 6 := by
  refine MJ_of RL rfl (by decide +kernel) (Nat.le_of_ble_eq_true rfl) ?_
  intro p e s m below meth c sz C0 hr hT hP ls hl
  have hx := C0.1
  have hb := C0.2.1
  have hS : va_S (pA G sz) s.heap s.heap [] := va_S.rf
  have hl : lv_has ls 5 [(0, .ref (adr G 0)), (1, .int x1), (2, .int a2), (3, .ref (adr G 66))] := hl
  refine lv_aload_n hx hb dL_bore_0 rfl (lv_at hl 3 rfl) ?_
  refine lv_iconst (v := 0) hx hb dL_bore_1 (by decide) ?_
  refine lv_aload_n hx hb dL_bore_2 rfl (lv_at hl 0 rfl) ?_
  refine lv_iload_n hx hb dL_bore_3 rfl (lv_at hl 1 rfl) ?_
  refine lv_iload_n hx hb dL_bore_4 rfl (lv_at hl 2 rfl) ?_
  refine k_VX C0 hP hS (rest := [.int 0, .ref (adr G 66)]) (c_X4_bore_i l G M o hst np nr k hO x1 a2 hbd) mf_X4_bore ml_L_26 (kd_lt (show kd 0 = 4 by decide) (by decide)) (ct_4 (show kd 0 = 4 by decide)) rfl hl.1 (by decide) (by decide) (Nat.le_of_ble_eq_true rfl) rfl rfl dL_bore_5 (fun ce q9 H locs hP hS hce hcv hcl => ?_)
  refine vx_catch C0.ow [] ⟨0, 10, 13, 21⟩ [⟨0, 10, 17, 13⟩] hT (fun z hz => absurd hz List.not_mem_nil) (by decide) (by decide) (name := "java/lang/IndexOutOfBoundsException") (C0.ts _ cl_L_21) (va_Nw.use rfl (C0.nx.2.2.2.1 _ (by decide))) hce hcv hcl ?_
  refine lv_astore (lv' := [(4, .ref q9), (0, .ref (adr G 0)), (1, .int x1), (2, .int a2), (3, .ref (adr G 66))]) hx hb dL_bore_13 hl (by decide) rfl (fun ls hl => ?_)
  refine lv_iconst (v := 1) hx hb dL_bore_15 (by decide) ?_
  exact e_Ii C0 hr hP hS rfl (by decide) dL_bore_16
set_option maxHeartbeats 4000000 in
set_option maxRecDepth 100000 in
theorem c_L_paint (l : Launch) (G : GG) (M : Mem) (o : Nat → Int64) (np nr k : Nat) (hO : OKM M np nr k) (r : Nat) (hr0 : r < nr) (a2 : Int32) (hbd : ¬ ztn a2 = 0) : MJ l yL_paint cL_paint 5 (some .int) [(0, 10, 13, 21), (0, 10, 17, 13)] 3 65 G [.ref (adr G 0), .int (nI r), .int a2, .ref (adr G 66)] M (u2 M (4 + 13 + r) 3 a2) o (vp_updL o 0 (Int32.toInt64 (M (4 + 13 + r) 3))) 0 0 0 := by
  refine MJ_of RL rfl (by decide +kernel) (Nat.le_of_ble_eq_true rfl) ?_
  intro p e s m below meth c sz C0 hr hT hP ls hl
  have hx := C0.1
  have hb := C0.2.1
  have hS : va_S (pA G sz) s.heap s.heap [] := va_S.rf
  have hl : lv_has ls 5 [(0, .ref (adr G 0)), (1, .int (nI r)), (2, .int a2), (3, .ref (adr G 66))] := hl
  refine lv_aload_n hx hb dL_paint_0 rfl (lv_at hl 3 rfl) ?_
  refine lv_iconst (v := 0) hx hb dL_paint_1 (by decide) ?_
  refine lv_aload_n hx hb dL_paint_2 rfl (lv_at hl 0 rfl) ?_
  refine lv_iload_n hx hb dL_paint_3 rfl (lv_at hl 1 rfl) ?_
  refine lv_iload_n hx hb dL_paint_4 rfl (lv_at hl 2 rfl) ?_
  refine k_VI C0 hP hS (rest := [.int 0, .ref (adr G 66)]) (c_X4_paint l G M o np nr k hO r hr0 a2 hbd) mf_X4_paint ml_L_30 (kd_lt (show kd 0 = 4 by decide) (by decide)) (ct_4 (show kd 0 = 4 by decide)) rfl hl.1 (by decide) (by decide) (Nat.le_of_ble_eq_true rfl) rfl rfl dL_paint_5 (fun H locs hP hS => ?_)
  refine lv_i2l hx hb dL_paint_8 rfl ?_
  refine w_outst C0 hP hS dL_paint_9 (fun H locs hP hS => ?_)
  refine lv_goto (tgt := 21) hx hb dL_paint_10 (by decide) ?_
  refine lv_iconst (v := 0) hx hb dL_paint_21 (by decide) ?_
  exact e_Ii C0 hr hP hS rfl (by decide) dL_paint_22
set_option maxHeartbeats 4000000 in
set_option maxRecDepth 100000 in
theorem c_L_paint_a (l : Launch) (G : GG) (M : Mem) (o : Nat → Int64) (hst : l.stackTraces = false) (np nr k : Nat) (hO : OKM M np nr k) (r : Nat) (hr0 : r < nr) (a2 : Int32) (hbd : ztn a2 = 0) : MJ l yL_paint cL_paint 5 (some .int) [(0, 10, 13, 21), (0, 10, 17, 13)] 7 112 G [.ref (adr G 0), .int (nI r), .int a2, .ref (adr G 66)] M M o o 2 1 6 := by
  refine MJ_of RL rfl (by decide +kernel) (Nat.le_of_ble_eq_true rfl) ?_
  intro p e s m below meth c sz C0 hr hT hP ls hl
  have hx := C0.1
  have hb := C0.2.1
  have hS : va_S (pA G sz) s.heap s.heap [] := va_S.rf
  have hl : lv_has ls 5 [(0, .ref (adr G 0)), (1, .int (nI r)), (2, .int a2), (3, .ref (adr G 66))] := hl
  refine lv_aload_n hx hb dL_paint_0 rfl (lv_at hl 3 rfl) ?_
  refine lv_iconst (v := 0) hx hb dL_paint_1 (by decide) ?_
  refine lv_aload_n hx hb dL_paint_2 rfl (lv_at hl 0 rfl) ?_
  refine lv_iload_n hx hb dL_paint_3 rfl (lv_at hl 1 rfl) ?_
  refine lv_iload_n hx hb dL_paint_4 rfl (lv_at hl 2 rfl) ?_
  refine k_VX C0 hP hS (rest := [.int 0, .ref (adr G 66)]) (c_X4_paint_a l G M o hst np nr k hO r hr0 a2 hbd) mf_X4_paint ml_L_30 (kd_lt (show kd 0 = 4 by decide) (by decide)) (ct_4 (show kd 0 = 4 by decide)) rfl hl.1 (by decide) (by decide) (Nat.le_of_ble_eq_true rfl) rfl rfl dL_paint_5 (fun ce q9 H locs hP hS hce hcv hcl => ?_)
  refine vx_catch C0.ow [⟨0, 10, 13, 21⟩] ⟨0, 10, 17, 13⟩ [] hT (fun z hz => by rcases List.mem_cons.mp hz with rfl | hz; exact Or.inr ⟨by decide, "java/lang/IndexOutOfBoundsException", C0.ts _ cl_L_21, C0.nx.2.2.2.2 ("java/lang/IllegalArgumentException", "java/lang/IndexOutOfBoundsException") (by decide)⟩; exact absurd hz List.not_mem_nil) (by decide) (by decide) (name := "java/lang/IllegalArgumentException") (C0.ts _ cl_L_13) (va_Nw.use rfl (C0.nx.2.2.2.1 _ (by decide))) hce hcv hcl ?_
  refine lv_astore (lv' := [(4, .ref q9), (0, .ref (adr G 0)), (1, .int (nI r)), (2, .int a2), (3, .ref (adr G 66))]) hx hb dL_paint_17 hl (by decide) rfl (fun ls hl => ?_)
  refine lv_iconst (v := 2) hx hb dL_paint_19 (by decide) ?_
  exact e_Ii C0 hr hP hS rfl (by decide) dL_paint_20
set_option maxHeartbeats 4000000 in
set_option maxRecDepth 100000 in
theorem c_L_paint_i (l : Launch) (G : GG) (M : Mem) (o : Nat → Int64) (hst : l.stackTraces = false) (np nr k : Nat) (hO : OKM M np nr k) (x1 a2 : Int32) (hbd : x1 < 0 ∨ ¬ x1 < nI nr) : MJ l yL_paint cL_paint 5 (some .int) [(0, 10, 13, 21), (0, 10, 17, 13)] 9 154 G [.ref (adr G 0), .int x1, .int a2, .ref (adr G 66)] M M o o 1 1 6 := by
  refine MJ_of RL rfl (by decide +kernel) (Nat.le_of_ble_eq_true rfl) ?_
  intro p e s m below meth c sz C0 hr hT hP ls hl
  have hx := C0.1
  have hb := C0.2.1
  have hS : va_S (pA G sz) s.heap s.heap [] := va_S.rf
  have hl : lv_has ls 5 [(0, .ref (adr G 0)), (1, .int x1), (2, .int a2), (3, .ref (adr G 66))] := hl
  refine lv_aload_n hx hb dL_paint_0 rfl (lv_at hl 3 rfl) ?_
  refine lv_iconst (v := 0) hx hb dL_paint_1 (by decide) ?_
  refine lv_aload_n hx hb dL_paint_2 rfl (lv_at hl 0 rfl) ?_
  refine lv_iload_n hx hb dL_paint_3 rfl (lv_at hl 1 rfl) ?_
  refine lv_iload_n hx hb dL_paint_4 rfl (lv_at hl 2 rfl) ?_
  refine k_VX C0 hP hS (rest := [.int 0, .ref (adr G 66)]) (c_X4_paint_i l G M o hst np nr k hO x1 a2 hbd) mf_X4_paint ml_L_30 (kd_lt (show kd 0 = 4 by decide) (by decide)) (ct_4 (show kd 0 = 4 by decide)) rfl hl.1 (by decide) (by decide) (Nat.le_of_ble_eq_true rfl) rfl rfl dL_paint_5 (fun ce q9 H locs hP hS hce hcv hcl => ?_)
  refine vx_catch C0.ow [] ⟨0, 10, 13, 21⟩ [⟨0, 10, 17, 13⟩] hT (fun z hz => absurd hz List.not_mem_nil) (by decide) (by decide) (name := "java/lang/IndexOutOfBoundsException") (C0.ts _ cl_L_21) (va_Nw.use rfl (C0.nx.2.2.2.1 _ (by decide))) hce hcv hcl ?_
  refine lv_astore (lv' := [(4, .ref q9), (0, .ref (adr G 0)), (1, .int x1), (2, .int a2), (3, .ref (adr G 66))]) hx hb dL_paint_13 hl (by decide) rfl (fun ls hl => ?_)
  refine lv_iconst (v := 1) hx hb dL_paint_15 (by decide) ?_
  exact e_Ii C0 hr hP hS rfl (by decide) dL_paint_16
set_option maxHeartbeats 4000000 in
set_option maxRecDepth 100000 in
theorem c_L_seat (l : Launch) (G : GG) (M : Mem) (o : Nat → Int64) (np nr k : Nat) (hO : OKM M np nr k) (r : Nat) (hr0 : r < nr) (a2 : Int32) (hbd : ¬ bdS a2) (hfree : a2 ≤ M (4 + 13 + r) 4 - M (4 + 13 + r) 5) : MJ l yL_seat cL_seat 5 (some .int) [(0, 10, 13, 21), (0, 10, 17, 13), (0, 10, 21, 15)] 3 65 G [.ref (adr G 0), .int (nI r), .int a2, .ref (adr G 66)] M (u2 M (4 + 13 + r) 5 (M (4 + 13 + r) 5 + a2)) o (vp_updL o 0 (Int32.toInt64 (M (4 + 13 + r) 5 + a2))) 0 0 0 := by
  refine MJ_of RL rfl (by decide +kernel) (Nat.le_of_ble_eq_true rfl) ?_
  intro p e s m below meth c sz C0 hr hT hP ls hl
  have hx := C0.1
  have hb := C0.2.1
  have hS : va_S (pA G sz) s.heap s.heap [] := va_S.rf
  have hl : lv_has ls 5 [(0, .ref (adr G 0)), (1, .int (nI r)), (2, .int a2), (3, .ref (adr G 66))] := hl
  refine lv_aload_n hx hb dL_seat_0 rfl (lv_at hl 3 rfl) ?_
  refine lv_iconst (v := 0) hx hb dL_seat_1 (by decide) ?_
  refine lv_aload_n hx hb dL_seat_2 rfl (lv_at hl 0 rfl) ?_
  refine lv_iload_n hx hb dL_seat_3 rfl (lv_at hl 1 rfl) ?_
  refine lv_iload_n hx hb dL_seat_4 rfl (lv_at hl 2 rfl) ?_
  refine k_VI C0 hP hS (rest := [.int 0, .ref (adr G 66)]) (c_X4_seat l G M o np nr k hO r hr0 a2 hbd hfree) mf_X4_seat ml_L_33 (kd_lt (show kd 0 = 4 by decide) (by decide)) (ct_4 (show kd 0 = 4 by decide)) rfl hl.1 (by decide) (by decide) (Nat.le_of_ble_eq_true rfl) rfl rfl dL_seat_5 (fun H locs hP hS => ?_)
  refine lv_i2l hx hb dL_seat_8 rfl ?_
  refine w_outst C0 hP hS dL_seat_9 (fun H locs hP hS => ?_)
  refine lv_goto (tgt := 25) hx hb dL_seat_10 (by decide) ?_
  refine lv_iconst (v := 0) hx hb dL_seat_25 (by decide) ?_
  exact e_Ii C0 hr hP hS rfl (by decide) dL_seat_26
set_option maxHeartbeats 4000000 in
set_option maxRecDepth 100000 in
theorem c_L_seat_a (l : Launch) (G : GG) (M : Mem) (o : Nat → Int64) (hst : l.stackTraces = false) (np nr k : Nat) (hO : OKM M np nr k) (r : Nat) (hr0 : r < nr) (a2 : Int32) (hbd : bdS a2) : MJ l yL_seat cL_seat 5 (some .int) [(0, 10, 13, 21), (0, 10, 17, 13), (0, 10, 21, 15)] 7 112 G [.ref (adr G 0), .int (nI r), .int a2, .ref (adr G 66)] M M o o 2 1 6 := by
  refine MJ_of RL rfl (by decide +kernel) (Nat.le_of_ble_eq_true rfl) ?_
  intro p e s m below meth c sz C0 hr hT hP ls hl
  have hx := C0.1
  have hb := C0.2.1
  have hS : va_S (pA G sz) s.heap s.heap [] := va_S.rf
  have hl : lv_has ls 5 [(0, .ref (adr G 0)), (1, .int (nI r)), (2, .int a2), (3, .ref (adr G 66))] := hl
  refine lv_aload_n hx hb dL_seat_0 rfl (lv_at hl 3 rfl) ?_
  refine lv_iconst (v := 0) hx hb dL_seat_1 (by decide) ?_
  refine lv_aload_n hx hb dL_seat_2 rfl (lv_at hl 0 rfl) ?_
  refine lv_iload_n hx hb dL_seat_3 rfl (lv_at hl 1 rfl) ?_
  refine lv_iload_n hx hb dL_seat_4 rfl (lv_at hl 2 rfl) ?_
  refine k_VX C0 hP hS (rest := [.int 0, .ref (adr G 66)]) (c_X4_seat_a l G M o hst np nr k hO r hr0 a2 hbd) mf_X4_seat ml_L_33 (kd_lt (show kd 0 = 4 by decide) (by decide)) (ct_4 (show kd 0 = 4 by decide)) rfl hl.1 (by decide) (by decide) (Nat.le_of_ble_eq_true rfl) rfl rfl dL_seat_5 (fun ce q9 H locs hP hS hce hcv hcl => ?_)
  refine vx_catch C0.ow [⟨0, 10, 13, 21⟩] ⟨0, 10, 17, 13⟩ [⟨0, 10, 21, 15⟩] hT (fun z hz => by rcases List.mem_cons.mp hz with rfl | hz; exact Or.inr ⟨by decide, "java/lang/IndexOutOfBoundsException", C0.ts _ cl_L_21, C0.nx.2.2.2.2 ("java/lang/IllegalArgumentException", "java/lang/IndexOutOfBoundsException") (by decide)⟩; exact absurd hz List.not_mem_nil) (by decide) (by decide) (name := "java/lang/IllegalArgumentException") (C0.ts _ cl_L_13) (va_Nw.use rfl (C0.nx.2.2.2.1 _ (by decide))) hce hcv hcl ?_
  refine lv_astore (lv' := [(4, .ref q9), (0, .ref (adr G 0)), (1, .int (nI r)), (2, .int a2), (3, .ref (adr G 66))]) hx hb dL_seat_17 hl (by decide) rfl (fun ls hl => ?_)
  refine lv_iconst (v := 2) hx hb dL_seat_19 (by decide) ?_
  exact e_Ii C0 hr hP hS rfl (by decide) dL_seat_20
set_option maxHeartbeats 4000000 in
set_option maxRecDepth 100000 in
theorem c_L_seat_i (l : Launch) (G : GG) (M : Mem) (o : Nat → Int64) (hst : l.stackTraces = false) (np nr k : Nat) (hO : OKM M np nr k) (x1 a2 : Int32) (hbd : x1 < 0 ∨ ¬ x1 < nI nr) : MJ l yL_seat cL_seat 5 (some .int) [(0, 10, 13, 21), (0, 10, 17, 13), (0, 10, 21, 15)] 9 154 G [.ref (adr G 0), .int x1, .int a2, .ref (adr G 66)] M M o o 1 1 6 := by
  refine MJ_of RL rfl (by decide +kernel) (Nat.le_of_ble_eq_true rfl) ?_
  intro p e s m below meth c sz C0 hr hT hP ls hl
  have hx := C0.1
  have hb := C0.2.1
  have hS : va_S (pA G sz) s.heap s.heap [] := va_S.rf
  have hl : lv_has ls 5 [(0, .ref (adr G 0)), (1, .int x1), (2, .int a2), (3, .ref (adr G 66))] := hl
  refine lv_aload_n hx hb dL_seat_0 rfl (lv_at hl 3 rfl) ?_
  refine lv_iconst (v := 0) hx hb dL_seat_1 (by decide) ?_
  refine lv_aload_n hx hb dL_seat_2 rfl (lv_at hl 0 rfl) ?_
  refine lv_iload_n hx hb dL_seat_3 rfl (lv_at hl 1 rfl) ?_
  refine lv_iload_n hx hb dL_seat_4 rfl (lv_at hl 2 rfl) ?_
  refine k_VX C0 hP hS (rest := [.int 0, .ref (adr G 66)]) (c_X4_seat_i l G M o hst np nr k hO x1 a2 hbd) mf_X4_seat ml_L_33 (kd_lt (show kd 0 = 4 by decide) (by decide)) (ct_4 (show kd 0 = 4 by decide)) rfl hl.1 (by decide) (by decide) (Nat.le_of_ble_eq_true rfl) rfl rfl dL_seat_5 (fun ce q9 H locs hP hS hce hcv hcl => ?_)
  refine vx_catch C0.ow [] ⟨0, 10, 13, 21⟩ [⟨0, 10, 17, 13⟩, ⟨0, 10, 21, 15⟩] hT (fun z hz => absurd hz List.not_mem_nil) (by decide) (by decide) (name := "java/lang/IndexOutOfBoundsException") (C0.ts _ cl_L_21) (va_Nw.use rfl (C0.nx.2.2.2.1 _ (by decide))) hce hcv hcl ?_
  refine lv_astore (lv' := [(4, .ref q9), (0, .ref (adr G 0)), (1, .int x1), (2, .int a2), (3, .ref (adr G 66))]) hx hb dL_seat_13 hl (by decide) rfl (fun ls hl => ?_)
  refine lv_iconst (v := 1) hx hb dL_seat_15 (by decide) ?_
  exact e_Ii C0 hr hP hS rfl (by decide) dL_seat_16
set_option maxHeartbeats 4000000 in
set_option maxRecDepth 100000 in
theorem c_L_seat_s (l : Launch) (G : GG) (M : Mem) (o : Nat → Int64) (hst : l.stackTraces = false) (np nr k : Nat) (hO : OKM M np nr k) (r : Nat) (hr0 : r < nr) (a2 : Int32) (hbd : ¬ bdS a2) (hfree : ¬ a2 ≤ M (4 + 13 + r) 4 - M (4 + 13 + r) 5) : MJ l yL_seat cL_seat 5 (some .int) [(0, 10, 13, 21), (0, 10, 17, 13), (0, 10, 21, 15)] 7 112 G [.ref (adr G 0), .int (nI r), .int a2, .ref (adr G 66)] M M o o 3 1 6 := by
  refine MJ_of RL rfl (by decide +kernel) (Nat.le_of_ble_eq_true rfl) ?_
  intro p e s m below meth c sz C0 hr hT hP ls hl
  have hx := C0.1
  have hb := C0.2.1
  have hS : va_S (pA G sz) s.heap s.heap [] := va_S.rf
  have hl : lv_has ls 5 [(0, .ref (adr G 0)), (1, .int (nI r)), (2, .int a2), (3, .ref (adr G 66))] := hl
  refine lv_aload_n hx hb dL_seat_0 rfl (lv_at hl 3 rfl) ?_
  refine lv_iconst (v := 0) hx hb dL_seat_1 (by decide) ?_
  refine lv_aload_n hx hb dL_seat_2 rfl (lv_at hl 0 rfl) ?_
  refine lv_iload_n hx hb dL_seat_3 rfl (lv_at hl 1 rfl) ?_
  refine lv_iload_n hx hb dL_seat_4 rfl (lv_at hl 2 rfl) ?_
  refine k_VX C0 hP hS (rest := [.int 0, .ref (adr G 66)]) (c_X4_seat_s l G M o hst np nr k hO r hr0 a2 hbd hfree) mf_X4_seat ml_L_33 (kd_lt (show kd 0 = 4 by decide) (by decide)) (ct_4 (show kd 0 = 4 by decide)) rfl hl.1 (by decide) (by decide) (Nat.le_of_ble_eq_true rfl) rfl rfl dL_seat_5 (fun ce q9 H locs hP hS hce hcv hcl => ?_)
  refine vx_catch C0.ow [⟨0, 10, 13, 21⟩, ⟨0, 10, 17, 13⟩] ⟨0, 10, 21, 15⟩ [] hT (fun z hz => by rcases List.mem_cons.mp hz with rfl | hz; exact Or.inr ⟨by decide, "java/lang/IndexOutOfBoundsException", C0.ts _ cl_L_21, C0.nx.2.2.2.2 ("java/lang/IllegalStateException", "java/lang/IndexOutOfBoundsException") (by decide)⟩; rcases List.mem_cons.mp hz with rfl | hz; exact Or.inr ⟨by decide, "java/lang/IllegalArgumentException", C0.ts _ cl_L_13, C0.nx.2.2.2.2 ("java/lang/IllegalStateException", "java/lang/IllegalArgumentException") (by decide)⟩; exact absurd hz List.not_mem_nil) (by decide) (by decide) (name := "java/lang/IllegalStateException") (C0.ts _ cl_L_15) (va_Nw.use rfl (C0.nx.2.2.2.1 _ (by decide))) hce hcv hcl ?_
  refine lv_astore (lv' := [(4, .ref q9), (0, .ref (adr G 0)), (1, .int (nI r)), (2, .int a2), (3, .ref (adr G 66))]) hx hb dL_seat_21 hl (by decide) rfl (fun ls hl => ?_)
  refine lv_iconst (v := 3) hx hb dL_seat_23 (by decide) ?_
  exact e_Ii C0 hr hP hS rfl (by decide) dL_seat_24
set_option maxHeartbeats 4000000 in
set_option maxRecDepth 100000 in
theorem c_L_passer (l : Launch) (G : GG) (M : Mem) (o : Nat → Int64) (np nr k : Nat) (hO : OKM M np nr k) (i w : Nat) (hi : i < np) (hw : w < 5) : MJ l yL_passer cL_passer 5 (some .int) [(0, 10, 13, 21)] 6 133 G [.ref (adr G 0), .int (nI i), .int (nI w), .ref (adr G 66)] M M o (vp_updL o 0 (Int32.toInt64 (pfF M nr k i w))) 0 0 0 := by
  refine MJ_of RL rfl (by decide +kernel) (Nat.le_of_ble_eq_true rfl) ?_
  intro p e s m below meth c sz C0 hr hT hP ls hl
  have hx := C0.1
  have hb := C0.2.1
  have hS : va_S (pA G sz) s.heap s.heap [] := va_S.rf
  have hl : lv_has ls 5 [(0, .ref (adr G 0)), (1, .int (nI i)), (2, .int (nI w)), (3, .ref (adr G 66))] := hl
  refine lv_aload_n hx hb dL_passer_0 rfl (lv_at hl 3 rfl) ?_
  refine lv_iconst (v := 0) hx hb dL_passer_1 (by decide) ?_
  refine lv_aload_n hx hb dL_passer_2 rfl (lv_at hl 0 rfl) ?_
  refine lv_iload_n hx hb dL_passer_3 rfl (lv_at hl 1 rfl) ?_
  refine lv_iload_n hx hb dL_passer_4 rfl (lv_at hl 2 rfl) ?_
  refine k_VI C0 hP hS (rest := [.int 0, .ref (adr G 66)]) (c_X4_passer l G M o np nr k hO i w hi hw) mf_X4_passer ml_L_36 (kd_lt (show kd 0 = 4 by decide) (by decide)) (ct_4 (show kd 0 = 4 by decide)) rfl hl.1 (by decide) (by decide) (Nat.le_of_ble_eq_true rfl) rfl rfl dL_passer_5 (fun H locs hP hS => ?_)
  refine lv_i2l hx hb dL_passer_8 rfl ?_
  refine w_outst C0 hP hS dL_passer_9 (fun H locs hP hS => ?_)
  refine lv_goto (tgt := 17) hx hb dL_passer_10 (by decide) ?_
  refine lv_iconst (v := 0) hx hb dL_passer_17 (by decide) ?_
  exact e_Ii C0 hr hP hS rfl (by decide) dL_passer_18
set_option maxHeartbeats 4000000 in
set_option maxRecDepth 100000 in
theorem c_L_passer_i (l : Launch) (G : GG) (M : Mem) (o : Nat → Int64) (hst : l.stackTraces = false) (np nr k : Nat) (hO : OKM M np nr k) (x1 a2 : Int32) (hbd : x1 < 0 ∨ ¬ x1 < nI np) : MJ l yL_passer cL_passer 5 (some .int) [(0, 10, 13, 21)] 9 153 G [.ref (adr G 0), .int x1, .int a2, .ref (adr G 66)] M M o o 1 1 6 := by
  refine MJ_of RL rfl (by decide +kernel) (Nat.le_of_ble_eq_true rfl) ?_
  intro p e s m below meth c sz C0 hr hT hP ls hl
  have hx := C0.1
  have hb := C0.2.1
  have hS : va_S (pA G sz) s.heap s.heap [] := va_S.rf
  have hl : lv_has ls 5 [(0, .ref (adr G 0)), (1, .int x1), (2, .int a2), (3, .ref (adr G 66))] := hl
  refine lv_aload_n hx hb dL_passer_0 rfl (lv_at hl 3 rfl) ?_
  refine lv_iconst (v := 0) hx hb dL_passer_1 (by decide) ?_
  refine lv_aload_n hx hb dL_passer_2 rfl (lv_at hl 0 rfl) ?_
  refine lv_iload_n hx hb dL_passer_3 rfl (lv_at hl 1 rfl) ?_
  refine lv_iload_n hx hb dL_passer_4 rfl (lv_at hl 2 rfl) ?_
  refine k_VX C0 hP hS (rest := [.int 0, .ref (adr G 66)]) (c_X4_passer_i l G M o hst np nr k hO x1 a2 hbd) mf_X4_passer ml_L_36 (kd_lt (show kd 0 = 4 by decide) (by decide)) (ct_4 (show kd 0 = 4 by decide)) rfl hl.1 (by decide) (by decide) (Nat.le_of_ble_eq_true rfl) rfl rfl dL_passer_5 (fun ce q9 H locs hP hS hce hcv hcl => ?_)
  refine vx_catch C0.ow [] ⟨0, 10, 13, 21⟩ [] hT (fun z hz => absurd hz List.not_mem_nil) (by decide) (by decide) (name := "java/lang/IndexOutOfBoundsException") (C0.ts _ cl_L_21) (va_Nw.use rfl (C0.nx.2.2.2.1 _ (by decide))) hce hcv hcl ?_
  refine lv_astore (lv' := [(4, .ref q9), (0, .ref (adr G 0)), (1, .int x1), (2, .int a2), (3, .ref (adr G 66))]) hx hb dL_passer_13 hl (by decide) rfl (fun ls hl => ?_)
  refine lv_iconst (v := 1) hx hb dL_passer_15 (by decide) ?_
  exact e_Ii C0 hr hP hS rfl (by decide) dL_passer_16
set_option maxHeartbeats 4000000 in
set_option maxRecDepth 100000 in
theorem c_L_passer_j (l : Launch) (G : GG) (M : Mem) (o : Nat → Int64) (hst : l.stackTraces = false) (np nr k : Nat) (hO : OKM M np nr k) (i : Nat) (hi : i < np) (a2 : Int32) (hbd : a2 < 0 ∨ ¬ a2 < 5) : MJ l yL_passer cL_passer 5 (some .int) [(0, 10, 13, 21)] 8 132 G [.ref (adr G 0), .int (nI i), .int a2, .ref (adr G 66)] M M o o 1 1 6 := by
  refine MJ_of RL rfl (by decide +kernel) (Nat.le_of_ble_eq_true rfl) ?_
  intro p e s m below meth c sz C0 hr hT hP ls hl
  have hx := C0.1
  have hb := C0.2.1
  have hS : va_S (pA G sz) s.heap s.heap [] := va_S.rf
  have hl : lv_has ls 5 [(0, .ref (adr G 0)), (1, .int (nI i)), (2, .int a2), (3, .ref (adr G 66))] := hl
  refine lv_aload_n hx hb dL_passer_0 rfl (lv_at hl 3 rfl) ?_
  refine lv_iconst (v := 0) hx hb dL_passer_1 (by decide) ?_
  refine lv_aload_n hx hb dL_passer_2 rfl (lv_at hl 0 rfl) ?_
  refine lv_iload_n hx hb dL_passer_3 rfl (lv_at hl 1 rfl) ?_
  refine lv_iload_n hx hb dL_passer_4 rfl (lv_at hl 2 rfl) ?_
  refine k_VX C0 hP hS (rest := [.int 0, .ref (adr G 66)]) (c_X4_passer_j l G M o hst np nr k hO i hi a2 hbd) mf_X4_passer ml_L_36 (kd_lt (show kd 0 = 4 by decide) (by decide)) (ct_4 (show kd 0 = 4 by decide)) rfl hl.1 (by decide) (by decide) (Nat.le_of_ble_eq_true rfl) rfl rfl dL_passer_5 (fun ce q9 H locs hP hS hce hcv hcl => ?_)
  refine vx_catch C0.ow [] ⟨0, 10, 13, 21⟩ [] hT (fun z hz => absurd hz List.not_mem_nil) (by decide) (by decide) (name := "java/lang/IndexOutOfBoundsException") (C0.ts _ cl_L_21) (va_Nw.use rfl (C0.nx.2.2.2.1 _ (by decide))) hce hcv hcl ?_
  refine lv_astore (lv' := [(4, .ref q9), (0, .ref (adr G 0)), (1, .int (nI i)), (2, .int a2), (3, .ref (adr G 66))]) hx hb dL_passer_13 hl (by decide) rfl (fun ls hl => ?_)
  refine lv_iconst (v := 1) hx hb dL_passer_15 (by decide) ?_
  exact e_Ii C0 hr hP hS rfl (by decide) dL_passer_16
set_option maxHeartbeats 4000000 in
set_option maxRecDepth 100000 in
theorem c_L_room (l : Launch) (G : GG) (M : Mem) (o : Nat → Int64) (np nr k : Nat) (hO : OKM M np nr k) (i w : Nat) (hi : i < nr) (hw : w < 8) : MJ l yL_room cL_room 5 (some .int) [(0, 10, 13, 21)] 6 133 G [.ref (adr G 0), .int (nI i), .int (nI w), .ref (adr G 66)] M M o (vp_updL o 0 (Int32.toInt64 (rfF M np k i w))) 0 0 0 := by
  refine MJ_of RL rfl (by decide +kernel) (Nat.le_of_ble_eq_true rfl) ?_
  intro p e s m below meth c sz C0 hr hT hP ls hl
  have hx := C0.1
  have hb := C0.2.1
  have hS : va_S (pA G sz) s.heap s.heap [] := va_S.rf
  have hl : lv_has ls 5 [(0, .ref (adr G 0)), (1, .int (nI i)), (2, .int (nI w)), (3, .ref (adr G 66))] := hl
  refine lv_aload_n hx hb dL_room_0 rfl (lv_at hl 3 rfl) ?_
  refine lv_iconst (v := 0) hx hb dL_room_1 (by decide) ?_
  refine lv_aload_n hx hb dL_room_2 rfl (lv_at hl 0 rfl) ?_
  refine lv_iload_n hx hb dL_room_3 rfl (lv_at hl 1 rfl) ?_
  refine lv_iload_n hx hb dL_room_4 rfl (lv_at hl 2 rfl) ?_
  refine k_VI C0 hP hS (rest := [.int 0, .ref (adr G 66)]) (c_X4_room l G M o np nr k hO i w hi hw) mf_X4_room ml_L_39 (kd_lt (show kd 0 = 4 by decide) (by decide)) (ct_4 (show kd 0 = 4 by decide)) rfl hl.1 (by decide) (by decide) (Nat.le_of_ble_eq_true rfl) rfl rfl dL_room_5 (fun H locs hP hS => ?_)
  refine lv_i2l hx hb dL_room_8 rfl ?_
  refine w_outst C0 hP hS dL_room_9 (fun H locs hP hS => ?_)
  refine lv_goto (tgt := 17) hx hb dL_room_10 (by decide) ?_
  refine lv_iconst (v := 0) hx hb dL_room_17 (by decide) ?_
  exact e_Ii C0 hr hP hS rfl (by decide) dL_room_18
set_option maxHeartbeats 4000000 in
set_option maxRecDepth 100000 in
theorem c_L_room_i (l : Launch) (G : GG) (M : Mem) (o : Nat → Int64) (hst : l.stackTraces = false) (np nr k : Nat) (hO : OKM M np nr k) (x1 a2 : Int32) (hbd : x1 < 0 ∨ ¬ x1 < nI nr) : MJ l yL_room cL_room 5 (some .int) [(0, 10, 13, 21)] 9 153 G [.ref (adr G 0), .int x1, .int a2, .ref (adr G 66)] M M o o 1 1 6 := by
  refine MJ_of RL rfl (by decide +kernel) (Nat.le_of_ble_eq_true rfl) ?_
  intro p e s m below meth c sz C0 hr hT hP ls hl
  have hx := C0.1
  have hb := C0.2.1
  have hS : va_S (pA G sz) s.heap s.heap [] := va_S.rf
  have hl : lv_has ls 5 [(0, .ref (adr G 0)), (1, .int x1), (2, .int a2), (3, .ref (adr G 66))] := hl
  refine lv_aload_n hx hb dL_room_0 rfl (lv_at hl 3 rfl) ?_
  refine lv_iconst (v := 0) hx hb dL_room_1 (by decide) ?_
  refine lv_aload_n hx hb dL_room_2 rfl (lv_at hl 0 rfl) ?_
  refine lv_iload_n hx hb dL_room_3 rfl (lv_at hl 1 rfl) ?_
  refine lv_iload_n hx hb dL_room_4 rfl (lv_at hl 2 rfl) ?_
  refine k_VX C0 hP hS (rest := [.int 0, .ref (adr G 66)]) (c_X4_room_i l G M o hst np nr k hO x1 a2 hbd) mf_X4_room ml_L_39 (kd_lt (show kd 0 = 4 by decide) (by decide)) (ct_4 (show kd 0 = 4 by decide)) rfl hl.1 (by decide) (by decide) (Nat.le_of_ble_eq_true rfl) rfl rfl dL_room_5 (fun ce q9 H locs hP hS hce hcv hcl => ?_)
  refine vx_catch C0.ow [] ⟨0, 10, 13, 21⟩ [] hT (fun z hz => absurd hz List.not_mem_nil) (by decide) (by decide) (name := "java/lang/IndexOutOfBoundsException") (C0.ts _ cl_L_21) (va_Nw.use rfl (C0.nx.2.2.2.1 _ (by decide))) hce hcv hcl ?_
  refine lv_astore (lv' := [(4, .ref q9), (0, .ref (adr G 0)), (1, .int x1), (2, .int a2), (3, .ref (adr G 66))]) hx hb dL_room_13 hl (by decide) rfl (fun ls hl => ?_)
  refine lv_iconst (v := 1) hx hb dL_room_15 (by decide) ?_
  exact e_Ii C0 hr hP hS rfl (by decide) dL_room_16
set_option maxHeartbeats 4000000 in
set_option maxRecDepth 100000 in
theorem c_L_room_j (l : Launch) (G : GG) (M : Mem) (o : Nat → Int64) (hst : l.stackTraces = false) (np nr k : Nat) (hO : OKM M np nr k) (i : Nat) (hi : i < nr) (a2 : Int32) (hbd : a2 < 0 ∨ ¬ a2 < 8) : MJ l yL_room cL_room 5 (some .int) [(0, 10, 13, 21)] 8 132 G [.ref (adr G 0), .int (nI i), .int a2, .ref (adr G 66)] M M o o 1 1 6 := by
  refine MJ_of RL rfl (by decide +kernel) (Nat.le_of_ble_eq_true rfl) ?_
  intro p e s m below meth c sz C0 hr hT hP ls hl
  have hx := C0.1
  have hb := C0.2.1
  have hS : va_S (pA G sz) s.heap s.heap [] := va_S.rf
  have hl : lv_has ls 5 [(0, .ref (adr G 0)), (1, .int (nI i)), (2, .int a2), (3, .ref (adr G 66))] := hl
  refine lv_aload_n hx hb dL_room_0 rfl (lv_at hl 3 rfl) ?_
  refine lv_iconst (v := 0) hx hb dL_room_1 (by decide) ?_
  refine lv_aload_n hx hb dL_room_2 rfl (lv_at hl 0 rfl) ?_
  refine lv_iload_n hx hb dL_room_3 rfl (lv_at hl 1 rfl) ?_
  refine lv_iload_n hx hb dL_room_4 rfl (lv_at hl 2 rfl) ?_
  refine k_VX C0 hP hS (rest := [.int 0, .ref (adr G 66)]) (c_X4_room_j l G M o hst np nr k hO i hi a2 hbd) mf_X4_room ml_L_39 (kd_lt (show kd 0 = 4 by decide) (by decide)) (ct_4 (show kd 0 = 4 by decide)) rfl hl.1 (by decide) (by decide) (Nat.le_of_ble_eq_true rfl) rfl rfl dL_room_5 (fun ce q9 H locs hP hS hce hcv hcl => ?_)
  refine vx_catch C0.ow [] ⟨0, 10, 13, 21⟩ [] hT (fun z hz => absurd hz List.not_mem_nil) (by decide) (by decide) (name := "java/lang/IndexOutOfBoundsException") (C0.ts _ cl_L_21) (va_Nw.use rfl (C0.nx.2.2.2.1 _ (by decide))) hce hcv hcl ?_
  refine lv_astore (lv' := [(4, .ref q9), (0, .ref (adr G 0)), (1, .int (nI i)), (2, .int a2), (3, .ref (adr G 66))]) hx hb dL_room_13 hl (by decide) rfl (fun ls hl => ?_)
  refine lv_iconst (v := 1) hx hb dL_room_15 (by decide) ?_
  exact e_Ii C0 hr hP hS rfl (by decide) dL_room_16
set_option maxHeartbeats 4000000 in
set_option maxRecDepth 100000 in
theorem c_L_wall (l : Launch) (G : GG) (M : Mem) (o : Nat → Int64) (np nr k : Nat) (hO : OKM M np nr k) (r : Nat) (hr0 : r < nr) (a2 : Int32) (hbd : ¬ bdW a2 (M (4 + 13 + r) 1)) : MJ l yL_wall cL_wall 5 (some .int) [(0, 10, 13, 21)] 3 66 G [.ref (adr G 0), .int (nI r), .int a2, .ref (adr G 66)] M M o (vp_updL o 0 (Int32.toInt64 (paM M 4 (M (4 + 13 + r) 0 - a2) np))) 0 0 0 := by
  refine MJ_of RL rfl (by decide +kernel) (Nat.le_of_ble_eq_true rfl) ?_
  intro p e s m below meth c sz C0 hr hT hP ls hl
  have hx := C0.1
  have hb := C0.2.1
  have hS : va_S (pA G sz) s.heap s.heap [] := va_S.rf
  have hl : lv_has ls 5 [(0, .ref (adr G 0)), (1, .int (nI r)), (2, .int a2), (3, .ref (adr G 66))] := hl
  refine lv_aload_n hx hb dL_wall_0 rfl (lv_at hl 3 rfl) ?_
  refine lv_iconst (v := 0) hx hb dL_wall_1 (by decide) ?_
  refine lv_aload_n hx hb dL_wall_2 rfl (lv_at hl 0 rfl) ?_
  refine lv_iload_n hx hb dL_wall_3 rfl (lv_at hl 1 rfl) ?_
  refine lv_iload_n hx hb dL_wall_4 rfl (lv_at hl 2 rfl) ?_
  refine k_VI C0 hP hS (rest := [.int 0, .ref (adr G 66)]) (c_X4_wall l G M o np nr k hO r hr0 a2 hbd) mf_X4_wall ml_L_42 (kd_lt (show kd 0 = 4 by decide) (by decide)) (ct_4 (show kd 0 = 4 by decide)) rfl hl.1 (by decide) (by decide) (Nat.le_of_ble_eq_true rfl) rfl rfl dL_wall_5 (fun H locs hP hS => ?_)
  refine lv_i2l hx hb dL_wall_8 rfl ?_
  refine w_outst C0 hP hS dL_wall_9 (fun H locs hP hS => ?_)
  refine lv_goto (tgt := 17) hx hb dL_wall_10 (by decide) ?_
  refine lv_iconst (v := 0) hx hb dL_wall_17 (by decide) ?_
  exact e_Ii C0 hr hP hS rfl (by decide) dL_wall_18
set_option maxHeartbeats 4000000 in
set_option maxRecDepth 100000 in
theorem c_L_wall_i (l : Launch) (G : GG) (M : Mem) (o : Nat → Int64) (hst : l.stackTraces = false) (np nr k : Nat) (hO : OKM M np nr k) (x1 a2 : Int32) (hbd : x1 < 0 ∨ ¬ x1 < nI nr) : MJ l yL_wall cL_wall 5 (some .int) [(0, 10, 13, 21)] 9 154 G [.ref (adr G 0), .int x1, .int a2, .ref (adr G 66)] M M o o 1 1 6 := by
  refine MJ_of RL rfl (by decide +kernel) (Nat.le_of_ble_eq_true rfl) ?_
  intro p e s m below meth c sz C0 hr hT hP ls hl
  have hx := C0.1
  have hb := C0.2.1
  have hS : va_S (pA G sz) s.heap s.heap [] := va_S.rf
  have hl : lv_has ls 5 [(0, .ref (adr G 0)), (1, .int x1), (2, .int a2), (3, .ref (adr G 66))] := hl
  refine lv_aload_n hx hb dL_wall_0 rfl (lv_at hl 3 rfl) ?_
  refine lv_iconst (v := 0) hx hb dL_wall_1 (by decide) ?_
  refine lv_aload_n hx hb dL_wall_2 rfl (lv_at hl 0 rfl) ?_
  refine lv_iload_n hx hb dL_wall_3 rfl (lv_at hl 1 rfl) ?_
  refine lv_iload_n hx hb dL_wall_4 rfl (lv_at hl 2 rfl) ?_
  refine k_VX C0 hP hS (rest := [.int 0, .ref (adr G 66)]) (c_X4_wall_i l G M o hst np nr k hO x1 a2 hbd) mf_X4_wall ml_L_42 (kd_lt (show kd 0 = 4 by decide) (by decide)) (ct_4 (show kd 0 = 4 by decide)) rfl hl.1 (by decide) (by decide) (Nat.le_of_ble_eq_true rfl) rfl rfl dL_wall_5 (fun ce q9 H locs hP hS hce hcv hcl => ?_)
  refine vx_catch C0.ow [] ⟨0, 10, 13, 21⟩ [] hT (fun z hz => absurd hz List.not_mem_nil) (by decide) (by decide) (name := "java/lang/IndexOutOfBoundsException") (C0.ts _ cl_L_21) (va_Nw.use rfl (C0.nx.2.2.2.1 _ (by decide))) hce hcv hcl ?_
  refine lv_astore (lv' := [(4, .ref q9), (0, .ref (adr G 0)), (1, .int x1), (2, .int a2), (3, .ref (adr G 66))]) hx hb dL_wall_13 hl (by decide) rfl (fun ls hl => ?_)
  refine lv_iconst (v := 1) hx hb dL_wall_15 (by decide) ?_
  exact e_Ii C0 hr hP hS rfl (by decide) dL_wall_16
set_option maxHeartbeats 4000000 in
set_option maxRecDepth 100000 in
theorem c_L_wall_j (l : Launch) (G : GG) (M : Mem) (o : Nat → Int64) (hst : l.stackTraces = false) (np nr k : Nat) (hO : OKM M np nr k) (r : Nat) (hr0 : r < nr) (a2 : Int32) (hbd : bdW a2 (M (4 + 13 + r) 1)) : MJ l yL_wall cL_wall 5 (some .int) [(0, 10, 13, 21)] 7 112 G [.ref (adr G 0), .int (nI r), .int a2, .ref (adr G 66)] M M o o 1 1 6 := by
  refine MJ_of RL rfl (by decide +kernel) (Nat.le_of_ble_eq_true rfl) ?_
  intro p e s m below meth c sz C0 hr hT hP ls hl
  have hx := C0.1
  have hb := C0.2.1
  have hS : va_S (pA G sz) s.heap s.heap [] := va_S.rf
  have hl : lv_has ls 5 [(0, .ref (adr G 0)), (1, .int (nI r)), (2, .int a2), (3, .ref (adr G 66))] := hl
  refine lv_aload_n hx hb dL_wall_0 rfl (lv_at hl 3 rfl) ?_
  refine lv_iconst (v := 0) hx hb dL_wall_1 (by decide) ?_
  refine lv_aload_n hx hb dL_wall_2 rfl (lv_at hl 0 rfl) ?_
  refine lv_iload_n hx hb dL_wall_3 rfl (lv_at hl 1 rfl) ?_
  refine lv_iload_n hx hb dL_wall_4 rfl (lv_at hl 2 rfl) ?_
  refine k_VX C0 hP hS (rest := [.int 0, .ref (adr G 66)]) (c_X4_wall_j l G M o hst np nr k hO r hr0 a2 hbd) mf_X4_wall ml_L_42 (kd_lt (show kd 0 = 4 by decide) (by decide)) (ct_4 (show kd 0 = 4 by decide)) rfl hl.1 (by decide) (by decide) (Nat.le_of_ble_eq_true rfl) rfl rfl dL_wall_5 (fun ce q9 H locs hP hS hce hcv hcl => ?_)
  refine vx_catch C0.ow [] ⟨0, 10, 13, 21⟩ [] hT (fun z hz => absurd hz List.not_mem_nil) (by decide) (by decide) (name := "java/lang/IndexOutOfBoundsException") (C0.ts _ cl_L_21) (va_Nw.use rfl (C0.nx.2.2.2.1 _ (by decide))) hce hcv hcl ?_
  refine lv_astore (lv' := [(4, .ref q9), (0, .ref (adr G 0)), (1, .int (nI r)), (2, .int a2), (3, .ref (adr G 66))]) hx hb dL_wall_13 hl (by decide) rfl (fun ls hl => ?_)
  refine lv_iconst (v := 1) hx hb dL_wall_15 (by decide) ?_
  exact e_Ii C0 hr hP hS rfl (by decide) dL_wall_16
set_option maxHeartbeats 4000000 in
set_option maxRecDepth 100000 in
theorem c_L_bright (l : Launch) (G : GG) (M : Mem) (o : Nat → Int64) (np nr k : Nat) (hO : OKM M np nr k) (r i : Nat) (hr0 : r < nr) (hi : i < np) : MJ l yL_bright cL_bright 5 (some .int) [(0, 10, 13, 21)] 3 66 G [.ref (adr G 0), .int (nI r), .int (nI i), .ref (adr G 66)] M M o (vp_updL o 0 (Int32.toInt64 (if shM M (4 + 13 + r) (4 + 3 + i) = 0 then -1 else brM M (4 + 13 + r) (4 + 3 + i) (ltF (M 2) (M 3) k)))) 0 0 0 := by
  refine MJ_of RL rfl (by decide +kernel) (Nat.le_of_ble_eq_true rfl) ?_
  intro p e s m below meth c sz C0 hr hT hP ls hl
  have hx := C0.1
  have hb := C0.2.1
  have hS : va_S (pA G sz) s.heap s.heap [] := va_S.rf
  have hl : lv_has ls 5 [(0, .ref (adr G 0)), (1, .int (nI r)), (2, .int (nI i)), (3, .ref (adr G 66))] := hl
  refine lv_aload_n hx hb dL_bright_0 rfl (lv_at hl 3 rfl) ?_
  refine lv_iconst (v := 0) hx hb dL_bright_1 (by decide) ?_
  refine lv_aload_n hx hb dL_bright_2 rfl (lv_at hl 0 rfl) ?_
  refine lv_iload_n hx hb dL_bright_3 rfl (lv_at hl 1 rfl) ?_
  refine lv_iload_n hx hb dL_bright_4 rfl (lv_at hl 2 rfl) ?_
  refine k_VI C0 hP hS (rest := [.int 0, .ref (adr G 66)]) (c_X4_bright l G M o np nr k hO r i hr0 hi) mf_X4_bright ml_L_45 (kd_lt (show kd 0 = 4 by decide) (by decide)) (ct_4 (show kd 0 = 4 by decide)) rfl hl.1 (by decide) (by decide) (Nat.le_of_ble_eq_true rfl) rfl rfl dL_bright_5 (fun H locs hP hS => ?_)
  refine lv_i2l hx hb dL_bright_8 rfl ?_
  refine w_outst C0 hP hS dL_bright_9 (fun H locs hP hS => ?_)
  refine lv_goto (tgt := 17) hx hb dL_bright_10 (by decide) ?_
  refine lv_iconst (v := 0) hx hb dL_bright_17 (by decide) ?_
  exact e_Ii C0 hr hP hS rfl (by decide) dL_bright_18
set_option maxHeartbeats 4000000 in
set_option maxRecDepth 100000 in
theorem c_L_bright_i (l : Launch) (G : GG) (M : Mem) (o : Nat → Int64) (hst : l.stackTraces = false) (np nr k : Nat) (hO : OKM M np nr k) (x1 a2 : Int32) (hbd : x1 < 0 ∨ ¬ x1 < nI nr) : MJ l yL_bright cL_bright 5 (some .int) [(0, 10, 13, 21)] 9 155 G [.ref (adr G 0), .int x1, .int a2, .ref (adr G 66)] M M o o 1 1 6 := by
  refine MJ_of RL rfl (by decide +kernel) (Nat.le_of_ble_eq_true rfl) ?_
  intro p e s m below meth c sz C0 hr hT hP ls hl
  have hx := C0.1
  have hb := C0.2.1
  have hS : va_S (pA G sz) s.heap s.heap [] := va_S.rf
  have hl : lv_has ls 5 [(0, .ref (adr G 0)), (1, .int x1), (2, .int a2), (3, .ref (adr G 66))] := hl
  refine lv_aload_n hx hb dL_bright_0 rfl (lv_at hl 3 rfl) ?_
  refine lv_iconst (v := 0) hx hb dL_bright_1 (by decide) ?_
  refine lv_aload_n hx hb dL_bright_2 rfl (lv_at hl 0 rfl) ?_
  refine lv_iload_n hx hb dL_bright_3 rfl (lv_at hl 1 rfl) ?_
  refine lv_iload_n hx hb dL_bright_4 rfl (lv_at hl 2 rfl) ?_
  refine k_VX C0 hP hS (rest := [.int 0, .ref (adr G 66)]) (c_X4_bright_i l G M o hst np nr k hO x1 a2 hbd) mf_X4_bright ml_L_45 (kd_lt (show kd 0 = 4 by decide) (by decide)) (ct_4 (show kd 0 = 4 by decide)) rfl hl.1 (by decide) (by decide) (Nat.le_of_ble_eq_true rfl) rfl rfl dL_bright_5 (fun ce q9 H locs hP hS hce hcv hcl => ?_)
  refine vx_catch C0.ow [] ⟨0, 10, 13, 21⟩ [] hT (fun z hz => absurd hz List.not_mem_nil) (by decide) (by decide) (name := "java/lang/IndexOutOfBoundsException") (C0.ts _ cl_L_21) (va_Nw.use rfl (C0.nx.2.2.2.1 _ (by decide))) hce hcv hcl ?_
  refine lv_astore (lv' := [(4, .ref q9), (0, .ref (adr G 0)), (1, .int x1), (2, .int a2), (3, .ref (adr G 66))]) hx hb dL_bright_13 hl (by decide) rfl (fun ls hl => ?_)
  refine lv_iconst (v := 1) hx hb dL_bright_15 (by decide) ?_
  exact e_Ii C0 hr hP hS rfl (by decide) dL_bright_16
set_option maxHeartbeats 4000000 in
set_option maxRecDepth 100000 in
theorem c_L_bright_j (l : Launch) (G : GG) (M : Mem) (o : Nat → Int64) (hst : l.stackTraces = false) (np nr k : Nat) (hO : OKM M np nr k) (r : Nat) (hr0 : r < nr) (a2 : Int32) (hbd : a2 < 0 ∨ ¬ a2 < nI np) : MJ l yL_bright cL_bright 5 (some .int) [(0, 10, 13, 21)] 9 155 G [.ref (adr G 0), .int (nI r), .int a2, .ref (adr G 66)] M M o o 1 1 6 := by
  refine MJ_of RL rfl (by decide +kernel) (Nat.le_of_ble_eq_true rfl) ?_
  intro p e s m below meth c sz C0 hr hT hP ls hl
  have hx := C0.1
  have hb := C0.2.1
  have hS : va_S (pA G sz) s.heap s.heap [] := va_S.rf
  have hl : lv_has ls 5 [(0, .ref (adr G 0)), (1, .int (nI r)), (2, .int a2), (3, .ref (adr G 66))] := hl
  refine lv_aload_n hx hb dL_bright_0 rfl (lv_at hl 3 rfl) ?_
  refine lv_iconst (v := 0) hx hb dL_bright_1 (by decide) ?_
  refine lv_aload_n hx hb dL_bright_2 rfl (lv_at hl 0 rfl) ?_
  refine lv_iload_n hx hb dL_bright_3 rfl (lv_at hl 1 rfl) ?_
  refine lv_iload_n hx hb dL_bright_4 rfl (lv_at hl 2 rfl) ?_
  refine k_VX C0 hP hS (rest := [.int 0, .ref (adr G 66)]) (c_X4_bright_j l G M o hst np nr k hO r hr0 a2 hbd) mf_X4_bright ml_L_45 (kd_lt (show kd 0 = 4 by decide) (by decide)) (ct_4 (show kd 0 = 4 by decide)) rfl hl.1 (by decide) (by decide) (Nat.le_of_ble_eq_true rfl) rfl rfl dL_bright_5 (fun ce q9 H locs hP hS hce hcv hcl => ?_)
  refine vx_catch C0.ow [] ⟨0, 10, 13, 21⟩ [] hT (fun z hz => absurd hz List.not_mem_nil) (by decide) (by decide) (name := "java/lang/IndexOutOfBoundsException") (C0.ts _ cl_L_21) (va_Nw.use rfl (C0.nx.2.2.2.1 _ (by decide))) hce hcv hcl ?_
  refine lv_astore (lv' := [(4, .ref q9), (0, .ref (adr G 0)), (1, .int (nI r)), (2, .int a2), (3, .ref (adr G 66))]) hx hb dL_bright_13 hl (by decide) rfl (fun ls hl => ?_)
  refine lv_iconst (v := 1) hx hb dL_bright_15 (by decide) ?_
  exact e_Ii C0 hr hP hS rfl (by decide) dL_bright_16
set_option maxHeartbeats 4000000 in
set_option maxRecDepth 100000 in
theorem c_L_count (l : Launch) (G : GG) (M : Mem) (o : Nat → Int64) (np nr k : Nat) (hO : OKM M np nr k) (w : Nat) (hw : w < 9) : MJ l yL_count cL_count 4 (some .int) [(0, 9, 12, 21)] 7 153 G [.ref (adr G 0), .int (nI w), .ref (adr G 66)] M M o (vp_updL o 0 (Int32.toInt64 (hfF M np nr k w))) 0 0 0 := by
  refine MJ_of RL rfl (by decide +kernel) (Nat.le_of_ble_eq_true rfl) ?_
  intro p e s m below meth c sz C0 hr hT hP ls hl
  have hx := C0.1
  have hb := C0.2.1
  have hS : va_S (pA G sz) s.heap s.heap [] := va_S.rf
  have hl : lv_has ls 4 [(0, .ref (adr G 0)), (1, .int (nI w)), (2, .ref (adr G 66))] := hl
  refine lv_aload_n hx hb dL_count_0 rfl (lv_at hl 2 rfl) ?_
  refine lv_iconst (v := 0) hx hb dL_count_1 (by decide) ?_
  refine lv_aload_n hx hb dL_count_2 rfl (lv_at hl 0 rfl) ?_
  refine lv_iload_n hx hb dL_count_3 rfl (lv_at hl 1 rfl) ?_
  refine k_VI C0 hP hS (rest := [.int 0, .ref (adr G 66)]) (c_X4_count l G M o np nr k hO w hw) mf_X4_count ml_L_48 (kd_lt (show kd 0 = 4 by decide) (by decide)) (ct_4 (show kd 0 = 4 by decide)) rfl hl.1 (by decide) (by decide) (Nat.le_of_ble_eq_true rfl) rfl rfl dL_count_4 (fun H locs hP hS => ?_)
  refine lv_i2l hx hb dL_count_7 rfl ?_
  refine w_outst C0 hP hS dL_count_8 (fun H locs hP hS => ?_)
  refine lv_goto (tgt := 15) hx hb dL_count_9 (by decide) ?_
  refine lv_iconst (v := 0) hx hb dL_count_15 (by decide) ?_
  exact e_Ii C0 hr hP hS rfl (by decide) dL_count_16
set_option maxHeartbeats 4000000 in
set_option maxRecDepth 100000 in
theorem c_L_count_i (l : Launch) (G : GG) (M : Mem) (o : Nat → Int64) (hst : l.stackTraces = false) (np nr k : Nat) (hO : OKM M np nr k) (x1 : Int32) (hbd : x1 < 0 ∨ ¬ x1 < 9) : MJ l yL_count cL_count 4 (some .int) [(0, 9, 12, 21)] 8 131 G [.ref (adr G 0), .int x1, .ref (adr G 66)] M M o o 1 1 6 := by
  refine MJ_of RL rfl (by decide +kernel) (Nat.le_of_ble_eq_true rfl) ?_
  intro p e s m below meth c sz C0 hr hT hP ls hl
  have hx := C0.1
  have hb := C0.2.1
  have hS : va_S (pA G sz) s.heap s.heap [] := va_S.rf
  have hl : lv_has ls 4 [(0, .ref (adr G 0)), (1, .int x1), (2, .ref (adr G 66))] := hl
  refine lv_aload_n hx hb dL_count_0 rfl (lv_at hl 2 rfl) ?_
  refine lv_iconst (v := 0) hx hb dL_count_1 (by decide) ?_
  refine lv_aload_n hx hb dL_count_2 rfl (lv_at hl 0 rfl) ?_
  refine lv_iload_n hx hb dL_count_3 rfl (lv_at hl 1 rfl) ?_
  refine k_VX C0 hP hS (rest := [.int 0, .ref (adr G 66)]) (c_X4_count_i l G M o hst np nr k hO x1 hbd) mf_X4_count ml_L_48 (kd_lt (show kd 0 = 4 by decide) (by decide)) (ct_4 (show kd 0 = 4 by decide)) rfl hl.1 (by decide) (by decide) (Nat.le_of_ble_eq_true rfl) rfl rfl dL_count_4 (fun ce q9 H locs hP hS hce hcv hcl => ?_)
  refine vx_catch C0.ow [] ⟨0, 9, 12, 21⟩ [] hT (fun z hz => absurd hz List.not_mem_nil) (by decide) (by decide) (name := "java/lang/IndexOutOfBoundsException") (C0.ts _ cl_L_21) (va_Nw.use rfl (C0.nx.2.2.2.1 _ (by decide))) hce hcv hcl ?_
  refine lv_astore_n (lv' := [(3, .ref q9), (0, .ref (adr G 0)), (1, .int x1), (2, .ref (adr G 66))]) hx hb dL_count_12 rfl hl (by decide) rfl (fun ls hl => ?_)
  refine lv_iconst (v := 1) hx hb dL_count_13 (by decide) ?_
  exact e_Ii C0 hr hP hS rfl (by decide) dL_count_14
set_option maxHeartbeats 4000000 in
set_option maxRecDepth 100000 in
theorem c_L_go (l : Launch) (G : GG) (M : Mem) (o : Nat → Int64) (np nr k : Nat) (hO : OKM M np nr k) (d : Nat) (hd1 : 1 ≤ d) (hd2 : d ≤ 720)  : MJ l yL_go cL_go 4 (some .int) [(0, 9, 12, 13)] 7 157 G [.ref (adr G 0), .int (nI d), .ref (adr G 66)] M (lgM M 4 np nr k (tk k d)) o (vp_updL o 0 (Int32.toInt64 (lgS M 4 np nr k (tk k d)))) 0 0 0 := by
  refine MJ_of RL rfl (by decide +kernel) (Nat.le_of_ble_eq_true rfl) ?_
  intro p e s m below meth c sz C0 hr hT hP ls hl
  have hx := C0.1
  have hb := C0.2.1
  have hS : va_S (pA G sz) s.heap s.heap [] := va_S.rf
  have hl : lv_has ls 4 [(0, .ref (adr G 0)), (1, .int (nI d)), (2, .ref (adr G 66))] := hl
  refine lv_aload_n hx hb dL_go_0 rfl (lv_at hl 2 rfl) ?_
  refine lv_iconst (v := 0) hx hb dL_go_1 (by decide) ?_
  refine lv_aload_n hx hb dL_go_2 rfl (lv_at hl 0 rfl) ?_
  refine lv_iload_n hx hb dL_go_3 rfl (lv_at hl 1 rfl) ?_
  refine k_VI C0 hP hS (rest := [.int 0, .ref (adr G 66)]) (c_X4_go l G M o np nr k hO d hd1 hd2) mf_X4_go ml_L_52 (kd_lt (show kd 0 = 4 by decide) (by decide)) (ct_4 (show kd 0 = 4 by decide)) rfl hl.1 (by decide) (by decide) (Nat.le_of_ble_eq_true rfl) rfl rfl dL_go_4 (fun H locs hP hS => ?_)
  refine lv_i2l hx hb dL_go_7 rfl ?_
  refine w_outst C0 hP hS dL_go_8 (fun H locs hP hS => ?_)
  refine lv_goto (tgt := 15) hx hb dL_go_9 (by decide) ?_
  refine lv_iconst (v := 0) hx hb dL_go_15 (by decide) ?_
  exact e_Ii C0 hr hP hS rfl (by decide) dL_go_16
set_option maxHeartbeats 4000000 in
set_option maxRecDepth 100000 in
theorem c_L_go_a (l : Launch) (G : GG) (M : Mem) (o : Nat → Int64) (hst : l.stackTraces = false) (np nr k : Nat) (hO : OKM M np nr k) (x1 : Int32) (hbd : x1 < 1 ∨ ¬ x1 ≤ 720) : MJ l yL_go cL_go 4 (some .int) [(0, 9, 12, 13)] 8 131 G [.ref (adr G 0), .int x1, .ref (adr G 66)] M M o o 1 1 6 := by
  refine MJ_of RL rfl (by decide +kernel) (Nat.le_of_ble_eq_true rfl) ?_
  intro p e s m below meth c sz C0 hr hT hP ls hl
  have hx := C0.1
  have hb := C0.2.1
  have hS : va_S (pA G sz) s.heap s.heap [] := va_S.rf
  have hl : lv_has ls 4 [(0, .ref (adr G 0)), (1, .int x1), (2, .ref (adr G 66))] := hl
  refine lv_aload_n hx hb dL_go_0 rfl (lv_at hl 2 rfl) ?_
  refine lv_iconst (v := 0) hx hb dL_go_1 (by decide) ?_
  refine lv_aload_n hx hb dL_go_2 rfl (lv_at hl 0 rfl) ?_
  refine lv_iload_n hx hb dL_go_3 rfl (lv_at hl 1 rfl) ?_
  refine k_VX C0 hP hS (rest := [.int 0, .ref (adr G 66)]) (c_X4_go_a l G M o hst np nr k hO x1 hbd) mf_X4_go ml_L_52 (kd_lt (show kd 0 = 4 by decide) (by decide)) (ct_4 (show kd 0 = 4 by decide)) rfl hl.1 (by decide) (by decide) (Nat.le_of_ble_eq_true rfl) rfl rfl dL_go_4 (fun ce q9 H locs hP hS hce hcv hcl => ?_)
  refine vx_catch C0.ow [] ⟨0, 9, 12, 13⟩ [] hT (fun z hz => absurd hz List.not_mem_nil) (by decide) (by decide) (name := "java/lang/IllegalArgumentException") (C0.ts _ cl_L_13) (va_Nw.use rfl (C0.nx.2.2.2.1 _ (by decide))) hce hcv hcl ?_
  refine lv_astore_n (lv' := [(3, .ref q9), (0, .ref (adr G 0)), (1, .int x1), (2, .ref (adr G 66))]) hx hb dL_go_12 rfl hl (by decide) rfl (fun ls hl => ?_)
  refine lv_iconst (v := 1) hx hb dL_go_13 (by decide) ?_
  exact e_Ii C0 hr hP hS rfl (by decide) dL_go_14
set_option maxHeartbeats 4000000 in
set_option maxRecDepth 100000 in
theorem c_L_when (l : Launch) (G : GG) (M : Mem) (o : Nat → Int64) (np nr k : Nat) (hO : OKM M np nr k) (r : Nat) (hr0 : r < nr) : MJ l yL_when cL_when 4 (some .int) [(0, 9, 12, 21)] 5 113 G [.ref (adr G 0), .int (nI r), .ref (adr G 66)] M (itW (cpM M np nr) 25 np (720 - k)) o (vp_updL o 0 (Int32.toInt64 ((whF (0, -1) (whP M np nr k r) (fun j => nI (k + j)) (720 - k)).2))) 0 0 0 := by
  refine MJ_of RL rfl (by decide +kernel) (Nat.le_of_ble_eq_true rfl) ?_
  intro p e s m below meth c sz C0 hr hT hP ls hl
  have hx := C0.1
  have hb := C0.2.1
  have hS : va_S (pA G sz) s.heap s.heap [] := va_S.rf
  have hl : lv_has ls 4 [(0, .ref (adr G 0)), (1, .int (nI r)), (2, .ref (adr G 66))] := hl
  refine lv_aload_n hx hb dL_when_0 rfl (lv_at hl 2 rfl) ?_
  refine lv_iconst (v := 0) hx hb dL_when_1 (by decide) ?_
  refine lv_aload_n hx hb dL_when_2 rfl (lv_at hl 0 rfl) ?_
  refine lv_iload_n hx hb dL_when_3 rfl (lv_at hl 1 rfl) ?_
  refine k_VI C0 hP hS (rest := [.int 0, .ref (adr G 66)]) (c_X4_when l G M o np nr k hO r hr0) mf_X4_when ml_L_55 (kd_lt (show kd 0 = 4 by decide) (by decide)) (ct_4 (show kd 0 = 4 by decide)) rfl hl.1 (by decide) (by decide) (Nat.le_of_ble_eq_true rfl) rfl rfl dL_when_4 (fun H locs hP hS => ?_)
  refine lv_i2l hx hb dL_when_7 rfl ?_
  refine w_outst C0 hP hS dL_when_8 (fun H locs hP hS => ?_)
  refine lv_goto (tgt := 15) hx hb dL_when_9 (by decide) ?_
  refine lv_iconst (v := 0) hx hb dL_when_15 (by decide) ?_
  exact e_Ii C0 hr hP hS rfl (by decide) dL_when_16
set_option maxHeartbeats 4000000 in
set_option maxRecDepth 100000 in
theorem c_L_when_i (l : Launch) (G : GG) (M : Mem) (o : Nat → Int64) (hst : l.stackTraces = false) (np nr k : Nat) (hO : OKM M np nr k) (x1 : Int32) (hbd : x1 < 0 ∨ ¬ x1 < nI nr) : MJ l yL_when cL_when 4 (some .int) [(0, 9, 12, 21)] 9 156 G [.ref (adr G 0), .int x1, .ref (adr G 66)] M M o o 1 1 6 := by
  refine MJ_of RL rfl (by decide +kernel) (Nat.le_of_ble_eq_true rfl) ?_
  intro p e s m below meth c sz C0 hr hT hP ls hl
  have hx := C0.1
  have hb := C0.2.1
  have hS : va_S (pA G sz) s.heap s.heap [] := va_S.rf
  have hl : lv_has ls 4 [(0, .ref (adr G 0)), (1, .int x1), (2, .ref (adr G 66))] := hl
  refine lv_aload_n hx hb dL_when_0 rfl (lv_at hl 2 rfl) ?_
  refine lv_iconst (v := 0) hx hb dL_when_1 (by decide) ?_
  refine lv_aload_n hx hb dL_when_2 rfl (lv_at hl 0 rfl) ?_
  refine lv_iload_n hx hb dL_when_3 rfl (lv_at hl 1 rfl) ?_
  refine k_VX C0 hP hS (rest := [.int 0, .ref (adr G 66)]) (c_X4_when_i l G M o hst np nr k hO x1 hbd) mf_X4_when ml_L_55 (kd_lt (show kd 0 = 4 by decide) (by decide)) (ct_4 (show kd 0 = 4 by decide)) rfl hl.1 (by decide) (by decide) (Nat.le_of_ble_eq_true rfl) rfl rfl dL_when_4 (fun ce q9 H locs hP hS hce hcv hcl => ?_)
  refine vx_catch C0.ow [] ⟨0, 9, 12, 21⟩ [] hT (fun z hz => absurd hz List.not_mem_nil) (by decide) (by decide) (name := "java/lang/IndexOutOfBoundsException") (C0.ts _ cl_L_21) (va_Nw.use rfl (C0.nx.2.2.2.1 _ (by decide))) hce hcv hcl ?_
  refine lv_astore_n (lv' := [(3, .ref q9), (0, .ref (adr G 0)), (1, .int x1), (2, .ref (adr G 66))]) hx hb dL_when_12 rfl hl (by decide) rfl (fun ls hl => ?_)
  refine lv_iconst (v := 1) hx hb dL_when_13 (by decide) ?_
  exact e_Ii C0 hr hP hS rfl (by decide) dL_when_14
set_option maxHeartbeats 4000000 in
set_option maxRecDepth 100000 in
theorem c_L_advise (l : Launch) (G : GG) (M : Mem) (o : Nat → Int64) (np nr k : Nat) (hO : OKM M np nr k) (r : Nat) (hr0 : r < nr) (d : Nat) (hd1 : 1 ≤ d) (hd2 : d ≤ 200)  : MJ l yL_advise cL_advise 5 (some .int) [(0, 10, 13, 21), (0, 10, 17, 13)] 6 141 G [.ref (adr G 0), .int (nI r), .int (nI d), .ref (adr G 66)] M (adM M np nr k r (tk k d) 9) o (vp_updL o 0 (Int32.toInt64 ((whF (-1, 1) (adP M np nr k r (tk k d)) (fun j => nI (j + 1)) 9).2))) 0 0 0 := by
  refine MJ_of RL rfl (by decide +kernel) (Nat.le_of_ble_eq_true rfl) ?_
  intro p e s m below meth c sz C0 hr hT hP ls hl
  have hx := C0.1
  have hb := C0.2.1
  have hS : va_S (pA G sz) s.heap s.heap [] := va_S.rf
  have hl : lv_has ls 5 [(0, .ref (adr G 0)), (1, .int (nI r)), (2, .int (nI d)), (3, .ref (adr G 66))] := hl
  refine lv_aload_n hx hb dL_advise_0 rfl (lv_at hl 3 rfl) ?_
  refine lv_iconst (v := 0) hx hb dL_advise_1 (by decide) ?_
  refine lv_aload_n hx hb dL_advise_2 rfl (lv_at hl 0 rfl) ?_
  refine lv_iload_n hx hb dL_advise_3 rfl (lv_at hl 1 rfl) ?_
  refine lv_iload_n hx hb dL_advise_4 rfl (lv_at hl 2 rfl) ?_
  refine k_VI C0 hP hS (rest := [.int 0, .ref (adr G 66)]) (c_X4_advise l G M o np nr k hO r hr0 d hd1 hd2) mf_X4_advise ml_L_58 (kd_lt (show kd 0 = 4 by decide) (by decide)) (ct_4 (show kd 0 = 4 by decide)) rfl hl.1 (by decide) (by decide) (Nat.le_of_ble_eq_true rfl) rfl rfl dL_advise_5 (fun H locs hP hS => ?_)
  refine lv_i2l hx hb dL_advise_8 rfl ?_
  refine w_outst C0 hP hS dL_advise_9 (fun H locs hP hS => ?_)
  refine lv_goto (tgt := 21) hx hb dL_advise_10 (by decide) ?_
  refine lv_iconst (v := 0) hx hb dL_advise_21 (by decide) ?_
  exact e_Ii C0 hr hP hS rfl (by decide) dL_advise_22
set_option maxHeartbeats 4000000 in
set_option maxRecDepth 100000 in
theorem c_L_advise_a (l : Launch) (G : GG) (M : Mem) (o : Nat → Int64) (hst : l.stackTraces = false) (np nr k : Nat) (hO : OKM M np nr k) (r : Nat) (hr0 : r < nr) (a2 : Int32) (hbd : a2 < 1 ∨ ¬ a2 ≤ 200) : MJ l yL_advise cL_advise 5 (some .int) [(0, 10, 13, 21), (0, 10, 17, 13)] 8 136 G [.ref (adr G 0), .int (nI r), .int a2, .ref (adr G 66)] M M o o 2 1 6 := by
  refine MJ_of RL rfl (by decide +kernel) (Nat.le_of_ble_eq_true rfl) ?_
  intro p e s m below meth c sz C0 hr hT hP ls hl
  have hx := C0.1
  have hb := C0.2.1
  have hS : va_S (pA G sz) s.heap s.heap [] := va_S.rf
  have hl : lv_has ls 5 [(0, .ref (adr G 0)), (1, .int (nI r)), (2, .int a2), (3, .ref (adr G 66))] := hl
  refine lv_aload_n hx hb dL_advise_0 rfl (lv_at hl 3 rfl) ?_
  refine lv_iconst (v := 0) hx hb dL_advise_1 (by decide) ?_
  refine lv_aload_n hx hb dL_advise_2 rfl (lv_at hl 0 rfl) ?_
  refine lv_iload_n hx hb dL_advise_3 rfl (lv_at hl 1 rfl) ?_
  refine lv_iload_n hx hb dL_advise_4 rfl (lv_at hl 2 rfl) ?_
  refine k_VX C0 hP hS (rest := [.int 0, .ref (adr G 66)]) (c_X4_advise_a l G M o hst np nr k hO r hr0 a2 hbd) mf_X4_advise ml_L_58 (kd_lt (show kd 0 = 4 by decide) (by decide)) (ct_4 (show kd 0 = 4 by decide)) rfl hl.1 (by decide) (by decide) (Nat.le_of_ble_eq_true rfl) rfl rfl dL_advise_5 (fun ce q9 H locs hP hS hce hcv hcl => ?_)
  refine vx_catch C0.ow [⟨0, 10, 13, 21⟩] ⟨0, 10, 17, 13⟩ [] hT (fun z hz => by rcases List.mem_cons.mp hz with rfl | hz; exact Or.inr ⟨by decide, "java/lang/IndexOutOfBoundsException", C0.ts _ cl_L_21, C0.nx.2.2.2.2 ("java/lang/IllegalArgumentException", "java/lang/IndexOutOfBoundsException") (by decide)⟩; exact absurd hz List.not_mem_nil) (by decide) (by decide) (name := "java/lang/IllegalArgumentException") (C0.ts _ cl_L_13) (va_Nw.use rfl (C0.nx.2.2.2.1 _ (by decide))) hce hcv hcl ?_
  refine lv_astore (lv' := [(4, .ref q9), (0, .ref (adr G 0)), (1, .int (nI r)), (2, .int a2), (3, .ref (adr G 66))]) hx hb dL_advise_17 hl (by decide) rfl (fun ls hl => ?_)
  refine lv_iconst (v := 2) hx hb dL_advise_19 (by decide) ?_
  exact e_Ii C0 hr hP hS rfl (by decide) dL_advise_20
set_option maxHeartbeats 4000000 in
set_option maxRecDepth 100000 in
theorem c_L_advise_i (l : Launch) (G : GG) (M : Mem) (o : Nat → Int64) (hst : l.stackTraces = false) (np nr k : Nat) (hO : OKM M np nr k) (x1 a2 : Int32) (hbd : x1 < 0 ∨ ¬ x1 < nI nr) : MJ l yL_advise cL_advise 5 (some .int) [(0, 10, 13, 21), (0, 10, 17, 13)] 9 157 G [.ref (adr G 0), .int x1, .int a2, .ref (adr G 66)] M M o o 1 1 6 := by
  refine MJ_of RL rfl (by decide +kernel) (Nat.le_of_ble_eq_true rfl) ?_
  intro p e s m below meth c sz C0 hr hT hP ls hl
  have hx := C0.1
  have hb := C0.2.1
  have hS : va_S (pA G sz) s.heap s.heap [] := va_S.rf
  have hl : lv_has ls 5 [(0, .ref (adr G 0)), (1, .int x1), (2, .int a2), (3, .ref (adr G 66))] := hl
  refine lv_aload_n hx hb dL_advise_0 rfl (lv_at hl 3 rfl) ?_
  refine lv_iconst (v := 0) hx hb dL_advise_1 (by decide) ?_
  refine lv_aload_n hx hb dL_advise_2 rfl (lv_at hl 0 rfl) ?_
  refine lv_iload_n hx hb dL_advise_3 rfl (lv_at hl 1 rfl) ?_
  refine lv_iload_n hx hb dL_advise_4 rfl (lv_at hl 2 rfl) ?_
  refine k_VX C0 hP hS (rest := [.int 0, .ref (adr G 66)]) (c_X4_advise_i l G M o hst np nr k hO x1 a2 hbd) mf_X4_advise ml_L_58 (kd_lt (show kd 0 = 4 by decide) (by decide)) (ct_4 (show kd 0 = 4 by decide)) rfl hl.1 (by decide) (by decide) (Nat.le_of_ble_eq_true rfl) rfl rfl dL_advise_5 (fun ce q9 H locs hP hS hce hcv hcl => ?_)
  refine vx_catch C0.ow [] ⟨0, 10, 13, 21⟩ [⟨0, 10, 17, 13⟩] hT (fun z hz => absurd hz List.not_mem_nil) (by decide) (by decide) (name := "java/lang/IndexOutOfBoundsException") (C0.ts _ cl_L_21) (va_Nw.use rfl (C0.nx.2.2.2.1 _ (by decide))) hce hcv hcl ?_
  refine lv_astore (lv' := [(4, .ref q9), (0, .ref (adr G 0)), (1, .int x1), (2, .int a2), (3, .ref (adr G 66))]) hx hb dL_advise_13 hl (by decide) rfl (fun ls hl => ?_)
  refine lv_iconst (v := 1) hx hb dL_advise_15 (by decide) ?_
  exact e_Ii C0 hr hP hS rfl (by decide) dL_advise_16
set_option maxHeartbeats 4000000 in
set_option maxRecDepth 100000 in
theorem c_L_seen (l : Launch) (G : GG) (M : Mem) (o : Nat → Int64) (np nr k : Nat) (hO : OKM M np nr k) (i : Nat) (hi : i < np) : MJ l yL_seen cL_seen 4 (some .int) [(0, 9, 12, 21)] 4 89 G [.ref (adr G 0), .int (nI i), .ref (adr G 66)] M (snM M i (719 - k)) o (vp_updL o 0 (Int32.toInt64 (snW M nr i (719 - k)))) 0 0 0 := by
  refine MJ_of RL rfl (by decide +kernel) (Nat.le_of_ble_eq_true rfl) ?_
  intro p e s m below meth c sz C0 hr hT hP ls hl
  have hx := C0.1
  have hb := C0.2.1
  have hS : va_S (pA G sz) s.heap s.heap [] := va_S.rf
  have hl : lv_has ls 4 [(0, .ref (adr G 0)), (1, .int (nI i)), (2, .ref (adr G 66))] := hl
  refine lv_aload_n hx hb dL_seen_0 rfl (lv_at hl 2 rfl) ?_
  refine lv_iconst (v := 0) hx hb dL_seen_1 (by decide) ?_
  refine lv_aload_n hx hb dL_seen_2 rfl (lv_at hl 0 rfl) ?_
  refine lv_iload_n hx hb dL_seen_3 rfl (lv_at hl 1 rfl) ?_
  refine k_VI C0 hP hS (rest := [.int 0, .ref (adr G 66)]) (c_X4_seen l G M o np nr k hO i hi) mf_X4_seen ml_L_61 (kd_lt (show kd 0 = 4 by decide) (by decide)) (ct_4 (show kd 0 = 4 by decide)) rfl hl.1 (by decide) (by decide) (Nat.le_of_ble_eq_true rfl) rfl rfl dL_seen_4 (fun H locs hP hS => ?_)
  refine lv_i2l hx hb dL_seen_7 rfl ?_
  refine w_outst C0 hP hS dL_seen_8 (fun H locs hP hS => ?_)
  refine lv_goto (tgt := 15) hx hb dL_seen_9 (by decide) ?_
  refine lv_iconst (v := 0) hx hb dL_seen_15 (by decide) ?_
  exact e_Ii C0 hr hP hS rfl (by decide) dL_seen_16
set_option maxHeartbeats 4000000 in
set_option maxRecDepth 100000 in
theorem c_L_seen_i (l : Launch) (G : GG) (M : Mem) (o : Nat → Int64) (hst : l.stackTraces = false) (np nr k : Nat) (hO : OKM M np nr k) (x1 : Int32) (hbd : x1 < 0 ∨ ¬ x1 < nI np) : MJ l yL_seen cL_seen 4 (some .int) [(0, 9, 12, 21)] 9 155 G [.ref (adr G 0), .int x1, .ref (adr G 66)] M M o o 1 1 6 := by
  refine MJ_of RL rfl (by decide +kernel) (Nat.le_of_ble_eq_true rfl) ?_
  intro p e s m below meth c sz C0 hr hT hP ls hl
  have hx := C0.1
  have hb := C0.2.1
  have hS : va_S (pA G sz) s.heap s.heap [] := va_S.rf
  have hl : lv_has ls 4 [(0, .ref (adr G 0)), (1, .int x1), (2, .ref (adr G 66))] := hl
  refine lv_aload_n hx hb dL_seen_0 rfl (lv_at hl 2 rfl) ?_
  refine lv_iconst (v := 0) hx hb dL_seen_1 (by decide) ?_
  refine lv_aload_n hx hb dL_seen_2 rfl (lv_at hl 0 rfl) ?_
  refine lv_iload_n hx hb dL_seen_3 rfl (lv_at hl 1 rfl) ?_
  refine k_VX C0 hP hS (rest := [.int 0, .ref (adr G 66)]) (c_X4_seen_i l G M o hst np nr k hO x1 hbd) mf_X4_seen ml_L_61 (kd_lt (show kd 0 = 4 by decide) (by decide)) (ct_4 (show kd 0 = 4 by decide)) rfl hl.1 (by decide) (by decide) (Nat.le_of_ble_eq_true rfl) rfl rfl dL_seen_4 (fun ce q9 H locs hP hS hce hcv hcl => ?_)
  refine vx_catch C0.ow [] ⟨0, 9, 12, 21⟩ [] hT (fun z hz => absurd hz List.not_mem_nil) (by decide) (by decide) (name := "java/lang/IndexOutOfBoundsException") (C0.ts _ cl_L_21) (va_Nw.use rfl (C0.nx.2.2.2.1 _ (by decide))) hce hcv hcl ?_
  refine lv_astore_n (lv' := [(3, .ref q9), (0, .ref (adr G 0)), (1, .int x1), (2, .ref (adr G 66))]) hx hb dL_seen_12 rfl hl (by decide) rfl (fun ls hl => ?_)
  refine lv_iconst (v := 1) hx hb dL_seen_13 (by decide) ?_
  exact e_Ii C0 hr hP hS rfl (by decide) dL_seen_14
set_option maxHeartbeats 4000000 in
set_option maxRecDepth 100000 in
theorem c_L_foresee (l : Launch) (G : GG) (M : Mem) (o : Nat → Int64) (np nr k : Nat) (hO : OKM M np nr k) (d : Nat) (hd1 : 1 ≤ d) (hd2 : d ≤ 720) (w : Nat) (hw : w < 3) : MJ l yL_foresee cL_foresee 5 (some .int) [(0, 10, 13, 13), (0, 10, 17, 21)] 7 159 G [.ref (adr G 0), .int (nI d), .int (nI w), .ref (adr G 66)] M (lgM (cpM M np nr) 25 np nr k (tk k d)) o (vp_updL o 0 (Int32.toInt64 (fsF M np nr k d w))) 0 0 0 := by
  refine MJ_of RL rfl (by decide +kernel) (Nat.le_of_ble_eq_true rfl) ?_
  intro p e s m below meth c sz C0 hr hT hP ls hl
  have hx := C0.1
  have hb := C0.2.1
  have hS : va_S (pA G sz) s.heap s.heap [] := va_S.rf
  have hl : lv_has ls 5 [(0, .ref (adr G 0)), (1, .int (nI d)), (2, .int (nI w)), (3, .ref (adr G 66))] := hl
  refine lv_aload_n hx hb dL_foresee_0 rfl (lv_at hl 3 rfl) ?_
  refine lv_iconst (v := 0) hx hb dL_foresee_1 (by decide) ?_
  refine lv_aload_n hx hb dL_foresee_2 rfl (lv_at hl 0 rfl) ?_
  refine lv_iload_n hx hb dL_foresee_3 rfl (lv_at hl 1 rfl) ?_
  refine lv_iload_n hx hb dL_foresee_4 rfl (lv_at hl 2 rfl) ?_
  refine k_VI C0 hP hS (rest := [.int 0, .ref (adr G 66)]) (c_X4_foresee l G M o np nr k hO d hd1 hd2 w hw) mf_X4_foresee ml_L_64 (kd_lt (show kd 0 = 4 by decide) (by decide)) (ct_4 (show kd 0 = 4 by decide)) rfl hl.1 (by decide) (by decide) (Nat.le_of_ble_eq_true rfl) rfl rfl dL_foresee_5 (fun H locs hP hS => ?_)
  refine lv_i2l hx hb dL_foresee_8 rfl ?_
  refine w_outst C0 hP hS dL_foresee_9 (fun H locs hP hS => ?_)
  refine lv_goto (tgt := 21) hx hb dL_foresee_10 (by decide) ?_
  refine lv_iconst (v := 0) hx hb dL_foresee_21 (by decide) ?_
  exact e_Ii C0 hr hP hS rfl (by decide) dL_foresee_22
set_option maxHeartbeats 4000000 in
set_option maxRecDepth 100000 in
theorem c_L_foresee_a (l : Launch) (G : GG) (M : Mem) (o : Nat → Int64) (hst : l.stackTraces = false) (np nr k : Nat) (hO : OKM M np nr k) (x1 a2 : Int32) (hbd : x1 < 1 ∨ ¬ x1 ≤ 720) : MJ l yL_foresee cL_foresee 5 (some .int) [(0, 10, 13, 13), (0, 10, 17, 21)] 8 133 G [.ref (adr G 0), .int x1, .int a2, .ref (adr G 66)] M M o o 1 1 6 := by
  refine MJ_of RL rfl (by decide +kernel) (Nat.le_of_ble_eq_true rfl) ?_
  intro p e s m below meth c sz C0 hr hT hP ls hl
  have hx := C0.1
  have hb := C0.2.1
  have hS : va_S (pA G sz) s.heap s.heap [] := va_S.rf
  have hl : lv_has ls 5 [(0, .ref (adr G 0)), (1, .int x1), (2, .int a2), (3, .ref (adr G 66))] := hl
  refine lv_aload_n hx hb dL_foresee_0 rfl (lv_at hl 3 rfl) ?_
  refine lv_iconst (v := 0) hx hb dL_foresee_1 (by decide) ?_
  refine lv_aload_n hx hb dL_foresee_2 rfl (lv_at hl 0 rfl) ?_
  refine lv_iload_n hx hb dL_foresee_3 rfl (lv_at hl 1 rfl) ?_
  refine lv_iload_n hx hb dL_foresee_4 rfl (lv_at hl 2 rfl) ?_
  refine k_VX C0 hP hS (rest := [.int 0, .ref (adr G 66)]) (c_X4_foresee_a l G M o hst np nr k hO x1 a2 hbd) mf_X4_foresee ml_L_64 (kd_lt (show kd 0 = 4 by decide) (by decide)) (ct_4 (show kd 0 = 4 by decide)) rfl hl.1 (by decide) (by decide) (Nat.le_of_ble_eq_true rfl) rfl rfl dL_foresee_5 (fun ce q9 H locs hP hS hce hcv hcl => ?_)
  refine vx_catch C0.ow [] ⟨0, 10, 13, 13⟩ [⟨0, 10, 17, 21⟩] hT (fun z hz => absurd hz List.not_mem_nil) (by decide) (by decide) (name := "java/lang/IllegalArgumentException") (C0.ts _ cl_L_13) (va_Nw.use rfl (C0.nx.2.2.2.1 _ (by decide))) hce hcv hcl ?_
  refine lv_astore (lv' := [(4, .ref q9), (0, .ref (adr G 0)), (1, .int x1), (2, .int a2), (3, .ref (adr G 66))]) hx hb dL_foresee_13 hl (by decide) rfl (fun ls hl => ?_)
  refine lv_iconst (v := 1) hx hb dL_foresee_15 (by decide) ?_
  exact e_Ii C0 hr hP hS rfl (by decide) dL_foresee_16
set_option maxHeartbeats 4000000 in
set_option maxRecDepth 100000 in
theorem c_L_foresee_i (l : Launch) (G : GG) (M : Mem) (o : Nat → Int64) (hst : l.stackTraces = false) (np nr k : Nat) (hO : OKM M np nr k) (d : Nat) (hd1 : 1 ≤ d) (hd2 : d ≤ 720) (a2 : Int32) (hbd : a2 < 0 ∨ ¬ a2 < 3) : MJ l yL_foresee cL_foresee 5 (some .int) [(0, 10, 13, 13), (0, 10, 17, 21)] 8 133 G [.ref (adr G 0), .int (nI d), .int a2, .ref (adr G 66)] M M o o 2 1 6 := by
  refine MJ_of RL rfl (by decide +kernel) (Nat.le_of_ble_eq_true rfl) ?_
  intro p e s m below meth c sz C0 hr hT hP ls hl
  have hx := C0.1
  have hb := C0.2.1
  have hS : va_S (pA G sz) s.heap s.heap [] := va_S.rf
  have hl : lv_has ls 5 [(0, .ref (adr G 0)), (1, .int (nI d)), (2, .int a2), (3, .ref (adr G 66))] := hl
  refine lv_aload_n hx hb dL_foresee_0 rfl (lv_at hl 3 rfl) ?_
  refine lv_iconst (v := 0) hx hb dL_foresee_1 (by decide) ?_
  refine lv_aload_n hx hb dL_foresee_2 rfl (lv_at hl 0 rfl) ?_
  refine lv_iload_n hx hb dL_foresee_3 rfl (lv_at hl 1 rfl) ?_
  refine lv_iload_n hx hb dL_foresee_4 rfl (lv_at hl 2 rfl) ?_
  refine k_VX C0 hP hS (rest := [.int 0, .ref (adr G 66)]) (c_X4_foresee_i l G M o hst np nr k hO d hd1 hd2 a2 hbd) mf_X4_foresee ml_L_64 (kd_lt (show kd 0 = 4 by decide) (by decide)) (ct_4 (show kd 0 = 4 by decide)) rfl hl.1 (by decide) (by decide) (Nat.le_of_ble_eq_true rfl) rfl rfl dL_foresee_5 (fun ce q9 H locs hP hS hce hcv hcl => ?_)
  refine vx_catch C0.ow [⟨0, 10, 13, 13⟩] ⟨0, 10, 17, 21⟩ [] hT (fun z hz => by rcases List.mem_cons.mp hz with rfl | hz; exact Or.inr ⟨by decide, "java/lang/IllegalArgumentException", C0.ts _ cl_L_13, C0.nx.2.2.2.2 ("java/lang/IndexOutOfBoundsException", "java/lang/IllegalArgumentException") (by decide)⟩; exact absurd hz List.not_mem_nil) (by decide) (by decide) (name := "java/lang/IndexOutOfBoundsException") (C0.ts _ cl_L_21) (va_Nw.use rfl (C0.nx.2.2.2.1 _ (by decide))) hce hcv hcl ?_
  refine lv_astore (lv' := [(4, .ref q9), (0, .ref (adr G 0)), (1, .int (nI d)), (2, .int a2), (3, .ref (adr G 66))]) hx hb dL_foresee_17 hl (by decide) rfl (fun ls hl => ?_)
  refine lv_iconst (v := 2) hx hb dL_foresee_19 (by decide) ?_
  exact e_Ii C0 hr hP hS rfl (by decide) dL_foresee_20
end LWA
