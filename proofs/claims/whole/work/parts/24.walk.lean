section WLK
variable {p : Program} {l : Launch} {e : Env} {R : Room} {args : Array Value} {s : State} {m : MethodId} {below : List Frame} {meth : Method} {c : Code} {H : Heap} {locs : List Loc} {cells slots : Nat} {Q : State → Prop} {cc : ByteArray} {pc : Nat} {ls : Array Slot} {rest : List Value} {own : String} {nL : Nat} {G : GG} {sz : Nat} {M : Mem} {o : Nat → Int64}
variable {b L i np nr k : Nat} {xs : Nat → Int32} {below : List Frame}
theorem lg_eq {x y : Int64} (h : x = y) : lg_cmp x y = 0 := by
  subst h
  unfold lg_cmp
  rw [if_neg (by simp), if_pos rfl]
theorem x_sld (C0 : CX p s m args meth c cc own nL G s.heap.size) (hX : va_X b L xs s s.heap) (hbl : b < s.heap.size) (hbA : ¬ pA G s.heap.size b) (hS : va_S (pA G s.heap.size) s.heap H locs) {q : Nat} (hq : q < L) (hL : L < 2 ^ 31) (dg : decode cc pc = .ok (.iaload, 1)) (kk : W p l e R s m args below meth c H locs cells slots Q (F0 m (pc + 1) ls (.int (xs q) :: rest))) : W p l e R s m args below meth c H locs cells slots Q (F0 m pc ls (.int (nI q) :: .ref b :: rest)) :=
  va_sld C0.1 C0.2.1 hX hbl hbA hS (vp_in_nI hq hL) dg (by rw [nI_clamp (by omega)]; exact kk)
theorem k_J (C0 : CX p s m args meth c cc own nL G sz) (hP : PW G M o H) (hS : va_S (pA G sz) s.heap H locs) {na n fr lo mc ms idx : Nat} {As rest st0 : List Value} {y : MethodName} {b : ByteArray} {r : Option FieldType} {hh : List (Nat × Nat × Nat × Nat)} {M' : Mem} {o' : Nat → Int64} {res : Int32} (hM : MJ l y b n r hh fr lo G As M M' o o' res mc ms) (mf : MFW y b n r hh na) (hlink : Cond.methodLink own idx y ∈ UU) (hls : ls.size = nL) (hR : fr + 1 ≤ R.frames ∧ 8 + (n + 11) + lo ≤ R.locals) (hroom : cells + mc ≤ R.cells ∧ slots + ms ≤ R.slots) (hw : (rest.map fun v => v.category).sum ≤ 8) (hna : As.length = na) (hst : st0 = As.reverse ++ rest) (dg : decode cc pc = .ok (.invokestatic idx, 3))
    (kk : ∀ (H1 : Heap) (locs1 : List Loc), PW G M' o' H1 → va_S (pA G sz) s.heap H1 locs1 → W p l e R s m args below meth c H1 locs1 (cells + mc) (slots + ms) Q (F0 m (pc + 3) ls (.int res :: rest))) : W p l e R s m args below meth c H locs cells slots Q (F0 m pc ls (st0)) := by
  have hG : GoodIn UU (va_wsS own idx y (wsW y b n r hh)) := by
    refine goodIn_app (fun w hw => ?_) (fun w hw => ?_)
    · simp only [List.mem_cons, List.not_mem_nil, or_false] at hw
      rcases hw with e | e | e <;> rw [e]
      · exact ⟨hlink, UU_good _ hlink⟩
      · exact ⟨mf.1.2.1, UU_good _ mf.1.2.1⟩
      · exact ⟨mf.1.2.2, UU_good _ mf.1.2.2⟩
    · rcases List.mem_cons.mp hw with e | hw
      · rw [e]; exact ⟨mf.1.1, UU_good _ mf.1.1⟩
      · exact ⟨hw, UU_good _ hw⟩
  refine va_calli (vx_runSW (As := As) (rest := rest) ⟨C0.1, C0.2.1, C0.2.2.1, C0.ow, C0.ts⟩ (hM H.size) (vx_cwSW na C0.ts hG rfl rfl rfl mf.2 hR) ⟨PCW_blind, fun U hU hW => ⟨rfl, C0.ev.call hS hU hW, by rw [hU]; exact hP⟩⟩ rfl hna hls hst (lv_room hw) dg hroom) hS (fun q _ h => C0.mono hS q h) (C0.mono hS) (fun r1 u t H1 locs1 ht hvm hw1 hB hz1 hk1 hS1 => ?_)
  rw [ht] at hB
  subst hw1
  exact kk H1 locs1 hB hS1
theorem ml_L_71 : Cond.methodLink RL 71 yL_pass ∈ UU := List.mem_filter.mpr ⟨List.mem_append_right _ (List.mem_append_left _ (List.mem_of_getElem? (i := 227) rfl)), rfl⟩
theorem ml_L_76 : Cond.methodLink RL 76 yX6_pass ∈ UU := List.mem_filter.mpr ⟨List.mem_append_right _ (List.mem_append_right _ (List.mem_append_right _ (List.mem_append_left _ (List.mem_of_getElem? (i := 146) rfl)))), rfl⟩
theorem ml_L_77 : Cond.methodLink RL 77 yX6_thrown ∈ UU := List.mem_filter.mpr ⟨List.mem_append_right _ (List.mem_append_right _ (List.mem_append_right _ (List.mem_append_left _ (List.mem_of_getElem? (i := 142) rfl)))), rfl⟩
theorem ml_L_81 : Cond.methodLink RL 81 yL_setLight ∈ UU := List.mem_filter.mpr ⟨List.mem_append_right _ (List.mem_append_right _ (List.mem_append_left _ (List.mem_of_getElem? (i := 84) rfl))), rfl⟩
theorem ml_L_84 : Cond.methodLink RL 84 yX6_setLight ∈ UU := List.mem_filter.mpr ⟨List.mem_append_right _ (List.mem_append_right _ (List.mem_append_right _ (List.mem_append_left _ (List.mem_of_getElem? (i := 157) rfl)))), rfl⟩
theorem ml_L_85 : Cond.methodLink RL 85 yL_addRoom ∈ UU := List.mem_filter.mpr ⟨List.mem_append_right _ (List.mem_append_right _ (List.mem_append_left _ (List.mem_of_getElem? (i := 110) rfl))), rfl⟩
theorem ml_L_87 : Cond.methodLink RL 87 yX6_addRoom ∈ UU := List.mem_filter.mpr ⟨List.mem_append_right _ (List.mem_append_right _ (List.mem_append_right _ (List.mem_append_left _ (List.mem_of_getElem? (i := 161) rfl)))), rfl⟩
theorem ml_L_88 : Cond.methodLink RL 88 yL_bore ∈ UU := List.mem_filter.mpr ⟨List.mem_append_right _ (List.mem_append_right _ (List.mem_append_left _ (List.mem_of_getElem? (i := 125) rfl))), rfl⟩
theorem ml_L_91 : Cond.methodLink RL 91 yX6_bore ∈ UU := List.mem_filter.mpr ⟨List.mem_append_right _ (List.mem_append_right _ (List.mem_append_right _ (List.mem_append_left _ (List.mem_of_getElem? (i := 165) rfl)))), rfl⟩
theorem ml_L_92 : Cond.methodLink RL 92 yL_paint ∈ UU := List.mem_filter.mpr ⟨List.mem_append_right _ (List.mem_append_right _ (List.mem_append_left _ (List.mem_of_getElem? (i := 139) rfl))), rfl⟩
theorem ml_L_94 : Cond.methodLink RL 94 yX6_paint ∈ UU := List.mem_filter.mpr ⟨List.mem_append_right _ (List.mem_append_right _ (List.mem_append_right _ (List.mem_append_left _ (List.mem_of_getElem? (i := 173) rfl)))), rfl⟩
theorem ml_L_95 : Cond.methodLink RL 95 yL_seat ∈ UU := List.mem_filter.mpr ⟨List.mem_append_right _ (List.mem_append_right _ (List.mem_append_left _ (List.mem_of_getElem? (i := 146) rfl))), rfl⟩
theorem ml_L_97 : Cond.methodLink RL 97 yX6_seat ∈ UU := List.mem_filter.mpr ⟨List.mem_append_right _ (List.mem_append_right _ (List.mem_append_right _ (List.mem_append_left _ (List.mem_of_getElem? (i := 177) rfl)))), rfl⟩
theorem ml_L_98 : Cond.methodLink RL 98 yL_passer ∈ UU := List.mem_filter.mpr ⟨List.mem_append_right _ (List.mem_append_right _ (List.mem_append_left _ (List.mem_of_getElem? (i := 153) rfl))), rfl⟩
theorem ml_L_100 : Cond.methodLink RL 100 yX6_passer ∈ UU := List.mem_filter.mpr ⟨List.mem_append_right _ (List.mem_append_right _ (List.mem_append_right _ (List.mem_append_left _ (List.mem_of_getElem? (i := 181) rfl)))), rfl⟩
theorem ml_L_101 : Cond.methodLink RL 101 yL_room ∈ UU := List.mem_filter.mpr ⟨List.mem_append_right _ (List.mem_append_right _ (List.mem_append_left _ (List.mem_of_getElem? (i := 164) rfl))), rfl⟩
theorem ml_L_103 : Cond.methodLink RL 103 yX6_room ∈ UU := List.mem_filter.mpr ⟨List.mem_append_right _ (List.mem_append_right _ (List.mem_append_right _ (List.mem_append_left _ (List.mem_of_getElem? (i := 210) rfl)))), rfl⟩
theorem ml_L_104 : Cond.methodLink RL 104 yL_wall ∈ UU := List.mem_filter.mpr ⟨List.mem_append_right _ (List.mem_append_right _ (List.mem_append_left _ (List.mem_of_getElem? (i := 171) rfl))), rfl⟩
theorem ml_L_106 : Cond.methodLink RL 106 yX6_wall ∈ UU := List.mem_filter.mpr ⟨List.mem_append_right _ (List.mem_append_right _ (List.mem_append_right _ (List.mem_append_left _ (List.mem_of_getElem? (i := 223) rfl)))), rfl⟩
theorem ml_L_107 : Cond.methodLink RL 107 yL_bright ∈ UU := List.mem_filter.mpr ⟨List.mem_append_right _ (List.mem_append_right _ (List.mem_append_left _ (List.mem_of_getElem? (i := 183) rfl))), rfl⟩
theorem ml_L_109 : Cond.methodLink RL 109 yX6_bright ∈ UU := List.mem_filter.mpr ⟨List.mem_append_right _ (List.mem_append_right _ (List.mem_append_right _ (List.mem_append_left _ (List.mem_of_getElem? (i := 227) rfl)))), rfl⟩
theorem ml_L_110 : Cond.methodLink RL 110 yL_count ∈ UU := List.mem_filter.mpr ⟨List.mem_append_right _ (List.mem_append_right _ (List.mem_append_left _ (List.mem_of_getElem? (i := 192) rfl))), rfl⟩
theorem ml_L_113 : Cond.methodLink RL 113 yX6_count ∈ UU := List.mem_filter.mpr ⟨List.mem_append_right _ (List.mem_append_right _ (List.mem_append_right _ (List.mem_append_left _ (List.mem_of_getElem? (i := 233) rfl)))), rfl⟩
theorem ml_L_114 : Cond.methodLink RL 114 yL_go ∈ UU := List.mem_filter.mpr ⟨List.mem_append_right _ (List.mem_append_right _ (List.mem_append_left _ (List.mem_of_getElem? (i := 199) rfl))), rfl⟩
theorem ml_L_116 : Cond.methodLink RL 116 yX6_go ∈ UU := List.mem_filter.mpr ⟨List.mem_append_right _ (List.mem_append_right _ (List.mem_append_right _ (List.mem_append_right _ (List.mem_of_getElem? (i := 14) rfl)))), rfl⟩
theorem ml_L_117 : Cond.methodLink RL 117 yL_when ∈ UU := List.mem_filter.mpr ⟨List.mem_append_right _ (List.mem_append_right _ (List.mem_append_left _ (List.mem_of_getElem? (i := 238) rfl))), rfl⟩
theorem ml_L_119 : Cond.methodLink RL 119 yX6_when ∈ UU := List.mem_filter.mpr ⟨List.mem_append_right _ (List.mem_append_right _ (List.mem_append_right _ (List.mem_append_right _ (List.mem_of_getElem? (i := 30) rfl)))), rfl⟩
theorem ml_L_120 : Cond.methodLink RL 120 yL_advise ∈ UU := List.mem_filter.mpr ⟨List.mem_append_right _ (List.mem_append_right _ (List.mem_append_right _ (List.mem_append_left _ (List.mem_of_getElem? (i := 19) rfl)))), rfl⟩
theorem ml_L_122 : Cond.methodLink RL 122 yX6_advise ∈ UU := List.mem_filter.mpr ⟨List.mem_append_right _ (List.mem_append_right _ (List.mem_append_right _ (List.mem_append_right _ (List.mem_of_getElem? (i := 46) rfl)))), rfl⟩
theorem ml_L_123 : Cond.methodLink RL 123 yL_seen ∈ UU := List.mem_filter.mpr ⟨List.mem_append_right _ (List.mem_append_right _ (List.mem_append_right _ (List.mem_append_left _ (List.mem_of_getElem? (i := 31) rfl)))), rfl⟩
theorem ml_L_125 : Cond.methodLink RL 125 yX6_seen ∈ UU := List.mem_filter.mpr ⟨List.mem_append_right _ (List.mem_append_right _ (List.mem_append_right _ (List.mem_append_right _ (List.mem_of_getElem? (i := 50) rfl)))), rfl⟩
theorem ml_L_126 : Cond.methodLink RL 126 yL_foresee ∈ UU := List.mem_filter.mpr ⟨List.mem_append_right _ (List.mem_append_right _ (List.mem_append_right _ (List.mem_append_left _ (List.mem_of_getElem? (i := 45) rfl)))), rfl⟩
theorem ml_L_128 : Cond.methodLink RL 128 yX6_foresee ∈ UU := List.mem_filter.mpr ⟨List.mem_append_right _ (List.mem_append_right _ (List.mem_append_right _ (List.mem_append_right _ (List.mem_of_getElem? (i := 54) rfl)))), rfl⟩
theorem ml_L_129 : Cond.methodLink RL 129 yX4_mean ∈ UU := List.mem_filter.mpr ⟨List.mem_append_right _ (List.mem_append_left _ (List.mem_of_getElem? (i := 144) rfl)), rfl⟩
theorem ml_L_133 : Cond.methodLink RL 133 yX6_mean ∈ UU := List.mem_filter.mpr ⟨List.mem_append_right _ (List.mem_append_right _ (List.mem_append_right _ (List.mem_append_right _ (List.mem_of_getElem? (i := 58) rfl)))), rfl⟩
theorem ml_L_134 : Cond.methodLink RL 134 yX4_digest ∈ UU := List.mem_filter.mpr ⟨List.mem_append_right _ (List.mem_append_left _ (List.mem_of_getElem? (i := 152) rfl)), rfl⟩
theorem ml_L_138 : Cond.methodLink RL 138 yX6_digest ∈ UU := List.mem_filter.mpr ⟨List.mem_append_right _ (List.mem_append_right _ (List.mem_append_right _ (List.mem_append_right _ (List.mem_of_getElem? (i := 62) rfl)))), rfl⟩
set_option maxHeartbeats 4000000 in
set_option maxRecDepth 100000 in
theorem w_pass (C0 : CX p s m #[Value.ref b] meth c cL_law RL 9 G s.heap.size) (hX : va_X b L xs s s.heap) (hbl : b < s.heap.size) (hbA : ¬ pA G s.heap.size b) (hi : i + 5 ≤ L) (hL : L ≤ 2560) (hP : PW G M o H) (hS : va_S (pA G s.heap.size) s.heap H locs) (hl : lv_has ls 9 [(4, .int (nI i)), (0, .ref b), (1, .ref (adr G 0)), (2, .ref (adr G 46)), (3, .ref (adr G 66))]) (hc : cells + 20 ≤ 601024 ∧ slots + 200 ≤ 7293034) (hst : l.stackTraces = false) (hR : R2 M M np nr k) (kk : ∀ (M' : Mem) (o' : Nat → Int64) (np' nr' k' : Nat) (H1 : Heap) (locs1 : List Loc) (ls' : Array Slot), R2 M' M' np' nr' k' → PW G M' o' H1 → va_S (pA G s.heap.size) s.heap H1 locs1 → lv_has ls' 9 [(4, .int (nI i)), (0, .ref b), (1, .ref (adr G 0)), (2, .ref (adr G 46)), (3, .ref (adr G 66))] → W p l e room_1 s m #[Value.ref b] below meth c H1 locs1 (cells + 20) (slots + 200) Q (F0 m 1267 ls' [])) : W p l e room_1 s m #[Value.ref b] below meth c H locs cells slots Q (F0 m 124 ls []) := by
  have hx := C0.1
  have hb := C0.2.1
  obtain ⟨M1, o1, cd, res, M2, fr, lo, mc, ms, fr2, lo2, mc2, ms2, hbd, hJ, hI, h0, h1, np9, nr9, k9, hR9⟩ := p_pass l hst G hR o (xs (i + 1)) (xs (i + 2)) (xs (i + 3)) (xs (i + 4))
  refine lv_aload_n hx hb dL_law_124 rfl (lv_at hl 2 rfl) ?_
  refine lv_aload_n hx hb dL_law_125 rfl (lv_at hl 1 rfl) ?_
  refine lv_iload hx hb dL_law_126 (lv_at hl 0 rfl) ?_
  refine lv_iconst (v := 1) hx hb dL_law_128 (by decide) ?_
  refine lv_iadd hx hb dL_law_129 ?_
  refine lv_topE (y := nI (i + 1)) (nI_add i 1 : nI i + nI 1 = nI (i + 1)) ?_
  refine x_sld C0 hX hbl hbA hS (q := (i + 1)) (by omega) (by omega) dL_law_130 ?_
  refine lv_aload_n hx hb dL_law_131 rfl (lv_at hl 1 rfl) ?_
  refine lv_iload hx hb dL_law_132 (lv_at hl 0 rfl) ?_
  refine lv_iconst (v := 2) hx hb dL_law_134 (by decide) ?_
  refine lv_iadd hx hb dL_law_135 ?_
  refine lv_topE (y := nI (i + 2)) (nI_add i 2 : nI i + nI 2 = nI (i + 2)) ?_
  refine x_sld C0 hX hbl hbA hS (q := (i + 2)) (by omega) (by omega) dL_law_136 ?_
  refine lv_aload_n hx hb dL_law_137 rfl (lv_at hl 1 rfl) ?_
  refine lv_iload hx hb dL_law_138 (lv_at hl 0 rfl) ?_
  refine lv_iconst (v := 3) hx hb dL_law_140 (by decide) ?_
  refine lv_iadd hx hb dL_law_141 ?_
  refine lv_topE (y := nI (i + 3)) (nI_add i 3 : nI i + nI 3 = nI (i + 3)) ?_
  refine x_sld C0 hX hbl hbA hS (q := (i + 3)) (by omega) (by omega) dL_law_142 ?_
  refine lv_aload_n hx hb dL_law_143 rfl (lv_at hl 1 rfl) ?_
  refine lv_iload hx hb dL_law_144 (lv_at hl 0 rfl) ?_
  refine lv_iconst (v := 4) hx hb dL_law_146 (by decide) ?_
  refine lv_iadd hx hb dL_law_147 ?_
  refine lv_topE (y := nI (i + 4)) (nI_add i 4 : nI i + nI 4 = nI (i + 4)) ?_
  refine x_sld C0 hX hbl hbA hS (q := (i + 4)) (by omega) (by omega) dL_law_148 ?_
  refine lv_aload_n hx hb dL_law_149 rfl (lv_at hl 4 rfl) ?_
  refine k_J C0 hP hS (As := [.ref (adr G 0), .int (xs (i + 1)), .int (xs (i + 2)), .int (xs (i + 3)), .int (xs (i + 4)), .ref (adr G 66)]) (rest := []) hJ mf_L_pass ml_L_71 hl.1 ⟨by show _ ≤ 12; omega, by show _ ≤ 426; omega⟩ ⟨by show _ ≤ 601024; omega, by show _ ≤ 7293034; omega⟩ (Nat.le_of_ble_eq_true rfl) rfl rfl dL_law_150 (fun H locs hP hS => ?_)
  refine lv_istore (lv' := [(5, .int cd), (4, .int (nI i)), (0, .ref b), (1, .ref (adr G 0)), (2, .ref (adr G 46)), (3, .ref (adr G 66))]) hx hb dL_law_153 hl (by decide) rfl (fun ls hl => ?_)
  refine lv_aload_n hx hb dL_law_155 rfl (lv_at hl 4 rfl) ?_
  refine lv_aload_n hx hb dL_law_156 rfl (lv_at hl 2 rfl) ?_
  refine lv_iload hx hb dL_law_157 (lv_at hl 1 rfl) ?_
  refine lv_iconst (v := 1) hx hb dL_law_159 (by decide) ?_
  refine lv_iadd hx hb dL_law_160 ?_
  refine lv_topE (y := nI (i + 1)) (nI_add i 1 : nI i + nI 1 = nI (i + 1)) ?_
  refine x_sld C0 hX hbl hbA hS (q := (i + 1)) (by omega) (by omega) dL_law_161 ?_
  refine lv_aload_n hx hb dL_law_162 rfl (lv_at hl 2 rfl) ?_
  refine lv_iload hx hb dL_law_163 (lv_at hl 1 rfl) ?_
  refine lv_iconst (v := 2) hx hb dL_law_165 (by decide) ?_
  refine lv_iadd hx hb dL_law_166 ?_
  refine lv_topE (y := nI (i + 2)) (nI_add i 2 : nI i + nI 2 = nI (i + 2)) ?_
  refine x_sld C0 hX hbl hbA hS (q := (i + 2)) (by omega) (by omega) dL_law_167 ?_
  refine lv_aload_n hx hb dL_law_168 rfl (lv_at hl 2 rfl) ?_
  refine lv_iload hx hb dL_law_169 (lv_at hl 1 rfl) ?_
  refine lv_iconst (v := 3) hx hb dL_law_171 (by decide) ?_
  refine lv_iadd hx hb dL_law_172 ?_
  refine lv_topE (y := nI (i + 3)) (nI_add i 3 : nI i + nI 3 = nI (i + 3)) ?_
  refine x_sld C0 hX hbl hbA hS (q := (i + 3)) (by omega) (by omega) dL_law_173 ?_
  refine lv_aload_n hx hb dL_law_174 rfl (lv_at hl 2 rfl) ?_
  refine lv_iload hx hb dL_law_175 (lv_at hl 1 rfl) ?_
  refine lv_iconst (v := 4) hx hb dL_law_177 (by decide) ?_
  refine lv_iadd hx hb dL_law_178 ?_
  refine lv_topE (y := nI (i + 4)) (nI_add i 4 : nI i + nI 4 = nI (i + 4)) ?_
  refine x_sld C0 hX hbl hbA hS (q := (i + 4)) (by omega) (by omega) dL_law_179 ?_
  refine k_VI C0 hP hS (rest := []) hI mf_X6_pass ml_L_76 (kd_lt (show kd 46 = 6 by decide) (by decide)) (ct_6 (show kd 46 = 6 by decide)) rfl hl.1 ⟨by show _ ≤ 12; omega, by show _ ≤ 426; omega⟩ ⟨by show _ ≤ 601024; omega, by show _ ≤ 7293034; omega⟩ (Nat.le_of_ble_eq_true rfl) rfl rfl dL_law_180 (fun H locs hP hS => ?_)
  refine lv_istore (lv' := [(6, .int res), (5, .int cd), (4, .int (nI i)), (0, .ref b), (1, .ref (adr G 0)), (2, .ref (adr G 46)), (3, .ref (adr G 66))]) hx hb dL_law_183 hl (by decide) rfl (fun ls hl => ?_)
  refine lv_aload_n hx hb dL_law_185 rfl (lv_at hl 5 rfl) ?_
  refine k_VI C0 hP hS (rest := []) (c_X6_thrown l G M2 o1) mf_X6_thrown ml_L_77 (kd_lt (show kd 46 = 6 by decide) (by decide)) (ct_6 (show kd 46 = 6 by decide)) rfl hl.1 ⟨by show _ ≤ 12; omega, by show _ ≤ 426; omega⟩ ⟨by show _ ≤ 601024; omega, by show _ ≤ 7293034; omega⟩ (Nat.le_of_ble_eq_true rfl) rfl rfl dL_law_186 (fun H locs hP hS => ?_)
  refine lv_topE (y := cd) h0 ?_
  refine lv_iload hx hb dL_law_189 (lv_at hl 1 rfl) ?_
  refine lv_icmp_eq (tgt := 196) hx hb dL_law_191 (by decide) (fun c_1 => ?_) (fun c_1 => ?_)
  · refine lv_iload hx hb dL_law_196 (lv_at hl 1 rfl) ?_
    refine lv_if_ne (tgt := 213) hx hb dL_law_198 (by decide) (fun c_2 => ?_) (fun c_2 => ?_)
    · refine lv_goto (tgt := 1267) hx hb dL_law_213 (by decide) ?_
      refine W.widen (k := cells + 20) (n := slots + 200) (by omega) (by omega) ?_
      exact kk _ _ _ _ _ _ _ _ hR9 hP hS (lv_sub hl [2, 3, 4, 5, 6] rfl)
    · refine lv_aload_n hx hb dL_law_201 rfl (lv_at hl 6 rfl) ?_
      refine lv_iconst (v := 0) hx hb dL_law_202 (by decide) ?_
      refine w_outld C0 hP dL_law_203 ?_
      refine lv_iload hx hb dL_law_204 (lv_at hl 0 rfl) ?_
      refine lv_i2l hx hb dL_law_206 rfl ?_
      refine W.lcmp hx hb dL_law_207 ?_
      refine lv_topE (y := 0) (lg_eq (h1 c_2)) ?_
      refine lv_if_eq (tgt := 213) hx hb dL_law_208 (by decide) (fun c_3 => ?_) (fun c_3 => ?_)
      · refine lv_goto (tgt := 1267) hx hb dL_law_213 (by decide) ?_
        refine W.widen (k := cells + 20) (n := slots + 200) (by omega) (by omega) ?_
        exact kk _ _ _ _ _ _ _ _ hR9 hP hS (lv_sub hl [2, 3, 4, 5, 6] rfl)
      · exact absurd rfl c_3
  · exact absurd rfl c_1
set_option maxHeartbeats 4000000 in
set_option maxRecDepth 100000 in
theorem w_setLight (C0 : CX p s m #[Value.ref b] meth c cL_law RL 9 G s.heap.size) (hX : va_X b L xs s s.heap) (hbl : b < s.heap.size) (hbA : ¬ pA G s.heap.size b) (hi : i + 5 ≤ L) (hL : L ≤ 2560) (hP : PW G M o H) (hS : va_S (pA G s.heap.size) s.heap H locs) (hl : lv_has ls 9 [(4, .int (nI i)), (0, .ref b), (1, .ref (adr G 0)), (2, .ref (adr G 46)), (3, .ref (adr G 66))]) (hc : cells + 20 ≤ 601024 ∧ slots + 200 ≤ 7293034) (hst : l.stackTraces = false) (hR : R2 M M np nr k) (kk : ∀ (M' : Mem) (o' : Nat → Int64) (np' nr' k' : Nat) (H1 : Heap) (locs1 : List Loc) (ls' : Array Slot), R2 M' M' np' nr' k' → PW G M' o' H1 → va_S (pA G s.heap.size) s.heap H1 locs1 → lv_has ls' 9 [(4, .int (nI i)), (0, .ref b), (1, .ref (adr G 0)), (2, .ref (adr G 46)), (3, .ref (adr G 66))] → W p l e room_1 s m #[Value.ref b] below meth c H1 locs1 (cells + 20) (slots + 200) Q (F0 m 1267 ls' [])) : W p l e room_1 s m #[Value.ref b] below meth c H locs cells slots Q (F0 m 216 ls []) := by
  have hx := C0.1
  have hb := C0.2.1
  obtain ⟨M1, o1, cd, res, M2, fr, lo, mc, ms, fr2, lo2, mc2, ms2, hbd, hJ, hI, h0, h1, np9, nr9, k9, hR9⟩ := p_setLight l hst G hR o (xs (i + 1)) (xs (i + 2)) (xs (i + 3))
  refine lv_aload_n hx hb dL_law_216 rfl (lv_at hl 2 rfl) ?_
  refine lv_aload_n hx hb dL_law_217 rfl (lv_at hl 1 rfl) ?_
  refine lv_iload hx hb dL_law_218 (lv_at hl 0 rfl) ?_
  refine lv_iconst (v := 1) hx hb dL_law_220 (by decide) ?_
  refine lv_iadd hx hb dL_law_221 ?_
  refine lv_topE (y := nI (i + 1)) (nI_add i 1 : nI i + nI 1 = nI (i + 1)) ?_
  refine x_sld C0 hX hbl hbA hS (q := (i + 1)) (by omega) (by omega) dL_law_222 ?_
  refine lv_aload_n hx hb dL_law_223 rfl (lv_at hl 1 rfl) ?_
  refine lv_iload hx hb dL_law_224 (lv_at hl 0 rfl) ?_
  refine lv_iconst (v := 2) hx hb dL_law_226 (by decide) ?_
  refine lv_iadd hx hb dL_law_227 ?_
  refine lv_topE (y := nI (i + 2)) (nI_add i 2 : nI i + nI 2 = nI (i + 2)) ?_
  refine x_sld C0 hX hbl hbA hS (q := (i + 2)) (by omega) (by omega) dL_law_228 ?_
  refine lv_aload_n hx hb dL_law_229 rfl (lv_at hl 1 rfl) ?_
  refine lv_iload hx hb dL_law_230 (lv_at hl 0 rfl) ?_
  refine lv_iconst (v := 3) hx hb dL_law_232 (by decide) ?_
  refine lv_iadd hx hb dL_law_233 ?_
  refine lv_topE (y := nI (i + 3)) (nI_add i 3 : nI i + nI 3 = nI (i + 3)) ?_
  refine x_sld C0 hX hbl hbA hS (q := (i + 3)) (by omega) (by omega) dL_law_234 ?_
  refine lv_aload_n hx hb dL_law_235 rfl (lv_at hl 4 rfl) ?_
  refine k_J C0 hP hS (As := [.ref (adr G 0), .int (xs (i + 1)), .int (xs (i + 2)), .int (xs (i + 3)), .ref (adr G 66)]) (rest := []) hJ mf_L_setLight ml_L_81 hl.1 ⟨by show _ ≤ 12; omega, by show _ ≤ 426; omega⟩ ⟨by show _ ≤ 601024; omega, by show _ ≤ 7293034; omega⟩ (Nat.le_of_ble_eq_true rfl) rfl rfl dL_law_236 (fun H locs hP hS => ?_)
  refine lv_istore (lv' := [(5, .int cd), (4, .int (nI i)), (0, .ref b), (1, .ref (adr G 0)), (2, .ref (adr G 46)), (3, .ref (adr G 66))]) hx hb dL_law_239 hl (by decide) rfl (fun ls hl => ?_)
  refine lv_aload_n hx hb dL_law_241 rfl (lv_at hl 4 rfl) ?_
  refine lv_aload_n hx hb dL_law_242 rfl (lv_at hl 2 rfl) ?_
  refine lv_iload hx hb dL_law_243 (lv_at hl 1 rfl) ?_
  refine lv_iconst (v := 1) hx hb dL_law_245 (by decide) ?_
  refine lv_iadd hx hb dL_law_246 ?_
  refine lv_topE (y := nI (i + 1)) (nI_add i 1 : nI i + nI 1 = nI (i + 1)) ?_
  refine x_sld C0 hX hbl hbA hS (q := (i + 1)) (by omega) (by omega) dL_law_247 ?_
  refine lv_aload_n hx hb dL_law_248 rfl (lv_at hl 2 rfl) ?_
  refine lv_iload hx hb dL_law_249 (lv_at hl 1 rfl) ?_
  refine lv_iconst (v := 2) hx hb dL_law_251 (by decide) ?_
  refine lv_iadd hx hb dL_law_252 ?_
  refine lv_topE (y := nI (i + 2)) (nI_add i 2 : nI i + nI 2 = nI (i + 2)) ?_
  refine x_sld C0 hX hbl hbA hS (q := (i + 2)) (by omega) (by omega) dL_law_253 ?_
  refine lv_aload_n hx hb dL_law_254 rfl (lv_at hl 2 rfl) ?_
  refine lv_iload hx hb dL_law_255 (lv_at hl 1 rfl) ?_
  refine lv_iconst (v := 3) hx hb dL_law_257 (by decide) ?_
  refine lv_iadd hx hb dL_law_258 ?_
  refine lv_topE (y := nI (i + 3)) (nI_add i 3 : nI i + nI 3 = nI (i + 3)) ?_
  refine x_sld C0 hX hbl hbA hS (q := (i + 3)) (by omega) (by omega) dL_law_259 ?_
  refine k_VI C0 hP hS (rest := []) hI mf_X6_setLight ml_L_84 (kd_lt (show kd 46 = 6 by decide) (by decide)) (ct_6 (show kd 46 = 6 by decide)) rfl hl.1 ⟨by show _ ≤ 12; omega, by show _ ≤ 426; omega⟩ ⟨by show _ ≤ 601024; omega, by show _ ≤ 7293034; omega⟩ (Nat.le_of_ble_eq_true rfl) rfl rfl dL_law_260 (fun H locs hP hS => ?_)
  refine lv_istore (lv' := [(6, .int res), (5, .int cd), (4, .int (nI i)), (0, .ref b), (1, .ref (adr G 0)), (2, .ref (adr G 46)), (3, .ref (adr G 66))]) hx hb dL_law_263 hl (by decide) rfl (fun ls hl => ?_)
  refine lv_aload_n hx hb dL_law_265 rfl (lv_at hl 5 rfl) ?_
  refine k_VI C0 hP hS (rest := []) (c_X6_thrown l G M2 o1) mf_X6_thrown ml_L_77 (kd_lt (show kd 46 = 6 by decide) (by decide)) (ct_6 (show kd 46 = 6 by decide)) rfl hl.1 ⟨by show _ ≤ 12; omega, by show _ ≤ 426; omega⟩ ⟨by show _ ≤ 601024; omega, by show _ ≤ 7293034; omega⟩ (Nat.le_of_ble_eq_true rfl) rfl rfl dL_law_266 (fun H locs hP hS => ?_)
  refine lv_topE (y := cd) h0 ?_
  refine lv_iload hx hb dL_law_269 (lv_at hl 1 rfl) ?_
  refine lv_icmp_eq (tgt := 276) hx hb dL_law_271 (by decide) (fun c_1 => ?_) (fun c_1 => ?_)
  · refine lv_iload hx hb dL_law_276 (lv_at hl 1 rfl) ?_
    refine lv_if_ne (tgt := 293) hx hb dL_law_278 (by decide) (fun c_2 => ?_) (fun c_2 => ?_)
    · refine lv_goto (tgt := 1267) hx hb dL_law_293 (by decide) ?_
      refine W.widen (k := cells + 20) (n := slots + 200) (by omega) (by omega) ?_
      exact kk _ _ _ _ _ _ _ _ hR9 hP hS (lv_sub hl [2, 3, 4, 5, 6] rfl)
    · refine lv_aload_n hx hb dL_law_281 rfl (lv_at hl 6 rfl) ?_
      refine lv_iconst (v := 0) hx hb dL_law_282 (by decide) ?_
      refine w_outld C0 hP dL_law_283 ?_
      refine lv_iload hx hb dL_law_284 (lv_at hl 0 rfl) ?_
      refine lv_i2l hx hb dL_law_286 rfl ?_
      refine W.lcmp hx hb dL_law_287 ?_
      refine lv_topE (y := 0) (lg_eq (h1 c_2)) ?_
      refine lv_if_eq (tgt := 293) hx hb dL_law_288 (by decide) (fun c_3 => ?_) (fun c_3 => ?_)
      · refine lv_goto (tgt := 1267) hx hb dL_law_293 (by decide) ?_
        refine W.widen (k := cells + 20) (n := slots + 200) (by omega) (by omega) ?_
        exact kk _ _ _ _ _ _ _ _ hR9 hP hS (lv_sub hl [2, 3, 4, 5, 6] rfl)
      · exact absurd rfl c_3
  · exact absurd rfl c_1
set_option maxHeartbeats 4000000 in
set_option maxRecDepth 100000 in
theorem w_addRoom (C0 : CX p s m #[Value.ref b] meth c cL_law RL 9 G s.heap.size) (hX : va_X b L xs s s.heap) (hbl : b < s.heap.size) (hbA : ¬ pA G s.heap.size b) (hi : i + 5 ≤ L) (hL : L ≤ 2560) (hP : PW G M o H) (hS : va_S (pA G s.heap.size) s.heap H locs) (hl : lv_has ls 9 [(4, .int (nI i)), (0, .ref b), (1, .ref (adr G 0)), (2, .ref (adr G 46)), (3, .ref (adr G 66))]) (hc : cells + 20 ≤ 601024 ∧ slots + 200 ≤ 7293034) (hst : l.stackTraces = false) (hR : R2 M M np nr k) (kk : ∀ (M' : Mem) (o' : Nat → Int64) (np' nr' k' : Nat) (H1 : Heap) (locs1 : List Loc) (ls' : Array Slot), R2 M' M' np' nr' k' → PW G M' o' H1 → va_S (pA G s.heap.size) s.heap H1 locs1 → lv_has ls' 9 [(4, .int (nI i)), (0, .ref b), (1, .ref (adr G 0)), (2, .ref (adr G 46)), (3, .ref (adr G 66))] → W p l e room_1 s m #[Value.ref b] below meth c H1 locs1 (cells + 20) (slots + 200) Q (F0 m 1267 ls' [])) : W p l e room_1 s m #[Value.ref b] below meth c H locs cells slots Q (F0 m 296 ls []) := by
  have hx := C0.1
  have hb := C0.2.1
  obtain ⟨M1, o1, cd, res, M2, fr, lo, mc, ms, fr2, lo2, mc2, ms2, hbd, hJ, hI, h0, h1, np9, nr9, k9, hR9⟩ := p_addRoom l hst G hR o (xs (i + 1)) (xs (i + 2)) (xs (i + 3))
  refine lv_aload_n hx hb dL_law_296 rfl (lv_at hl 2 rfl) ?_
  refine lv_aload_n hx hb dL_law_297 rfl (lv_at hl 1 rfl) ?_
  refine lv_iload hx hb dL_law_298 (lv_at hl 0 rfl) ?_
  refine lv_iconst (v := 1) hx hb dL_law_300 (by decide) ?_
  refine lv_iadd hx hb dL_law_301 ?_
  refine lv_topE (y := nI (i + 1)) (nI_add i 1 : nI i + nI 1 = nI (i + 1)) ?_
  refine x_sld C0 hX hbl hbA hS (q := (i + 1)) (by omega) (by omega) dL_law_302 ?_
  refine lv_aload_n hx hb dL_law_303 rfl (lv_at hl 1 rfl) ?_
  refine lv_iload hx hb dL_law_304 (lv_at hl 0 rfl) ?_
  refine lv_iconst (v := 2) hx hb dL_law_306 (by decide) ?_
  refine lv_iadd hx hb dL_law_307 ?_
  refine lv_topE (y := nI (i + 2)) (nI_add i 2 : nI i + nI 2 = nI (i + 2)) ?_
  refine x_sld C0 hX hbl hbA hS (q := (i + 2)) (by omega) (by omega) dL_law_308 ?_
  refine lv_aload_n hx hb dL_law_309 rfl (lv_at hl 1 rfl) ?_
  refine lv_iload hx hb dL_law_310 (lv_at hl 0 rfl) ?_
  refine lv_iconst (v := 3) hx hb dL_law_312 (by decide) ?_
  refine lv_iadd hx hb dL_law_313 ?_
  refine lv_topE (y := nI (i + 3)) (nI_add i 3 : nI i + nI 3 = nI (i + 3)) ?_
  refine x_sld C0 hX hbl hbA hS (q := (i + 3)) (by omega) (by omega) dL_law_314 ?_
  refine lv_aload_n hx hb dL_law_315 rfl (lv_at hl 4 rfl) ?_
  refine k_J C0 hP hS (As := [.ref (adr G 0), .int (xs (i + 1)), .int (xs (i + 2)), .int (xs (i + 3)), .ref (adr G 66)]) (rest := []) hJ mf_L_addRoom ml_L_85 hl.1 ⟨by show _ ≤ 12; omega, by show _ ≤ 426; omega⟩ ⟨by show _ ≤ 601024; omega, by show _ ≤ 7293034; omega⟩ (Nat.le_of_ble_eq_true rfl) rfl rfl dL_law_316 (fun H locs hP hS => ?_)
  refine lv_istore (lv' := [(5, .int cd), (4, .int (nI i)), (0, .ref b), (1, .ref (adr G 0)), (2, .ref (adr G 46)), (3, .ref (adr G 66))]) hx hb dL_law_319 hl (by decide) rfl (fun ls hl => ?_)
  refine lv_aload_n hx hb dL_law_321 rfl (lv_at hl 4 rfl) ?_
  refine lv_aload_n hx hb dL_law_322 rfl (lv_at hl 2 rfl) ?_
  refine lv_iload hx hb dL_law_323 (lv_at hl 1 rfl) ?_
  refine lv_iconst (v := 1) hx hb dL_law_325 (by decide) ?_
  refine lv_iadd hx hb dL_law_326 ?_
  refine lv_topE (y := nI (i + 1)) (nI_add i 1 : nI i + nI 1 = nI (i + 1)) ?_
  refine x_sld C0 hX hbl hbA hS (q := (i + 1)) (by omega) (by omega) dL_law_327 ?_
  refine lv_aload_n hx hb dL_law_328 rfl (lv_at hl 2 rfl) ?_
  refine lv_iload hx hb dL_law_329 (lv_at hl 1 rfl) ?_
  refine lv_iconst (v := 2) hx hb dL_law_331 (by decide) ?_
  refine lv_iadd hx hb dL_law_332 ?_
  refine lv_topE (y := nI (i + 2)) (nI_add i 2 : nI i + nI 2 = nI (i + 2)) ?_
  refine x_sld C0 hX hbl hbA hS (q := (i + 2)) (by omega) (by omega) dL_law_333 ?_
  refine lv_aload_n hx hb dL_law_334 rfl (lv_at hl 2 rfl) ?_
  refine lv_iload hx hb dL_law_335 (lv_at hl 1 rfl) ?_
  refine lv_iconst (v := 3) hx hb dL_law_337 (by decide) ?_
  refine lv_iadd hx hb dL_law_338 ?_
  refine lv_topE (y := nI (i + 3)) (nI_add i 3 : nI i + nI 3 = nI (i + 3)) ?_
  refine x_sld C0 hX hbl hbA hS (q := (i + 3)) (by omega) (by omega) dL_law_339 ?_
  refine k_VI C0 hP hS (rest := []) hI mf_X6_addRoom ml_L_87 (kd_lt (show kd 46 = 6 by decide) (by decide)) (ct_6 (show kd 46 = 6 by decide)) rfl hl.1 ⟨by show _ ≤ 12; omega, by show _ ≤ 426; omega⟩ ⟨by show _ ≤ 601024; omega, by show _ ≤ 7293034; omega⟩ (Nat.le_of_ble_eq_true rfl) rfl rfl dL_law_340 (fun H locs hP hS => ?_)
  refine lv_istore (lv' := [(6, .int res), (5, .int cd), (4, .int (nI i)), (0, .ref b), (1, .ref (adr G 0)), (2, .ref (adr G 46)), (3, .ref (adr G 66))]) hx hb dL_law_343 hl (by decide) rfl (fun ls hl => ?_)
  refine lv_aload_n hx hb dL_law_345 rfl (lv_at hl 5 rfl) ?_
  refine k_VI C0 hP hS (rest := []) (c_X6_thrown l G M2 o1) mf_X6_thrown ml_L_77 (kd_lt (show kd 46 = 6 by decide) (by decide)) (ct_6 (show kd 46 = 6 by decide)) rfl hl.1 ⟨by show _ ≤ 12; omega, by show _ ≤ 426; omega⟩ ⟨by show _ ≤ 601024; omega, by show _ ≤ 7293034; omega⟩ (Nat.le_of_ble_eq_true rfl) rfl rfl dL_law_346 (fun H locs hP hS => ?_)
  refine lv_topE (y := cd) h0 ?_
  refine lv_iload hx hb dL_law_349 (lv_at hl 1 rfl) ?_
  refine lv_icmp_eq (tgt := 356) hx hb dL_law_351 (by decide) (fun c_1 => ?_) (fun c_1 => ?_)
  · refine lv_iload hx hb dL_law_356 (lv_at hl 1 rfl) ?_
    refine lv_if_ne (tgt := 373) hx hb dL_law_358 (by decide) (fun c_2 => ?_) (fun c_2 => ?_)
    · refine lv_goto (tgt := 1267) hx hb dL_law_373 (by decide) ?_
      refine W.widen (k := cells + 20) (n := slots + 200) (by omega) (by omega) ?_
      exact kk _ _ _ _ _ _ _ _ hR9 hP hS (lv_sub hl [2, 3, 4, 5, 6] rfl)
    · refine lv_aload_n hx hb dL_law_361 rfl (lv_at hl 6 rfl) ?_
      refine lv_iconst (v := 0) hx hb dL_law_362 (by decide) ?_
      refine w_outld C0 hP dL_law_363 ?_
      refine lv_iload hx hb dL_law_364 (lv_at hl 0 rfl) ?_
      refine lv_i2l hx hb dL_law_366 rfl ?_
      refine W.lcmp hx hb dL_law_367 ?_
      refine lv_topE (y := 0) (lg_eq (h1 c_2)) ?_
      refine lv_if_eq (tgt := 373) hx hb dL_law_368 (by decide) (fun c_3 => ?_) (fun c_3 => ?_)
      · refine lv_goto (tgt := 1267) hx hb dL_law_373 (by decide) ?_
        refine W.widen (k := cells + 20) (n := slots + 200) (by omega) (by omega) ?_
        exact kk _ _ _ _ _ _ _ _ hR9 hP hS (lv_sub hl [2, 3, 4, 5, 6] rfl)
      · exact absurd rfl c_3
  · exact absurd rfl c_1
set_option maxHeartbeats 4000000 in
set_option maxRecDepth 100000 in
theorem w_bore (C0 : CX p s m #[Value.ref b] meth c cL_law RL 9 G s.heap.size) (hX : va_X b L xs s s.heap) (hbl : b < s.heap.size) (hbA : ¬ pA G s.heap.size b) (hi : i + 5 ≤ L) (hL : L ≤ 2560) (hP : PW G M o H) (hS : va_S (pA G s.heap.size) s.heap H locs) (hl : lv_has ls 9 [(4, .int (nI i)), (0, .ref b), (1, .ref (adr G 0)), (2, .ref (adr G 46)), (3, .ref (adr G 66))]) (hc : cells + 20 ≤ 601024 ∧ slots + 200 ≤ 7293034) (hst : l.stackTraces = false) (hR : R2 M M np nr k) (kk : ∀ (M' : Mem) (o' : Nat → Int64) (np' nr' k' : Nat) (H1 : Heap) (locs1 : List Loc) (ls' : Array Slot), R2 M' M' np' nr' k' → PW G M' o' H1 → va_S (pA G s.heap.size) s.heap H1 locs1 → lv_has ls' 9 [(4, .int (nI i)), (0, .ref b), (1, .ref (adr G 0)), (2, .ref (adr G 46)), (3, .ref (adr G 66))] → W p l e room_1 s m #[Value.ref b] below meth c H1 locs1 (cells + 20) (slots + 200) Q (F0 m 1267 ls' [])) : W p l e room_1 s m #[Value.ref b] below meth c H locs cells slots Q (F0 m 376 ls []) := by
  have hx := C0.1
  have hb := C0.2.1
  obtain ⟨M1, o1, cd, res, M2, fr, lo, mc, ms, fr2, lo2, mc2, ms2, hbd, hJ, hI, h0, h1, np9, nr9, k9, hR9⟩ := p_bore l hst G hR o (xs (i + 1)) (xs (i + 2))
  refine lv_aload_n hx hb dL_law_376 rfl (lv_at hl 2 rfl) ?_
  refine lv_aload_n hx hb dL_law_377 rfl (lv_at hl 1 rfl) ?_
  refine lv_iload hx hb dL_law_378 (lv_at hl 0 rfl) ?_
  refine lv_iconst (v := 1) hx hb dL_law_380 (by decide) ?_
  refine lv_iadd hx hb dL_law_381 ?_
  refine lv_topE (y := nI (i + 1)) (nI_add i 1 : nI i + nI 1 = nI (i + 1)) ?_
  refine x_sld C0 hX hbl hbA hS (q := (i + 1)) (by omega) (by omega) dL_law_382 ?_
  refine lv_aload_n hx hb dL_law_383 rfl (lv_at hl 1 rfl) ?_
  refine lv_iload hx hb dL_law_384 (lv_at hl 0 rfl) ?_
  refine lv_iconst (v := 2) hx hb dL_law_386 (by decide) ?_
  refine lv_iadd hx hb dL_law_387 ?_
  refine lv_topE (y := nI (i + 2)) (nI_add i 2 : nI i + nI 2 = nI (i + 2)) ?_
  refine x_sld C0 hX hbl hbA hS (q := (i + 2)) (by omega) (by omega) dL_law_388 ?_
  refine lv_aload_n hx hb dL_law_389 rfl (lv_at hl 4 rfl) ?_
  refine k_J C0 hP hS (As := [.ref (adr G 0), .int (xs (i + 1)), .int (xs (i + 2)), .ref (adr G 66)]) (rest := []) hJ mf_L_bore ml_L_88 hl.1 ⟨by show _ ≤ 12; omega, by show _ ≤ 426; omega⟩ ⟨by show _ ≤ 601024; omega, by show _ ≤ 7293034; omega⟩ (Nat.le_of_ble_eq_true rfl) rfl rfl dL_law_390 (fun H locs hP hS => ?_)
  refine lv_istore (lv' := [(5, .int cd), (4, .int (nI i)), (0, .ref b), (1, .ref (adr G 0)), (2, .ref (adr G 46)), (3, .ref (adr G 66))]) hx hb dL_law_393 hl (by decide) rfl (fun ls hl => ?_)
  refine lv_aload_n hx hb dL_law_395 rfl (lv_at hl 4 rfl) ?_
  refine lv_aload_n hx hb dL_law_396 rfl (lv_at hl 2 rfl) ?_
  refine lv_iload hx hb dL_law_397 (lv_at hl 1 rfl) ?_
  refine lv_iconst (v := 1) hx hb dL_law_399 (by decide) ?_
  refine lv_iadd hx hb dL_law_400 ?_
  refine lv_topE (y := nI (i + 1)) (nI_add i 1 : nI i + nI 1 = nI (i + 1)) ?_
  refine x_sld C0 hX hbl hbA hS (q := (i + 1)) (by omega) (by omega) dL_law_401 ?_
  refine lv_aload_n hx hb dL_law_402 rfl (lv_at hl 2 rfl) ?_
  refine lv_iload hx hb dL_law_403 (lv_at hl 1 rfl) ?_
  refine lv_iconst (v := 2) hx hb dL_law_405 (by decide) ?_
  refine lv_iadd hx hb dL_law_406 ?_
  refine lv_topE (y := nI (i + 2)) (nI_add i 2 : nI i + nI 2 = nI (i + 2)) ?_
  refine x_sld C0 hX hbl hbA hS (q := (i + 2)) (by omega) (by omega) dL_law_407 ?_
  refine k_VI C0 hP hS (rest := []) hI mf_X6_bore ml_L_91 (kd_lt (show kd 46 = 6 by decide) (by decide)) (ct_6 (show kd 46 = 6 by decide)) rfl hl.1 ⟨by show _ ≤ 12; omega, by show _ ≤ 426; omega⟩ ⟨by show _ ≤ 601024; omega, by show _ ≤ 7293034; omega⟩ (Nat.le_of_ble_eq_true rfl) rfl rfl dL_law_408 (fun H locs hP hS => ?_)
  refine lv_istore (lv' := [(6, .int res), (5, .int cd), (4, .int (nI i)), (0, .ref b), (1, .ref (adr G 0)), (2, .ref (adr G 46)), (3, .ref (adr G 66))]) hx hb dL_law_411 hl (by decide) rfl (fun ls hl => ?_)
  refine lv_aload_n hx hb dL_law_413 rfl (lv_at hl 5 rfl) ?_
  refine k_VI C0 hP hS (rest := []) (c_X6_thrown l G M2 o1) mf_X6_thrown ml_L_77 (kd_lt (show kd 46 = 6 by decide) (by decide)) (ct_6 (show kd 46 = 6 by decide)) rfl hl.1 ⟨by show _ ≤ 12; omega, by show _ ≤ 426; omega⟩ ⟨by show _ ≤ 601024; omega, by show _ ≤ 7293034; omega⟩ (Nat.le_of_ble_eq_true rfl) rfl rfl dL_law_414 (fun H locs hP hS => ?_)
  refine lv_topE (y := cd) h0 ?_
  refine lv_iload hx hb dL_law_417 (lv_at hl 1 rfl) ?_
  refine lv_icmp_eq (tgt := 424) hx hb dL_law_419 (by decide) (fun c_1 => ?_) (fun c_1 => ?_)
  · refine lv_iload hx hb dL_law_424 (lv_at hl 1 rfl) ?_
    refine lv_if_ne (tgt := 441) hx hb dL_law_426 (by decide) (fun c_2 => ?_) (fun c_2 => ?_)
    · refine lv_goto (tgt := 1267) hx hb dL_law_441 (by decide) ?_
      refine W.widen (k := cells + 20) (n := slots + 200) (by omega) (by omega) ?_
      exact kk _ _ _ _ _ _ _ _ hR9 hP hS (lv_sub hl [2, 3, 4, 5, 6] rfl)
    · refine lv_aload_n hx hb dL_law_429 rfl (lv_at hl 6 rfl) ?_
      refine lv_iconst (v := 0) hx hb dL_law_430 (by decide) ?_
      refine w_outld C0 hP dL_law_431 ?_
      refine lv_iload hx hb dL_law_432 (lv_at hl 0 rfl) ?_
      refine lv_i2l hx hb dL_law_434 rfl ?_
      refine W.lcmp hx hb dL_law_435 ?_
      refine lv_topE (y := 0) (lg_eq (h1 c_2)) ?_
      refine lv_if_eq (tgt := 441) hx hb dL_law_436 (by decide) (fun c_3 => ?_) (fun c_3 => ?_)
      · refine lv_goto (tgt := 1267) hx hb dL_law_441 (by decide) ?_
        refine W.widen (k := cells + 20) (n := slots + 200) (by omega) (by omega) ?_
        exact kk _ _ _ _ _ _ _ _ hR9 hP hS (lv_sub hl [2, 3, 4, 5, 6] rfl)
      · exact absurd rfl c_3
  · exact absurd rfl c_1
set_option maxHeartbeats 4000000 in
set_option maxRecDepth 100000 in
theorem w_paint (C0 : CX p s m #[Value.ref b] meth c cL_law RL 9 G s.heap.size) (hX : va_X b L xs s s.heap) (hbl : b < s.heap.size) (hbA : ¬ pA G s.heap.size b) (hi : i + 5 ≤ L) (hL : L ≤ 2560) (hP : PW G M o H) (hS : va_S (pA G s.heap.size) s.heap H locs) (hl : lv_has ls 9 [(4, .int (nI i)), (0, .ref b), (1, .ref (adr G 0)), (2, .ref (adr G 46)), (3, .ref (adr G 66))]) (hc : cells + 20 ≤ 601024 ∧ slots + 200 ≤ 7293034) (hst : l.stackTraces = false) (hR : R2 M M np nr k) (kk : ∀ (M' : Mem) (o' : Nat → Int64) (np' nr' k' : Nat) (H1 : Heap) (locs1 : List Loc) (ls' : Array Slot), R2 M' M' np' nr' k' → PW G M' o' H1 → va_S (pA G s.heap.size) s.heap H1 locs1 → lv_has ls' 9 [(4, .int (nI i)), (0, .ref b), (1, .ref (adr G 0)), (2, .ref (adr G 46)), (3, .ref (adr G 66))] → W p l e room_1 s m #[Value.ref b] below meth c H1 locs1 (cells + 20) (slots + 200) Q (F0 m 1267 ls' [])) : W p l e room_1 s m #[Value.ref b] below meth c H locs cells slots Q (F0 m 444 ls []) := by
  have hx := C0.1
  have hb := C0.2.1
  obtain ⟨M1, o1, cd, res, M2, fr, lo, mc, ms, fr2, lo2, mc2, ms2, hbd, hJ, hI, h0, h1, np9, nr9, k9, hR9⟩ := p_paint l hst G hR o (xs (i + 1)) (xs (i + 2))
  refine lv_aload_n hx hb dL_law_444 rfl (lv_at hl 2 rfl) ?_
  refine lv_aload_n hx hb dL_law_445 rfl (lv_at hl 1 rfl) ?_
  refine lv_iload hx hb dL_law_446 (lv_at hl 0 rfl) ?_
  refine lv_iconst (v := 1) hx hb dL_law_448 (by decide) ?_
  refine lv_iadd hx hb dL_law_449 ?_
  refine lv_topE (y := nI (i + 1)) (nI_add i 1 : nI i + nI 1 = nI (i + 1)) ?_
  refine x_sld C0 hX hbl hbA hS (q := (i + 1)) (by omega) (by omega) dL_law_450 ?_
  refine lv_aload_n hx hb dL_law_451 rfl (lv_at hl 1 rfl) ?_
  refine lv_iload hx hb dL_law_452 (lv_at hl 0 rfl) ?_
  refine lv_iconst (v := 2) hx hb dL_law_454 (by decide) ?_
  refine lv_iadd hx hb dL_law_455 ?_
  refine lv_topE (y := nI (i + 2)) (nI_add i 2 : nI i + nI 2 = nI (i + 2)) ?_
  refine x_sld C0 hX hbl hbA hS (q := (i + 2)) (by omega) (by omega) dL_law_456 ?_
  refine lv_aload_n hx hb dL_law_457 rfl (lv_at hl 4 rfl) ?_
  refine k_J C0 hP hS (As := [.ref (adr G 0), .int (xs (i + 1)), .int (xs (i + 2)), .ref (adr G 66)]) (rest := []) hJ mf_L_paint ml_L_92 hl.1 ⟨by show _ ≤ 12; omega, by show _ ≤ 426; omega⟩ ⟨by show _ ≤ 601024; omega, by show _ ≤ 7293034; omega⟩ (Nat.le_of_ble_eq_true rfl) rfl rfl dL_law_458 (fun H locs hP hS => ?_)
  refine lv_istore (lv' := [(5, .int cd), (4, .int (nI i)), (0, .ref b), (1, .ref (adr G 0)), (2, .ref (adr G 46)), (3, .ref (adr G 66))]) hx hb dL_law_461 hl (by decide) rfl (fun ls hl => ?_)
  refine lv_aload_n hx hb dL_law_463 rfl (lv_at hl 4 rfl) ?_
  refine lv_aload_n hx hb dL_law_464 rfl (lv_at hl 2 rfl) ?_
  refine lv_iload hx hb dL_law_465 (lv_at hl 1 rfl) ?_
  refine lv_iconst (v := 1) hx hb dL_law_467 (by decide) ?_
  refine lv_iadd hx hb dL_law_468 ?_
  refine lv_topE (y := nI (i + 1)) (nI_add i 1 : nI i + nI 1 = nI (i + 1)) ?_
  refine x_sld C0 hX hbl hbA hS (q := (i + 1)) (by omega) (by omega) dL_law_469 ?_
  refine lv_aload_n hx hb dL_law_470 rfl (lv_at hl 2 rfl) ?_
  refine lv_iload hx hb dL_law_471 (lv_at hl 1 rfl) ?_
  refine lv_iconst (v := 2) hx hb dL_law_473 (by decide) ?_
  refine lv_iadd hx hb dL_law_474 ?_
  refine lv_topE (y := nI (i + 2)) (nI_add i 2 : nI i + nI 2 = nI (i + 2)) ?_
  refine x_sld C0 hX hbl hbA hS (q := (i + 2)) (by omega) (by omega) dL_law_475 ?_
  refine k_VI C0 hP hS (rest := []) hI mf_X6_paint ml_L_94 (kd_lt (show kd 46 = 6 by decide) (by decide)) (ct_6 (show kd 46 = 6 by decide)) rfl hl.1 ⟨by show _ ≤ 12; omega, by show _ ≤ 426; omega⟩ ⟨by show _ ≤ 601024; omega, by show _ ≤ 7293034; omega⟩ (Nat.le_of_ble_eq_true rfl) rfl rfl dL_law_476 (fun H locs hP hS => ?_)
  refine lv_istore (lv' := [(6, .int res), (5, .int cd), (4, .int (nI i)), (0, .ref b), (1, .ref (adr G 0)), (2, .ref (adr G 46)), (3, .ref (adr G 66))]) hx hb dL_law_479 hl (by decide) rfl (fun ls hl => ?_)
  refine lv_aload_n hx hb dL_law_481 rfl (lv_at hl 5 rfl) ?_
  refine k_VI C0 hP hS (rest := []) (c_X6_thrown l G M2 o1) mf_X6_thrown ml_L_77 (kd_lt (show kd 46 = 6 by decide) (by decide)) (ct_6 (show kd 46 = 6 by decide)) rfl hl.1 ⟨by show _ ≤ 12; omega, by show _ ≤ 426; omega⟩ ⟨by show _ ≤ 601024; omega, by show _ ≤ 7293034; omega⟩ (Nat.le_of_ble_eq_true rfl) rfl rfl dL_law_482 (fun H locs hP hS => ?_)
  refine lv_topE (y := cd) h0 ?_
  refine lv_iload hx hb dL_law_485 (lv_at hl 1 rfl) ?_
  refine lv_icmp_eq (tgt := 492) hx hb dL_law_487 (by decide) (fun c_1 => ?_) (fun c_1 => ?_)
  · refine lv_iload hx hb dL_law_492 (lv_at hl 1 rfl) ?_
    refine lv_if_ne (tgt := 509) hx hb dL_law_494 (by decide) (fun c_2 => ?_) (fun c_2 => ?_)
    · refine lv_goto (tgt := 1267) hx hb dL_law_509 (by decide) ?_
      refine W.widen (k := cells + 20) (n := slots + 200) (by omega) (by omega) ?_
      exact kk _ _ _ _ _ _ _ _ hR9 hP hS (lv_sub hl [2, 3, 4, 5, 6] rfl)
    · refine lv_aload_n hx hb dL_law_497 rfl (lv_at hl 6 rfl) ?_
      refine lv_iconst (v := 0) hx hb dL_law_498 (by decide) ?_
      refine w_outld C0 hP dL_law_499 ?_
      refine lv_iload hx hb dL_law_500 (lv_at hl 0 rfl) ?_
      refine lv_i2l hx hb dL_law_502 rfl ?_
      refine W.lcmp hx hb dL_law_503 ?_
      refine lv_topE (y := 0) (lg_eq (h1 c_2)) ?_
      refine lv_if_eq (tgt := 509) hx hb dL_law_504 (by decide) (fun c_3 => ?_) (fun c_3 => ?_)
      · refine lv_goto (tgt := 1267) hx hb dL_law_509 (by decide) ?_
        refine W.widen (k := cells + 20) (n := slots + 200) (by omega) (by omega) ?_
        exact kk _ _ _ _ _ _ _ _ hR9 hP hS (lv_sub hl [2, 3, 4, 5, 6] rfl)
      · exact absurd rfl c_3
  · exact absurd rfl c_1
set_option maxHeartbeats 4000000 in
set_option maxRecDepth 100000 in
theorem w_seat (C0 : CX p s m #[Value.ref b] meth c cL_law RL 9 G s.heap.size) (hX : va_X b L xs s s.heap) (hbl : b < s.heap.size) (hbA : ¬ pA G s.heap.size b) (hi : i + 5 ≤ L) (hL : L ≤ 2560) (hP : PW G M o H) (hS : va_S (pA G s.heap.size) s.heap H locs) (hl : lv_has ls 9 [(4, .int (nI i)), (0, .ref b), (1, .ref (adr G 0)), (2, .ref (adr G 46)), (3, .ref (adr G 66))]) (hc : cells + 20 ≤ 601024 ∧ slots + 200 ≤ 7293034) (hst : l.stackTraces = false) (hR : R2 M M np nr k) (kk : ∀ (M' : Mem) (o' : Nat → Int64) (np' nr' k' : Nat) (H1 : Heap) (locs1 : List Loc) (ls' : Array Slot), R2 M' M' np' nr' k' → PW G M' o' H1 → va_S (pA G s.heap.size) s.heap H1 locs1 → lv_has ls' 9 [(4, .int (nI i)), (0, .ref b), (1, .ref (adr G 0)), (2, .ref (adr G 46)), (3, .ref (adr G 66))] → W p l e room_1 s m #[Value.ref b] below meth c H1 locs1 (cells + 20) (slots + 200) Q (F0 m 1267 ls' [])) : W p l e room_1 s m #[Value.ref b] below meth c H locs cells slots Q (F0 m 512 ls []) := by
  have hx := C0.1
  have hb := C0.2.1
  obtain ⟨M1, o1, cd, res, M2, fr, lo, mc, ms, fr2, lo2, mc2, ms2, hbd, hJ, hI, h0, h1, np9, nr9, k9, hR9⟩ := p_seat l hst G hR o (xs (i + 1)) (xs (i + 2))
  refine lv_aload_n hx hb dL_law_512 rfl (lv_at hl 2 rfl) ?_
  refine lv_aload_n hx hb dL_law_513 rfl (lv_at hl 1 rfl) ?_
  refine lv_iload hx hb dL_law_514 (lv_at hl 0 rfl) ?_
  refine lv_iconst (v := 1) hx hb dL_law_516 (by decide) ?_
  refine lv_iadd hx hb dL_law_517 ?_
  refine lv_topE (y := nI (i + 1)) (nI_add i 1 : nI i + nI 1 = nI (i + 1)) ?_
  refine x_sld C0 hX hbl hbA hS (q := (i + 1)) (by omega) (by omega) dL_law_518 ?_
  refine lv_aload_n hx hb dL_law_519 rfl (lv_at hl 1 rfl) ?_
  refine lv_iload hx hb dL_law_520 (lv_at hl 0 rfl) ?_
  refine lv_iconst (v := 2) hx hb dL_law_522 (by decide) ?_
  refine lv_iadd hx hb dL_law_523 ?_
  refine lv_topE (y := nI (i + 2)) (nI_add i 2 : nI i + nI 2 = nI (i + 2)) ?_
  refine x_sld C0 hX hbl hbA hS (q := (i + 2)) (by omega) (by omega) dL_law_524 ?_
  refine lv_aload_n hx hb dL_law_525 rfl (lv_at hl 4 rfl) ?_
  refine k_J C0 hP hS (As := [.ref (adr G 0), .int (xs (i + 1)), .int (xs (i + 2)), .ref (adr G 66)]) (rest := []) hJ mf_L_seat ml_L_95 hl.1 ⟨by show _ ≤ 12; omega, by show _ ≤ 426; omega⟩ ⟨by show _ ≤ 601024; omega, by show _ ≤ 7293034; omega⟩ (Nat.le_of_ble_eq_true rfl) rfl rfl dL_law_526 (fun H locs hP hS => ?_)
  refine lv_istore (lv' := [(5, .int cd), (4, .int (nI i)), (0, .ref b), (1, .ref (adr G 0)), (2, .ref (adr G 46)), (3, .ref (adr G 66))]) hx hb dL_law_529 hl (by decide) rfl (fun ls hl => ?_)
  refine lv_aload_n hx hb dL_law_531 rfl (lv_at hl 4 rfl) ?_
  refine lv_aload_n hx hb dL_law_532 rfl (lv_at hl 2 rfl) ?_
  refine lv_iload hx hb dL_law_533 (lv_at hl 1 rfl) ?_
  refine lv_iconst (v := 1) hx hb dL_law_535 (by decide) ?_
  refine lv_iadd hx hb dL_law_536 ?_
  refine lv_topE (y := nI (i + 1)) (nI_add i 1 : nI i + nI 1 = nI (i + 1)) ?_
  refine x_sld C0 hX hbl hbA hS (q := (i + 1)) (by omega) (by omega) dL_law_537 ?_
  refine lv_aload_n hx hb dL_law_538 rfl (lv_at hl 2 rfl) ?_
  refine lv_iload hx hb dL_law_539 (lv_at hl 1 rfl) ?_
  refine lv_iconst (v := 2) hx hb dL_law_541 (by decide) ?_
  refine lv_iadd hx hb dL_law_542 ?_
  refine lv_topE (y := nI (i + 2)) (nI_add i 2 : nI i + nI 2 = nI (i + 2)) ?_
  refine x_sld C0 hX hbl hbA hS (q := (i + 2)) (by omega) (by omega) dL_law_543 ?_
  refine k_VI C0 hP hS (rest := []) hI mf_X6_seat ml_L_97 (kd_lt (show kd 46 = 6 by decide) (by decide)) (ct_6 (show kd 46 = 6 by decide)) rfl hl.1 ⟨by show _ ≤ 12; omega, by show _ ≤ 426; omega⟩ ⟨by show _ ≤ 601024; omega, by show _ ≤ 7293034; omega⟩ (Nat.le_of_ble_eq_true rfl) rfl rfl dL_law_544 (fun H locs hP hS => ?_)
  refine lv_istore (lv' := [(6, .int res), (5, .int cd), (4, .int (nI i)), (0, .ref b), (1, .ref (adr G 0)), (2, .ref (adr G 46)), (3, .ref (adr G 66))]) hx hb dL_law_547 hl (by decide) rfl (fun ls hl => ?_)
  refine lv_aload_n hx hb dL_law_549 rfl (lv_at hl 5 rfl) ?_
  refine k_VI C0 hP hS (rest := []) (c_X6_thrown l G M2 o1) mf_X6_thrown ml_L_77 (kd_lt (show kd 46 = 6 by decide) (by decide)) (ct_6 (show kd 46 = 6 by decide)) rfl hl.1 ⟨by show _ ≤ 12; omega, by show _ ≤ 426; omega⟩ ⟨by show _ ≤ 601024; omega, by show _ ≤ 7293034; omega⟩ (Nat.le_of_ble_eq_true rfl) rfl rfl dL_law_550 (fun H locs hP hS => ?_)
  refine lv_topE (y := cd) h0 ?_
  refine lv_iload hx hb dL_law_553 (lv_at hl 1 rfl) ?_
  refine lv_icmp_eq (tgt := 560) hx hb dL_law_555 (by decide) (fun c_1 => ?_) (fun c_1 => ?_)
  · refine lv_iload hx hb dL_law_560 (lv_at hl 1 rfl) ?_
    refine lv_if_ne (tgt := 577) hx hb dL_law_562 (by decide) (fun c_2 => ?_) (fun c_2 => ?_)
    · refine lv_goto (tgt := 1267) hx hb dL_law_577 (by decide) ?_
      refine W.widen (k := cells + 20) (n := slots + 200) (by omega) (by omega) ?_
      exact kk _ _ _ _ _ _ _ _ hR9 hP hS (lv_sub hl [2, 3, 4, 5, 6] rfl)
    · refine lv_aload_n hx hb dL_law_565 rfl (lv_at hl 6 rfl) ?_
      refine lv_iconst (v := 0) hx hb dL_law_566 (by decide) ?_
      refine w_outld C0 hP dL_law_567 ?_
      refine lv_iload hx hb dL_law_568 (lv_at hl 0 rfl) ?_
      refine lv_i2l hx hb dL_law_570 rfl ?_
      refine W.lcmp hx hb dL_law_571 ?_
      refine lv_topE (y := 0) (lg_eq (h1 c_2)) ?_
      refine lv_if_eq (tgt := 577) hx hb dL_law_572 (by decide) (fun c_3 => ?_) (fun c_3 => ?_)
      · refine lv_goto (tgt := 1267) hx hb dL_law_577 (by decide) ?_
        refine W.widen (k := cells + 20) (n := slots + 200) (by omega) (by omega) ?_
        exact kk _ _ _ _ _ _ _ _ hR9 hP hS (lv_sub hl [2, 3, 4, 5, 6] rfl)
      · exact absurd rfl c_3
  · exact absurd rfl c_1
set_option maxHeartbeats 4000000 in
set_option maxRecDepth 100000 in
theorem w_passer (C0 : CX p s m #[Value.ref b] meth c cL_law RL 9 G s.heap.size) (hX : va_X b L xs s s.heap) (hbl : b < s.heap.size) (hbA : ¬ pA G s.heap.size b) (hi : i + 5 ≤ L) (hL : L ≤ 2560) (hP : PW G M o H) (hS : va_S (pA G s.heap.size) s.heap H locs) (hl : lv_has ls 9 [(4, .int (nI i)), (0, .ref b), (1, .ref (adr G 0)), (2, .ref (adr G 46)), (3, .ref (adr G 66))]) (hc : cells + 20 ≤ 601024 ∧ slots + 200 ≤ 7293034) (hst : l.stackTraces = false) (hR : R2 M M np nr k) (kk : ∀ (M' : Mem) (o' : Nat → Int64) (np' nr' k' : Nat) (H1 : Heap) (locs1 : List Loc) (ls' : Array Slot), R2 M' M' np' nr' k' → PW G M' o' H1 → va_S (pA G s.heap.size) s.heap H1 locs1 → lv_has ls' 9 [(4, .int (nI i)), (0, .ref b), (1, .ref (adr G 0)), (2, .ref (adr G 46)), (3, .ref (adr G 66))] → W p l e room_1 s m #[Value.ref b] below meth c H1 locs1 (cells + 20) (slots + 200) Q (F0 m 1267 ls' [])) : W p l e room_1 s m #[Value.ref b] below meth c H locs cells slots Q (F0 m 580 ls []) := by
  have hx := C0.1
  have hb := C0.2.1
  obtain ⟨M1, o1, cd, res, M2, fr, lo, mc, ms, fr2, lo2, mc2, ms2, hbd, hJ, hI, h0, h1, np9, nr9, k9, hR9⟩ := p_passer l hst G hR o (xs (i + 1)) (xs (i + 2))
  refine lv_aload_n hx hb dL_law_580 rfl (lv_at hl 2 rfl) ?_
  refine lv_aload_n hx hb dL_law_581 rfl (lv_at hl 1 rfl) ?_
  refine lv_iload hx hb dL_law_582 (lv_at hl 0 rfl) ?_
  refine lv_iconst (v := 1) hx hb dL_law_584 (by decide) ?_
  refine lv_iadd hx hb dL_law_585 ?_
  refine lv_topE (y := nI (i + 1)) (nI_add i 1 : nI i + nI 1 = nI (i + 1)) ?_
  refine x_sld C0 hX hbl hbA hS (q := (i + 1)) (by omega) (by omega) dL_law_586 ?_
  refine lv_aload_n hx hb dL_law_587 rfl (lv_at hl 1 rfl) ?_
  refine lv_iload hx hb dL_law_588 (lv_at hl 0 rfl) ?_
  refine lv_iconst (v := 2) hx hb dL_law_590 (by decide) ?_
  refine lv_iadd hx hb dL_law_591 ?_
  refine lv_topE (y := nI (i + 2)) (nI_add i 2 : nI i + nI 2 = nI (i + 2)) ?_
  refine x_sld C0 hX hbl hbA hS (q := (i + 2)) (by omega) (by omega) dL_law_592 ?_
  refine lv_aload_n hx hb dL_law_593 rfl (lv_at hl 4 rfl) ?_
  refine k_J C0 hP hS (As := [.ref (adr G 0), .int (xs (i + 1)), .int (xs (i + 2)), .ref (adr G 66)]) (rest := []) hJ mf_L_passer ml_L_98 hl.1 ⟨by show _ ≤ 12; omega, by show _ ≤ 426; omega⟩ ⟨by show _ ≤ 601024; omega, by show _ ≤ 7293034; omega⟩ (Nat.le_of_ble_eq_true rfl) rfl rfl dL_law_594 (fun H locs hP hS => ?_)
  refine lv_istore (lv' := [(5, .int cd), (4, .int (nI i)), (0, .ref b), (1, .ref (adr G 0)), (2, .ref (adr G 46)), (3, .ref (adr G 66))]) hx hb dL_law_597 hl (by decide) rfl (fun ls hl => ?_)
  refine lv_aload_n hx hb dL_law_599 rfl (lv_at hl 4 rfl) ?_
  refine lv_aload_n hx hb dL_law_600 rfl (lv_at hl 2 rfl) ?_
  refine lv_iload hx hb dL_law_601 (lv_at hl 1 rfl) ?_
  refine lv_iconst (v := 1) hx hb dL_law_603 (by decide) ?_
  refine lv_iadd hx hb dL_law_604 ?_
  refine lv_topE (y := nI (i + 1)) (nI_add i 1 : nI i + nI 1 = nI (i + 1)) ?_
  refine x_sld C0 hX hbl hbA hS (q := (i + 1)) (by omega) (by omega) dL_law_605 ?_
  refine lv_aload_n hx hb dL_law_606 rfl (lv_at hl 2 rfl) ?_
  refine lv_iload hx hb dL_law_607 (lv_at hl 1 rfl) ?_
  refine lv_iconst (v := 2) hx hb dL_law_609 (by decide) ?_
  refine lv_iadd hx hb dL_law_610 ?_
  refine lv_topE (y := nI (i + 2)) (nI_add i 2 : nI i + nI 2 = nI (i + 2)) ?_
  refine x_sld C0 hX hbl hbA hS (q := (i + 2)) (by omega) (by omega) dL_law_611 ?_
  refine k_VI C0 hP hS (rest := []) hI mf_X6_passer ml_L_100 (kd_lt (show kd 46 = 6 by decide) (by decide)) (ct_6 (show kd 46 = 6 by decide)) rfl hl.1 ⟨by show _ ≤ 12; omega, by show _ ≤ 426; omega⟩ ⟨by show _ ≤ 601024; omega, by show _ ≤ 7293034; omega⟩ (Nat.le_of_ble_eq_true rfl) rfl rfl dL_law_612 (fun H locs hP hS => ?_)
  refine lv_istore (lv' := [(6, .int res), (5, .int cd), (4, .int (nI i)), (0, .ref b), (1, .ref (adr G 0)), (2, .ref (adr G 46)), (3, .ref (adr G 66))]) hx hb dL_law_615 hl (by decide) rfl (fun ls hl => ?_)
  refine lv_aload_n hx hb dL_law_617 rfl (lv_at hl 5 rfl) ?_
  refine k_VI C0 hP hS (rest := []) (c_X6_thrown l G M2 o1) mf_X6_thrown ml_L_77 (kd_lt (show kd 46 = 6 by decide) (by decide)) (ct_6 (show kd 46 = 6 by decide)) rfl hl.1 ⟨by show _ ≤ 12; omega, by show _ ≤ 426; omega⟩ ⟨by show _ ≤ 601024; omega, by show _ ≤ 7293034; omega⟩ (Nat.le_of_ble_eq_true rfl) rfl rfl dL_law_618 (fun H locs hP hS => ?_)
  refine lv_topE (y := cd) h0 ?_
  refine lv_iload hx hb dL_law_621 (lv_at hl 1 rfl) ?_
  refine lv_icmp_eq (tgt := 628) hx hb dL_law_623 (by decide) (fun c_1 => ?_) (fun c_1 => ?_)
  · refine lv_iload hx hb dL_law_628 (lv_at hl 1 rfl) ?_
    refine lv_if_ne (tgt := 645) hx hb dL_law_630 (by decide) (fun c_2 => ?_) (fun c_2 => ?_)
    · refine lv_goto (tgt := 1267) hx hb dL_law_645 (by decide) ?_
      refine W.widen (k := cells + 20) (n := slots + 200) (by omega) (by omega) ?_
      exact kk _ _ _ _ _ _ _ _ hR9 hP hS (lv_sub hl [2, 3, 4, 5, 6] rfl)
    · refine lv_aload_n hx hb dL_law_633 rfl (lv_at hl 6 rfl) ?_
      refine lv_iconst (v := 0) hx hb dL_law_634 (by decide) ?_
      refine w_outld C0 hP dL_law_635 ?_
      refine lv_iload hx hb dL_law_636 (lv_at hl 0 rfl) ?_
      refine lv_i2l hx hb dL_law_638 rfl ?_
      refine W.lcmp hx hb dL_law_639 ?_
      refine lv_topE (y := 0) (lg_eq (h1 c_2)) ?_
      refine lv_if_eq (tgt := 645) hx hb dL_law_640 (by decide) (fun c_3 => ?_) (fun c_3 => ?_)
      · refine lv_goto (tgt := 1267) hx hb dL_law_645 (by decide) ?_
        refine W.widen (k := cells + 20) (n := slots + 200) (by omega) (by omega) ?_
        exact kk _ _ _ _ _ _ _ _ hR9 hP hS (lv_sub hl [2, 3, 4, 5, 6] rfl)
      · exact absurd rfl c_3
  · exact absurd rfl c_1
set_option maxHeartbeats 4000000 in
set_option maxRecDepth 100000 in
theorem w_room (C0 : CX p s m #[Value.ref b] meth c cL_law RL 9 G s.heap.size) (hX : va_X b L xs s s.heap) (hbl : b < s.heap.size) (hbA : ¬ pA G s.heap.size b) (hi : i + 5 ≤ L) (hL : L ≤ 2560) (hP : PW G M o H) (hS : va_S (pA G s.heap.size) s.heap H locs) (hl : lv_has ls 9 [(4, .int (nI i)), (0, .ref b), (1, .ref (adr G 0)), (2, .ref (adr G 46)), (3, .ref (adr G 66))]) (hc : cells + 20 ≤ 601024 ∧ slots + 200 ≤ 7293034) (hst : l.stackTraces = false) (hR : R2 M M np nr k) (kk : ∀ (M' : Mem) (o' : Nat → Int64) (np' nr' k' : Nat) (H1 : Heap) (locs1 : List Loc) (ls' : Array Slot), R2 M' M' np' nr' k' → PW G M' o' H1 → va_S (pA G s.heap.size) s.heap H1 locs1 → lv_has ls' 9 [(4, .int (nI i)), (0, .ref b), (1, .ref (adr G 0)), (2, .ref (adr G 46)), (3, .ref (adr G 66))] → W p l e room_1 s m #[Value.ref b] below meth c H1 locs1 (cells + 20) (slots + 200) Q (F0 m 1267 ls' [])) : W p l e room_1 s m #[Value.ref b] below meth c H locs cells slots Q (F0 m 648 ls []) := by
  have hx := C0.1
  have hb := C0.2.1
  obtain ⟨M1, o1, cd, res, M2, fr, lo, mc, ms, fr2, lo2, mc2, ms2, hbd, hJ, hI, h0, h1, np9, nr9, k9, hR9⟩ := p_room l hst G hR o (xs (i + 1)) (xs (i + 2))
  refine lv_aload_n hx hb dL_law_648 rfl (lv_at hl 2 rfl) ?_
  refine lv_aload_n hx hb dL_law_649 rfl (lv_at hl 1 rfl) ?_
  refine lv_iload hx hb dL_law_650 (lv_at hl 0 rfl) ?_
  refine lv_iconst (v := 1) hx hb dL_law_652 (by decide) ?_
  refine lv_iadd hx hb dL_law_653 ?_
  refine lv_topE (y := nI (i + 1)) (nI_add i 1 : nI i + nI 1 = nI (i + 1)) ?_
  refine x_sld C0 hX hbl hbA hS (q := (i + 1)) (by omega) (by omega) dL_law_654 ?_
  refine lv_aload_n hx hb dL_law_655 rfl (lv_at hl 1 rfl) ?_
  refine lv_iload hx hb dL_law_656 (lv_at hl 0 rfl) ?_
  refine lv_iconst (v := 2) hx hb dL_law_658 (by decide) ?_
  refine lv_iadd hx hb dL_law_659 ?_
  refine lv_topE (y := nI (i + 2)) (nI_add i 2 : nI i + nI 2 = nI (i + 2)) ?_
  refine x_sld C0 hX hbl hbA hS (q := (i + 2)) (by omega) (by omega) dL_law_660 ?_
  refine lv_aload_n hx hb dL_law_661 rfl (lv_at hl 4 rfl) ?_
  refine k_J C0 hP hS (As := [.ref (adr G 0), .int (xs (i + 1)), .int (xs (i + 2)), .ref (adr G 66)]) (rest := []) hJ mf_L_room ml_L_101 hl.1 ⟨by show _ ≤ 12; omega, by show _ ≤ 426; omega⟩ ⟨by show _ ≤ 601024; omega, by show _ ≤ 7293034; omega⟩ (Nat.le_of_ble_eq_true rfl) rfl rfl dL_law_662 (fun H locs hP hS => ?_)
  refine lv_istore (lv' := [(5, .int cd), (4, .int (nI i)), (0, .ref b), (1, .ref (adr G 0)), (2, .ref (adr G 46)), (3, .ref (adr G 66))]) hx hb dL_law_665 hl (by decide) rfl (fun ls hl => ?_)
  refine lv_aload_n hx hb dL_law_667 rfl (lv_at hl 4 rfl) ?_
  refine lv_aload_n hx hb dL_law_668 rfl (lv_at hl 2 rfl) ?_
  refine lv_iload hx hb dL_law_669 (lv_at hl 1 rfl) ?_
  refine lv_iconst (v := 1) hx hb dL_law_671 (by decide) ?_
  refine lv_iadd hx hb dL_law_672 ?_
  refine lv_topE (y := nI (i + 1)) (nI_add i 1 : nI i + nI 1 = nI (i + 1)) ?_
  refine x_sld C0 hX hbl hbA hS (q := (i + 1)) (by omega) (by omega) dL_law_673 ?_
  refine lv_aload_n hx hb dL_law_674 rfl (lv_at hl 2 rfl) ?_
  refine lv_iload hx hb dL_law_675 (lv_at hl 1 rfl) ?_
  refine lv_iconst (v := 2) hx hb dL_law_677 (by decide) ?_
  refine lv_iadd hx hb dL_law_678 ?_
  refine lv_topE (y := nI (i + 2)) (nI_add i 2 : nI i + nI 2 = nI (i + 2)) ?_
  refine x_sld C0 hX hbl hbA hS (q := (i + 2)) (by omega) (by omega) dL_law_679 ?_
  refine k_VI C0 hP hS (rest := []) hI mf_X6_room ml_L_103 (kd_lt (show kd 46 = 6 by decide) (by decide)) (ct_6 (show kd 46 = 6 by decide)) rfl hl.1 ⟨by show _ ≤ 12; omega, by show _ ≤ 426; omega⟩ ⟨by show _ ≤ 601024; omega, by show _ ≤ 7293034; omega⟩ (Nat.le_of_ble_eq_true rfl) rfl rfl dL_law_680 (fun H locs hP hS => ?_)
  refine lv_istore (lv' := [(6, .int res), (5, .int cd), (4, .int (nI i)), (0, .ref b), (1, .ref (adr G 0)), (2, .ref (adr G 46)), (3, .ref (adr G 66))]) hx hb dL_law_683 hl (by decide) rfl (fun ls hl => ?_)
  refine lv_aload_n hx hb dL_law_685 rfl (lv_at hl 5 rfl) ?_
  refine k_VI C0 hP hS (rest := []) (c_X6_thrown l G M2 o1) mf_X6_thrown ml_L_77 (kd_lt (show kd 46 = 6 by decide) (by decide)) (ct_6 (show kd 46 = 6 by decide)) rfl hl.1 ⟨by show _ ≤ 12; omega, by show _ ≤ 426; omega⟩ ⟨by show _ ≤ 601024; omega, by show _ ≤ 7293034; omega⟩ (Nat.le_of_ble_eq_true rfl) rfl rfl dL_law_686 (fun H locs hP hS => ?_)
  refine lv_topE (y := cd) h0 ?_
  refine lv_iload hx hb dL_law_689 (lv_at hl 1 rfl) ?_
  refine lv_icmp_eq (tgt := 696) hx hb dL_law_691 (by decide) (fun c_1 => ?_) (fun c_1 => ?_)
  · refine lv_iload hx hb dL_law_696 (lv_at hl 1 rfl) ?_
    refine lv_if_ne (tgt := 713) hx hb dL_law_698 (by decide) (fun c_2 => ?_) (fun c_2 => ?_)
    · refine lv_goto (tgt := 1267) hx hb dL_law_713 (by decide) ?_
      refine W.widen (k := cells + 20) (n := slots + 200) (by omega) (by omega) ?_
      exact kk _ _ _ _ _ _ _ _ hR9 hP hS (lv_sub hl [2, 3, 4, 5, 6] rfl)
    · refine lv_aload_n hx hb dL_law_701 rfl (lv_at hl 6 rfl) ?_
      refine lv_iconst (v := 0) hx hb dL_law_702 (by decide) ?_
      refine w_outld C0 hP dL_law_703 ?_
      refine lv_iload hx hb dL_law_704 (lv_at hl 0 rfl) ?_
      refine lv_i2l hx hb dL_law_706 rfl ?_
      refine W.lcmp hx hb dL_law_707 ?_
      refine lv_topE (y := 0) (lg_eq (h1 c_2)) ?_
      refine lv_if_eq (tgt := 713) hx hb dL_law_708 (by decide) (fun c_3 => ?_) (fun c_3 => ?_)
      · refine lv_goto (tgt := 1267) hx hb dL_law_713 (by decide) ?_
        refine W.widen (k := cells + 20) (n := slots + 200) (by omega) (by omega) ?_
        exact kk _ _ _ _ _ _ _ _ hR9 hP hS (lv_sub hl [2, 3, 4, 5, 6] rfl)
      · exact absurd rfl c_3
  · exact absurd rfl c_1
set_option maxHeartbeats 4000000 in
set_option maxRecDepth 100000 in
theorem w_wall (C0 : CX p s m #[Value.ref b] meth c cL_law RL 9 G s.heap.size) (hX : va_X b L xs s s.heap) (hbl : b < s.heap.size) (hbA : ¬ pA G s.heap.size b) (hi : i + 5 ≤ L) (hL : L ≤ 2560) (hP : PW G M o H) (hS : va_S (pA G s.heap.size) s.heap H locs) (hl : lv_has ls 9 [(4, .int (nI i)), (0, .ref b), (1, .ref (adr G 0)), (2, .ref (adr G 46)), (3, .ref (adr G 66))]) (hc : cells + 20 ≤ 601024 ∧ slots + 200 ≤ 7293034) (hst : l.stackTraces = false) (hR : R2 M M np nr k) (kk : ∀ (M' : Mem) (o' : Nat → Int64) (np' nr' k' : Nat) (H1 : Heap) (locs1 : List Loc) (ls' : Array Slot), R2 M' M' np' nr' k' → PW G M' o' H1 → va_S (pA G s.heap.size) s.heap H1 locs1 → lv_has ls' 9 [(4, .int (nI i)), (0, .ref b), (1, .ref (adr G 0)), (2, .ref (adr G 46)), (3, .ref (adr G 66))] → W p l e room_1 s m #[Value.ref b] below meth c H1 locs1 (cells + 20) (slots + 200) Q (F0 m 1267 ls' [])) : W p l e room_1 s m #[Value.ref b] below meth c H locs cells slots Q (F0 m 716 ls []) := by
  have hx := C0.1
  have hb := C0.2.1
  obtain ⟨M1, o1, cd, res, M2, fr, lo, mc, ms, fr2, lo2, mc2, ms2, hbd, hJ, hI, h0, h1, np9, nr9, k9, hR9⟩ := p_wall l hst G hR o (xs (i + 1)) (xs (i + 2))
  refine lv_aload_n hx hb dL_law_716 rfl (lv_at hl 2 rfl) ?_
  refine lv_aload_n hx hb dL_law_717 rfl (lv_at hl 1 rfl) ?_
  refine lv_iload hx hb dL_law_718 (lv_at hl 0 rfl) ?_
  refine lv_iconst (v := 1) hx hb dL_law_720 (by decide) ?_
  refine lv_iadd hx hb dL_law_721 ?_
  refine lv_topE (y := nI (i + 1)) (nI_add i 1 : nI i + nI 1 = nI (i + 1)) ?_
  refine x_sld C0 hX hbl hbA hS (q := (i + 1)) (by omega) (by omega) dL_law_722 ?_
  refine lv_aload_n hx hb dL_law_723 rfl (lv_at hl 1 rfl) ?_
  refine lv_iload hx hb dL_law_724 (lv_at hl 0 rfl) ?_
  refine lv_iconst (v := 2) hx hb dL_law_726 (by decide) ?_
  refine lv_iadd hx hb dL_law_727 ?_
  refine lv_topE (y := nI (i + 2)) (nI_add i 2 : nI i + nI 2 = nI (i + 2)) ?_
  refine x_sld C0 hX hbl hbA hS (q := (i + 2)) (by omega) (by omega) dL_law_728 ?_
  refine lv_aload_n hx hb dL_law_729 rfl (lv_at hl 4 rfl) ?_
  refine k_J C0 hP hS (As := [.ref (adr G 0), .int (xs (i + 1)), .int (xs (i + 2)), .ref (adr G 66)]) (rest := []) hJ mf_L_wall ml_L_104 hl.1 ⟨by show _ ≤ 12; omega, by show _ ≤ 426; omega⟩ ⟨by show _ ≤ 601024; omega, by show _ ≤ 7293034; omega⟩ (Nat.le_of_ble_eq_true rfl) rfl rfl dL_law_730 (fun H locs hP hS => ?_)
  refine lv_istore (lv' := [(5, .int cd), (4, .int (nI i)), (0, .ref b), (1, .ref (adr G 0)), (2, .ref (adr G 46)), (3, .ref (adr G 66))]) hx hb dL_law_733 hl (by decide) rfl (fun ls hl => ?_)
  refine lv_aload_n hx hb dL_law_735 rfl (lv_at hl 4 rfl) ?_
  refine lv_aload_n hx hb dL_law_736 rfl (lv_at hl 2 rfl) ?_
  refine lv_iload hx hb dL_law_737 (lv_at hl 1 rfl) ?_
  refine lv_iconst (v := 1) hx hb dL_law_739 (by decide) ?_
  refine lv_iadd hx hb dL_law_740 ?_
  refine lv_topE (y := nI (i + 1)) (nI_add i 1 : nI i + nI 1 = nI (i + 1)) ?_
  refine x_sld C0 hX hbl hbA hS (q := (i + 1)) (by omega) (by omega) dL_law_741 ?_
  refine lv_aload_n hx hb dL_law_742 rfl (lv_at hl 2 rfl) ?_
  refine lv_iload hx hb dL_law_743 (lv_at hl 1 rfl) ?_
  refine lv_iconst (v := 2) hx hb dL_law_745 (by decide) ?_
  refine lv_iadd hx hb dL_law_746 ?_
  refine lv_topE (y := nI (i + 2)) (nI_add i 2 : nI i + nI 2 = nI (i + 2)) ?_
  refine x_sld C0 hX hbl hbA hS (q := (i + 2)) (by omega) (by omega) dL_law_747 ?_
  refine k_VI C0 hP hS (rest := []) hI mf_X6_wall ml_L_106 (kd_lt (show kd 46 = 6 by decide) (by decide)) (ct_6 (show kd 46 = 6 by decide)) rfl hl.1 ⟨by show _ ≤ 12; omega, by show _ ≤ 426; omega⟩ ⟨by show _ ≤ 601024; omega, by show _ ≤ 7293034; omega⟩ (Nat.le_of_ble_eq_true rfl) rfl rfl dL_law_748 (fun H locs hP hS => ?_)
  refine lv_istore (lv' := [(6, .int res), (5, .int cd), (4, .int (nI i)), (0, .ref b), (1, .ref (adr G 0)), (2, .ref (adr G 46)), (3, .ref (adr G 66))]) hx hb dL_law_751 hl (by decide) rfl (fun ls hl => ?_)
  refine lv_aload_n hx hb dL_law_753 rfl (lv_at hl 5 rfl) ?_
  refine k_VI C0 hP hS (rest := []) (c_X6_thrown l G M2 o1) mf_X6_thrown ml_L_77 (kd_lt (show kd 46 = 6 by decide) (by decide)) (ct_6 (show kd 46 = 6 by decide)) rfl hl.1 ⟨by show _ ≤ 12; omega, by show _ ≤ 426; omega⟩ ⟨by show _ ≤ 601024; omega, by show _ ≤ 7293034; omega⟩ (Nat.le_of_ble_eq_true rfl) rfl rfl dL_law_754 (fun H locs hP hS => ?_)
  refine lv_topE (y := cd) h0 ?_
  refine lv_iload hx hb dL_law_757 (lv_at hl 1 rfl) ?_
  refine lv_icmp_eq (tgt := 764) hx hb dL_law_759 (by decide) (fun c_1 => ?_) (fun c_1 => ?_)
  · refine lv_iload hx hb dL_law_764 (lv_at hl 1 rfl) ?_
    refine lv_if_ne (tgt := 781) hx hb dL_law_766 (by decide) (fun c_2 => ?_) (fun c_2 => ?_)
    · refine lv_goto (tgt := 1267) hx hb dL_law_781 (by decide) ?_
      refine W.widen (k := cells + 20) (n := slots + 200) (by omega) (by omega) ?_
      exact kk _ _ _ _ _ _ _ _ hR9 hP hS (lv_sub hl [2, 3, 4, 5, 6] rfl)
    · refine lv_aload_n hx hb dL_law_769 rfl (lv_at hl 6 rfl) ?_
      refine lv_iconst (v := 0) hx hb dL_law_770 (by decide) ?_
      refine w_outld C0 hP dL_law_771 ?_
      refine lv_iload hx hb dL_law_772 (lv_at hl 0 rfl) ?_
      refine lv_i2l hx hb dL_law_774 rfl ?_
      refine W.lcmp hx hb dL_law_775 ?_
      refine lv_topE (y := 0) (lg_eq (h1 c_2)) ?_
      refine lv_if_eq (tgt := 781) hx hb dL_law_776 (by decide) (fun c_3 => ?_) (fun c_3 => ?_)
      · refine lv_goto (tgt := 1267) hx hb dL_law_781 (by decide) ?_
        refine W.widen (k := cells + 20) (n := slots + 200) (by omega) (by omega) ?_
        exact kk _ _ _ _ _ _ _ _ hR9 hP hS (lv_sub hl [2, 3, 4, 5, 6] rfl)
      · exact absurd rfl c_3
  · exact absurd rfl c_1
set_option maxHeartbeats 4000000 in
set_option maxRecDepth 100000 in
theorem w_bright (C0 : CX p s m #[Value.ref b] meth c cL_law RL 9 G s.heap.size) (hX : va_X b L xs s s.heap) (hbl : b < s.heap.size) (hbA : ¬ pA G s.heap.size b) (hi : i + 5 ≤ L) (hL : L ≤ 2560) (hP : PW G M o H) (hS : va_S (pA G s.heap.size) s.heap H locs) (hl : lv_has ls 9 [(4, .int (nI i)), (0, .ref b), (1, .ref (adr G 0)), (2, .ref (adr G 46)), (3, .ref (adr G 66))]) (hc : cells + 20 ≤ 601024 ∧ slots + 200 ≤ 7293034) (hst : l.stackTraces = false) (hR : R2 M M np nr k) (kk : ∀ (M' : Mem) (o' : Nat → Int64) (np' nr' k' : Nat) (H1 : Heap) (locs1 : List Loc) (ls' : Array Slot), R2 M' M' np' nr' k' → PW G M' o' H1 → va_S (pA G s.heap.size) s.heap H1 locs1 → lv_has ls' 9 [(4, .int (nI i)), (0, .ref b), (1, .ref (adr G 0)), (2, .ref (adr G 46)), (3, .ref (adr G 66))] → W p l e room_1 s m #[Value.ref b] below meth c H1 locs1 (cells + 20) (slots + 200) Q (F0 m 1267 ls' [])) : W p l e room_1 s m #[Value.ref b] below meth c H locs cells slots Q (F0 m 784 ls []) := by
  have hx := C0.1
  have hb := C0.2.1
  obtain ⟨M1, o1, cd, res, M2, fr, lo, mc, ms, fr2, lo2, mc2, ms2, hbd, hJ, hI, h0, h1, np9, nr9, k9, hR9⟩ := p_bright l hst G hR o (xs (i + 1)) (xs (i + 2))
  refine lv_aload_n hx hb dL_law_784 rfl (lv_at hl 2 rfl) ?_
  refine lv_aload_n hx hb dL_law_785 rfl (lv_at hl 1 rfl) ?_
  refine lv_iload hx hb dL_law_786 (lv_at hl 0 rfl) ?_
  refine lv_iconst (v := 1) hx hb dL_law_788 (by decide) ?_
  refine lv_iadd hx hb dL_law_789 ?_
  refine lv_topE (y := nI (i + 1)) (nI_add i 1 : nI i + nI 1 = nI (i + 1)) ?_
  refine x_sld C0 hX hbl hbA hS (q := (i + 1)) (by omega) (by omega) dL_law_790 ?_
  refine lv_aload_n hx hb dL_law_791 rfl (lv_at hl 1 rfl) ?_
  refine lv_iload hx hb dL_law_792 (lv_at hl 0 rfl) ?_
  refine lv_iconst (v := 2) hx hb dL_law_794 (by decide) ?_
  refine lv_iadd hx hb dL_law_795 ?_
  refine lv_topE (y := nI (i + 2)) (nI_add i 2 : nI i + nI 2 = nI (i + 2)) ?_
  refine x_sld C0 hX hbl hbA hS (q := (i + 2)) (by omega) (by omega) dL_law_796 ?_
  refine lv_aload_n hx hb dL_law_797 rfl (lv_at hl 4 rfl) ?_
  refine k_J C0 hP hS (As := [.ref (adr G 0), .int (xs (i + 1)), .int (xs (i + 2)), .ref (adr G 66)]) (rest := []) hJ mf_L_bright ml_L_107 hl.1 ⟨by show _ ≤ 12; omega, by show _ ≤ 426; omega⟩ ⟨by show _ ≤ 601024; omega, by show _ ≤ 7293034; omega⟩ (Nat.le_of_ble_eq_true rfl) rfl rfl dL_law_798 (fun H locs hP hS => ?_)
  refine lv_istore (lv' := [(5, .int cd), (4, .int (nI i)), (0, .ref b), (1, .ref (adr G 0)), (2, .ref (adr G 46)), (3, .ref (adr G 66))]) hx hb dL_law_801 hl (by decide) rfl (fun ls hl => ?_)
  refine lv_aload_n hx hb dL_law_803 rfl (lv_at hl 4 rfl) ?_
  refine lv_aload_n hx hb dL_law_804 rfl (lv_at hl 2 rfl) ?_
  refine lv_iload hx hb dL_law_805 (lv_at hl 1 rfl) ?_
  refine lv_iconst (v := 1) hx hb dL_law_807 (by decide) ?_
  refine lv_iadd hx hb dL_law_808 ?_
  refine lv_topE (y := nI (i + 1)) (nI_add i 1 : nI i + nI 1 = nI (i + 1)) ?_
  refine x_sld C0 hX hbl hbA hS (q := (i + 1)) (by omega) (by omega) dL_law_809 ?_
  refine lv_aload_n hx hb dL_law_810 rfl (lv_at hl 2 rfl) ?_
  refine lv_iload hx hb dL_law_811 (lv_at hl 1 rfl) ?_
  refine lv_iconst (v := 2) hx hb dL_law_813 (by decide) ?_
  refine lv_iadd hx hb dL_law_814 ?_
  refine lv_topE (y := nI (i + 2)) (nI_add i 2 : nI i + nI 2 = nI (i + 2)) ?_
  refine x_sld C0 hX hbl hbA hS (q := (i + 2)) (by omega) (by omega) dL_law_815 ?_
  refine k_VI C0 hP hS (rest := []) hI mf_X6_bright ml_L_109 (kd_lt (show kd 46 = 6 by decide) (by decide)) (ct_6 (show kd 46 = 6 by decide)) rfl hl.1 ⟨by show _ ≤ 12; omega, by show _ ≤ 426; omega⟩ ⟨by show _ ≤ 601024; omega, by show _ ≤ 7293034; omega⟩ (Nat.le_of_ble_eq_true rfl) rfl rfl dL_law_816 (fun H locs hP hS => ?_)
  refine lv_istore (lv' := [(6, .int res), (5, .int cd), (4, .int (nI i)), (0, .ref b), (1, .ref (adr G 0)), (2, .ref (adr G 46)), (3, .ref (adr G 66))]) hx hb dL_law_819 hl (by decide) rfl (fun ls hl => ?_)
  refine lv_aload_n hx hb dL_law_821 rfl (lv_at hl 5 rfl) ?_
  refine k_VI C0 hP hS (rest := []) (c_X6_thrown l G M2 o1) mf_X6_thrown ml_L_77 (kd_lt (show kd 46 = 6 by decide) (by decide)) (ct_6 (show kd 46 = 6 by decide)) rfl hl.1 ⟨by show _ ≤ 12; omega, by show _ ≤ 426; omega⟩ ⟨by show _ ≤ 601024; omega, by show _ ≤ 7293034; omega⟩ (Nat.le_of_ble_eq_true rfl) rfl rfl dL_law_822 (fun H locs hP hS => ?_)
  refine lv_topE (y := cd) h0 ?_
  refine lv_iload hx hb dL_law_825 (lv_at hl 1 rfl) ?_
  refine lv_icmp_eq (tgt := 832) hx hb dL_law_827 (by decide) (fun c_1 => ?_) (fun c_1 => ?_)
  · refine lv_iload hx hb dL_law_832 (lv_at hl 1 rfl) ?_
    refine lv_if_ne (tgt := 849) hx hb dL_law_834 (by decide) (fun c_2 => ?_) (fun c_2 => ?_)
    · refine lv_goto (tgt := 1267) hx hb dL_law_849 (by decide) ?_
      refine W.widen (k := cells + 20) (n := slots + 200) (by omega) (by omega) ?_
      exact kk _ _ _ _ _ _ _ _ hR9 hP hS (lv_sub hl [2, 3, 4, 5, 6] rfl)
    · refine lv_aload_n hx hb dL_law_837 rfl (lv_at hl 6 rfl) ?_
      refine lv_iconst (v := 0) hx hb dL_law_838 (by decide) ?_
      refine w_outld C0 hP dL_law_839 ?_
      refine lv_iload hx hb dL_law_840 (lv_at hl 0 rfl) ?_
      refine lv_i2l hx hb dL_law_842 rfl ?_
      refine W.lcmp hx hb dL_law_843 ?_
      refine lv_topE (y := 0) (lg_eq (h1 c_2)) ?_
      refine lv_if_eq (tgt := 849) hx hb dL_law_844 (by decide) (fun c_3 => ?_) (fun c_3 => ?_)
      · refine lv_goto (tgt := 1267) hx hb dL_law_849 (by decide) ?_
        refine W.widen (k := cells + 20) (n := slots + 200) (by omega) (by omega) ?_
        exact kk _ _ _ _ _ _ _ _ hR9 hP hS (lv_sub hl [2, 3, 4, 5, 6] rfl)
      · exact absurd rfl c_3
  · exact absurd rfl c_1
set_option maxHeartbeats 4000000 in
set_option maxRecDepth 100000 in
theorem w_count (C0 : CX p s m #[Value.ref b] meth c cL_law RL 9 G s.heap.size) (hX : va_X b L xs s s.heap) (hbl : b < s.heap.size) (hbA : ¬ pA G s.heap.size b) (hi : i + 5 ≤ L) (hL : L ≤ 2560) (hP : PW G M o H) (hS : va_S (pA G s.heap.size) s.heap H locs) (hl : lv_has ls 9 [(4, .int (nI i)), (0, .ref b), (1, .ref (adr G 0)), (2, .ref (adr G 46)), (3, .ref (adr G 66))]) (hc : cells + 20 ≤ 601024 ∧ slots + 200 ≤ 7293034) (hst : l.stackTraces = false) (hR : R2 M M np nr k) (kk : ∀ (M' : Mem) (o' : Nat → Int64) (np' nr' k' : Nat) (H1 : Heap) (locs1 : List Loc) (ls' : Array Slot), R2 M' M' np' nr' k' → PW G M' o' H1 → va_S (pA G s.heap.size) s.heap H1 locs1 → lv_has ls' 9 [(4, .int (nI i)), (0, .ref b), (1, .ref (adr G 0)), (2, .ref (adr G 46)), (3, .ref (adr G 66))] → W p l e room_1 s m #[Value.ref b] below meth c H1 locs1 (cells + 20) (slots + 200) Q (F0 m 1267 ls' [])) : W p l e room_1 s m #[Value.ref b] below meth c H locs cells slots Q (F0 m 852 ls []) := by
  have hx := C0.1
  have hb := C0.2.1
  obtain ⟨M1, o1, cd, res, M2, fr, lo, mc, ms, fr2, lo2, mc2, ms2, hbd, hJ, hI, h0, h1, np9, nr9, k9, hR9⟩ := p_count l hst G hR o (xs (i + 1))
  refine lv_aload_n hx hb dL_law_852 rfl (lv_at hl 2 rfl) ?_
  refine lv_aload_n hx hb dL_law_853 rfl (lv_at hl 1 rfl) ?_
  refine lv_iload hx hb dL_law_854 (lv_at hl 0 rfl) ?_
  refine lv_iconst (v := 1) hx hb dL_law_856 (by decide) ?_
  refine lv_iadd hx hb dL_law_857 ?_
  refine lv_topE (y := nI (i + 1)) (nI_add i 1 : nI i + nI 1 = nI (i + 1)) ?_
  refine x_sld C0 hX hbl hbA hS (q := (i + 1)) (by omega) (by omega) dL_law_858 ?_
  refine lv_aload_n hx hb dL_law_859 rfl (lv_at hl 4 rfl) ?_
  refine k_J C0 hP hS (As := [.ref (adr G 0), .int (xs (i + 1)), .ref (adr G 66)]) (rest := []) hJ mf_L_count ml_L_110 hl.1 ⟨by show _ ≤ 12; omega, by show _ ≤ 426; omega⟩ ⟨by show _ ≤ 601024; omega, by show _ ≤ 7293034; omega⟩ (Nat.le_of_ble_eq_true rfl) rfl rfl dL_law_860 (fun H locs hP hS => ?_)
  refine lv_istore (lv' := [(5, .int cd), (4, .int (nI i)), (0, .ref b), (1, .ref (adr G 0)), (2, .ref (adr G 46)), (3, .ref (adr G 66))]) hx hb dL_law_863 hl (by decide) rfl (fun ls hl => ?_)
  refine lv_aload_n hx hb dL_law_865 rfl (lv_at hl 4 rfl) ?_
  refine lv_aload_n hx hb dL_law_866 rfl (lv_at hl 2 rfl) ?_
  refine lv_iload hx hb dL_law_867 (lv_at hl 1 rfl) ?_
  refine lv_iconst (v := 1) hx hb dL_law_869 (by decide) ?_
  refine lv_iadd hx hb dL_law_870 ?_
  refine lv_topE (y := nI (i + 1)) (nI_add i 1 : nI i + nI 1 = nI (i + 1)) ?_
  refine x_sld C0 hX hbl hbA hS (q := (i + 1)) (by omega) (by omega) dL_law_871 ?_
  refine k_VI C0 hP hS (rest := []) hI mf_X6_count ml_L_113 (kd_lt (show kd 46 = 6 by decide) (by decide)) (ct_6 (show kd 46 = 6 by decide)) rfl hl.1 ⟨by show _ ≤ 12; omega, by show _ ≤ 426; omega⟩ ⟨by show _ ≤ 601024; omega, by show _ ≤ 7293034; omega⟩ (Nat.le_of_ble_eq_true rfl) rfl rfl dL_law_872 (fun H locs hP hS => ?_)
  refine lv_istore (lv' := [(6, .int res), (5, .int cd), (4, .int (nI i)), (0, .ref b), (1, .ref (adr G 0)), (2, .ref (adr G 46)), (3, .ref (adr G 66))]) hx hb dL_law_875 hl (by decide) rfl (fun ls hl => ?_)
  refine lv_aload_n hx hb dL_law_877 rfl (lv_at hl 5 rfl) ?_
  refine k_VI C0 hP hS (rest := []) (c_X6_thrown l G M2 o1) mf_X6_thrown ml_L_77 (kd_lt (show kd 46 = 6 by decide) (by decide)) (ct_6 (show kd 46 = 6 by decide)) rfl hl.1 ⟨by show _ ≤ 12; omega, by show _ ≤ 426; omega⟩ ⟨by show _ ≤ 601024; omega, by show _ ≤ 7293034; omega⟩ (Nat.le_of_ble_eq_true rfl) rfl rfl dL_law_878 (fun H locs hP hS => ?_)
  refine lv_topE (y := cd) h0 ?_
  refine lv_iload hx hb dL_law_881 (lv_at hl 1 rfl) ?_
  refine lv_icmp_eq (tgt := 888) hx hb dL_law_883 (by decide) (fun c_1 => ?_) (fun c_1 => ?_)
  · refine lv_iload hx hb dL_law_888 (lv_at hl 1 rfl) ?_
    refine lv_if_ne (tgt := 905) hx hb dL_law_890 (by decide) (fun c_2 => ?_) (fun c_2 => ?_)
    · refine lv_goto (tgt := 1267) hx hb dL_law_905 (by decide) ?_
      refine W.widen (k := cells + 20) (n := slots + 200) (by omega) (by omega) ?_
      exact kk _ _ _ _ _ _ _ _ hR9 hP hS (lv_sub hl [2, 3, 4, 5, 6] rfl)
    · refine lv_aload_n hx hb dL_law_893 rfl (lv_at hl 6 rfl) ?_
      refine lv_iconst (v := 0) hx hb dL_law_894 (by decide) ?_
      refine w_outld C0 hP dL_law_895 ?_
      refine lv_iload hx hb dL_law_896 (lv_at hl 0 rfl) ?_
      refine lv_i2l hx hb dL_law_898 rfl ?_
      refine W.lcmp hx hb dL_law_899 ?_
      refine lv_topE (y := 0) (lg_eq (h1 c_2)) ?_
      refine lv_if_eq (tgt := 905) hx hb dL_law_900 (by decide) (fun c_3 => ?_) (fun c_3 => ?_)
      · refine lv_goto (tgt := 1267) hx hb dL_law_905 (by decide) ?_
        refine W.widen (k := cells + 20) (n := slots + 200) (by omega) (by omega) ?_
        exact kk _ _ _ _ _ _ _ _ hR9 hP hS (lv_sub hl [2, 3, 4, 5, 6] rfl)
      · exact absurd rfl c_3
  · exact absurd rfl c_1
set_option maxHeartbeats 4000000 in
set_option maxRecDepth 100000 in
theorem w_go (C0 : CX p s m #[Value.ref b] meth c cL_law RL 9 G s.heap.size) (hX : va_X b L xs s s.heap) (hbl : b < s.heap.size) (hbA : ¬ pA G s.heap.size b) (hi : i + 5 ≤ L) (hL : L ≤ 2560) (hP : PW G M o H) (hS : va_S (pA G s.heap.size) s.heap H locs) (hl : lv_has ls 9 [(4, .int (nI i)), (0, .ref b), (1, .ref (adr G 0)), (2, .ref (adr G 46)), (3, .ref (adr G 66))]) (hc : cells + 20 ≤ 601024 ∧ slots + 200 ≤ 7293034) (hst : l.stackTraces = false) (hR : R2 M M np nr k) (kk : ∀ (M' : Mem) (o' : Nat → Int64) (np' nr' k' : Nat) (H1 : Heap) (locs1 : List Loc) (ls' : Array Slot), R2 M' M' np' nr' k' → PW G M' o' H1 → va_S (pA G s.heap.size) s.heap H1 locs1 → lv_has ls' 9 [(4, .int (nI i)), (0, .ref b), (1, .ref (adr G 0)), (2, .ref (adr G 46)), (3, .ref (adr G 66))] → W p l e room_1 s m #[Value.ref b] below meth c H1 locs1 (cells + 20) (slots + 200) Q (F0 m 1267 ls' [])) : W p l e room_1 s m #[Value.ref b] below meth c H locs cells slots Q (F0 m 908 ls []) := by
  have hx := C0.1
  have hb := C0.2.1
  obtain ⟨M1, o1, cd, res, M2, fr, lo, mc, ms, fr2, lo2, mc2, ms2, hbd, hJ, hI, h0, h1, np9, nr9, k9, hR9⟩ := p_go l hst G hR o (xs (i + 1))
  refine lv_aload_n hx hb dL_law_908 rfl (lv_at hl 2 rfl) ?_
  refine lv_aload_n hx hb dL_law_909 rfl (lv_at hl 1 rfl) ?_
  refine lv_iload hx hb dL_law_910 (lv_at hl 0 rfl) ?_
  refine lv_iconst (v := 1) hx hb dL_law_912 (by decide) ?_
  refine lv_iadd hx hb dL_law_913 ?_
  refine lv_topE (y := nI (i + 1)) (nI_add i 1 : nI i + nI 1 = nI (i + 1)) ?_
  refine x_sld C0 hX hbl hbA hS (q := (i + 1)) (by omega) (by omega) dL_law_914 ?_
  refine lv_aload_n hx hb dL_law_915 rfl (lv_at hl 4 rfl) ?_
  refine k_J C0 hP hS (As := [.ref (adr G 0), .int (xs (i + 1)), .ref (adr G 66)]) (rest := []) hJ mf_L_go ml_L_114 hl.1 ⟨by show _ ≤ 12; omega, by show _ ≤ 426; omega⟩ ⟨by show _ ≤ 601024; omega, by show _ ≤ 7293034; omega⟩ (Nat.le_of_ble_eq_true rfl) rfl rfl dL_law_916 (fun H locs hP hS => ?_)
  refine lv_istore (lv' := [(5, .int cd), (4, .int (nI i)), (0, .ref b), (1, .ref (adr G 0)), (2, .ref (adr G 46)), (3, .ref (adr G 66))]) hx hb dL_law_919 hl (by decide) rfl (fun ls hl => ?_)
  refine lv_aload_n hx hb dL_law_921 rfl (lv_at hl 4 rfl) ?_
  refine lv_aload_n hx hb dL_law_922 rfl (lv_at hl 2 rfl) ?_
  refine lv_iload hx hb dL_law_923 (lv_at hl 1 rfl) ?_
  refine lv_iconst (v := 1) hx hb dL_law_925 (by decide) ?_
  refine lv_iadd hx hb dL_law_926 ?_
  refine lv_topE (y := nI (i + 1)) (nI_add i 1 : nI i + nI 1 = nI (i + 1)) ?_
  refine x_sld C0 hX hbl hbA hS (q := (i + 1)) (by omega) (by omega) dL_law_927 ?_
  refine k_VI C0 hP hS (rest := []) hI mf_X6_go ml_L_116 (kd_lt (show kd 46 = 6 by decide) (by decide)) (ct_6 (show kd 46 = 6 by decide)) rfl hl.1 ⟨by show _ ≤ 12; omega, by show _ ≤ 426; omega⟩ ⟨by show _ ≤ 601024; omega, by show _ ≤ 7293034; omega⟩ (Nat.le_of_ble_eq_true rfl) rfl rfl dL_law_928 (fun H locs hP hS => ?_)
  refine lv_istore (lv' := [(6, .int res), (5, .int cd), (4, .int (nI i)), (0, .ref b), (1, .ref (adr G 0)), (2, .ref (adr G 46)), (3, .ref (adr G 66))]) hx hb dL_law_931 hl (by decide) rfl (fun ls hl => ?_)
  refine lv_aload_n hx hb dL_law_933 rfl (lv_at hl 5 rfl) ?_
  refine k_VI C0 hP hS (rest := []) (c_X6_thrown l G M2 o1) mf_X6_thrown ml_L_77 (kd_lt (show kd 46 = 6 by decide) (by decide)) (ct_6 (show kd 46 = 6 by decide)) rfl hl.1 ⟨by show _ ≤ 12; omega, by show _ ≤ 426; omega⟩ ⟨by show _ ≤ 601024; omega, by show _ ≤ 7293034; omega⟩ (Nat.le_of_ble_eq_true rfl) rfl rfl dL_law_934 (fun H locs hP hS => ?_)
  refine lv_topE (y := cd) h0 ?_
  refine lv_iload hx hb dL_law_937 (lv_at hl 1 rfl) ?_
  refine lv_icmp_eq (tgt := 944) hx hb dL_law_939 (by decide) (fun c_1 => ?_) (fun c_1 => ?_)
  · refine lv_iload hx hb dL_law_944 (lv_at hl 1 rfl) ?_
    refine lv_if_ne (tgt := 961) hx hb dL_law_946 (by decide) (fun c_2 => ?_) (fun c_2 => ?_)
    · refine lv_goto (tgt := 1267) hx hb dL_law_961 (by decide) ?_
      refine W.widen (k := cells + 20) (n := slots + 200) (by omega) (by omega) ?_
      exact kk _ _ _ _ _ _ _ _ hR9 hP hS (lv_sub hl [2, 3, 4, 5, 6] rfl)
    · refine lv_aload_n hx hb dL_law_949 rfl (lv_at hl 6 rfl) ?_
      refine lv_iconst (v := 0) hx hb dL_law_950 (by decide) ?_
      refine w_outld C0 hP dL_law_951 ?_
      refine lv_iload hx hb dL_law_952 (lv_at hl 0 rfl) ?_
      refine lv_i2l hx hb dL_law_954 rfl ?_
      refine W.lcmp hx hb dL_law_955 ?_
      refine lv_topE (y := 0) (lg_eq (h1 c_2)) ?_
      refine lv_if_eq (tgt := 961) hx hb dL_law_956 (by decide) (fun c_3 => ?_) (fun c_3 => ?_)
      · refine lv_goto (tgt := 1267) hx hb dL_law_961 (by decide) ?_
        refine W.widen (k := cells + 20) (n := slots + 200) (by omega) (by omega) ?_
        exact kk _ _ _ _ _ _ _ _ hR9 hP hS (lv_sub hl [2, 3, 4, 5, 6] rfl)
      · exact absurd rfl c_3
  · exact absurd rfl c_1
set_option maxHeartbeats 4000000 in
set_option maxRecDepth 100000 in
theorem w_when (C0 : CX p s m #[Value.ref b] meth c cL_law RL 9 G s.heap.size) (hX : va_X b L xs s s.heap) (hbl : b < s.heap.size) (hbA : ¬ pA G s.heap.size b) (hi : i + 5 ≤ L) (hL : L ≤ 2560) (hP : PW G M o H) (hS : va_S (pA G s.heap.size) s.heap H locs) (hl : lv_has ls 9 [(4, .int (nI i)), (0, .ref b), (1, .ref (adr G 0)), (2, .ref (adr G 46)), (3, .ref (adr G 66))]) (hc : cells + 20 ≤ 601024 ∧ slots + 200 ≤ 7293034) (hst : l.stackTraces = false) (hR : R2 M M np nr k) (kk : ∀ (M' : Mem) (o' : Nat → Int64) (np' nr' k' : Nat) (H1 : Heap) (locs1 : List Loc) (ls' : Array Slot), R2 M' M' np' nr' k' → PW G M' o' H1 → va_S (pA G s.heap.size) s.heap H1 locs1 → lv_has ls' 9 [(4, .int (nI i)), (0, .ref b), (1, .ref (adr G 0)), (2, .ref (adr G 46)), (3, .ref (adr G 66))] → W p l e room_1 s m #[Value.ref b] below meth c H1 locs1 (cells + 20) (slots + 200) Q (F0 m 1267 ls' [])) : W p l e room_1 s m #[Value.ref b] below meth c H locs cells slots Q (F0 m 964 ls []) := by
  have hx := C0.1
  have hb := C0.2.1
  obtain ⟨M1, o1, cd, res, M2, fr, lo, mc, ms, fr2, lo2, mc2, ms2, hbd, hJ, hI, h0, h1, np9, nr9, k9, hR9⟩ := p_when l hst G hR o (xs (i + 1))
  refine lv_aload_n hx hb dL_law_964 rfl (lv_at hl 2 rfl) ?_
  refine lv_aload_n hx hb dL_law_965 rfl (lv_at hl 1 rfl) ?_
  refine lv_iload hx hb dL_law_966 (lv_at hl 0 rfl) ?_
  refine lv_iconst (v := 1) hx hb dL_law_968 (by decide) ?_
  refine lv_iadd hx hb dL_law_969 ?_
  refine lv_topE (y := nI (i + 1)) (nI_add i 1 : nI i + nI 1 = nI (i + 1)) ?_
  refine x_sld C0 hX hbl hbA hS (q := (i + 1)) (by omega) (by omega) dL_law_970 ?_
  refine lv_aload_n hx hb dL_law_971 rfl (lv_at hl 4 rfl) ?_
  refine k_J C0 hP hS (As := [.ref (adr G 0), .int (xs (i + 1)), .ref (adr G 66)]) (rest := []) hJ mf_L_when ml_L_117 hl.1 ⟨by show _ ≤ 12; omega, by show _ ≤ 426; omega⟩ ⟨by show _ ≤ 601024; omega, by show _ ≤ 7293034; omega⟩ (Nat.le_of_ble_eq_true rfl) rfl rfl dL_law_972 (fun H locs hP hS => ?_)
  refine lv_istore (lv' := [(5, .int cd), (4, .int (nI i)), (0, .ref b), (1, .ref (adr G 0)), (2, .ref (adr G 46)), (3, .ref (adr G 66))]) hx hb dL_law_975 hl (by decide) rfl (fun ls hl => ?_)
  refine lv_aload_n hx hb dL_law_977 rfl (lv_at hl 4 rfl) ?_
  refine lv_aload_n hx hb dL_law_978 rfl (lv_at hl 2 rfl) ?_
  refine lv_iload hx hb dL_law_979 (lv_at hl 1 rfl) ?_
  refine lv_iconst (v := 1) hx hb dL_law_981 (by decide) ?_
  refine lv_iadd hx hb dL_law_982 ?_
  refine lv_topE (y := nI (i + 1)) (nI_add i 1 : nI i + nI 1 = nI (i + 1)) ?_
  refine x_sld C0 hX hbl hbA hS (q := (i + 1)) (by omega) (by omega) dL_law_983 ?_
  refine k_VI C0 hP hS (rest := []) hI mf_X6_when ml_L_119 (kd_lt (show kd 46 = 6 by decide) (by decide)) (ct_6 (show kd 46 = 6 by decide)) rfl hl.1 ⟨by show _ ≤ 12; omega, by show _ ≤ 426; omega⟩ ⟨by show _ ≤ 601024; omega, by show _ ≤ 7293034; omega⟩ (Nat.le_of_ble_eq_true rfl) rfl rfl dL_law_984 (fun H locs hP hS => ?_)
  refine lv_istore (lv' := [(6, .int res), (5, .int cd), (4, .int (nI i)), (0, .ref b), (1, .ref (adr G 0)), (2, .ref (adr G 46)), (3, .ref (adr G 66))]) hx hb dL_law_987 hl (by decide) rfl (fun ls hl => ?_)
  refine lv_aload_n hx hb dL_law_989 rfl (lv_at hl 5 rfl) ?_
  refine k_VI C0 hP hS (rest := []) (c_X6_thrown l G M2 o1) mf_X6_thrown ml_L_77 (kd_lt (show kd 46 = 6 by decide) (by decide)) (ct_6 (show kd 46 = 6 by decide)) rfl hl.1 ⟨by show _ ≤ 12; omega, by show _ ≤ 426; omega⟩ ⟨by show _ ≤ 601024; omega, by show _ ≤ 7293034; omega⟩ (Nat.le_of_ble_eq_true rfl) rfl rfl dL_law_990 (fun H locs hP hS => ?_)
  refine lv_topE (y := cd) h0 ?_
  refine lv_iload hx hb dL_law_993 (lv_at hl 1 rfl) ?_
  refine lv_icmp_eq (tgt := 1000) hx hb dL_law_995 (by decide) (fun c_1 => ?_) (fun c_1 => ?_)
  · refine lv_iload hx hb dL_law_1000 (lv_at hl 1 rfl) ?_
    refine lv_if_ne (tgt := 1017) hx hb dL_law_1002 (by decide) (fun c_2 => ?_) (fun c_2 => ?_)
    · refine lv_goto (tgt := 1267) hx hb dL_law_1017 (by decide) ?_
      refine W.widen (k := cells + 20) (n := slots + 200) (by omega) (by omega) ?_
      exact kk _ _ _ _ _ _ _ _ hR9 hP hS (lv_sub hl [2, 3, 4, 5, 6] rfl)
    · refine lv_aload_n hx hb dL_law_1005 rfl (lv_at hl 6 rfl) ?_
      refine lv_iconst (v := 0) hx hb dL_law_1006 (by decide) ?_
      refine w_outld C0 hP dL_law_1007 ?_
      refine lv_iload hx hb dL_law_1008 (lv_at hl 0 rfl) ?_
      refine lv_i2l hx hb dL_law_1010 rfl ?_
      refine W.lcmp hx hb dL_law_1011 ?_
      refine lv_topE (y := 0) (lg_eq (h1 c_2)) ?_
      refine lv_if_eq (tgt := 1017) hx hb dL_law_1012 (by decide) (fun c_3 => ?_) (fun c_3 => ?_)
      · refine lv_goto (tgt := 1267) hx hb dL_law_1017 (by decide) ?_
        refine W.widen (k := cells + 20) (n := slots + 200) (by omega) (by omega) ?_
        exact kk _ _ _ _ _ _ _ _ hR9 hP hS (lv_sub hl [2, 3, 4, 5, 6] rfl)
      · exact absurd rfl c_3
  · exact absurd rfl c_1
set_option maxHeartbeats 4000000 in
set_option maxRecDepth 100000 in
theorem w_advise (C0 : CX p s m #[Value.ref b] meth c cL_law RL 9 G s.heap.size) (hX : va_X b L xs s s.heap) (hbl : b < s.heap.size) (hbA : ¬ pA G s.heap.size b) (hi : i + 5 ≤ L) (hL : L ≤ 2560) (hP : PW G M o H) (hS : va_S (pA G s.heap.size) s.heap H locs) (hl : lv_has ls 9 [(4, .int (nI i)), (0, .ref b), (1, .ref (adr G 0)), (2, .ref (adr G 46)), (3, .ref (adr G 66))]) (hc : cells + 20 ≤ 601024 ∧ slots + 200 ≤ 7293034) (hst : l.stackTraces = false) (hR : R2 M M np nr k) (kk : ∀ (M' : Mem) (o' : Nat → Int64) (np' nr' k' : Nat) (H1 : Heap) (locs1 : List Loc) (ls' : Array Slot), R2 M' M' np' nr' k' → PW G M' o' H1 → va_S (pA G s.heap.size) s.heap H1 locs1 → lv_has ls' 9 [(4, .int (nI i)), (0, .ref b), (1, .ref (adr G 0)), (2, .ref (adr G 46)), (3, .ref (adr G 66))] → W p l e room_1 s m #[Value.ref b] below meth c H1 locs1 (cells + 20) (slots + 200) Q (F0 m 1267 ls' [])) : W p l e room_1 s m #[Value.ref b] below meth c H locs cells slots Q (F0 m 1020 ls []) := by
  have hx := C0.1
  have hb := C0.2.1
  obtain ⟨M1, o1, cd, res, M2, fr, lo, mc, ms, fr2, lo2, mc2, ms2, hbd, hJ, hI, h0, h1, np9, nr9, k9, hR9⟩ := p_advise l hst G hR o (xs (i + 1)) (xs (i + 2))
  refine lv_aload_n hx hb dL_law_1020 rfl (lv_at hl 2 rfl) ?_
  refine lv_aload_n hx hb dL_law_1021 rfl (lv_at hl 1 rfl) ?_
  refine lv_iload hx hb dL_law_1022 (lv_at hl 0 rfl) ?_
  refine lv_iconst (v := 1) hx hb dL_law_1024 (by decide) ?_
  refine lv_iadd hx hb dL_law_1025 ?_
  refine lv_topE (y := nI (i + 1)) (nI_add i 1 : nI i + nI 1 = nI (i + 1)) ?_
  refine x_sld C0 hX hbl hbA hS (q := (i + 1)) (by omega) (by omega) dL_law_1026 ?_
  refine lv_aload_n hx hb dL_law_1027 rfl (lv_at hl 1 rfl) ?_
  refine lv_iload hx hb dL_law_1028 (lv_at hl 0 rfl) ?_
  refine lv_iconst (v := 2) hx hb dL_law_1030 (by decide) ?_
  refine lv_iadd hx hb dL_law_1031 ?_
  refine lv_topE (y := nI (i + 2)) (nI_add i 2 : nI i + nI 2 = nI (i + 2)) ?_
  refine x_sld C0 hX hbl hbA hS (q := (i + 2)) (by omega) (by omega) dL_law_1032 ?_
  refine lv_aload_n hx hb dL_law_1033 rfl (lv_at hl 4 rfl) ?_
  refine k_J C0 hP hS (As := [.ref (adr G 0), .int (xs (i + 1)), .int (xs (i + 2)), .ref (adr G 66)]) (rest := []) hJ mf_L_advise ml_L_120 hl.1 ⟨by show _ ≤ 12; omega, by show _ ≤ 426; omega⟩ ⟨by show _ ≤ 601024; omega, by show _ ≤ 7293034; omega⟩ (Nat.le_of_ble_eq_true rfl) rfl rfl dL_law_1034 (fun H locs hP hS => ?_)
  refine lv_istore (lv' := [(5, .int cd), (4, .int (nI i)), (0, .ref b), (1, .ref (adr G 0)), (2, .ref (adr G 46)), (3, .ref (adr G 66))]) hx hb dL_law_1037 hl (by decide) rfl (fun ls hl => ?_)
  refine lv_aload_n hx hb dL_law_1039 rfl (lv_at hl 4 rfl) ?_
  refine lv_aload_n hx hb dL_law_1040 rfl (lv_at hl 2 rfl) ?_
  refine lv_iload hx hb dL_law_1041 (lv_at hl 1 rfl) ?_
  refine lv_iconst (v := 1) hx hb dL_law_1043 (by decide) ?_
  refine lv_iadd hx hb dL_law_1044 ?_
  refine lv_topE (y := nI (i + 1)) (nI_add i 1 : nI i + nI 1 = nI (i + 1)) ?_
  refine x_sld C0 hX hbl hbA hS (q := (i + 1)) (by omega) (by omega) dL_law_1045 ?_
  refine lv_aload_n hx hb dL_law_1046 rfl (lv_at hl 2 rfl) ?_
  refine lv_iload hx hb dL_law_1047 (lv_at hl 1 rfl) ?_
  refine lv_iconst (v := 2) hx hb dL_law_1049 (by decide) ?_
  refine lv_iadd hx hb dL_law_1050 ?_
  refine lv_topE (y := nI (i + 2)) (nI_add i 2 : nI i + nI 2 = nI (i + 2)) ?_
  refine x_sld C0 hX hbl hbA hS (q := (i + 2)) (by omega) (by omega) dL_law_1051 ?_
  refine k_VI C0 hP hS (rest := []) hI mf_X6_advise ml_L_122 (kd_lt (show kd 46 = 6 by decide) (by decide)) (ct_6 (show kd 46 = 6 by decide)) rfl hl.1 ⟨by show _ ≤ 12; omega, by show _ ≤ 426; omega⟩ ⟨by show _ ≤ 601024; omega, by show _ ≤ 7293034; omega⟩ (Nat.le_of_ble_eq_true rfl) rfl rfl dL_law_1052 (fun H locs hP hS => ?_)
  refine lv_istore (lv' := [(6, .int res), (5, .int cd), (4, .int (nI i)), (0, .ref b), (1, .ref (adr G 0)), (2, .ref (adr G 46)), (3, .ref (adr G 66))]) hx hb dL_law_1055 hl (by decide) rfl (fun ls hl => ?_)
  refine lv_aload_n hx hb dL_law_1057 rfl (lv_at hl 5 rfl) ?_
  refine k_VI C0 hP hS (rest := []) (c_X6_thrown l G M2 o1) mf_X6_thrown ml_L_77 (kd_lt (show kd 46 = 6 by decide) (by decide)) (ct_6 (show kd 46 = 6 by decide)) rfl hl.1 ⟨by show _ ≤ 12; omega, by show _ ≤ 426; omega⟩ ⟨by show _ ≤ 601024; omega, by show _ ≤ 7293034; omega⟩ (Nat.le_of_ble_eq_true rfl) rfl rfl dL_law_1058 (fun H locs hP hS => ?_)
  refine lv_topE (y := cd) h0 ?_
  refine lv_iload hx hb dL_law_1061 (lv_at hl 1 rfl) ?_
  refine lv_icmp_eq (tgt := 1068) hx hb dL_law_1063 (by decide) (fun c_1 => ?_) (fun c_1 => ?_)
  · refine lv_iload hx hb dL_law_1068 (lv_at hl 1 rfl) ?_
    refine lv_if_ne (tgt := 1085) hx hb dL_law_1070 (by decide) (fun c_2 => ?_) (fun c_2 => ?_)
    · refine lv_goto (tgt := 1267) hx hb dL_law_1085 (by decide) ?_
      refine W.widen (k := cells + 20) (n := slots + 200) (by omega) (by omega) ?_
      exact kk _ _ _ _ _ _ _ _ hR9 hP hS (lv_sub hl [2, 3, 4, 5, 6] rfl)
    · refine lv_aload_n hx hb dL_law_1073 rfl (lv_at hl 6 rfl) ?_
      refine lv_iconst (v := 0) hx hb dL_law_1074 (by decide) ?_
      refine w_outld C0 hP dL_law_1075 ?_
      refine lv_iload hx hb dL_law_1076 (lv_at hl 0 rfl) ?_
      refine lv_i2l hx hb dL_law_1078 rfl ?_
      refine W.lcmp hx hb dL_law_1079 ?_
      refine lv_topE (y := 0) (lg_eq (h1 c_2)) ?_
      refine lv_if_eq (tgt := 1085) hx hb dL_law_1080 (by decide) (fun c_3 => ?_) (fun c_3 => ?_)
      · refine lv_goto (tgt := 1267) hx hb dL_law_1085 (by decide) ?_
        refine W.widen (k := cells + 20) (n := slots + 200) (by omega) (by omega) ?_
        exact kk _ _ _ _ _ _ _ _ hR9 hP hS (lv_sub hl [2, 3, 4, 5, 6] rfl)
      · exact absurd rfl c_3
  · exact absurd rfl c_1
set_option maxHeartbeats 4000000 in
set_option maxRecDepth 100000 in
theorem w_seen (C0 : CX p s m #[Value.ref b] meth c cL_law RL 9 G s.heap.size) (hX : va_X b L xs s s.heap) (hbl : b < s.heap.size) (hbA : ¬ pA G s.heap.size b) (hi : i + 5 ≤ L) (hL : L ≤ 2560) (hP : PW G M o H) (hS : va_S (pA G s.heap.size) s.heap H locs) (hl : lv_has ls 9 [(4, .int (nI i)), (0, .ref b), (1, .ref (adr G 0)), (2, .ref (adr G 46)), (3, .ref (adr G 66))]) (hc : cells + 20 ≤ 601024 ∧ slots + 200 ≤ 7293034) (hst : l.stackTraces = false) (hR : R2 M M np nr k) (kk : ∀ (M' : Mem) (o' : Nat → Int64) (np' nr' k' : Nat) (H1 : Heap) (locs1 : List Loc) (ls' : Array Slot), R2 M' M' np' nr' k' → PW G M' o' H1 → va_S (pA G s.heap.size) s.heap H1 locs1 → lv_has ls' 9 [(4, .int (nI i)), (0, .ref b), (1, .ref (adr G 0)), (2, .ref (adr G 46)), (3, .ref (adr G 66))] → W p l e room_1 s m #[Value.ref b] below meth c H1 locs1 (cells + 20) (slots + 200) Q (F0 m 1267 ls' [])) : W p l e room_1 s m #[Value.ref b] below meth c H locs cells slots Q (F0 m 1088 ls []) := by
  have hx := C0.1
  have hb := C0.2.1
  obtain ⟨M1, o1, cd, res, M2, fr, lo, mc, ms, fr2, lo2, mc2, ms2, hbd, hJ, hI, h0, h1, np9, nr9, k9, hR9⟩ := p_seen l hst G hR o (xs (i + 1))
  refine lv_aload_n hx hb dL_law_1088 rfl (lv_at hl 2 rfl) ?_
  refine lv_aload_n hx hb dL_law_1089 rfl (lv_at hl 1 rfl) ?_
  refine lv_iload hx hb dL_law_1090 (lv_at hl 0 rfl) ?_
  refine lv_iconst (v := 1) hx hb dL_law_1092 (by decide) ?_
  refine lv_iadd hx hb dL_law_1093 ?_
  refine lv_topE (y := nI (i + 1)) (nI_add i 1 : nI i + nI 1 = nI (i + 1)) ?_
  refine x_sld C0 hX hbl hbA hS (q := (i + 1)) (by omega) (by omega) dL_law_1094 ?_
  refine lv_aload_n hx hb dL_law_1095 rfl (lv_at hl 4 rfl) ?_
  refine k_J C0 hP hS (As := [.ref (adr G 0), .int (xs (i + 1)), .ref (adr G 66)]) (rest := []) hJ mf_L_seen ml_L_123 hl.1 ⟨by show _ ≤ 12; omega, by show _ ≤ 426; omega⟩ ⟨by show _ ≤ 601024; omega, by show _ ≤ 7293034; omega⟩ (Nat.le_of_ble_eq_true rfl) rfl rfl dL_law_1096 (fun H locs hP hS => ?_)
  refine lv_istore (lv' := [(5, .int cd), (4, .int (nI i)), (0, .ref b), (1, .ref (adr G 0)), (2, .ref (adr G 46)), (3, .ref (adr G 66))]) hx hb dL_law_1099 hl (by decide) rfl (fun ls hl => ?_)
  refine lv_aload_n hx hb dL_law_1101 rfl (lv_at hl 4 rfl) ?_
  refine lv_aload_n hx hb dL_law_1102 rfl (lv_at hl 2 rfl) ?_
  refine lv_iload hx hb dL_law_1103 (lv_at hl 1 rfl) ?_
  refine lv_iconst (v := 1) hx hb dL_law_1105 (by decide) ?_
  refine lv_iadd hx hb dL_law_1106 ?_
  refine lv_topE (y := nI (i + 1)) (nI_add i 1 : nI i + nI 1 = nI (i + 1)) ?_
  refine x_sld C0 hX hbl hbA hS (q := (i + 1)) (by omega) (by omega) dL_law_1107 ?_
  refine k_VI C0 hP hS (rest := []) hI mf_X6_seen ml_L_125 (kd_lt (show kd 46 = 6 by decide) (by decide)) (ct_6 (show kd 46 = 6 by decide)) rfl hl.1 ⟨by show _ ≤ 12; omega, by show _ ≤ 426; omega⟩ ⟨by show _ ≤ 601024; omega, by show _ ≤ 7293034; omega⟩ (Nat.le_of_ble_eq_true rfl) rfl rfl dL_law_1108 (fun H locs hP hS => ?_)
  refine lv_istore (lv' := [(6, .int res), (5, .int cd), (4, .int (nI i)), (0, .ref b), (1, .ref (adr G 0)), (2, .ref (adr G 46)), (3, .ref (adr G 66))]) hx hb dL_law_1111 hl (by decide) rfl (fun ls hl => ?_)
  refine lv_aload_n hx hb dL_law_1113 rfl (lv_at hl 5 rfl) ?_
  refine k_VI C0 hP hS (rest := []) (c_X6_thrown l G M2 o1) mf_X6_thrown ml_L_77 (kd_lt (show kd 46 = 6 by decide) (by decide)) (ct_6 (show kd 46 = 6 by decide)) rfl hl.1 ⟨by show _ ≤ 12; omega, by show _ ≤ 426; omega⟩ ⟨by show _ ≤ 601024; omega, by show _ ≤ 7293034; omega⟩ (Nat.le_of_ble_eq_true rfl) rfl rfl dL_law_1114 (fun H locs hP hS => ?_)
  refine lv_topE (y := cd) h0 ?_
  refine lv_iload hx hb dL_law_1117 (lv_at hl 1 rfl) ?_
  refine lv_icmp_eq (tgt := 1124) hx hb dL_law_1119 (by decide) (fun c_1 => ?_) (fun c_1 => ?_)
  · refine lv_iload hx hb dL_law_1124 (lv_at hl 1 rfl) ?_
    refine lv_if_ne (tgt := 1141) hx hb dL_law_1126 (by decide) (fun c_2 => ?_) (fun c_2 => ?_)
    · refine lv_goto (tgt := 1267) hx hb dL_law_1141 (by decide) ?_
      refine W.widen (k := cells + 20) (n := slots + 200) (by omega) (by omega) ?_
      exact kk _ _ _ _ _ _ _ _ hR9 hP hS (lv_sub hl [2, 3, 4, 5, 6] rfl)
    · refine lv_aload_n hx hb dL_law_1129 rfl (lv_at hl 6 rfl) ?_
      refine lv_iconst (v := 0) hx hb dL_law_1130 (by decide) ?_
      refine w_outld C0 hP dL_law_1131 ?_
      refine lv_iload hx hb dL_law_1132 (lv_at hl 0 rfl) ?_
      refine lv_i2l hx hb dL_law_1134 rfl ?_
      refine W.lcmp hx hb dL_law_1135 ?_
      refine lv_topE (y := 0) (lg_eq (h1 c_2)) ?_
      refine lv_if_eq (tgt := 1141) hx hb dL_law_1136 (by decide) (fun c_3 => ?_) (fun c_3 => ?_)
      · refine lv_goto (tgt := 1267) hx hb dL_law_1141 (by decide) ?_
        refine W.widen (k := cells + 20) (n := slots + 200) (by omega) (by omega) ?_
        exact kk _ _ _ _ _ _ _ _ hR9 hP hS (lv_sub hl [2, 3, 4, 5, 6] rfl)
      · exact absurd rfl c_3
  · exact absurd rfl c_1
set_option maxHeartbeats 4000000 in
set_option maxRecDepth 100000 in
theorem w_foresee (C0 : CX p s m #[Value.ref b] meth c cL_law RL 9 G s.heap.size) (hX : va_X b L xs s s.heap) (hbl : b < s.heap.size) (hbA : ¬ pA G s.heap.size b) (hi : i + 5 ≤ L) (hL : L ≤ 2560) (hP : PW G M o H) (hS : va_S (pA G s.heap.size) s.heap H locs) (hl : lv_has ls 9 [(4, .int (nI i)), (0, .ref b), (1, .ref (adr G 0)), (2, .ref (adr G 46)), (3, .ref (adr G 66))]) (hc : cells + 20 ≤ 601024 ∧ slots + 200 ≤ 7293034) (hst : l.stackTraces = false) (hR : R2 M M np nr k) (kk : ∀ (M' : Mem) (o' : Nat → Int64) (np' nr' k' : Nat) (H1 : Heap) (locs1 : List Loc) (ls' : Array Slot), R2 M' M' np' nr' k' → PW G M' o' H1 → va_S (pA G s.heap.size) s.heap H1 locs1 → lv_has ls' 9 [(4, .int (nI i)), (0, .ref b), (1, .ref (adr G 0)), (2, .ref (adr G 46)), (3, .ref (adr G 66))] → W p l e room_1 s m #[Value.ref b] below meth c H1 locs1 (cells + 20) (slots + 200) Q (F0 m 1267 ls' [])) : W p l e room_1 s m #[Value.ref b] below meth c H locs cells slots Q (F0 m 1144 ls []) := by
  have hx := C0.1
  have hb := C0.2.1
  obtain ⟨M1, o1, cd, res, M2, fr, lo, mc, ms, fr2, lo2, mc2, ms2, hbd, hJ, hI, h0, h1, np9, nr9, k9, hR9⟩ := p_foresee l hst G hR o (xs (i + 1)) (xs (i + 2))
  refine lv_aload_n hx hb dL_law_1144 rfl (lv_at hl 2 rfl) ?_
  refine lv_aload_n hx hb dL_law_1145 rfl (lv_at hl 1 rfl) ?_
  refine lv_iload hx hb dL_law_1146 (lv_at hl 0 rfl) ?_
  refine lv_iconst (v := 1) hx hb dL_law_1148 (by decide) ?_
  refine lv_iadd hx hb dL_law_1149 ?_
  refine lv_topE (y := nI (i + 1)) (nI_add i 1 : nI i + nI 1 = nI (i + 1)) ?_
  refine x_sld C0 hX hbl hbA hS (q := (i + 1)) (by omega) (by omega) dL_law_1150 ?_
  refine lv_aload_n hx hb dL_law_1151 rfl (lv_at hl 1 rfl) ?_
  refine lv_iload hx hb dL_law_1152 (lv_at hl 0 rfl) ?_
  refine lv_iconst (v := 2) hx hb dL_law_1154 (by decide) ?_
  refine lv_iadd hx hb dL_law_1155 ?_
  refine lv_topE (y := nI (i + 2)) (nI_add i 2 : nI i + nI 2 = nI (i + 2)) ?_
  refine x_sld C0 hX hbl hbA hS (q := (i + 2)) (by omega) (by omega) dL_law_1156 ?_
  refine lv_aload_n hx hb dL_law_1157 rfl (lv_at hl 4 rfl) ?_
  refine k_J C0 hP hS (As := [.ref (adr G 0), .int (xs (i + 1)), .int (xs (i + 2)), .ref (adr G 66)]) (rest := []) hJ mf_L_foresee ml_L_126 hl.1 ⟨by show _ ≤ 12; omega, by show _ ≤ 426; omega⟩ ⟨by show _ ≤ 601024; omega, by show _ ≤ 7293034; omega⟩ (Nat.le_of_ble_eq_true rfl) rfl rfl dL_law_1158 (fun H locs hP hS => ?_)
  refine lv_istore (lv' := [(5, .int cd), (4, .int (nI i)), (0, .ref b), (1, .ref (adr G 0)), (2, .ref (adr G 46)), (3, .ref (adr G 66))]) hx hb dL_law_1161 hl (by decide) rfl (fun ls hl => ?_)
  refine lv_aload_n hx hb dL_law_1163 rfl (lv_at hl 4 rfl) ?_
  refine lv_aload_n hx hb dL_law_1164 rfl (lv_at hl 2 rfl) ?_
  refine lv_iload hx hb dL_law_1165 (lv_at hl 1 rfl) ?_
  refine lv_iconst (v := 1) hx hb dL_law_1167 (by decide) ?_
  refine lv_iadd hx hb dL_law_1168 ?_
  refine lv_topE (y := nI (i + 1)) (nI_add i 1 : nI i + nI 1 = nI (i + 1)) ?_
  refine x_sld C0 hX hbl hbA hS (q := (i + 1)) (by omega) (by omega) dL_law_1169 ?_
  refine lv_aload_n hx hb dL_law_1170 rfl (lv_at hl 2 rfl) ?_
  refine lv_iload hx hb dL_law_1171 (lv_at hl 1 rfl) ?_
  refine lv_iconst (v := 2) hx hb dL_law_1173 (by decide) ?_
  refine lv_iadd hx hb dL_law_1174 ?_
  refine lv_topE (y := nI (i + 2)) (nI_add i 2 : nI i + nI 2 = nI (i + 2)) ?_
  refine x_sld C0 hX hbl hbA hS (q := (i + 2)) (by omega) (by omega) dL_law_1175 ?_
  refine k_VI C0 hP hS (rest := []) hI mf_X6_foresee ml_L_128 (kd_lt (show kd 46 = 6 by decide) (by decide)) (ct_6 (show kd 46 = 6 by decide)) rfl hl.1 ⟨by show _ ≤ 12; omega, by show _ ≤ 426; omega⟩ ⟨by show _ ≤ 601024; omega, by show _ ≤ 7293034; omega⟩ (Nat.le_of_ble_eq_true rfl) rfl rfl dL_law_1176 (fun H locs hP hS => ?_)
  refine lv_istore (lv' := [(6, .int res), (5, .int cd), (4, .int (nI i)), (0, .ref b), (1, .ref (adr G 0)), (2, .ref (adr G 46)), (3, .ref (adr G 66))]) hx hb dL_law_1179 hl (by decide) rfl (fun ls hl => ?_)
  refine lv_aload_n hx hb dL_law_1181 rfl (lv_at hl 5 rfl) ?_
  refine k_VI C0 hP hS (rest := []) (c_X6_thrown l G M2 o1) mf_X6_thrown ml_L_77 (kd_lt (show kd 46 = 6 by decide) (by decide)) (ct_6 (show kd 46 = 6 by decide)) rfl hl.1 ⟨by show _ ≤ 12; omega, by show _ ≤ 426; omega⟩ ⟨by show _ ≤ 601024; omega, by show _ ≤ 7293034; omega⟩ (Nat.le_of_ble_eq_true rfl) rfl rfl dL_law_1182 (fun H locs hP hS => ?_)
  refine lv_topE (y := cd) h0 ?_
  refine lv_iload hx hb dL_law_1185 (lv_at hl 1 rfl) ?_
  refine lv_icmp_eq (tgt := 1192) hx hb dL_law_1187 (by decide) (fun c_1 => ?_) (fun c_1 => ?_)
  · refine lv_iload hx hb dL_law_1192 (lv_at hl 1 rfl) ?_
    refine lv_if_ne (tgt := 1209) hx hb dL_law_1194 (by decide) (fun c_2 => ?_) (fun c_2 => ?_)
    · refine lv_goto (tgt := 1267) hx hb dL_law_1209 (by decide) ?_
      refine W.widen (k := cells + 20) (n := slots + 200) (by omega) (by omega) ?_
      exact kk _ _ _ _ _ _ _ _ hR9 hP hS (lv_sub hl [2, 3, 4, 5, 6] rfl)
    · refine lv_aload_n hx hb dL_law_1197 rfl (lv_at hl 6 rfl) ?_
      refine lv_iconst (v := 0) hx hb dL_law_1198 (by decide) ?_
      refine w_outld C0 hP dL_law_1199 ?_
      refine lv_iload hx hb dL_law_1200 (lv_at hl 0 rfl) ?_
      refine lv_i2l hx hb dL_law_1202 rfl ?_
      refine W.lcmp hx hb dL_law_1203 ?_
      refine lv_topE (y := 0) (lg_eq (h1 c_2)) ?_
      refine lv_if_eq (tgt := 1209) hx hb dL_law_1204 (by decide) (fun c_3 => ?_) (fun c_3 => ?_)
      · refine lv_goto (tgt := 1267) hx hb dL_law_1209 (by decide) ?_
        refine W.widen (k := cells + 20) (n := slots + 200) (by omega) (by omega) ?_
        exact kk _ _ _ _ _ _ _ _ hR9 hP hS (lv_sub hl [2, 3, 4, 5, 6] rfl)
      · exact absurd rfl c_3
  · exact absurd rfl c_1
set_option maxHeartbeats 4000000 in
set_option maxRecDepth 100000 in
theorem w_mean (C0 : CX p s m #[Value.ref b] meth c cL_law RL 9 G s.heap.size) (hX : va_X b L xs s s.heap) (hbl : b < s.heap.size) (hbA : ¬ pA G s.heap.size b) (hi : i + 5 ≤ L) (hL : L ≤ 2560) (hP : PW G M o H) (hS : va_S (pA G s.heap.size) s.heap H locs) (hl : lv_has ls 9 [(4, .int (nI i)), (0, .ref b), (1, .ref (adr G 0)), (2, .ref (adr G 46)), (3, .ref (adr G 66))]) (hc : cells + 20 ≤ 601024 ∧ slots + 200 ≤ 7293034) (hR : R2 M M np nr k) (kk : ∀ (M' : Mem) (o' : Nat → Int64) (np' nr' k' : Nat) (H1 : Heap) (locs1 : List Loc) (ls' : Array Slot), R2 M' M' np' nr' k' → PW G M' o' H1 → va_S (pA G s.heap.size) s.heap H1 locs1 → lv_has ls' 9 [(4, .int (nI i)), (0, .ref b), (1, .ref (adr G 0)), (2, .ref (adr G 46)), (3, .ref (adr G 66))] → W p l e room_1 s m #[Value.ref b] below meth c H1 locs1 (cells + 20) (slots + 200) Q (F0 m 1267 ls' [])) : W p l e room_1 s m #[Value.ref b] below meth c H locs cells slots Q (F0 m 1212 ls []) := by
  have hx := C0.1
  have hb := C0.2.1
  have hR9 := qry_R hR
  have hmn9 := q_mean (R2_z (v := 0) hR)
  generalize hV9 : (if k = 0 then FP.dconst0 else FP.ddiv (FP.i2d (sumF (u2 M 46 0 0 60) nr)) (FP.i2d (nI k))) = VV at hmn9
  refine lv_aload_n hx hb dL_law_1212 rfl (lv_at hl 2 rfl) ?_
  refine k_VD C0 hP hS (rest := []) (c_X4_mean l G M o np nr k hR.1) mf_X4_mean ml_L_129 (kd_lt (show kd 0 = 4 by decide) (by decide)) (ct_4 (show kd 0 = 4 by decide)) rfl hl.1 ⟨by show _ ≤ 12; omega, by show _ ≤ 426; omega⟩ ⟨by show _ ≤ 601024; omega, by show _ ≤ 7293034; omega⟩ (Nat.le_of_ble_eq_true rfl) rfl rfl dL_law_1213 (fun H locs hP hS => ?_)
  rw [hmn9]
  refine lv_dstore (lv' := [(5, .double VV), (4, .int (nI i)), (0, .ref b), (1, .ref (adr G 0)), (2, .ref (adr G 46)), (3, .ref (adr G 66))]) hx hb dL_law_1216 hl (by decide) rfl (fun ls hl => ?_)
  refine lv_aload_n hx hb dL_law_1218 rfl (lv_at hl 4 rfl) ?_
  refine k_VD C0 hP hS (rest := []) (c_X6_mean l G M o np nr k (R2_OKT hR)) mf_X6_mean ml_L_133 (kd_lt (show kd 46 = 6 by decide) (by decide)) (ct_6 (show kd 46 = 6 by decide)) rfl hl.1 ⟨by show _ ≤ 12; omega, by show _ ≤ 426; omega⟩ ⟨by show _ ≤ 601024; omega, by show _ ≤ 7293034; omega⟩ (Nat.le_of_ble_eq_true rfl) rfl rfl dL_law_1219 (fun H locs hP hS => ?_)
  rw [hV9]
  refine lv_dstore (lv' := [(7, .double VV), (5, .double VV), (4, .int (nI i)), (0, .ref b), (1, .ref (adr G 0)), (2, .ref (adr G 46)), (3, .ref (adr G 66))]) hx hb dL_law_1222 hl (by decide) rfl (fun ls hl => ?_)
  refine lv_dload hx hb dL_law_1224 (lv_at hl 1 rfl) ?_
  refine lv_dload hx hb dL_law_1226 (lv_at hl 0 rfl) ?_
  refine lv_dcmp hx hb dL_law_1228 ?_
  refine lv_if_eq (tgt := 1250) hx hb dL_law_1229 (by decide) (fun c_1 => ?_) (fun c_1 => ?_)
  · refine lv_goto (tgt := 1267) hx hb dL_law_1250 (by decide) ?_
    refine W.widen (k := cells + 20) (n := slots + 200) (by omega) (by omega) ?_
    exact kk _ _ _ _ _ _ _ _ hR9 hP hS (lv_sub hl [2, 3, 4, 5, 6] rfl)
  · refine lv_dload hx hb dL_law_1232 (lv_at hl 1 rfl) ?_
    refine lv_dload hx hb dL_law_1234 (lv_at hl 1 rfl) ?_
    refine lv_dcmp hx hb dL_law_1236 ?_
    refine lv_if_eq (tgt := 1248) hx hb dL_law_1237 (by decide) (fun c_2 => ?_) (fun c_2 => ?_)
    · exact absurd c_2 c_1
    · refine lv_dload hx hb dL_law_1240 (lv_at hl 0 rfl) ?_
      refine lv_dload hx hb dL_law_1242 (lv_at hl 0 rfl) ?_
      refine lv_dcmp hx hb dL_law_1244 ?_
      refine lv_if_ne (tgt := 1250) hx hb dL_law_1245 (by decide) (fun c_3 => ?_) (fun c_3 => ?_)
      · refine lv_goto (tgt := 1267) hx hb dL_law_1250 (by decide) ?_
        refine W.widen (k := cells + 20) (n := slots + 200) (by omega) (by omega) ?_
        exact kk _ _ _ _ _ _ _ _ hR9 hP hS (lv_sub hl [2, 3, 4, 5, 6] rfl)
      · exact absurd c_3 c_1
set_option maxHeartbeats 4000000 in
set_option maxRecDepth 100000 in
theorem w_digest (C0 : CX p s m #[Value.ref b] meth c cL_law RL 9 G s.heap.size) (hX : va_X b L xs s s.heap) (hbl : b < s.heap.size) (hbA : ¬ pA G s.heap.size b) (hi : i + 5 ≤ L) (hL : L ≤ 2560) (hP : PW G M o H) (hS : va_S (pA G s.heap.size) s.heap H locs) (hl : lv_has ls 9 [(4, .int (nI i)), (0, .ref b), (1, .ref (adr G 0)), (2, .ref (adr G 46)), (3, .ref (adr G 66))]) (hc : cells + 20 ≤ 601024 ∧ slots + 200 ≤ 7293034) (hR : R2 M M np nr k) (kk : ∀ (M' : Mem) (o' : Nat → Int64) (np' nr' k' : Nat) (H1 : Heap) (locs1 : List Loc) (ls' : Array Slot), R2 M' M' np' nr' k' → PW G M' o' H1 → va_S (pA G s.heap.size) s.heap H1 locs1 → lv_has ls' 9 [(4, .int (nI i)), (0, .ref b), (1, .ref (adr G 0)), (2, .ref (adr G 46)), (3, .ref (adr G 66))] → W p l e room_1 s m #[Value.ref b] below meth c H1 locs1 (cells + 20) (slots + 200) Q (F0 m 1267 ls' [])) : W p l e room_1 s m #[Value.ref b] below meth c H locs cells slots Q (F0 m 1253 ls []) := by
  have hx := C0.1
  have hb := C0.2.1
  have hR9 := qry_R hR
  have hdg9 := q_digest (R2_z (v := 0) hR)
  refine lv_aload_n hx hb dL_law_1253 rfl (lv_at hl 2 rfl) ?_
  refine k_VL C0 hP hS (rest := []) (c_X4_digest l G M o np nr k hR.1) mf_X4_digest ml_L_134 (kd_lt (show kd 0 = 4 by decide) (by decide)) (ct_4 (show kd 0 = 4 by decide)) rfl hl.1 ⟨by show _ ≤ 12; omega, by show _ ≤ 426; omega⟩ ⟨by show _ ≤ 601024; omega, by show _ ≤ 7293034; omega⟩ (Nat.le_of_ble_eq_true rfl) rfl rfl dL_law_1254 (fun H locs hP hS => ?_)
  refine lv_aload_n hx hb dL_law_1257 rfl (lv_at hl 3 rfl) ?_
  refine k_VL C0 hP hS (rest := [.long _]) (c_X6_digest l G M o np nr k (R2_OKT hR)) mf_X6_digest ml_L_138 (kd_lt (show kd 46 = 6 by decide) (by decide)) (ct_6 (show kd 46 = 6 by decide)) rfl hl.1 ⟨by show _ ≤ 12; omega, by show _ ≤ 426; omega⟩ ⟨by show _ ≤ 601024; omega, by show _ ≤ 7293034; omega⟩ (Nat.le_of_ble_eq_true rfl) rfl rfl dL_law_1258 (fun H locs hP hS => ?_)
  refine W.lcmp hx hb dL_law_1261 ?_
  refine lv_topE (y := 0) (lg_eq hdg9) ?_
  refine lv_if_eq (tgt := 1267) hx hb dL_law_1262 (by decide) (fun c_1 => ?_) (fun c_1 => ?_)
  · refine W.widen (k := cells + 20) (n := slots + 200) (by omega) (by omega) ?_
    exact kk _ _ _ _ _ _ _ _ hR9 hP hS (lv_sub hl [0, 1, 2, 3, 4] rfl)
  · exact absurd rfl c_1
end WLK
