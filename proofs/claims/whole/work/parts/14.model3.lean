section MO3
section PXR
variable {p : Program} {l : Launch} {e : Env} {R : Room} {s : State} {m : MethodId} {args : Array Value} {below : List Frame} {meth : Method} {c : Code} {H : Heap} {locs : List Loc} {cells slots : Nat} {Q : State → Prop} {cc : ByteArray} {pc : Nat} {ls : Array Slot} {rest : List Value} {own : String} {nL : Nat} {G : GG} {sz : Nat} {M : Mem} {o : Nat → Int64}
def hfT (M : Mem) (np nr k : Nat) : Nat → Int32
  | 0 => nI k
  | 1 => ltF (M 47) (M 48) k
  | 2 => nI np
  | 3 => cntF (fun i => gn (M 57 i)) np
  | 4 => nI nr
  | 5 => sumF (M 59) nr
  | 6 => sumF (fun r => swT M 56 (ltF (M 47) (M 48) k) r np) nr
  | 7 => sumF (M 60) nr
  | _ => if k < 720 then 0 else 1
def ldF (A B : Nat → Int32) (d : Int64) : Nat → Int64
  | 0 => d
  | n + 1 => ldF A B d n * 31 + Int32.toInt64 (10 * A n) + Int32.toInt64 (B n)
/-- a new array of nine, beside the world -/
def PX (G : GG) (M : Mem) (o : Nat → Int64) (q : Nat) (cA : ClassId) (f : Nat → Int32) (H : Heap) : Prop := va_P (DG G) vwCl (wld G M o ++ [(q, .inl (cA, 9, .inl f))]) H
def NW (G : GG) (q : Nat) : Prop := ∀ k, k < 67 → adr G k ≠ q
theorem wld_len : (wld G M o).length = 67 := by simp [wld]
theorem PX_pw {q : Nat} {cA : ClassId} {f : Nat → Int32} (h : PX G M o q cA f H) : PW G M o H := fun k x hk => h k x (by rw [List.getElem?_append_left (List.getElem?_eq_some_iff.mp hk).1]; exact hk)
theorem PX_at {q : Nat} {cA : ClassId} {f : Nat → Int32} : (wld G M o ++ [(q, (.inl (cA, 9, .inl f) : va_E))])[67]? = some (q, .inl (cA, 9, .inl f)) := by
  rw [List.getElem?_append_right (by rw [wld_len]; exact Nat.le_refl _), wld_len]
  rfl
theorem PX_mk {q : Nat} {cA : ClassId} {f : Nat → Int32} (h : PW G M o H) (hq : va_at (DG G) vwCl (q, .inl (cA, 9, .inl f)) H) : PX G M o q cA f H := h.app (fun k x hk => by
  match k, hk with
  | 0, hk => cases hk; exact hq
  | k + 1, hk => cases hk)
theorem PX_D {q : Nat} {cA : ClassId} {f : Nat → Int32} (hI : injG G) (hq : NW G q) (hs : sz ≤ q) : va_D (pA G sz) (wld G M o ++ [(q, (.inl (cA, 9, .inl f) : va_E))]) := by
  have key : ∀ (k : Nat) (x : Nat × va_E), (wld G M o ++ [(q, (.inl (cA, 9, .inl f) : va_E))])[k]? = some x → (k < 67 ∧ x.1 = adr G k) ∨ (k = 67 ∧ x.1 = q) := by
    intro k x hk
    by_cases hl : k < 67
    · rw [List.getElem?_append_left (by rw [wld_len]; exact hl)] at hk
      obtain ⟨h1, rfl⟩ := wld_get hk
      exact Or.inl ⟨h1, rfl⟩
    · rw [List.getElem?_append_right (by rw [wld_len]; omega), wld_len] at hk
      have h0 : k - 67 = 0 := by
        have := (List.getElem?_eq_some_iff.mp hk).1
        simp at this
        omega
      rw [h0] at hk
      cases hk
      exact Or.inr ⟨by omega, rfl⟩
  refine ⟨fun i j x y hi hj hxy => ?_, fun k x hk => ?_⟩
  · rcases key i x hi with ⟨h1, e1⟩ | ⟨h1, e1⟩ <;> rcases key j y hj with ⟨h2, e2⟩ | ⟨h2, e2⟩
    · exact hI i j h1 h2 (by rw [← e1, ← e2]; exact hxy)
    · exact absurd (by rw [← e1, hxy, e2]) (hq i h1)
    · exact absurd (by rw [← e2, ← hxy, e1]) (hq j h2)
    · rw [h1, h2]
  · rcases key k x hk with ⟨h1, e1⟩ | ⟨h1, e1⟩
    · exact Or.inl ⟨k, h1, e1⟩
    · exact Or.inr (by rw [e1]; exact hs)
abbrev KX (G : GG) (cA : ClassId) (s : State) : Prop := va_K (DG G) vwCl (tysG G ++ [(cA, .int)]) s
theorem x_new (C0 : CX p s m args meth c cc own nL G sz) (hP : PW G M o H) (hS : va_S (pA G sz) s.heap H locs) (dg : decode cc pc = .ok (.newarray .int, 2)) (hc : cells + 1 ≤ R.cells) (hs : slots + 9 ≤ R.slots)
    (kk : ∀ (q : Nat) (cA : ClassId) (H1 : Heap), KX G cA s → NW G q → sz ≤ q → PX G M o q cA (fun _ => 0) H1 → va_S (pA G sz) s.heap H1 locs → W p l e R s m args below meth c H1 locs (cells + 1) (slots + 9) Q (F0 m (pc + 2) ls (.ref q :: rest))) : W p l e R s m args below meth c H locs cells slots Q (F0 m pc ls (.int 9 :: rest)) := by
  refine va_newa (D := DG G) (a0 := (9, .inl (fun _ => 0))) (N' := 9) (ty := .int) C0.1 C0.2.1 (C0.ts _ (List.mem_filter.mpr ⟨List.mem_append_right _ (List.mem_append_left _ (List.mem_of_getElem? (i := 39) rfl)), rfl⟩)) rfl C0.K hP (wld_D C0.inj) hS (fun q hq => Or.inr (by rw [← C0.hz]; exact hq)) (fun cA => rfl) (by decide) rfl (by decide) hc hs dg (fun q cA H1 hK1 hP1 hD1 hS1 => ?_)
  have hq : NW G q := fun k hk e => by
    have := hD1.1 k 67 _ _ (by rw [List.getElem?_append_left (by rw [wld_len]; exact hk)]; exact wld_at hk) PX_at e
    omega
  have hqs : sz ≤ q := by
    rcases hD1.2 67 _ PX_at with ⟨k, hk, e⟩ | h
    · exact absurd e.symm (hq k hk)
    · exact h
  exact kk q cA H1 hK1 hq hqs hP1 hS1
theorem x_st (C0 : CX p s m args meth c cc own nL G sz) {q i : Nat} {cA : ClassId} {f : Nat → Int32} (hK : KX G cA s) (hX : PX G M o q cA f H) (hS : va_S (pA G sz) s.heap H locs) (hq : NW G q) (hqs : sz ≤ q) {v : Int32} (hi : i < 9) (dg : decode cc pc = .ok (.iastore, 1))
    (kk : ∀ (H1 : Heap) (locs1 : List Loc), PX G M o q cA (upd f i v) H1 → va_S (pA G sz) s.heap H1 locs1 → W p l e R s m args below meth c H1 locs1 cells slots Q (F0 m (pc + 1) ls (rest))) : W p l e R s m args below meth c H locs cells slots Q (F0 m pc ls (.int v :: .int (nI i) :: .ref q :: rest)) := by
  refine va_iast (D := DG G) C0.1 C0.2.1 hK hX (PX_D C0.inj hq hqs) hS 67 4 PX_at rfl (vp_in_iff.mpr (by rw [nI_toInt (by omega)]; omega)) dg (fun H1 locs1 hP1 _ hS1 => ?_)
  rw [List.set_append_right _ _ (by rw [wld_len]; exact Nat.le_refl _), wld_len, nI_clamp (by omega)] at hP1
  exact kk H1 locs1 hP1 hS1
theorem x_ld (C0 : CX p s m args meth c cc own nL G sz) {q i : Nat} {cA : ClassId} {f : Nat → Int32} (hK : KX G cA s) (hX : PX G M o q cA f H) (hi : i < 9) (dg : decode cc pc = .ok (.iaload, 1))
    (kk : W p l e R s m args below meth c H locs cells slots Q (F0 m (pc + 1) ls (.int (f i) :: rest))) : W p l e R s m args below meth c H locs cells slots Q (F0 m pc ls (.int (nI i) :: .ref q :: rest)) :=
  va_iald (D := DG G) C0.1 C0.2.1 hK hX 67 4 PX_at rfl (vp_in_iff.mpr (by rw [nI_toInt (by omega)]; omega)) dg (by rw [nI_clamp (by omega)]; exact kk)
theorem x_VI (C0 : CX p s m args meth c cc own nL G sz) {q : Nat} {cA : ClassId} {f : Nat → Int32} (hX : PX G M o q cA f H) (hS : va_S (pA G sz) s.heap H locs) (hq : NW G q) (hqs : sz ≤ q) {k ci na n fr lo mc ms idx : Nat} {C : String} {T : u_T} {N : Nat} {fs As rest st0 : List Value} {y : MethodName} {b : ByteArray} {r : Option FieldType} {M' : Mem} {o' : Nat → Int64} {res : Int32} (hM : MI l y b n r fr lo G (.ref (adr G k) :: As) M M' o o' res mc ms) (mf : MFV C y b n r na) (hlink : Cond.methodLink own idx y ∈ UU) (hk : k < 67) (hct : ct G M o k = .inr (ci, fs)) (hc : vwCl[ci]? = some (C, T, N)) (hls : ls.size = nL) (hR : fr + 1 ≤ R.frames ∧ 8 + (n + 11) + lo ≤ R.locals) (hroom : cells + mc ≤ R.cells ∧ slots + ms ≤ R.slots) (hw : (rest.map fun v => v.category).sum ≤ 8) (hna : As.length = na) (hst : st0 = As.reverse ++ .ref (adr G k) :: rest) (dg : decode cc pc = .ok (.invokevirtual idx, 3))
    (kk : ∀ (H1 : Heap) (locs1 : List Loc), PX G M' o' q cA f H1 → va_S (pA G sz) s.heap H1 locs1 → W p l e R s m args below meth c H1 locs1 (cells + mc) (slots + ms) Q (F0 m (pc + 3) ls (.int res :: rest))) : W p l e R s m args below meth c H locs cells slots Q (F0 m pc ls (st0)) := by
  have hP : PW G M o H := PX_pw hX
  have hqH : va_at (DG G) vwCl (q, .inl (cA, 9, .inl f)) H := hX 67 _ PX_at
  refine va_calli (va_runV (As := As) (rest := rest) ⟨C0.1, C0.2.1, C0.2.2.1, C0.ow, C0.ts⟩ (hM H.size) (cwV na C0.ts (wsV_in mf hlink) rfl rfl rfl mf.2 hR) ⟨PCW_blind, w_recv C0 hP hk hct hc, fun U hU hW => ⟨rfl, C0.ev.call hS hU hW, by rw [hU]; exact hP⟩⟩ rfl hna hls hst (lv_room hw) dg hroom) hS (fun q _ h => C0.mono hS q h) (C0.mono hS) (fun r1 u t H1 locs1 ht hvm hw1 hB hz1 hk1 hS1 => ?_)
  rw [ht] at hB
  subst hw1
  have hlt : q < H.size := va_at.lt hqH
  refine kk H1 locs1 (PX_mk hB (hqH.kept (hk1 q hlt (fun z => ?_)))) hS1
  rcases z with ⟨j, hj, e⟩ | z
  · exact hq j hj e.symm
  · omega
end PXR
set_option maxHeartbeats 4000000 in
set_option maxRecDepth 100000 in
theorem c_X6_counted (l : Launch) (G : GG) (M : Mem) (o : Nat → Int64) (np nr k : Nat) (hO : OKT M np nr k) (w : Nat) (hw : w < 9) : MI l yX6_counted cX6_counted 4 (some .int) 4 88 G [.ref (adr G 46), .int (nI w)] M M o o (hfT M np nr k w) 1 9 := by
  refine MI_of RX6 rfl (by decide +kernel) (Nat.le_of_ble_eq_true rfl) ?_
  intro p e s m below meth c sz C0 hr hP ls hl
  have hx := C0.1
  have hb := C0.2.1
  have hS : va_S (pA G sz) s.heap s.heap [] := va_S.rf
  have hl : lv_has ls 4 [(0, .ref (adr G 46)), (1, .int (nI w))] := hl
  obtain ⟨hnp, hple, hnr, hrle, hk0, hkle, hdz⟩ := id hO
  refine lv_iconst (v := 0) hx hb dX6_counted_0 (by decide) ?_
  refine lv_istore_n (lv' := [(2, .int 0), (0, .ref (adr G 46)), (1, .int (nI w))]) hx hb dX6_counted_1 rfl hl (by decide) rfl (fun ls hl => ?_)
  refine lv_iconst (v := 0) hx hb dX6_counted_2 (by decide) ?_
  refine lv_istore_n (lv' := [(3, .int 0), (2, .int 0), (0, .ref (adr G 46)), (1, .int (nI w))]) hx hb dX6_counted_3 rfl hl (by decide) rfl (fun ls hl => ?_)
  have loop_4 : ∀ (fuel_4 : Nat) (r : Nat) (x : Int32), nr + 1 ≤ r + fuel_4 → (r ≤ nr) → (x = sumF (fun r => swT M 56 (ltF (M 47) (M 48) k) r np) r) → ∀ (H : Heap) (locs : List Loc), PW G M o H → va_S (pA G sz) s.heap H locs → ∀ ls : Array Slot, lv_has ls 4 [(3, .int (nI r)), (2, .int x), (0, .ref (adr G 46)), (1, .int (nI w))] → W p l e (rmU 4 88 1 9) s m ([.ref (adr G 46), .int (nI w)] : List Value).toArray below meth c H locs 0 0 (MQ below (QI G M o (hfT M np nr k w) sz) ([.ref (adr G 46), .int (nI w)] : List Value).toArray s 1 9 (pA G sz)) (F0 m 4 ls []) := by
    intro fuel_4
    induction fuel_4 with
    | zero =>
      intro r x hf hr1 hxx
      exact absurd hf (by omega)
    | succ fuel_4 ih_4 =>
      intro r x hf hr1 hxx H locs hP hS ls hl
      refine lv_iload_n hx hb dX6_counted_4 rfl (lv_at hl 0 rfl) ?_
      refine lv_aload_n hx hb dX6_counted_5 rfl (lv_at hl 2 rfl) ?_
      refine gf_X6_53 C0 hP (k := 46) (show kd 46 = 6 by decide) dX6_counted_6 ?_
      refine lv_topE (y := nI nr) (hnr) ?_
      refine lv_icmp_ge (tgt := 29) hx hb dX6_counted_9 (by decide) (fun c_1 => ?_) (fun c_1 => ?_)
      · have hr9 := lp_ge (n := nr) c_1 (by omega) hr1
        refine lv_bipush (v := 9) hx hb dX6_counted_29 (by decide) ?_
        refine x_new C0 hP hS dX6_counted_31 (by decide) (by decide) (fun q0 cA H hKX hq0 hqs hX hS => ?_)
        have hP := PX_pw hX
        refine lv_dup hx hb dX6_counted_33 rfl ?_
        refine lv_iconst (v := 0) hx hb dX6_counted_34 (by decide) ?_
        refine lv_aload_n hx hb dX6_counted_35 rfl (lv_at hl 2 rfl) ?_
        refine gf_X6_42 C0 hP (k := 46) (show kd 46 = 6 by decide) dX6_counted_36 ?_
        refine gf_X6_106 C0 hP (k := 56) (show kd 56 = 5 by decide) dX6_counted_39 ?_
        refine lv_topE (y := nI k) (hk0) ?_
        refine x_st (i := 0) C0 hKX hX hS hq0 hqs (by omega) dX6_counted_42 (fun H locs hX hS => ?_)
        have hP := PX_pw hX
        refine lv_dup hx hb dX6_counted_43 rfl ?_
        refine lv_iconst (v := 1) hx hb dX6_counted_44 (by decide) ?_
        refine lv_aload_n hx hb dX6_counted_45 rfl (lv_at hl 2 rfl) ?_
        refine gf_X6_42 C0 hP (k := 46) (show kd 46 = 6 by decide) dX6_counted_46 ?_
        refine x_VI C0 hX hS hq0 hqs (rest := [.int 1, .ref q0, .ref q0]) (c_X5_lightNow l G M o 56 (Or.inl rfl) k hk0 hkle) mf_X5_lightNow ml_X6_109 (kd_lt (show kd 56 = 5 by decide) (by decide)) (ct_5 (show kd 56 = 5 by decide)) rfl hl.1 (by decide) (by decide) (Nat.le_of_ble_eq_true rfl) rfl rfl dX6_counted_49 (fun H locs hX hS => ?_)
        have hP := PX_pw hX
        refine x_st (i := 1) C0 hKX hX hS hq0 hqs (by omega) dX6_counted_52 (fun H locs hX hS => ?_)
        have hP := PX_pw hX
        refine lv_dup hx hb dX6_counted_53 rfl ?_
        refine lv_iconst (v := 2) hx hb dX6_counted_54 (by decide) ?_
        refine lv_aload_n hx hb dX6_counted_55 rfl (lv_at hl 2 rfl) ?_
        refine gf_X6_60 C0 hP (k := 46) (show kd 46 = 6 by decide) dX6_counted_56 ?_
        refine lv_topE (y := nI np) (hnp) ?_
        refine x_st (i := 2) C0 hKX hX hS hq0 hqs (by omega) dX6_counted_59 (fun H locs hX hS => ?_)
        have hP := PX_pw hX
        refine lv_dup hx hb dX6_counted_60 rfl ?_
        refine lv_iconst (v := 3) hx hb dX6_counted_61 (by decide) ?_
        refine lv_aload_n hx hb dX6_counted_62 rfl (lv_at hl 2 rfl) ?_
        refine gf_X6_42 C0 hP (k := 46) (show kd 46 = 6 by decide) dX6_counted_63 ?_
        refine x_VI C0 hX hS hq0 hqs (rest := [.int 3, .ref q0, .ref q0]) (c_X5_gone l G M o 56 (Or.inl rfl) np hnp hple) mf_X5_gone ml_X6_113 (kd_lt (show kd 56 = 5 by decide) (by decide)) (ct_5 (show kd 56 = 5 by decide)) rfl hl.1 (by decide) (by decide) (Nat.le_of_ble_eq_true rfl) rfl rfl dX6_counted_66 (fun H locs hX hS => ?_)
        have hP := PX_pw hX
        refine x_st (i := 3) C0 hKX hX hS hq0 hqs (by omega) dX6_counted_69 (fun H locs hX hS => ?_)
        have hP := PX_pw hX
        refine lv_dup hx hb dX6_counted_70 rfl ?_
        refine lv_iconst (v := 4) hx hb dX6_counted_71 (by decide) ?_
        refine lv_aload_n hx hb dX6_counted_72 rfl (lv_at hl 2 rfl) ?_
        refine gf_X6_53 C0 hP (k := 46) (show kd 46 = 6 by decide) dX6_counted_73 ?_
        refine lv_topE (y := nI nr) (hnr) ?_
        refine x_st (i := 4) C0 hKX hX hS hq0 hqs (by omega) dX6_counted_76 (fun H locs hX hS => ?_)
        have hP := PX_pw hX
        refine lv_dup hx hb dX6_counted_77 rfl ?_
        refine lv_iconst (v := 5) hx hb dX6_counted_78 (by decide) ?_
        refine lv_aload_n hx hb dX6_counted_79 rfl (lv_at hl 2 rfl) ?_
        refine gf_X6_42 C0 hP (k := 46) (show kd 46 = 6 by decide) dX6_counted_80 ?_
        refine x_VI C0 hX hS hq0 hqs (rest := [.int 5, .ref q0, .ref q0]) (c_X5_inAll l G M o 56 (Or.inl rfl) nr hnr hrle) mf_X5_inAll ml_X6_116 (kd_lt (show kd 56 = 5 by decide) (by decide)) (ct_5 (show kd 56 = 5 by decide)) rfl hl.1 (by decide) (by decide) (Nat.le_of_ble_eq_true rfl) rfl rfl dX6_counted_83 (fun H locs hX hS => ?_)
        have hP := PX_pw hX
        refine x_st (i := 5) C0 hKX hX hS hq0 hqs (by omega) dX6_counted_86 (fun H locs hX hS => ?_)
        have hP := PX_pw hX
        refine lv_dup hx hb dX6_counted_87 rfl ?_
        refine lv_bipush (v := 6) hx hb dX6_counted_88 (by decide) ?_
        refine lv_iload_n hx hb dX6_counted_90 rfl (lv_at hl 1 rfl) ?_
        refine x_st (i := 6) C0 hKX hX hS hq0 hqs (by omega) dX6_counted_91 (fun H locs hX hS => ?_)
        have hP := PX_pw hX
        refine lv_dup hx hb dX6_counted_92 rfl ?_
        refine lv_bipush (v := 7) hx hb dX6_counted_93 (by decide) ?_
        refine lv_aload_n hx hb dX6_counted_95 rfl (lv_at hl 2 rfl) ?_
        refine gf_X6_42 C0 hP (k := 46) (show kd 46 = 6 by decide) dX6_counted_96 ?_
        refine x_VI C0 hX hS hq0 hqs (rest := [.int 7, .ref q0, .ref q0]) (c_X5_paidInAll l G M o 56 (Or.inl rfl) nr hnr hrle) mf_X5_paidInAll ml_X6_119 (kd_lt (show kd 56 = 5 by decide) (by decide)) (ct_5 (show kd 56 = 5 by decide)) rfl hl.1 (by decide) (by decide) (Nat.le_of_ble_eq_true rfl) rfl rfl dX6_counted_99 (fun H locs hX hS => ?_)
        have hP := PX_pw hX
        refine x_st (i := 7) C0 hKX hX hS hq0 hqs (by omega) dX6_counted_102 (fun H locs hX hS => ?_)
        have hP := PX_pw hX
        refine lv_dup hx hb dX6_counted_103 rfl ?_
        refine lv_bipush (v := 8) hx hb dX6_counted_104 (by decide) ?_
        refine lv_aload_n hx hb dX6_counted_106 rfl (lv_at hl 2 rfl) ?_
        refine gf_X6_42 C0 hP (k := 46) (show kd 46 = 6 by decide) dX6_counted_107 ?_
        refine gf_X6_106 C0 hP (k := 56) (show kd 56 = 5 by decide) dX6_counted_110 ?_
        refine lv_topE (y := nI k) (hk0) ?_
        refine lv_sipush (v := 720) hx hb dX6_counted_113 (by decide) ?_
        refine lv_icmp_ne (tgt := 123) hx hb dX6_counted_116 (by decide) (fun c_2 => ?_) (fun c_2 => ?_)
        · have hk7 : k < 720 := by
            have : k ≠ 720 := fun z => by
              subst z
              exact absurd (rfl : nI 720 = 720) c_2
            omega
          refine lv_iconst (v := 0) hx hb dX6_counted_123 (by decide) ?_
          refine x_st (i := 8) C0 hKX hX hS hq0 hqs (by omega) dX6_counted_124 (fun H locs hX hS => ?_)
          have hP := PX_pw hX
          refine lv_astore_n (lv' := [(3, .ref q0), (2, .int x), (0, .ref (adr G 46)), (1, .int (nI w))]) hx hb dX6_counted_125 rfl hl (by decide) rfl (fun ls hl => ?_)
          refine lv_aload_n hx hb dX6_counted_126 rfl (lv_at hl 0 rfl) ?_
          refine lv_iload_n hx hb dX6_counted_127 rfl (lv_at hl 3 rfl) ?_
          refine x_ld (i := w) C0 hKX hX (by omega) dX6_counted_128 ?_
          rw [hr9] at hxx
          rcases (show w = 0 ∨ w = 1 ∨ w = 2 ∨ w = 3 ∨ w = 4 ∨ w = 5 ∨ w = 6 ∨ w = 7 ∨ w = 8 by omega) with h9 | h9 | h9 | h9 | h9 | h9 | h9 | h9 | h9 <;> (refine e_Ii C0 hr hP hS (by rw [h9]; first | rfl | (rw [hxx]; rfl) | (simp [hfT, upd, hk7])) (by decide) dX6_counted_129)
        · have hk7 : ¬ k < 720 := by
            intro z
            have z2 : nI k ≠ 720 := fun y => absurd ((nI_eq (a := k) (b := 720) (by omega) (by omega)).mp y) (by omega)
            exact absurd c_2 (by simp [z2])
          refine lv_iconst (v := 1) hx hb dX6_counted_119 (by decide) ?_
          refine lv_goto (tgt := 124) hx hb dX6_counted_120 (by decide) ?_
          refine x_st (i := 8) C0 hKX hX hS hq0 hqs (by omega) dX6_counted_124 (fun H locs hX hS => ?_)
          have hP := PX_pw hX
          refine lv_astore_n (lv' := [(3, .ref q0), (2, .int x), (0, .ref (adr G 46)), (1, .int (nI w))]) hx hb dX6_counted_125 rfl hl (by decide) rfl (fun ls hl => ?_)
          refine lv_aload_n hx hb dX6_counted_126 rfl (lv_at hl 0 rfl) ?_
          refine lv_iload_n hx hb dX6_counted_127 rfl (lv_at hl 3 rfl) ?_
          refine x_ld (i := w) C0 hKX hX (by omega) dX6_counted_128 ?_
          rw [hr9] at hxx
          rcases (show w = 0 ∨ w = 1 ∨ w = 2 ∨ w = 3 ∨ w = 4 ∨ w = 5 ∨ w = 6 ∨ w = 7 ∨ w = 8 by omega) with h9 | h9 | h9 | h9 | h9 | h9 | h9 | h9 | h9 <;> (refine e_Ii C0 hr hP hS (by rw [h9]; first | rfl | (rw [hxx]; rfl) | (simp [hfT, upd, hk7])) (by decide) dX6_counted_129)
      · have hrt := lp_lt (n := nr) c_1 (by omega) hr1
        refine lv_iload_n hx hb dX6_counted_12 rfl (lv_at hl 1 rfl) ?_
        refine lv_aload_n hx hb dX6_counted_13 rfl (lv_at hl 2 rfl) ?_
        refine gf_X6_42 C0 hP (k := 46) (show kd 46 = 6 by decide) dX6_counted_14 ?_
        refine lv_iload_n hx hb dX6_counted_17 rfl (lv_at hl 0 rfl) ?_
        refine k_VI C0 hP hS (rest := [.int x]) (c_X5_show l G M o 56 (Or.inl rfl) k hk0 hkle np hnp hple r (by omega) (hdz _ (by omega))) mf_X5_show ml_X6_91 (kd_lt (show kd 56 = 5 by decide) (by decide)) (ct_5 (show kd 56 = 5 by decide)) rfl hl.1 (by decide) (by decide) (Nat.le_of_ble_eq_true rfl) rfl rfl dX6_counted_18 (fun H locs hP hS => ?_)
        refine lv_iadd hx hb dX6_counted_21 ?_
        refine lv_istore_n (lv' := [(2, .int (x + (swT M 56 (ltF (M 47) (M 48) k) r np))), (3, .int (nI r)), (0, .ref (adr G 46)), (1, .int (nI w))]) hx hb dX6_counted_22 rfl hl (by decide) rfl (fun ls hl => ?_)
        refine lv_iinc (v := nI (r + 1)) (lv' := [(3, .int (nI (r + 1))), (2, .int (x + (swT M 56 (ltF (M 47) (M 48) k) r np))), (0, .ref (adr G 46)), (1, .int (nI w))]) hx hb dX6_counted_23 hl (k := 1) rfl (nI_1 r) (by decide) rfl (fun ls hl => ?_)
        refine lv_goto (tgt := 4) hx hb dX6_counted_26 (by decide) ?_
        exact ih_4 (r + 1) _ (by omega) (by omega) (by rw [hxx]; rfl) _ _ hP hS _ (lv_sub hl [0, 1, 2, 3] rfl)
  exact loop_4 (nr + 1) 0 0 (by omega) (by omega) rfl _ _ hP hS _ (lv_sub hl [0, 1, 2, 3] rfl)
set_option maxHeartbeats 4000000 in
set_option maxRecDepth 100000 in
theorem c_X6_count (l : Launch) (G : GG) (M : Mem) (o : Nat → Int64) (np nr k : Nat) (hO : OKT M np nr k) (w : Nat) (hw : w < 9) : MI l yX6_count cX6_count 2 (some .int) 5 111 G [.ref (adr G 46), .int (nI w)] M (u2 M 46 0 0) o o (hfT (u2 M 46 0 0) np nr k w) 1 9 := by
  refine MI_of RX6 rfl (by decide +kernel) (Nat.le_of_ble_eq_true rfl) ?_
  intro p e s m below meth c sz C0 hr hP ls hl
  have hx := C0.1
  have hb := C0.2.1
  have hS : va_S (pA G sz) s.heap s.heap [] := va_S.rf
  have hl : lv_has ls 2 [(0, .ref (adr G 46)), (1, .int (nI w))] := hl
  obtain ⟨hnp, hple, hnr, hrle, hk0, hkle, hdz⟩ := okz (v := 0) hO
  refine lv_aload_n hx hb dX6_count_0 rfl (lv_at hl 0 rfl) ?_
  refine lv_iconst (v := 0) hx hb dX6_count_1 (by decide) ?_
  refine pf_X6_49 C0 hP hS (k := 46) (show kd 46 = 6 by decide) dX6_count_2 (fun H locs hP hS => ?_)
  refine lv_iload_n hx hb dX6_count_5 rfl (lv_at hl 1 rfl) ?_
  refine lv_iconst (v := 0) hx hb dX6_count_6 (by decide) ?_
  refine lv_bipush (v := 8) hx hb dX6_count_7 (by decide) ?_
  refine k_SI C0 hP hS (rest := []) (c_X6_isIn l G (u2 M 46 0 0) o (nI w) 0 8) mf_X6_isIn rfl ml_X6_56 hl.1 (by decide) (by decide) (Nat.le_of_ble_eq_true rfl) rfl rfl dX6_count_9 (fun H locs hP hS => ?_)
  refine lv_topE (y := 1) (inF_N (a := 0) (w := w) (b := 8) (by omega) (by omega) (by omega)) ?_
  refine lv_if_eq (tgt := 23) hx hb dX6_count_12 (by decide) (fun c_1 => ?_) (fun c_1 => ?_)
  · exact absurd c_1 (by decide)
  · refine lv_aload_n hx hb dX6_count_15 rfl (lv_at hl 0 rfl) ?_
    refine lv_iload_n hx hb dX6_count_16 rfl (lv_at hl 1 rfl) ?_
    refine k_VI C0 hP hS (rest := []) (c_X6_counted l G (u2 M 46 0 0) o np nr k (okz (v := 0) hO) w (by omega)) mf_X6_counted ml_X6_122 (kd_lt (show kd 46 = 6 by decide) (by decide)) (ct_6 (show kd 46 = 6 by decide)) rfl hl.1 (by decide) (by decide) (Nat.le_of_ble_eq_true rfl) rfl rfl dX6_count_17 (fun H locs hP hS => ?_)
    refine lv_goto (tgt := 28) hx hb dX6_count_20 (by decide) ?_
    exact e_Ii C0 hr hP hS rfl (by decide) dX6_count_28
set_option maxHeartbeats 4000000 in
set_option maxRecDepth 100000 in
theorem c_X6_count_i (l : Launch) (G : GG) (M : Mem) (o : Nat → Int64) (np nr k : Nat) (hO : OKT M np nr k) (x1 : Int32) (hbd : x1 < 0 ∨ ¬ x1 < 9) : MI l yX6_count cX6_count 2 (some .int) 1 22 G [.ref (adr G 46), .int x1] M (u2 (u2 M 46 0 0) 46 0 1) o o 0 0 0 := by
  refine MI_of RX6 rfl (by decide +kernel) (Nat.le_of_ble_eq_true rfl) ?_
  intro p e s m below meth c sz C0 hr hP ls hl
  have hx := C0.1
  have hb := C0.2.1
  have hS : va_S (pA G sz) s.heap s.heap [] := va_S.rf
  have hl : lv_has ls 2 [(0, .ref (adr G 46)), (1, .int x1)] := hl
  obtain ⟨hnp, hple, hnr, hrle, hk0, hkle, hdz⟩ := okz (v := 0) hO
  refine lv_aload_n hx hb dX6_count_0 rfl (lv_at hl 0 rfl) ?_
  refine lv_iconst (v := 0) hx hb dX6_count_1 (by decide) ?_
  refine pf_X6_49 C0 hP hS (k := 46) (show kd 46 = 6 by decide) dX6_count_2 (fun H locs hP hS => ?_)
  refine lv_iload_n hx hb dX6_count_5 rfl (lv_at hl 1 rfl) ?_
  refine lv_iconst (v := 0) hx hb dX6_count_6 (by decide) ?_
  refine lv_bipush (v := 8) hx hb dX6_count_7 (by decide) ?_
  refine k_SI C0 hP hS (rest := []) (c_X6_isIn l G (u2 M 46 0 0) o x1 0 8) mf_X6_isIn rfl ml_X6_56 hl.1 (by decide) (by decide) (Nat.le_of_ble_eq_true rfl) rfl rfl dX6_count_9 (fun H locs hP hS => ?_)
  refine lv_topE (y := 0) (inF_Y (b := 8) rfl hbd) ?_
  refine lv_if_eq (tgt := 23) hx hb dX6_count_12 (by decide) (fun c_1 => ?_) (fun c_1 => ?_)
  · refine lv_aload_n hx hb dX6_count_23 rfl (lv_at hl 0 rfl) ?_
    refine lv_iconst (v := 1) hx hb dX6_count_24 (by decide) ?_
    refine k_VI C0 hP hS (rest := []) (c_X6_no l G (u2 M 46 0 0) o 1) mf_X6_no ml_X6_63 (kd_lt (show kd 46 = 6 by decide) (by decide)) (ct_6 (show kd 46 = 6 by decide)) rfl hl.1 (by decide) (by decide) (Nat.le_of_ble_eq_true rfl) rfl rfl dX6_count_25 (fun H locs hP hS => ?_)
    exact e_Ii C0 hr hP hS rfl (by decide) dX6_count_28
  · exact absurd c_1 (by decide)
set_option maxHeartbeats 4000000 in
set_option maxRecDepth 100000 in
theorem c_X6_digest (l : Launch) (G : GG) (M : Mem) (o : Nat → Int64) (np nr k : Nat) (hO : OKT M np nr k)  : ML l yX6_digest cX6_digest 5 (some .long) 5 111 G [.ref (adr G 46)] M (u2 M 46 0 0) o o (ffF (rtF (u2 M 46 0 0) np k) 8 (ffF (ptF (u2 M 46 0 0) nr k) 5 (ldF ((u2 M 46 0 0) 47) ((u2 M 46 0 0) 48) (fdF (hfT (u2 M 46 0 0) np nr k) 853 9) 12) np) nr) 9 81 := by
  refine ML_of RX6 rfl (by decide +kernel) (Nat.le_of_ble_eq_true rfl) ?_
  intro p e s m below meth c sz C0 hr hP ls hl
  have hx := C0.1
  have hb := C0.2.1
  have hS : va_S (pA G sz) s.heap s.heap [] := va_S.rf
  have hl : lv_has ls 5 [(0, .ref (adr G 46))] := hl
  obtain ⟨hnp, hple, hnr, hrle, hk0, hkle, hdz⟩ := okz (v := 0) hO
  refine lv_aload_n hx hb dX6_digest_0 rfl (lv_at hl 0 rfl) ?_
  refine lv_iconst (v := 0) hx hb dX6_digest_1 (by decide) ?_
  refine pf_X6_49 C0 hP hS (k := 46) (show kd 46 = 6 by decide) dX6_digest_2 (fun H locs hP hS => ?_)
  refine lv_ldc2 (v := 853) hx hb C0.ow (C0.ts _ kl_X6_135) dX6_digest_5 ?_
  refine lv_lstore_n (lv' := [(1, .long 853), (0, .ref (adr G 46))]) hx hb dX6_digest_8 rfl hl (by decide) rfl (fun ls hl => ?_)
  refine lv_iconst (v := 0) hx hb dX6_digest_9 (by decide) ?_
  refine lv_istore_n (lv' := [(3, .int 0), (1, .long 853), (0, .ref (adr G 46))]) hx hb dX6_digest_10 rfl hl (by decide) rfl (fun ls hl => ?_)
  have loop_11 : ∀ (fuel_11 : Nat) (w : Nat) (x : Int64), 9 + 1 ≤ w + fuel_11 → (w ≤ 9) → (x = fdF (hfT (u2 M 46 0 0) np nr k) 853 w) → ∀ (H : Heap) (locs : List Loc), PW G (u2 M 46 0 0) o H → va_S (pA G sz) s.heap H locs → ∀ ls : Array Slot, lv_has ls 5 [(3, .int (nI w)), (1, .long x), (0, .ref (adr G 46))] → W p l e (rmU 5 111 9 81) s m ([.ref (adr G 46)] : List Value).toArray below meth c H locs w (9 * w) (MQ below (QL G (u2 M 46 0 0) o (ffF (rtF (u2 M 46 0 0) np k) 8 (ffF (ptF (u2 M 46 0 0) nr k) 5 (ldF ((u2 M 46 0 0) 47) ((u2 M 46 0 0) 48) (fdF (hfT (u2 M 46 0 0) np nr k) 853 9) 12) np) nr) sz) ([.ref (adr G 46)] : List Value).toArray s 9 81 (pA G sz)) (F0 m 11 ls []) := by
    intro fuel_11
    induction fuel_11 with
    | zero =>
      intro w x hf hw hxx
      exact absurd hf (by omega)
    | succ fuel_11 ih_11 =>
      intro w x hf hw hxx H locs hP hS ls hl
      refine lv_iload_n hx hb dX6_digest_11 rfl (lv_at hl 0 rfl) ?_
      refine lv_bipush (v := 9) hx hb dX6_digest_12 (by decide) ?_
      refine lv_icmp_ge (tgt := 36) hx hb dX6_digest_14 (by decide) (fun c_1 => ?_) (fun c_1 => ?_)
      · have hw9 := lp_ge (n := 9) c_1 (by omega) hw
        refine lv_iconst (v := 0) hx hb dX6_digest_36 (by decide) ?_
        refine lv_istore_n (lv' := [(3, .int 0), (1, .long x), (0, .ref (adr G 46))]) hx hb dX6_digest_37 rfl hl (by decide) rfl (fun ls hl => ?_)
        have loop_38 : ∀ (fuel_38 : Nat) (w2 : Nat) (x2 : Int64), 12 + 1 ≤ w2 + fuel_38 → (w2 ≤ 12) → (x2 = ldF ((u2 M 46 0 0) 47) ((u2 M 46 0 0) 48) (fdF (hfT (u2 M 46 0 0) np nr k) 853 9) w2) → ∀ (H : Heap) (locs : List Loc), PW G (u2 M 46 0 0) o H → va_S (pA G sz) s.heap H locs → ∀ ls : Array Slot, lv_has ls 5 [(3, .int (nI w2)), (1, .long x2), (0, .ref (adr G 46))] → W p l e (rmU 5 111 9 81) s m ([.ref (adr G 46)] : List Value).toArray below meth c H locs 9 81 (MQ below (QL G (u2 M 46 0 0) o (ffF (rtF (u2 M 46 0 0) np k) 8 (ffF (ptF (u2 M 46 0 0) nr k) 5 (ldF ((u2 M 46 0 0) 47) ((u2 M 46 0 0) 48) (fdF (hfT (u2 M 46 0 0) np nr k) 853 9) 12) np) nr) sz) ([.ref (adr G 46)] : List Value).toArray s 9 81 (pA G sz)) (F0 m 38 ls []) := by
          intro fuel_38
          induction fuel_38 with
          | zero =>
            intro w2 x2 hf hw2 hx2
            exact absurd hf (by omega)
          | succ fuel_38 ih_38 =>
            intro w2 x2 hf hw2 hx2 H locs hP hS ls hl
            refine lv_iload_n hx hb dX6_digest_38 rfl (lv_at hl 0 rfl) ?_
            refine lv_bipush (v := 12) hx hb dX6_digest_39 (by decide) ?_
            refine lv_icmp_ge (tgt := 75) hx hb dX6_digest_41 (by decide) (fun c_2 => ?_) (fun c_2 => ?_)
            · have hw29 := lp_ge (n := 12) c_2 (by omega) hw2
              refine lv_iconst (v := 0) hx hb dX6_digest_75 (by decide) ?_
              refine lv_istore_n (lv' := [(3, .int 0), (1, .long x2), (0, .ref (adr G 46))]) hx hb dX6_digest_76 rfl hl (by decide) rfl (fun ls hl => ?_)
              have loop_77 : ∀ (fuel_77 : Nat) (i : Nat) (x3 : Int64), np + 1 ≤ i + fuel_77 → (i ≤ np) → (x3 = ffF (ptF (u2 M 46 0 0) nr k) 5 (ldF ((u2 M 46 0 0) 47) ((u2 M 46 0 0) 48) (fdF (hfT (u2 M 46 0 0) np nr k) 853 9) 12) i) → ∀ (H : Heap) (locs : List Loc), PW G (u2 M 46 0 0) o H → va_S (pA G sz) s.heap H locs → ∀ ls : Array Slot, lv_has ls 5 [(3, .int (nI i)), (1, .long x3), (0, .ref (adr G 46))] → W p l e (rmU 5 111 9 81) s m ([.ref (adr G 46)] : List Value).toArray below meth c H locs 9 81 (MQ below (QL G (u2 M 46 0 0) o (ffF (rtF (u2 M 46 0 0) np k) 8 (ffF (ptF (u2 M 46 0 0) nr k) 5 (ldF ((u2 M 46 0 0) 47) ((u2 M 46 0 0) 48) (fdF (hfT (u2 M 46 0 0) np nr k) 853 9) 12) np) nr) sz) ([.ref (adr G 46)] : List Value).toArray s 9 81 (pA G sz)) (F0 m 77 ls []) := by
                intro fuel_77
                induction fuel_77 with
                | zero =>
                  intro i x3 hf hi hx3
                  exact absurd hf (by omega)
                | succ fuel_77 ih_77 =>
                  intro i x3 hf hi hx3 H locs hP hS ls hl
                  refine lv_iload_n hx hb dX6_digest_77 rfl (lv_at hl 0 rfl) ?_
                  refine lv_aload_n hx hb dX6_digest_78 rfl (lv_at hl 2 rfl) ?_
                  refine gf_X6_60 C0 hP (k := 46) (show kd 46 = 6 by decide) dX6_digest_79 ?_
                  refine lv_topE (y := nI np) (hnp) ?_
                  refine lv_icmp_ge (tgt := 121) hx hb dX6_digest_82 (by decide) (fun c_3 => ?_) (fun c_3 => ?_)
                  · have hi9 := lp_ge (n := np) c_3 (by omega) hi
                    refine lv_iconst (v := 0) hx hb dX6_digest_121 (by decide) ?_
                    refine lv_istore_n (lv' := [(3, .int 0), (1, .long x3), (0, .ref (adr G 46))]) hx hb dX6_digest_122 rfl hl (by decide) rfl (fun ls hl => ?_)
                    have loop_123 : ∀ (fuel_123 : Nat) (r : Nat) (x5 : Int64), nr + 1 ≤ r + fuel_123 → (r ≤ nr) → (x5 = ffF (rtF (u2 M 46 0 0) np k) 8 (ffF (ptF (u2 M 46 0 0) nr k) 5 (ldF ((u2 M 46 0 0) 47) ((u2 M 46 0 0) 48) (fdF (hfT (u2 M 46 0 0) np nr k) 853 9) 12) np) r) → ∀ (H : Heap) (locs : List Loc), PW G (u2 M 46 0 0) o H → va_S (pA G sz) s.heap H locs → ∀ ls : Array Slot, lv_has ls 5 [(3, .int (nI r)), (1, .long x5), (0, .ref (adr G 46))] → W p l e (rmU 5 111 9 81) s m ([.ref (adr G 46)] : List Value).toArray below meth c H locs 9 81 (MQ below (QL G (u2 M 46 0 0) o (ffF (rtF (u2 M 46 0 0) np k) 8 (ffF (ptF (u2 M 46 0 0) nr k) 5 (ldF ((u2 M 46 0 0) 47) ((u2 M 46 0 0) 48) (fdF (hfT (u2 M 46 0 0) np nr k) 853 9) 12) np) nr) sz) ([.ref (adr G 46)] : List Value).toArray s 9 81 (pA G sz)) (F0 m 123 ls []) := by
                      intro fuel_123
                      induction fuel_123 with
                      | zero =>
                        intro r x5 hf hr5 hx5
                        exact absurd hf (by omega)
                      | succ fuel_123 ih_123 =>
                        intro r x5 hf hr5 hx5 H locs hP hS ls hl
                        refine lv_iload_n hx hb dX6_digest_123 rfl (lv_at hl 0 rfl) ?_
                        refine lv_aload_n hx hb dX6_digest_124 rfl (lv_at hl 2 rfl) ?_
                        refine gf_X6_53 C0 hP (k := 46) (show kd 46 = 6 by decide) dX6_digest_125 ?_
                        refine lv_topE (y := nI nr) (hnr) ?_
                        refine lv_icmp_ge (tgt := 168) hx hb dX6_digest_128 (by decide) (fun c_4 => ?_) (fun c_4 => ?_)
                        · have hr59 := lp_ge (n := nr) c_4 (by omega) hr5
                          refine lv_lload_n hx hb dX6_digest_168 rfl (lv_at hl 1 rfl) ?_
                          exact e_L C0 hr hP hS (by rw [hx5, hr59]) (by decide) dX6_digest_169
                        · have hr5t := lp_lt (n := nr) c_4 (by omega) hr5
                          refine lv_iconst (v := 0) hx hb dX6_digest_131 (by decide) ?_
                          refine lv_istore (lv' := [(4, .int 0), (3, .int (nI r)), (1, .long x5), (0, .ref (adr G 46))]) hx hb dX6_digest_132 hl (by decide) rfl (fun ls hl => ?_)
                          have loop_134 : ∀ (fuel_134 : Nat) (w6 : Nat) (x6 : Int64), 8 + 1 ≤ w6 + fuel_134 → (w6 ≤ 8) → (x6 = fdF (rtF (u2 M 46 0 0) np k r) (ffF (rtF (u2 M 46 0 0) np k) 8 (ffF (ptF (u2 M 46 0 0) nr k) 5 (ldF ((u2 M 46 0 0) 47) ((u2 M 46 0 0) 48) (fdF (hfT (u2 M 46 0 0) np nr k) 853 9) 12) np) r) w6) → ∀ (H : Heap) (locs : List Loc), PW G (u2 M 46 0 0) o H → va_S (pA G sz) s.heap H locs → ∀ ls : Array Slot, lv_has ls 5 [(4, .int (nI w6)), (3, .int (nI r)), (1, .long x6), (0, .ref (adr G 46))] → W p l e (rmU 5 111 9 81) s m ([.ref (adr G 46)] : List Value).toArray below meth c H locs 9 81 (MQ below (QL G (u2 M 46 0 0) o (ffF (rtF (u2 M 46 0 0) np k) 8 (ffF (ptF (u2 M 46 0 0) nr k) 5 (ldF ((u2 M 46 0 0) 47) ((u2 M 46 0 0) 48) (fdF (hfT (u2 M 46 0 0) np nr k) 853 9) 12) np) nr) sz) ([.ref (adr G 46)] : List Value).toArray s 9 81 (pA G sz)) (F0 m 134 ls []) := by
                            intro fuel_134
                            induction fuel_134 with
                            | zero =>
                              intro w6 x6 hf hw6 hx6
                              exact absurd hf (by omega)
                            | succ fuel_134 ih_134 =>
                              intro w6 x6 hf hw6 hx6 H locs hP hS ls hl
                              refine lv_iload hx hb dX6_digest_134 (lv_at hl 0 rfl) ?_
                              refine lv_bipush (v := 8) hx hb dX6_digest_136 (by decide) ?_
                              refine lv_icmp_ge (tgt := 162) hx hb dX6_digest_138 (by decide) (fun c_5 => ?_) (fun c_5 => ?_)
                              · have hw69 := lp_ge (n := 8) c_5 (by omega) hw6
                                refine lv_iinc (v := nI (r + 1)) (lv' := [(3, .int (nI (r + 1))), (4, .int (nI w6)), (1, .long x6), (0, .ref (adr G 46))]) hx hb dX6_digest_162 hl (k := 1) rfl (nI_1 r) (by decide) rfl (fun ls hl => ?_)
                                refine lv_goto (tgt := 123) hx hb dX6_digest_165 (by decide) ?_
                                exact ih_123 (r + 1) _ (by omega) (by omega) (by rw [hx6, hw69]; rfl) _ _ hP hS _ (lv_sub hl [0, 2, 3] rfl)
                              · have hw6t := lp_lt (n := 8) c_5 (by omega) hw6
                                refine lv_lload_n hx hb dX6_digest_141 rfl (lv_at hl 2 rfl) ?_
                                refine lv_ldc2 (v := 31) hx hb C0.ow (C0.ts _ kl_X6_137) dX6_digest_142 ?_
                                refine lv_lmul hx hb dX6_digest_145 ?_
                                refine lv_aload_n hx hb dX6_digest_146 rfl (lv_at hl 3 rfl) ?_
                                refine lv_iload_n hx hb dX6_digest_147 rfl (lv_at hl 1 rfl) ?_
                                refine lv_iload hx hb dX6_digest_148 (lv_at hl 0 rfl) ?_
                                refine k_VI C0 hP hS (rest := [.long (x6 * 31)]) (c_X6_roomTold l G (u2 M 46 0 0) o np nr k (okz (v := 0) hO) r w6 (by omega) (by omega)) mf_X6_roomTold ml_X6_97 (kd_lt (show kd 46 = 6 by decide) (by decide)) (ct_6 (show kd 46 = 6 by decide)) rfl hl.1 (by decide) ⟨by show _ ≤ 9; omega, by show _ ≤ 81; omega⟩ (Nat.le_of_ble_eq_true rfl) rfl rfl dX6_digest_150 (fun H locs hP hS => ?_)
                                refine lv_i2l hx hb dX6_digest_153 rfl ?_
                                refine lv_ladd hx hb dX6_digest_154 ?_
                                refine lv_lstore_n (lv' := [(1, .long ((x6 * 31) + (Int32.toInt64 (rtF (u2 M 46 0 0) np k r w6)))), (4, .int (nI w6)), (3, .int (nI r)), (0, .ref (adr G 46))]) hx hb dX6_digest_155 rfl hl (by decide) rfl (fun ls hl => ?_)
                                refine lv_iinc (v := nI (w6 + 1)) (lv' := [(4, .int (nI (w6 + 1))), (1, .long ((x6 * 31) + (Int32.toInt64 (rtF (u2 M 46 0 0) np k r w6)))), (3, .int (nI r)), (0, .ref (adr G 46))]) hx hb dX6_digest_156 hl (k := 1) rfl (nI_1 w6) (by decide) rfl (fun ls hl => ?_)
                                refine lv_goto (tgt := 134) hx hb dX6_digest_159 (by decide) ?_
                                exact ih_134 (w6 + 1) _ (by omega) (by omega) (by rw [hx6]; rfl) _ _ hP hS _ (lv_sub hl [0, 2, 1, 3] rfl)
                          exact loop_134 (8 + 1) 0 _ (by omega) (by omega) (by rw [hx5]; rfl) _ _ hP hS _ (lv_sub hl [0, 1, 2, 3] rfl)
                    exact loop_123 (nr + 1) 0 _ (by omega) (by omega) (by rw [hx3, hi9]; rfl) _ _ hP hS _ (lv_sub hl [0, 1, 2] rfl)
                  · have hit := lp_lt (n := np) c_3 (by omega) hi
                    refine lv_iconst (v := 0) hx hb dX6_digest_85 (by decide) ?_
                    refine lv_istore (lv' := [(4, .int 0), (3, .int (nI i)), (1, .long x3), (0, .ref (adr G 46))]) hx hb dX6_digest_86 hl (by decide) rfl (fun ls hl => ?_)
                    have loop_88 : ∀ (fuel_88 : Nat) (w4 : Nat) (x4 : Int64), 5 + 1 ≤ w4 + fuel_88 → (w4 ≤ 5) → (x4 = fdF (ptF (u2 M 46 0 0) nr k i) (ffF (ptF (u2 M 46 0 0) nr k) 5 (ldF ((u2 M 46 0 0) 47) ((u2 M 46 0 0) 48) (fdF (hfT (u2 M 46 0 0) np nr k) 853 9) 12) i) w4) → ∀ (H : Heap) (locs : List Loc), PW G (u2 M 46 0 0) o H → va_S (pA G sz) s.heap H locs → ∀ ls : Array Slot, lv_has ls 5 [(4, .int (nI w4)), (3, .int (nI i)), (1, .long x4), (0, .ref (adr G 46))] → W p l e (rmU 5 111 9 81) s m ([.ref (adr G 46)] : List Value).toArray below meth c H locs 9 81 (MQ below (QL G (u2 M 46 0 0) o (ffF (rtF (u2 M 46 0 0) np k) 8 (ffF (ptF (u2 M 46 0 0) nr k) 5 (ldF ((u2 M 46 0 0) 47) ((u2 M 46 0 0) 48) (fdF (hfT (u2 M 46 0 0) np nr k) 853 9) 12) np) nr) sz) ([.ref (adr G 46)] : List Value).toArray s 9 81 (pA G sz)) (F0 m 88 ls []) := by
                      intro fuel_88
                      induction fuel_88 with
                      | zero =>
                        intro w4 x4 hf hw4 hx4
                        exact absurd hf (by omega)
                      | succ fuel_88 ih_88 =>
                        intro w4 x4 hf hw4 hx4 H locs hP hS ls hl
                        refine lv_iload hx hb dX6_digest_88 (lv_at hl 0 rfl) ?_
                        refine lv_iconst (v := 5) hx hb dX6_digest_90 (by decide) ?_
                        refine lv_icmp_ge (tgt := 115) hx hb dX6_digest_91 (by decide) (fun c_6 => ?_) (fun c_6 => ?_)
                        · have hw49 := lp_ge (n := 5) c_6 (by omega) hw4
                          refine lv_iinc (v := nI (i + 1)) (lv' := [(3, .int (nI (i + 1))), (4, .int (nI w4)), (1, .long x4), (0, .ref (adr G 46))]) hx hb dX6_digest_115 hl (k := 1) rfl (nI_1 i) (by decide) rfl (fun ls hl => ?_)
                          refine lv_goto (tgt := 77) hx hb dX6_digest_118 (by decide) ?_
                          exact ih_77 (i + 1) _ (by omega) (by omega) (by rw [hx4, hw49]; rfl) _ _ hP hS _ (lv_sub hl [0, 2, 3] rfl)
                        · have hw4t := lp_lt (n := 5) c_6 (by omega) hw4
                          refine lv_lload_n hx hb dX6_digest_94 rfl (lv_at hl 2 rfl) ?_
                          refine lv_ldc2 (v := 31) hx hb C0.ow (C0.ts _ kl_X6_137) dX6_digest_95 ?_
                          refine lv_lmul hx hb dX6_digest_98 ?_
                          refine lv_aload_n hx hb dX6_digest_99 rfl (lv_at hl 3 rfl) ?_
                          refine lv_iload_n hx hb dX6_digest_100 rfl (lv_at hl 1 rfl) ?_
                          refine lv_iload hx hb dX6_digest_101 (lv_at hl 0 rfl) ?_
                          refine k_VI C0 hP hS (rest := [.long (x4 * 31)]) (c_X6_passerTold l G (u2 M 46 0 0) o np nr k (okz (v := 0) hO) i w4 (by omega) (by omega)) mf_X6_passerTold ml_X6_87 (kd_lt (show kd 46 = 6 by decide) (by decide)) (ct_6 (show kd 46 = 6 by decide)) rfl hl.1 (by decide) ⟨by show _ ≤ 9; omega, by show _ ≤ 81; omega⟩ (Nat.le_of_ble_eq_true rfl) rfl rfl dX6_digest_103 (fun H locs hP hS => ?_)
                          refine lv_i2l hx hb dX6_digest_106 rfl ?_
                          refine lv_ladd hx hb dX6_digest_107 ?_
                          refine lv_lstore_n (lv' := [(1, .long ((x4 * 31) + (Int32.toInt64 (ptF (u2 M 46 0 0) nr k i w4)))), (4, .int (nI w4)), (3, .int (nI i)), (0, .ref (adr G 46))]) hx hb dX6_digest_108 rfl hl (by decide) rfl (fun ls hl => ?_)
                          refine lv_iinc (v := nI (w4 + 1)) (lv' := [(4, .int (nI (w4 + 1))), (1, .long ((x4 * 31) + (Int32.toInt64 (ptF (u2 M 46 0 0) nr k i w4)))), (3, .int (nI i)), (0, .ref (adr G 46))]) hx hb dX6_digest_109 hl (k := 1) rfl (nI_1 w4) (by decide) rfl (fun ls hl => ?_)
                          refine lv_goto (tgt := 88) hx hb dX6_digest_112 (by decide) ?_
                          exact ih_88 (w4 + 1) _ (by omega) (by omega) (by rw [hx4]; rfl) _ _ hP hS _ (lv_sub hl [0, 2, 1, 3] rfl)
                    exact loop_88 (5 + 1) 0 _ (by omega) (by omega) (by rw [hx3]; rfl) _ _ hP hS _ (lv_sub hl [0, 1, 2, 3] rfl)
              exact loop_77 (np + 1) 0 _ (by omega) (by omega) (by rw [hx2, hw29]; rfl) _ _ hP hS _ (lv_sub hl [0, 1, 2] rfl)
            · have hw2t := lp_lt (n := 12) c_2 (by omega) hw2
              refine lv_lload_n hx hb dX6_digest_44 rfl (lv_at hl 1 rfl) ?_
              refine lv_ldc2 (v := 31) hx hb C0.ow (C0.ts _ kl_X6_137) dX6_digest_45 ?_
              refine lv_lmul hx hb dX6_digest_48 ?_
              refine lv_bipush (v := 10) hx hb dX6_digest_49 (by decide) ?_
              refine lv_aload_n hx hb dX6_digest_51 rfl (lv_at hl 2 rfl) ?_
              refine gf_X6_9 C0 hP (k := 46) (show kd 46 = 6 by decide) dX6_digest_52 ?_
              refine lv_iload_n hx hb dX6_digest_55 rfl (lv_at hl 0 rfl) ?_
              refine w_ialdN C0 hP (k := 47) (i := w2) (show kd 47 = 7 by decide) (show w2 < 12 by omega) (by omega) dX6_digest_56 ?_
              refine lv_imul hx hb dX6_digest_57 ?_
              refine lv_i2l hx hb dX6_digest_58 rfl ?_
              refine lv_ladd hx hb dX6_digest_59 ?_
              refine lv_aload_n hx hb dX6_digest_60 rfl (lv_at hl 2 rfl) ?_
              refine gf_X6_13 C0 hP (k := 46) (show kd 46 = 6 by decide) dX6_digest_61 ?_
              refine lv_iload_n hx hb dX6_digest_64 rfl (lv_at hl 0 rfl) ?_
              refine w_ialdN C0 hP (k := 48) (i := w2) (show kd 48 = 7 by decide) (show w2 < 12 by omega) (by omega) dX6_digest_65 ?_
              refine lv_i2l hx hb dX6_digest_66 rfl ?_
              refine lv_ladd hx hb dX6_digest_67 ?_
              refine lv_lstore_n (lv' := [(1, .long (((x2 * 31) + (Int32.toInt64 (10 * ((u2 M 46 0 0) 47 w2)))) + (Int32.toInt64 ((u2 M 46 0 0) 48 w2)))), (3, .int (nI w2)), (0, .ref (adr G 46))]) hx hb dX6_digest_68 rfl hl (by decide) rfl (fun ls hl => ?_)
              refine lv_iinc (v := nI (w2 + 1)) (lv' := [(3, .int (nI (w2 + 1))), (1, .long (((x2 * 31) + (Int32.toInt64 (10 * ((u2 M 46 0 0) 47 w2)))) + (Int32.toInt64 ((u2 M 46 0 0) 48 w2)))), (0, .ref (adr G 46))]) hx hb dX6_digest_69 hl (k := 1) rfl (nI_1 w2) (by decide) rfl (fun ls hl => ?_)
              refine lv_goto (tgt := 38) hx hb dX6_digest_72 (by decide) ?_
              exact ih_38 (w2 + 1) _ (by omega) (by omega) (by rw [hx2]; rfl) _ _ hP hS _ (lv_sub hl [0, 1, 2] rfl)
        refine W.widen (k := 9) (n := 81) (by omega) (by omega) ?_
        exact loop_38 (12 + 1) 0 _ (by omega) (by omega) (by rw [hxx, hw9]; rfl) _ _ hP hS _ (lv_sub hl [0, 1, 2] rfl)
      · have hwt := lp_lt (n := 9) c_1 (by omega) hw
        refine lv_lload_n hx hb dX6_digest_17 rfl (lv_at hl 1 rfl) ?_
        refine lv_ldc2 (v := 31) hx hb C0.ow (C0.ts _ kl_X6_137) dX6_digest_18 ?_
        refine lv_lmul hx hb dX6_digest_21 ?_
        refine lv_aload_n hx hb dX6_digest_22 rfl (lv_at hl 2 rfl) ?_
        refine lv_iload_n hx hb dX6_digest_23 rfl (lv_at hl 0 rfl) ?_
        refine k_VI C0 hP hS (rest := [.long (x * 31)]) (c_X6_counted l G (u2 M 46 0 0) o np nr k (okz (v := 0) hO) w (by omega)) mf_X6_counted ml_X6_122 (kd_lt (show kd 46 = 6 by decide) (by decide)) (ct_6 (show kd 46 = 6 by decide)) rfl hl.1 (by decide) ⟨by show _ ≤ 9; omega, by show _ ≤ 81; omega⟩ (Nat.le_of_ble_eq_true rfl) rfl rfl dX6_digest_24 (fun H locs hP hS => ?_)
        refine lv_i2l hx hb dX6_digest_27 rfl ?_
        refine lv_ladd hx hb dX6_digest_28 ?_
        refine lv_lstore_n (lv' := [(1, .long ((x * 31) + (Int32.toInt64 (hfT (u2 M 46 0 0) np nr k w)))), (3, .int (nI w)), (0, .ref (adr G 46))]) hx hb dX6_digest_29 rfl hl (by decide) rfl (fun ls hl => ?_)
        refine lv_iinc (v := nI (w + 1)) (lv' := [(3, .int (nI (w + 1))), (1, .long ((x * 31) + (Int32.toInt64 (hfT (u2 M 46 0 0) np nr k w)))), (0, .ref (adr G 46))]) hx hb dX6_digest_30 hl (k := 1) rfl (nI_1 w) (by decide) rfl (fun ls hl => ?_)
        refine lv_goto (tgt := 11) hx hb dX6_digest_33 (by decide) ?_
        exact ih_11 (w + 1) _ (by omega) (by omega) (by rw [hxx]; rfl) _ _ hP hS _ (lv_sub hl [0, 1, 2] rfl)
  exact loop_11 (9 + 1) 0 853 (by omega) (by omega) rfl _ _ hP hS _ (lv_sub hl [0, 1, 2] rfl)
end MO3
