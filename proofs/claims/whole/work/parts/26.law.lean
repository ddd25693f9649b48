/-! THE CLAIM OUT OF ONE WALK OF THE LAW'S BODY. Your part is whole_start (and what it stands on); all else here is the same for every law, but numbers. -/
def R_law : String := "PinholeHouseLaw"
def lw_P (b : Addr) (xs : List Int32) (args : Array Value) (s : State) : Prop := args = #[.ref b] ∧ s.IntsAt b xs ∧ xs.length ≤ 2560 ∧ (Jvm.Cond.and given_1 narrow_1).before args s = true
/-- what a walk over the start with the record d0 says of its end, said of the start itself -/
theorem lw_closed {s t : State} {o : Outcome} {d0 : Drawn} {L : List Loc} {k n : Nat} (hd0 : s.drawn.sameBut d0 lw_cs) (hv : ∃ v, o = .returned v) (hW : (s.setDrawn d0).WarmedH t.vm) (hs : (s.setDrawn d0).sameButNew ({ t with vm := s.vm } : State) L k n) : State.butDraws s t lw_cs (fun t1 => Framed s o t1 L k n) := by
  have h2 : t.drawn = d0 := congrArg State.drawn hs.1
  refine ⟨⟨hv, hW, State.sameButNew.setDrawn hs s.drawn⟩, ?_, by decide⟩
  rw [h2]
  exact hd0
def lw_Q (_ : Array Value) (s : State) (o : Outcome) (t : State) : Prop := o = .returned (some (.int 1)) ∧ State.butDraws s t lw_cs (fun t1 => Framed s o t1 [] 601024 7293034)
def lw_Z (below : List Frame) (a : Array Value) (s : State) : State → Prop := fun t => ∃ o, t.status = .running ∧ Ended t below o ∧ lw_Q a s o t
/-- the law's own end, with 1 on the stack, nothing written that was there before, its room as the claim has it; d0: the record of draws at this point (at the entry s.drawn: begin with 'refine W.base ?_' and 'have hd0 := Drawn.sameBut.refl s.drawn lw_cs') -/
theorem lw_ret {p : Program} {l : Launch} {e : Env} {s : State} {m : MethodId} {below : List Frame} {meth : Method} {c : Code} {b : Nat} {d0 : Drawn} (hd0 : s.drawn.sameBut d0 lw_cs) (hx : p.tables.exec = Jvm.exec) (hb : c.code = code) (hr : meth.sig.returnType = ret) (hlocks : meth.locks = false) {pc : Nat} {H : Heap} {ls : Array Slot} (hdg : decode code pc = .ok (.ireturn, 1)) : W p l e room_1 (s.setDrawn d0) m #[Value.ref b] below meth c H [] 601024 7293034 (lw_Z below #[Value.ref b] s) (F0 m pc ls [.int 1]) := by
  intro T hT X
  obtain ⟨fs, hret, hrun, hended, hW, hframe⟩ := X.leave (v := some (.int 1)) (hlocks := hlocks) (fun h => by rw [hr] at h; cases h)
  have hmeth' : T.vm.method? m = some meth := X.method'
  refine ⟨T.setFrames fs, ?_, .returned (some (.int 1)), hrun, hended, rfl, lw_closed hd0 ⟨_, rfl⟩ hW hframe⟩
  jvm_step X.here [X.here.top, hx, hb, hdg, hmeth', hr, ret, narrow_b1]
  (try refine ⟨rfl, ?_⟩); (try refine ⟨rfl, ?_⟩)
  first | (intro acts; rw [hret _ acts rfl rfl rfl]) | rw [hret _ _ rfl rfl rfl]
  exact Steps.refl _
/-- what holds at the law's entry: the machine, the code, the tables' words (any of lw_tbl by 'hts w (by decide +kernel)'), the script of L ints xs at the cell b, what the Statement gives of the start (any of its parts by flat_of_before) -/
def lw_At (p : Program) (s : State) (m : MethodId) (meth : Method) (c : Code) (b L : Nat) (xs : Nat → Int32) : Prop :=
  p.tables.exec = Jvm.exec ∧ c.code = code ∧ meth.sig.returnType = ret ∧ c.maxLocals = 9 ∧ s.vm.findClass R_law = some m.cls ∧ (∀ w ∈ lw_tbl, w.before #[Value.ref b] s = true) ∧ va_X b L xs s s.heap ∧ b < s.heap.size ∧ meth.locks = false ∧ (Jvm.Cond.and given_1 narrow_1).before #[Value.ref b] s = true
theorem law_env {p : Program} {s : State} {m : MethodId} {meth : Method} {c : Code} {b L : Nat} {xs : Nat → Int32} (C0 : lw_At p s m meth c b L xs) : ∃ G : GG, CX p s m #[Value.ref b] meth c cL_law RL 9 G s.heap.size ∧ AO2 s ∧ linG G ∧ ∀ k, adr G k = s.heap.size + k := by
  obtain ⟨hx, hb, hr, hml, hown, hts, hX, hbl, hlocks, hgv⟩ := C0
  have hU : ∀ w ∈ UU, w.before #[Value.ref b] s = true := fun w hw => hts w (UU_tbl w hw)
  obtain ⟨d0, i0, k0⟩ := u_known (C := RX0) (T := TX0) (N := 4) (n := 4) hU inU_X0 (hU _ in_X0)
  obtain ⟨d1, i1, k1⟩ := u_known (C := RX1) (T := TX1) (N := 7) (n := 7) hU inU_X1 (hU _ in_X1)
  obtain ⟨d2, i2, k2⟩ := u_known (C := RX2) (T := TX2) (N := 5) (n := 5) hU inU_X2 (hU _ in_X2)
  obtain ⟨d3, i3, k3⟩ := u_known (C := RX3) (T := TX3) (N := 2) (n := 2) hU inU_X3 (hU _ in_X3)
  obtain ⟨d4, i4, k4⟩ := u_known (C := RX4) (T := TX4) (N := 3) (n := 3) hU inU_X4 (hU _ in_X4)
  obtain ⟨d5, i5, k5⟩ := u_known (C := RX5) (T := TX5) (N := 6) (n := 6) hU inU_X5 (hU _ in_X5)
  obtain ⟨d6, i6, k6⟩ := u_known (C := RX6) (T := TX6) (N := 14) (n := 14) hU inU_X6 (hU _ in_X6)
  obtain ⟨aI, kI, oI, a1, a2, a3⟩ := Cond.arrayClass_spec (hts _ axI.1)
  obtain ⟨aL, kL, oL, b1, b2, b3⟩ := Cond.arrayClass_spec (hts _ axI.2.1)
  obtain ⟨oP, aP, kP, p1, -, p3, p4, p5⟩ := Cond.arrayOver_spec (hts _ axI.2.2.1)
  obtain ⟨oR, aR, kR, r1, -, r3, r4, r5⟩ := Cond.arrayOver_spec (hts _ axI.2.2.2)
  let G : GG := (fun k => match k with | 0 => d0 | 1 => d1 | 2 => d2 | 3 => d3 | 4 => d4 | 5 => d5 | _ => d6, fun k => match k with | 0 => i0 | 1 => i1 | 2 => i2 | 3 => i3 | 4 => i4 | 5 => i5 | _ => i6, fun k => s.heap.size + k, fun k => match k with | 0 => aI | 1 => aP | 2 => aR | _ => aL)
  have hadr : ∀ k, adr G k = s.heap.size + k := fun _ => rfl
  have hL : linG G := fun k => by rw [hadr, hadr]; omega
  have hpA : ∀ a : Nat, a < s.heap.size → ¬ pA G s.heap.size a := by
    rintro a ha (⟨k, -, e⟩ | z)
    · rw [hadr] at e
      omega
    · omega
  have hK : va_K (DG G) vwCl (tysG G) s := by
    refine ⟨fun k q hq => ?_, fun k q hq => ?_⟩
    · match k, hq with
      | 0, hq => cases hq; exact k0
      | 1, hq => cases hq; exact k1
      | 2, hq => cases hq; exact k2
      | 3, hq => cases hq; exact k3
      | 4, hq => cases hq; exact k4
      | 5, hq => cases hq; exact k5
      | 6, hq => cases hq; exact k6
      | k + 7, hq => exact absurd hq (by simp [vwCl])
    · match k, hq with
      | 0, hq => cases hq; exact ⟨fun N z => ⟨(fun k h => by cases h), kI, a2, oI, a3⟩, a1⟩
      | 1, hq => cases hq; exact ⟨fun N z => ⟨(fun k h => by cases h), kP, p3, oP, p4⟩, kP, oP, p3, p4, p1, p5⟩
      | 2, hq => cases hq; exact ⟨fun N z => ⟨(fun k h => by cases h), kR, r3, oR, r4⟩, kR, oR, r3, r4, r1, r5⟩
      | 3, hq => cases hq; exact ⟨fun N z => ⟨(fun k h => by cases h), kL, b2, oL, b3⟩, b1⟩
      | k + 4, hq => exact absurd hq (by simp [tysG])
  have hf := flat_of_before _ hgv
  have hNX : NX s := ⟨fun q hq => va_Nw.of rfl (hts _ (nxF q hq)), fun q hq => va_Nw.of rfl (hts _ (nxM q hq)), fun x hx => va_Nw.of rfl (hts _ (nxD x hx)), fun E hE => va_Nw.of rfl (hts _ (nxC E hE)), fun q hq => va_Nc.of (hf _ (nxN q hq))⟩
  exact ⟨G, ⟨hx, hb, hml, hown, hU, ⟨rfl, hK, hNX, lin_inj hL, vx_Zqof (hts _ nxL.1) (hts _ nxL.2.2) (hf _ nxU.1) hpA, vx_Zqof (hts _ nxL.2.1) (hts _ nxL.2.2) (hf _ nxU.2) hpA⟩, hlocks⟩, ⟨va_AO.of (hts _ axI.2.2.1), va_AO.of (hts _ axI.2.2.2)⟩, hL, hadr⟩
set_option maxHeartbeats 4000000 in
set_option maxRecDepth 100000 in
theorem law_loop {p : Program} {l : Launch} {e : Env} {s : State} {m : MethodId} {below : List Frame} {meth : Method} {c : Code} {b L : Nat} {xs : Nat → Int32} {G : GG} (hL : L ≤ 2560) (C0 : lw_At p s m meth c b L xs) (C1 : CX p s m #[Value.ref b] meth c cL_law RL 9 G s.heap.size) (hst : l.stackTraces = false) (hadr : ∀ k, adr G k = s.heap.size + k) :
    ∀ (n t : Nat), L + 1 ≤ t + n → 5 * t ≤ L + 4 → ∀ (M : Mem) (o : Nat → Int64) (np nr k : Nat) (H : Heap) (locs : List Loc) (ls : Array Slot), R2 M M np nr k → PW G M o H → va_S (pA G s.heap.size) s.heap H locs → lv_has ls 9 [(4, .int (nI (5 * t))), (0, .ref b), (1, .ref (adr G 0)), (2, .ref (adr G 46)), (3, .ref (adr G 66))] → W p l e room_1 s m #[Value.ref b] below meth c H locs (100 + 20 * t) (1000 + 200 * t) (lw_Z below #[Value.ref b] s) (F0 m 23 ls []) := by
  obtain ⟨hx, hb, hr, hml, hown, hts, hX, hbl, hlocks, hgv⟩ := C0
  have hbA : ¬ pA G s.heap.size b := by
    rintro (⟨k, -, e⟩ | z)
    · rw [hadr] at e
      omega
    · omega
  have hpA : ∀ q, pA G s.heap.size q → s.heap.size ≤ q := by
    rintro q (⟨k, -, e⟩ | z)
    · rw [hadr] at e
      omega
    · exact z
  intro n
  induction n with
  | zero =>
    intro t h1 h2
    exact absurd h1 (by omega)
  | succ n ih =>
    intro t h1 h2 M o np nr k H locs ls hR hP hS hl
    refine lv_iload hx hb dL_law_23 (lv_at hl 0 rfl) ?_
    refine lv_aload_n hx hb dL_law_25 rfl (lv_at hl 1 rfl) ?_
    refine va_slen hx hb hX hbl hbA hS dL_law_26 ?_
    refine lv_iconst (v := 5) hx hb dL_law_27 (by decide) ?_
    refine lv_isub hx hb dL_law_28 ?_
    refine lv_icmp_gt (tgt := 1273) hx hb dL_law_29 (by decide) (fun c_1 => ?_) (fun c_1 => ?_)
    · refine lv_iconst (v := 1) hx hb dL_law_1273 (by decide) ?_
      refine va_forget (fun q hq => hpA _ (hS.2.2 q hq)) ?_
      refine W.widen (k := 601024) (n := 7293034) (by omega) (by omega) ?_
      exact W.base (lw_ret (Drawn.sameBut.refl s.drawn lw_cs) hx hb hr hlocks dL_law_1274)
    · have hi : 5 * t + 5 ≤ L := by
        rcases Nat.lt_or_ge L (5 * t + 5) with q | q
        · exact absurd (by rw [Int32.lt_iff_toInt_lt, sub5 L (by omega), nI_toInt (by omega)]; omega) c_1
        · exact q
      have next : ∀ (M' : Mem) (o' : Nat → Int64) (np' nr' k' : Nat) (H1 : Heap) (locs1 : List Loc) (ls' : Array Slot), R2 M' M' np' nr' k' → PW G M' o' H1 → va_S (pA G s.heap.size) s.heap H1 locs1 → lv_has ls' 9 [(4, .int (nI (5 * t))), (0, .ref b), (1, .ref (adr G 0)), (2, .ref (adr G 46)), (3, .ref (adr G 66))] → W p l e room_1 s m #[Value.ref b] below meth c H1 locs1 (100 + 20 * t + 20) (1000 + 200 * t + 200) (lw_Z below #[Value.ref b] s) (F0 m 1267 ls' []) := by
        intro M' o' np' nr' k' H1 locs1 ls' hR' hP' hS' hl'
        refine lv_iinc (v := nI (5 * (t + 1))) (lv' := [(4, .int (nI (5 * (t + 1)))), (0, .ref b), (1, .ref (adr G 0)), (2, .ref (adr G 46)), (3, .ref (adr G 66))]) hx hb dL_law_1267 hl' (k := 0) rfl (nI_add (5 * t) 5) (by decide) rfl (fun ls hl => ?_)
        refine lv_goto (tgt := 23) hx hb dL_law_1270 (by decide) ?_
        exact ih (t + 1) (by omega) (by omega) M' o' np' nr' k' H1 locs1 ls hR' hP' hS' hl
      refine lv_aload_n hx hb dL_law_32 rfl (lv_at hl 1 rfl) ?_
      refine lv_iload hx hb dL_law_33 (lv_at hl 0 rfl) ?_
      refine x_sld C1 hX hbl hbA hS (q := 5 * t) (by omega) (by omega) dL_law_35 ?_
      refine lv_bipush (v := 31) hx hb dL_law_36 (by decide) ?_
      refine lv_iand hx hb dL_law_38 ?_
      obtain ⟨z, hz, ez⟩ := and31 (xs (5 * t))
      refine lv_topE (y := nI z) ez ?_
      have hc : 100 + 20 * t + 20 ≤ 601024 ∧ 1000 + 200 * t + 200 ≤ 7293034 := by omega
      by_cases h18 : z < 18
      · rcases (show z = 0 ∨ z = 1 ∨ z = 2 ∨ z = 3 ∨ z = 4 ∨ z = 5 ∨ z = 6 ∨ z = 7 ∨ z = 8 ∨ z = 9 ∨ z = 10 ∨ z = 11 ∨ z = 12 ∨ z = 13 ∨ z = 14 ∨ z = 15 ∨ z = 16 ∨ z = 17 by omega) with rfl | rfl | rfl | rfl | rfl | rfl | rfl | rfl | rfl | rfl | rfl | rfl | rfl | rfl | rfl | rfl | rfl | rfl
        · refine lv_tableIn (off := 85) (tgt := 124) hx hb dL_law_39 (by decide) (by decide) (by decide +kernel) (by decide) ?_
          exact w_pass C1 hX hbl hbA hi hL hP hS hl hc hst hR next
        · refine lv_tableIn (off := 177) (tgt := 216) hx hb dL_law_39 (by decide) (by decide) (by decide +kernel) (by decide) ?_
          exact w_setLight C1 hX hbl hbA hi hL hP hS hl hc hst hR next
        · refine lv_tableIn (off := 257) (tgt := 296) hx hb dL_law_39 (by decide) (by decide) (by decide +kernel) (by decide) ?_
          exact w_addRoom C1 hX hbl hbA hi hL hP hS hl hc hst hR next
        · refine lv_tableIn (off := 337) (tgt := 376) hx hb dL_law_39 (by decide) (by decide) (by decide +kernel) (by decide) ?_
          exact w_bore C1 hX hbl hbA hi hL hP hS hl hc hst hR next
        · refine lv_tableIn (off := 405) (tgt := 444) hx hb dL_law_39 (by decide) (by decide) (by decide +kernel) (by decide) ?_
          exact w_paint C1 hX hbl hbA hi hL hP hS hl hc hst hR next
        · refine lv_tableIn (off := 473) (tgt := 512) hx hb dL_law_39 (by decide) (by decide) (by decide +kernel) (by decide) ?_
          exact w_seat C1 hX hbl hbA hi hL hP hS hl hc hst hR next
        · refine lv_tableIn (off := 541) (tgt := 580) hx hb dL_law_39 (by decide) (by decide) (by decide +kernel) (by decide) ?_
          exact w_passer C1 hX hbl hbA hi hL hP hS hl hc hst hR next
        · refine lv_tableIn (off := 609) (tgt := 648) hx hb dL_law_39 (by decide) (by decide) (by decide +kernel) (by decide) ?_
          exact w_room C1 hX hbl hbA hi hL hP hS hl hc hst hR next
        · refine lv_tableIn (off := 677) (tgt := 716) hx hb dL_law_39 (by decide) (by decide) (by decide +kernel) (by decide) ?_
          exact w_wall C1 hX hbl hbA hi hL hP hS hl hc hst hR next
        · refine lv_tableIn (off := 745) (tgt := 784) hx hb dL_law_39 (by decide) (by decide) (by decide +kernel) (by decide) ?_
          exact w_bright C1 hX hbl hbA hi hL hP hS hl hc hst hR next
        · refine lv_tableIn (off := 813) (tgt := 852) hx hb dL_law_39 (by decide) (by decide) (by decide +kernel) (by decide) ?_
          exact w_count C1 hX hbl hbA hi hL hP hS hl hc hst hR next
        · refine lv_tableIn (off := 869) (tgt := 908) hx hb dL_law_39 (by decide) (by decide) (by decide +kernel) (by decide) ?_
          exact w_go C1 hX hbl hbA hi hL hP hS hl hc hst hR next
        · refine lv_tableIn (off := 925) (tgt := 964) hx hb dL_law_39 (by decide) (by decide) (by decide +kernel) (by decide) ?_
          exact w_when C1 hX hbl hbA hi hL hP hS hl hc hst hR next
        · refine lv_tableIn (off := 981) (tgt := 1020) hx hb dL_law_39 (by decide) (by decide) (by decide +kernel) (by decide) ?_
          exact w_advise C1 hX hbl hbA hi hL hP hS hl hc hst hR next
        · refine lv_tableIn (off := 1049) (tgt := 1088) hx hb dL_law_39 (by decide) (by decide) (by decide +kernel) (by decide) ?_
          exact w_seen C1 hX hbl hbA hi hL hP hS hl hc hst hR next
        · refine lv_tableIn (off := 1105) (tgt := 1144) hx hb dL_law_39 (by decide) (by decide) (by decide +kernel) (by decide) ?_
          exact w_foresee C1 hX hbl hbA hi hL hP hS hl hc hst hR next
        · refine lv_tableIn (off := 1173) (tgt := 1212) hx hb dL_law_39 (by decide) (by decide) (by decide +kernel) (by decide) ?_
          exact w_mean C1 hX hbl hbA hi hL hP hS hl hc hR next
        · refine lv_tableIn (off := 1214) (tgt := 1253) hx hb dL_law_39 (by decide) (by decide) (by decide +kernel) (by decide) ?_
          exact w_digest C1 hX hbl hbA hi hL hP hS hl hc hR next
      · refine lv_tableOut (tgt := 1267) hx hb dL_law_39 (Or.inr (by rw [nI_toInt (by omega)]; omega)) (by decide) ?_
        refine W.widen (k := 100 + 20 * t + 20) (n := 1000 + 200 * t + 200) (by omega) (by omega) ?_
        exact next _ _ _ _ _ _ _ _ hR hP hS hl
set_option maxHeartbeats 4000000 in
set_option maxRecDepth 100000 in
/-- THE LAW, from its entry -/
theorem whole_start {p : Program} {e : Env} {s : State} {m : MethodId} {below : List Frame} {meth : Method} {c : Code} (l : Launch) (hflags : l.flags = flags0) {b L : Nat} {xs : Nat → Int32} (hL : L ≤ 2560) (C0 : lw_At p s m meth c b L xs) : W p l e room_1 s m #[Value.ref b] below meth c s.heap [] 0 0 (lw_Z below #[Value.ref b] s) (entryFrame m ([Value.ref b] : List Value).toArray 9) := by
  obtain ⟨G, C1, hAO, hLn, hadr⟩ := law_env C0
  have hst : l.stackTraces = false := by
    unfold Launch.stackTraces
    rw [hflags]
    decide
  have hx := C1.1
  have hb := C1.2.1
  have hz : adr G 0 = s.heap.size := hadr 0
  have hl := lv_entry ([.ref b]) (n := 9) (Nat.le_of_ble_eq_true rfl)
  rw [lg_entry_eq]
  generalize (lg_sl ([.ref b]) ++ List.replicate (9 - (lg_sl ([.ref b])).length) Slot.unset).toArray = ls at hl ⊢
  have hl : lv_has ls 9 [(0, .ref b)] := hl
  have hB : BZ G 0 0 (fun _ => .inr (99, [])) s.heap := ⟨hz.symm, fun p hp => absurd hp (Nat.not_lt_zero p)⟩
  have hS : va_S (aK G 0) s.heap s.heap [] := va_S.rf
  refine z_new C1 hLn hB hS inU_X4 (rfl : vwCl[4]? = _) tyX4 tyX4_ok cl_L_8 in_X4 ii_X4 [.null, .null, .null] df_X4 (by decide) (by decide) dL_law_0 (fun H hB hS => ?_)
  refine lv_dup hx hb dL_law_3 rfl ?_
  refine z_callL C1 hAO hLn hz hB hS (As := []) (rest := [.ref (adr G (0 + 0))]) (i_X4 l G) (e0 := (.inr (4, [.null, .null, .null]) : va_E)) apE_n mf_X4_init ml_L_67 hl.1 (by decide) (by decide) (Nat.le_of_ble_eq_true rfl) rfl rfl dL_law_4 (fun H locs hB hS => ?_)
  have hB := BZ_eq (n := 46) (E' := FI G 0) (fun p hp => by unfold apE; rw [if_neg (Nat.not_lt_zero p)]; exact FI_sh (G := G) (k := 0) (n := 0) (Nat.zero_le p)) hB
  refine lv_astore_n (lv' := [(1, .ref (adr G 0)), (0, .ref b)]) hx hb dL_law_7 rfl hl (by decide) rfl (fun ls hl => ?_)
  refine z_new C1 hLn hB hS inU_X6 (rfl : vwCl[6]? = _) tyX6 tyX6_ok cl_L_68 in_X6 ii_X6 [.int 0, .int 0, .int 0, .null, .null, .null, .null, .null, .null, .null, .null, .null, .null, .null] df_X6 (by decide) (by decide) dL_law_8 (fun H hB hS => ?_)
  refine lv_dup hx hb dL_law_11 rfl ?_
  refine z_callL C1 hAO hLn hz hB hS (As := []) (rest := [.ref (adr G (0 + 46))]) (i_X6 l G) (e0 := (.inr (6, [.int 0, .int 0, .int 0, .null, .null, .null, .null, .null, .null, .null, .null, .null, .null, .null]) : va_E)) apE_n mf_X6_init ml_L_70 hl.1 (by decide) (by decide) (Nat.le_of_ble_eq_true rfl) rfl rfl dL_law_12 (fun H locs hB hS => ?_)
  have hB := BZ_eq (n := 66) (E' := FI G 0) (fun p hp => by
    by_cases h : p < 46
    · rw [apE_lt h, apE_lt h]
    · unfold apE
      rw [if_neg h]
      exact FI_sh (G := G) (k := 0) (n := 46) (by omega)) hB
  refine lv_astore_n (lv' := [(2, .ref (adr G 46)), (1, .ref (adr G 0)), (0, .ref b)]) hx hb dL_law_15 rfl hl (by decide) rfl (fun ls hl => ?_)
  refine lv_iconst (v := 1) hx hb dL_law_16 (by decide) ?_
  refine z_newL C1 hLn hB hS (by decide) (by decide) dL_law_17 (fun H hB hS => ?_)
  have hP : PW G M0 (fun _ => 0) H := BZ_PW hB (fun p hp => by
    by_cases h : p < 66
    · rw [apE_lt h]
      show ct G M0 _ (0 + p) = _
      rw [Nat.zero_add]
    · rw [show p = 66 by omega, apE_n]
      exact (ct_10 (by decide)).symm)
  have hS : va_S (pA G s.heap.size) s.heap H locs := va_S_mono (fun q h => Or.inr (by rw [← hz]; exact h)) hS
  refine lv_astore_n (lv' := [(3, .ref (adr G 66)), (2, .ref (adr G 46)), (1, .ref (adr G 0)), (0, .ref b)]) hx hb dL_law_19 rfl hl (by decide) rfl (fun ls hl => ?_)
  refine lv_iconst (v := 0) hx hb dL_law_20 (by decide) ?_
  refine lv_istore (lv' := [(4, .int 0), (3, .ref (adr G 66)), (2, .ref (adr G 46)), (1, .ref (adr G 0)), (0, .ref b)]) hx hb dL_law_21 hl (by decide) rfl (fun ls hl => ?_)
  refine W.widen (k := 100) (n := 1000) (by decide) (by decide) ?_
  exact law_loop hL C0 C1 hst hadr (L + 1) 0 (by omega) (by omega) M0 (fun _ => 0) 0 0 0 _ _ ls R2_init hP hS (lv_sub hl [0, 4, 3, 2, 1] rfl)
set_option maxHeartbeats 4000000 in
theorem lw_walk (l : Launch) (hflags : l.flags = flags0) (b : Addr) (xs : List Int32) : MetFree l x (headSpec (Jvm.Cond.code x code maxLocals ret :: tables_1) room_1) (lw_P b xs) (fun _ _ _ _ _ => True) lw_Q := by
  refine MetFree.of_bodyS (code := code) (maxLocals := maxLocals) (ret := ret) (by decide) ?_ ?_
  · intro args s m h hn
    obtain ⟨meth, c, h1, h2, h3, h4, h5, h6, -, -⟩ := Cond.code_spec hn (atoms_spec (ws := Jvm.Cond.code x code maxLocals ret :: tables_1) h _ List.mem_cons_self)
    exact ⟨meth, c, h1, h2, h3, h4, h5, h6⟩
  · intro p e s m args below meth c s₁ B hml0 hP _
    obtain ⟨rfl, hx, hbd, hgv⟩ := hP
    obtain ⟨scr, harrAt, hlist, hof, hsmall⟩ := hx
    obtain ⟨hcb, hkn, -, -⟩ := State.arrayAt?_spec harrAt
    have hown : s.vm.findClass R_law = some m.cls := findClass_of_methodNamed B.named
    have hts0 : ∀ c ∈ (Jvm.Cond.code x code maxLocals ret :: tables_1), c.before #[Value.ref b] s = true := atoms_spec (ws := Jvm.Cond.code x code maxLocals ret :: tables_1) B.pre
    have hts : ∀ w ∈ lw_tbl, w.before #[Value.ref b] s = true := k2_hts_sels lw_privs (fun w hw => hts0 w (List.mem_cons_of_mem _ hw)) lw_privs_ok
    have hml : c.maxLocals = 9 := B.maxLocals_eq (hts0 _ List.mem_cons_self)
    have X₀ : Stand p l e room_1 s m #[Value.ref b] below meth c s₁ [] 0 0 := Stand.of_body B
    have hh0 : s₁.heap = s.heap := by rw [B.state]; rfl
    have hsz : scr.slots.size = xs.length := by rw [← Array.length_toList, hlist, List.length_map]
    have hval : ∀ j : Nat, j < xs.length → scr.slots[j]? = some (.int (xs.getD j 0)) := fun j hj => by
      rw [← Array.getElem?_toList, hlist]
      simp [hj]
    have hbl : b < s.heap.size := (Array.getElem?_eq_some_iff.mp hcb).1
    have hX : va_X b xs.length (fun j => xs.getD j 0) s s.heap := ⟨scr, hcb, hof, hkn, hsz, hval⟩
    have K : W p l e room_1 s m #[Value.ref b] below meth c s₁.heap [] 0 0 (lw_Z below #[Value.ref b] s) (entryFrame m ([Value.ref b] : List Value).toArray 9) := by
      rw [hh0]
      exact whole_start l hflags hbd ⟨B.exec, B.bytes, B.returns, hml, hown, hts, hX, hbl, B.notSynchronized, hgv⟩
    obtain ⟨t, a1, o, b1, b2, b3⟩ := K s₁ rfl X₀
    exact ⟨t, o, a1, b1, b2, b3⟩
theorem lw_pre_spec {args : Array Value} {s : State} (h : (Jvm.Cond.and given_1 narrow_1).before args s = true) (hr : rest_1_c.before args s = true) : ∃ (b : Addr) (xs : List Int32), lw_P b xs args s := by
  have hs := flat_of_before _ h
  have hq := flat_of_before _ hr
  have hc : (Cond.count 1).before args s = true := hs _ (by decide +kernel)
  have harr : (Cond.arrayOf (.arg 0) .int).before args s = true := hs _ (by decide +kernel)
  have hle : (Cond.le (.length (.arg 0)) (.int 2560)).before args s = true := hs _ (by decide +kernel)
  have hlen : (Cond.isInt (.length (.arg 0))).before args s = true := hq _ (by decide +kernel)
  have hall : (Cond.all (.arg 0) (.isInt (.elem (.arg 0) (.index 0)))).before args s = true := hq _ (by decide +kernel)
  obtain ⟨b, xs, hb, hx⟩ := State.ints_of_pre rfl harr hlen hall
  have hsm : xs.length < 2 ^ 31 := hx.choose_spec.2.2.2
  have hev : (Term.length (.arg 0)).eval args s none [] s = some (.int xs.length.toInt32) := hx.length_eval hb
  have hv := Cond.le_ints hev (show (Term.int 2560).eval args s none [] s = some (.int 2560) from rfl)
  have hd : xs.length.toInt32 ≤ 2560 := by
    simpa [Cond.before, Cond.holds, hv] using hle
  have hN : xs.length ≤ 2560 := (Int32.ofNat_le_ofNat hsm (by decide)).mp (show Int32.ofNat xs.length ≤ Int32.ofNat 2560 from hd)
  exact ⟨b, xs, Cond.one_arg hc (show args[0]? = some (.ref b) from hb), hx, hN, h⟩
theorem lw_comes (l : Launch) (hflags : l.flags = flags0) : Comes l x (Jvm.Cond.code x code maxLocals ret :: tables_1) room_1 (fun tb e args s => Calls_1 tb e args s ∧ rest_1 tb e args s ∧ Pre_1 tb e args s)
    (fun _ _ args s o t => lw_Q args s o t) := by
  intro p e ha hc hk s m args below hf hfit hheap happ hpre
  obtain ⟨b, xs, hP⟩ := lw_pre_spec hpre.2.2 hpre.2.1
  obtain ⟨k, o, h1, h2, h3, hQ⟩ := lw_walk l hflags b xs p e ha hc hk s m args below hf ((Spec.applies_iff_loose hf).mp happ).1 hP trivial
  exact ⟨k, o, h1, h2, h3, hQ⟩
theorem lw_frame {s t : State} {o : Outcome} {args : Array Value} (h : State.butDraws s t lw_cs (fun t1 => Framed s o t1 [] 601024 7293034)) :
    State.butDraws s t [Jvm.Choice.named "NaN.bits"] (fun t1 => Framed s o t1 (fieldLocs frame_1_writes args s ++ arrayLocs frame_1_arrays args s ++ staticLocs frame_1_statics s) 601024 7293034) := h
theorem lw_limb (L : Cond) (hL : ∀ (args : Array Value) (s t : State), L.after args s (.returned (some (.int 1))) t = true) :
    ArmFor flags0 classFile x code maxLocals ret World_1 tables_1 room_1 Calls_1 rest_1 Pre_1
      (fun tb e a s o t => postC L tb e a s o t ∧ State.butDraws s t [Jvm.Choice.named "NaN.bits"] (fun t1 => Framed s o t1 (fieldLocs frame_1_writes a s ++ arrayLocs frame_1_arrays a s ++ staticLocs frame_1_statics s) 601024 7293034)) := by
  intro l hflags _ _ p e ha hc hk s m args below hf hfit hheap happ hpre
  obtain ⟨k, o, h1, h2, h3, rfl, hF⟩ := lw_comes l hflags p e ha hc hk s m args below hf hfit hheap happ hpre
  exact ⟨k, _, h1, h2, h3, hL args s _, lw_frame hF⟩
theorem i_vc : Claimed_1_1 ∧ Claimed_1_2 := ⟨lw_limb limb_1_1 (fun args s t => by simp [limb_1_1, Cond.after, Cond.holds, Cond.value]), lw_limb limb_1_2 (fun args s t => Cond.after_iff.mpr (by
  first | (rw [show limb_1_2 = Cond.eq .result (.int 1) from rfl, Cond.eq_ints (x := 1) (y := 1) rfl rfl]; simp; done) | (simp [limb_1_2, Cond.value, Term.eval]; done)))⟩
