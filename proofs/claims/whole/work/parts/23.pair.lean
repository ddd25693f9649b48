section PAI
variable {M M1 M2 : Mem} {np nr k : Nat}
def PR (l : Launch) (G : GG) (yL : MethodName) (bL : ByteArray) (nL : Nat) (hh : List (Nat × Nat × Nat × Nat)) (yM : MethodName) (bM : ByteArray) (nM : Nat) (avL avM : List Value) (M : Mem) (o : Nat → Int64) : Prop :=
  ∃ (M1 : Mem) (o1 : Nat → Int64) (cd res : Int32) (M2 : Mem) (fr lo mc ms fr2 lo2 mc2 ms2 : Nat), (fr ≤ 10 ∧ lo ≤ 200 ∧ mc ≤ 1 ∧ ms ≤ 10 ∧ fr2 ≤ 10 ∧ lo2 ≤ 200 ∧ mc2 ≤ 1 ∧ ms2 ≤ 10) ∧ MJ l yL bL nL (some .int) hh fr lo G avL M M1 o o1 cd mc ms ∧ MI l yM bM nM (some .int) fr2 lo2 G avM M1 M2 o1 o1 res mc2 ms2 ∧ M2 46 0 = cd ∧ (cd = 0 → o1 0 = Int32.toInt64 res) ∧ ∃ (np' nr' k' : Nat), R2 M2 M2 np' nr' k'
theorem updE {o : Nat → Int64} {x y : Int32} (h : x = y) : vp_updL o 0 (Int32.toInt64 x) 0 = Int32.toInt64 y := by
  subst h
  simp [vp_updL]
theorem bad_R {c : Int32} (hR : R2 M M np nr k) : R2 (u2 (u2 M 46 0 0) 46 0 c) (u2 (u2 M 46 0 0) 46 0 c) np nr k := R2_ext hR (fun a ha => by rw [u2_ne (by omega), u2_ne (by omega)]) (by rw [u2_sl (by decide), u2_sl (by decide)]) (by rw [u2_sl (by decide), u2_sl (by decide)]) (fun a h1 h2 => by rw [u2_ne (by omega), u2_ne (by omega)])
theorem qry_R (hR : R2 M M np nr k) : R2 (u2 M 46 0 0) (u2 M 46 0 0) np nr k := R2_ext hR (fun a ha => u2_ne (by omega)) (u2_sl (by decide)) (u2_sl (by decide)) (fun a h1 h2 => u2_ne (by omega))
theorem mid0 (hR : R2 M M np nr k) (hF : ∀ a, 46 ≤ a → M1 a = M a) : R2 M M1 np nr k := R2_ext hR (fun _ _ => rfl) (by rw [hF 46 (by decide)]) (by rw [hF 46 (by decide)]) (fun a h1 h2 => hF a (by omega))
theorem mid {v : Int32} (hR : R2 M M np nr k) (hF : ∀ a, 46 ≤ a → M1 a = M a) : R2 M (u2 M1 46 0 v) np nr k := R2_z (mid0 hR hF)
theorem fin {np' nr' k' : Nat} (h : R2 M1 M2 np' nr' k') (hA : ∀ a, a < 25 → M2 a = M1 a) : R2 M2 M2 np' nr' k' := R2_ext h hA rfl rfl (fun _ _ _ => rfl)
theorem tr_0 (hG : ∀ a, a < 61 → M2 a = u2 M1 46 0 0 a) : M2 46 0 = 0 := by
  rw [hG 46 (by decide)]
  exact u2_at
theorem tr_R (hR : R2 M M np nr k) (hF : ∀ a, a < 25 ∨ 46 ≤ a → M1 a = M a) (hG : ∀ a, a < 61 → M2 a = u2 M1 46 0 0 a) : R2 M2 M2 np nr k := R2_ext hR (fun a ha => by rw [hG a (by omega), u2_ne (by omega), hF a (Or.inl ha)]) (by rw [hG 46 (by decide), u2_sl (by decide), hF 46 (Or.inr (by decide))]) (by rw [hG 46 (by decide), u2_sl (by decide), hF 46 (Or.inr (by decide))]) (fun a h1 h2 => by rw [hG a (by omega), u2_ne (by omega), hF a (Or.inr (by omega))])
theorem nat_of {x : Int32} {n : Nat} (hn : n < 2000) (h : ¬ (x < 0 ∨ ¬ x < nI n)) : ∃ r : Nat, x = nI r ∧ r < n := by
  obtain ⟨r, e, hr⟩ := nJ_of (fun z => h (Or.inl z))
  refine ⟨r, e, ?_⟩
  rcases Nat.lt_or_ge r n with z | z
  · exact z
  · exfalso
    apply h
    refine Or.inr (fun y => ?_)
    rw [e, Int32.lt_iff_toInt_lt, nI_toInt hr, nI_toInt (by omega)] at y
    omega
theorem nat_ofW {x : Int32} {a b : Nat} (hb : a < 2000 ∧ b < 2000) (h : ¬ (x < nI a ∨ ¬ x ≤ nI b)) : ∃ d : Nat, x = nI d ∧ a ≤ d ∧ d ≤ b := in_nat hb (fun z => h ((inF_0.mp z).imp id (fun y => Int32.not_le.mpr y)))
theorem q_seat {A B : Mem} (hR : R2 A B np nr k) {r w : Nat} (hr : r < nr) (hw : w ≤ 20) : nI w ≤ A (4 + 13 + r) 4 - A (4 + 13 + r) 5 ↔ B 59 r + nI w ≤ B 55 r := by
  obtain ⟨hO, hN, hK, hP, hQ, hD, hL, hZ⟩ := hR
  obtain ⟨q4, q5, q6⟩ := (hQ r hr).2
  obtain ⟨s, p, c, e1, b1, e2, b2, -, -⟩ := (hD r hr).1
  rw [q4, q5, e1]
  show nI w ≤ nI s - B (56 + 3) r ↔ B (56 + 3) r + nI w ≤ nI s
  rw [e2]
  exact (by decide +kernel : ∀ s, s < 21 → ∀ p, p < s + 1 → ∀ w, w < 21 → (nI w ≤ nI s - nI p ↔ nI p + nI w ≤ nI s)) s (by omega) p (by omega) w (by omega)
theorem seat_R {A B : Mem} (hR : R2 A B np nr k) {r w : Nat} (hr : r < nr) (hf : B 59 r + nI w ≤ B 55 r) (hw : w ≤ 20) : R2 (u2 A (4 + 13 + r) 5 (A (4 + 13 + r) 5 + nI w)) (u2 B 59 r (B 59 r + nI w)) np nr k := by
  have q5 := (hR.2.2.2.2.1 r hr).2.2.1
  have q5' : A (4 + 13 + r) 5 = B 59 r := q5
  rw [q5']
  refine m_slot hR hr (by decide) (fun _ s es hs => ?_)
  obtain ⟨s', p, c, e1, b1, e2, b2, -, -⟩ := (hR.2.2.2.2.2.1 r hr).1
  have e2' : B 59 r = nI p := e2
  refine ⟨p + w, by rw [e2', nI_add], ?_⟩
  rw [e2', es, nI_add] at hf
  have h1 : nI s = nI s' := es.symm.trans e1
  have h2 := (nI_eq (by omega) (by omega)).mp h1
  exact (nI_leI (by omega) (by omega)).mp hf
set_option maxHeartbeats 1000000 in
theorem p_pass (l : Launch) (hst : l.stackTraces = false) (G : GG) (hR : R2 M M np nr k) (o : Nat → Int64) (v1 v2 v3 v4 : Int32) : PR l G yL_pass cL_pass 7 [(0, 14, 17, 13), (0, 14, 21, 15)] yX6_pass cX6_pass 5 [.ref (adr G 0), .int v1, .int v2, .int v3, .int v4, .ref (adr G 66)] [.ref (adr G 46), .int v1, .int v2, .int v3, .int v4] M o := by
  by_cases hb : bdP v1 v2 v3 v4
  · exact ⟨_, _, _, _, _, _, _, _, _, _, _, _, _, (by decide), c_L_pass_a l G M o hst np nr k hR.1 v1 v2 v3 v4 hb, c_X6_pass_a l G M o np nr k (R2_OKT hR) v1 v2 v3 v4 hb, u2_at, fun z => absurd z (by decide), _, _, _, bad_R hR⟩
  by_cases hp : np < 10
  · have hF : ∀ a, 46 ≤ a → u2 (cmM M (4 + 3 + np) v1 v2 v3 v4) 4 1 (nI (np + 1)) a = M a := fun a ha => by rw [u2_ne (by omega), cmM_row (by omega)]
    exact ⟨_, _, _, _, _, _, _, _, _, _, _, _, _, (by decide), c_L_pass l G M o np nr k hR.1 v1 v2 v3 v4 hb hp, c_X6_pass l G _ _ np nr k (R2_OKT (mid0 hR hF)) v1 v2 v3 v4 hb hp, by simp [u2], fun _ => updE (rfl), _, _, _, fin (m_pass (mid hR hF) hp v1 v2 v3 v4) (fun a ha => by rw [u2_ne (by omega), u2_ne (by omega), u2_ne (by omega), u2_ne (by omega), u2_ne (by omega), u2_ne (by omega)])⟩
  · exact ⟨_, _, _, _, _, _, _, _, _, _, _, _, _, (by decide), c_L_pass_s l G M o hst np nr k hR.1 v1 v2 v3 v4 hb hp, c_X6_pass_s l G M o np nr k (R2_OKT hR) v1 v2 v3 v4 hb hp, u2_at, fun z => absurd z (by decide), _, _, _, bad_R hR⟩
set_option maxHeartbeats 1000000 in
theorem p_setLight (l : Launch) (hst : l.stackTraces = false) (G : GG) (hR : R2 M M np nr k) (o : Nat → Int64) (v1 v2 v3 : Int32) : PR l G yL_setLight cL_setLight 6 [(0, 12, 15, 21), (0, 12, 19, 13)] yX6_setLight cX6_setLight 5 [.ref (adr G 0), .int v1, .int v2, .int v3, .ref (adr G 66)] [.ref (adr G 46), .int v1, .int v2, .int v3] M o := by
  by_cases hx : v1 < 0 ∨ ¬ v1 < 12
  · exact ⟨_, _, _, _, _, _, _, _, _, _, _, _, _, (by decide), c_L_setLight_i l G M o hst np nr k hR.1 v1 v2 v3 hx, c_X6_setLight_i l G M o np nr k (R2_OKT hR) v1 v2 v3 hx, u2_at, fun z => absurd z (by decide), _, _, _, bad_R hR⟩
  obtain ⟨h, rfl, hh⟩ := nat_of (n := 12) (by decide) hx
  by_cases hb : bdL v2 v3
  · exact ⟨_, _, _, _, _, _, _, _, _, _, _, _, _, (by decide), c_L_setLight_a l G M o hst np nr k hR.1 h hh v2 v3 hb, c_X6_setLight_a l G M o np nr k (R2_OKT hR) h hh v2 v3 hb, u2_at, fun z => absurd z (by decide), _, _, _, bad_R hR⟩
  · have hF : ∀ a, 46 ≤ a → u2 (u2 M 2 h v2) 3 h v3 a = M a := fun a ha => by rw [u2_ne (by omega), u2_ne (by omega)]
    have e1 := ((mid (v := 0) hR hF).2.2.1 h hh)
    exact ⟨_, _, _, _, _, _, _, _, _, _, _, _, _, (by decide), c_L_setLight l G M o np nr k hR.1 h hh v2 v3 hb, c_X6_setLight l G _ _ np nr k (R2_OKT (mid0 hR hF)) h hh v2 v3 hb, by simp [u2], fun _ => updE (by rw [e1.1, e1.2]), _, _, _, fin (m_setLight (mid hR hF) hh hb) (fun a ha => by rw [u2_ne (by omega), u2_ne (by omega), u2_ne (by omega)])⟩
set_option maxHeartbeats 1000000 in
theorem p_addRoom (l : Launch) (hst : l.stackTraces = false) (G : GG) (hR : R2 M M np nr k) (o : Nat → Int64) (v1 v2 v3 : Int32) : PR l G yL_addRoom cL_addRoom 6 [(0, 12, 15, 13), (0, 12, 19, 15)] yX6_addRoom cX6_addRoom 6 [.ref (adr G 0), .int v1, .int v2, .int v3, .ref (adr G 66)] [.ref (adr G 46), .int v1, .int v2, .int v3] M o := by
  by_cases hb : bdR v1 v2 v3
  · exact ⟨_, _, _, _, _, _, _, _, _, _, _, _, _, (by decide), c_L_addRoom_a l G M o hst np nr k hR.1 v1 v2 v3 hb, c_X6_addRoom_a l G M o np nr k (R2_OKT hR) v1 v2 v3 hb, u2_at, fun z => absurd z (by decide), _, _, _, bad_R hR⟩
  by_cases hf : frF (M 52) v1 (if nr < 8 then 1 else 0) nr = 0
  · exact ⟨_, _, _, _, _, _, _, _, _, _, _, _, _, (by decide), c_L_addRoom_s l G M o hst np nr k hR.1 v1 v2 v3 hb ((q_free hR v1).mp hf), c_X6_addRoom_s l G M o np nr k (R2_OKT hR) v1 v2 v3 _ rfl hb (by rw [u2_ne (by decide)]; exact hf), u2_at, fun z => absurd z (by decide), _, _, _, bad_R hR⟩
  · have hf2 : ¬ (¬ nr < 8 ∨ ¬ hhM M 4 v1 nr = 0) := fun z => hf ((q_free hR v1).mpr z)
    have h8 : nr < 8 := Decidable.byContradiction (fun z => hf2 (Or.inl z))
    have hz : hhM M 4 v1 nr = 0 := Decidable.byContradiction (fun z => hf2 (Or.inr z))
    have hF : ∀ a, 46 ≤ a → u2 (bdM M (4 + 13 + nr) v1 v2 v3) 4 2 (nI (nr + 1)) a = M a := fun a ha => by rw [u2_ne (by omega), bdM_row (by omega)]
    exact ⟨_, _, _, _, _, _, _, _, _, _, _, _, _, (by decide), c_L_addRoom l G M o np nr k hR.1 v1 v2 v3 hb h8 hz, c_X6_addRoom l G _ _ np nr k (R2_OKT (mid0 hR hF)) v1 v2 v3 _ rfl hb (by rw [u2_ne (by decide), hF 52 (by decide)]; exact hf), by simp [u2], fun _ => updE (rfl), _, _, _, fin (m_addRoom (mid hR hF) h8 hb) (fun a ha => by rw [u2_ne (by omega), u2_ne (by omega), u2_ne (by omega), u2_ne (by omega), u2_ne (by omega), u2_ne (by omega)])⟩
set_option maxHeartbeats 1000000 in
theorem p_bore (l : Launch) (hst : l.stackTraces = false) (G : GG) (hR : R2 M M np nr k) (o : Nat → Int64) (v1 v2 : Int32) : PR l G yL_bore cL_bore 5 [(0, 10, 13, 21), (0, 10, 17, 13)] yX6_bore cX6_bore 4 [.ref (adr G 0), .int v1, .int v2, .ref (adr G 66)] [.ref (adr G 46), .int v1, .int v2] M o := by
  by_cases hx : v1 < 0 ∨ ¬ v1 < nI nr
  · exact ⟨_, _, _, _, _, _, _, _, _, _, _, _, _, (by decide), c_L_bore_i l G M o hst np nr k hR.1 v1 v2 hx, c_X6_bore_i l G M o np nr k (R2_OKT hR) v1 v2 hx, u2_at, fun z => absurd z (by decide), _, _, _, bad_R hR⟩
  obtain ⟨r, rfl, hr⟩ := nat_of (by have := hR.1.2.1; have := hR.1.2.2.2.1; omega) hx
  by_cases hb : otn v2 = 0
  · exact ⟨_, _, _, _, _, _, _, _, _, _, _, _, _, (by decide), c_L_bore_a l G M o hst np nr k hR.1 r hr v2 hb, c_X6_bore_a l G M o np nr k (R2_OKT hR) r hr v2 hb, u2_at, fun z => absurd z (by decide), _, _, _, bad_R hR⟩
  · have hF : ∀ a, 46 ≤ a → u2 M (4 + 13 + r) 2 v2 a = M a := fun a ha => u2_ne (by have := hR.1.2.1; have := hR.1.2.2.2.1; omega)
    have e1 := ((mid (v := 0) hR hF).2.2.2.2.1 r hr).1
    exact ⟨_, _, _, _, _, _, _, _, _, _, _, _, _, (by decide), c_L_bore l G M o np nr k hR.1 r hr v2 hb, c_X6_bore l G _ _ np nr k (R2_OKT (mid0 hR hF)) r hr v2 hb, by simp [u2], fun _ => updE (e1.2.2.1), _, _, _, fin (m_slot (j := 2) (c := 58) (mid hR hF) hr (by decide) (fun z => absurd z (by decide))) (fun a ha => by rw [u2_ne (by omega), u2_ne (by omega)])⟩
set_option maxHeartbeats 1000000 in
theorem p_paint (l : Launch) (hst : l.stackTraces = false) (G : GG) (hR : R2 M M np nr k) (o : Nat → Int64) (v1 v2 : Int32) : PR l G yL_paint cL_paint 5 [(0, 10, 13, 21), (0, 10, 17, 13)] yX6_paint cX6_paint 4 [.ref (adr G 0), .int v1, .int v2, .ref (adr G 66)] [.ref (adr G 46), .int v1, .int v2] M o := by
  by_cases hx : v1 < 0 ∨ ¬ v1 < nI nr
  · exact ⟨_, _, _, _, _, _, _, _, _, _, _, _, _, (by decide), c_L_paint_i l G M o hst np nr k hR.1 v1 v2 hx, c_X6_paint_i l G M o np nr k (R2_OKT hR) v1 v2 hx, u2_at, fun z => absurd z (by decide), _, _, _, bad_R hR⟩
  obtain ⟨r, rfl, hr⟩ := nat_of (by have := hR.1.2.1; have := hR.1.2.2.2.1; omega) hx
  by_cases hb : ztn v2 = 0
  · exact ⟨_, _, _, _, _, _, _, _, _, _, _, _, _, (by decide), c_L_paint_a l G M o hst np nr k hR.1 r hr v2 hb, c_X6_paint_a l G M o np nr k (R2_OKT hR) r hr v2 hb, u2_at, fun z => absurd z (by decide), _, _, _, bad_R hR⟩
  · have hF : ∀ a, 46 ≤ a → u2 M (4 + 13 + r) 3 v2 a = M a := fun a ha => u2_ne (by have := hR.1.2.1; have := hR.1.2.2.2.1; omega)
    have e1 := ((mid (v := 0) hR hF).2.2.2.2.1 r hr).1
    exact ⟨_, _, _, _, _, _, _, _, _, _, _, _, _, (by decide), c_L_paint l G M o np nr k hR.1 r hr v2 hb, c_X6_paint l G _ _ np nr k (R2_OKT (mid0 hR hF)) r hr v2 hb, by simp [u2], fun _ => updE (e1.2.2.2), _, _, _, fin (m_slot (j := 3) (c := 54) (mid hR hF) hr (by decide) (fun z => absurd z (by decide))) (fun a ha => by rw [u2_ne (by omega), u2_ne (by omega)])⟩
set_option maxHeartbeats 1000000 in
theorem p_seat (l : Launch) (hst : l.stackTraces = false) (G : GG) (hR : R2 M M np nr k) (o : Nat → Int64) (v1 v2 : Int32) : PR l G yL_seat cL_seat 5 [(0, 10, 13, 21), (0, 10, 17, 13), (0, 10, 21, 15)] yX6_seat cX6_seat 3 [.ref (adr G 0), .int v1, .int v2, .ref (adr G 66)] [.ref (adr G 46), .int v1, .int v2] M o := by
  by_cases hx : v1 < 0 ∨ ¬ v1 < nI nr
  · exact ⟨_, _, _, _, _, _, _, _, _, _, _, _, _, (by decide), c_L_seat_i l G M o hst np nr k hR.1 v1 v2 hx, c_X6_seat_i l G M o np nr k (R2_OKT hR) v1 v2 hx, u2_at, fun z => absurd z (by decide), _, _, _, bad_R hR⟩
  obtain ⟨r, rfl, hr⟩ := nat_of (by have := hR.1.2.1; have := hR.1.2.2.2.1; omega) hx
  by_cases hb : bdS v2
  · exact ⟨_, _, _, _, _, _, _, _, _, _, _, _, _, (by decide), c_L_seat_a l G M o hst np nr k hR.1 r hr v2 hb, c_X6_seat_a l G M o np nr k (R2_OKT hR) r hr v2 hb, u2_at, fun z => absurd z (by decide), _, _, _, bad_R hR⟩
  obtain ⟨w, rfl, hw1, hw2⟩ := in_nat (x := v2) (a := 1) (b := 20) (by decide) (fun z => hb (bdS_in.mpr z))
  have hq := q_seat hR hr hw2
  by_cases hf : nI w ≤ M (4 + 13 + r) 4 - M (4 + 13 + r) 5
  · have hF : ∀ a, 46 ≤ a → u2 M (4 + 13 + r) 5 (M (4 + 13 + r) 5 + nI w) a = M a := fun a ha => u2_ne (by have := hR.1.2.1; have := hR.1.2.2.2.1; omega)
    have e1 := ((mid (v := 0) hR hF).2.2.2.2.1 r hr).2.2.1
    exact ⟨_, _, _, _, _, _, _, _, _, _, _, _, _, (by decide), c_L_seat l G M o np nr k hR.1 r hr _ hb hf, c_X6_seat l G _ _ np nr k (R2_OKT (mid0 hR hF)) r hr _ hb (by rw [u2_ne (k := 46) (j := 59) (by decide), u2_ne (k := 46) (j := 55) (by decide), hF 59 (by decide), hF 55 (by decide)]; exact hq.mp hf), by simp [u2], fun _ => updE (congrArg (fun z => z + nI w) e1), _, _, _, fin (seat_R (mid hR hF) hr (by rw [u2_ne (k := 46) (j := 59) (by decide), u2_ne (k := 46) (j := 55) (by decide), hF 59 (by decide), hF 55 (by decide)]; exact hq.mp hf) hw2) (fun a ha => by rw [u2_ne (by omega), u2_ne (by omega)])⟩
  · exact ⟨_, _, _, _, _, _, _, _, _, _, _, _, _, (by decide), c_L_seat_s l G M o hst np nr k hR.1 r hr _ hb hf, c_X6_seat_s l G M o np nr k (R2_OKT hR) r hr _ hb (by rw [u2_ne (by decide), u2_ne (by decide)]; exact fun z => hf (hq.mpr z)), u2_at, fun z => absurd z (by decide), _, _, _, bad_R hR⟩
set_option maxHeartbeats 1000000 in
theorem p_passer (l : Launch) (hst : l.stackTraces = false) (G : GG) (hR : R2 M M np nr k) (o : Nat → Int64) (v1 v2 : Int32) : PR l G yL_passer cL_passer 5 [(0, 10, 13, 21)] yX6_passer cX6_passer 3 [.ref (adr G 0), .int v1, .int v2, .ref (adr G 66)] [.ref (adr G 46), .int v1, .int v2] M o := by
  by_cases hx : v1 < 0 ∨ ¬ v1 < nI np
  · exact ⟨_, _, _, _, _, _, _, _, _, _, _, _, _, (by decide), c_L_passer_i l G M o hst np nr k hR.1 v1 v2 hx, c_X6_passer_i l G M o np nr k (R2_OKT hR) v1 v2 hx, u2_at, fun z => absurd z (by decide), _, _, _, bad_R hR⟩
  obtain ⟨r, rfl, hr⟩ := nat_of (by have := hR.1.2.1; have := hR.1.2.2.2.1; omega) hx
  by_cases hy : v2 < 0 ∨ ¬ v2 < 5
  · exact ⟨_, _, _, _, _, _, _, _, _, _, _, _, _, (by decide), c_L_passer_j l G M o hst np nr k hR.1 r hr v2 hy, c_X6_passer_j l G M o np nr k (R2_OKT hR) r hr v2 hy, u2_at, fun z => absurd z (by decide), _, _, _, bad_R hR⟩
  obtain ⟨w, rfl, hw⟩ := nat_of (n := 5) (by decide) hy
  exact ⟨_, _, _, _, _, _, _, _, _, _, _, _, _, (by decide), c_L_passer l G M o np nr k hR.1 r w hr hw, c_X6_passer l G M _ np nr k (R2_OKT hR) r w hr hw, u2_at, fun _ => updE (q_pf (R2_z hR) hr), _, _, _, qry_R hR⟩
set_option maxHeartbeats 1000000 in
theorem p_room (l : Launch) (hst : l.stackTraces = false) (G : GG) (hR : R2 M M np nr k) (o : Nat → Int64) (v1 v2 : Int32) : PR l G yL_room cL_room 5 [(0, 10, 13, 21)] yX6_room cX6_room 3 [.ref (adr G 0), .int v1, .int v2, .ref (adr G 66)] [.ref (adr G 46), .int v1, .int v2] M o := by
  by_cases hx : v1 < 0 ∨ ¬ v1 < nI nr
  · exact ⟨_, _, _, _, _, _, _, _, _, _, _, _, _, (by decide), c_L_room_i l G M o hst np nr k hR.1 v1 v2 hx, c_X6_room_i l G M o np nr k (R2_OKT hR) v1 v2 hx, u2_at, fun z => absurd z (by decide), _, _, _, bad_R hR⟩
  obtain ⟨r, rfl, hr⟩ := nat_of (by have := hR.1.2.1; have := hR.1.2.2.2.1; omega) hx
  by_cases hy : v2 < 0 ∨ ¬ v2 < 8
  · exact ⟨_, _, _, _, _, _, _, _, _, _, _, _, _, (by decide), c_L_room_j l G M o hst np nr k hR.1 r hr v2 hy, c_X6_room_j l G M o np nr k (R2_OKT hR) r hr v2 hy, u2_at, fun z => absurd z (by decide), _, _, _, bad_R hR⟩
  obtain ⟨w, rfl, hw⟩ := nat_of (n := 8) (by decide) hy
  exact ⟨_, _, _, _, _, _, _, _, _, _, _, _, _, (by decide), c_L_room l G M o np nr k hR.1 r w hr hw, c_X6_room l G M _ np nr k (R2_OKT hR) r w hr hw, u2_at, fun _ => updE (q_rf (R2_z hR) hr), _, _, _, qry_R hR⟩
set_option maxHeartbeats 1000000 in
theorem p_wall (l : Launch) (hst : l.stackTraces = false) (G : GG) (hR : R2 M M np nr k) (o : Nat → Int64) (v1 v2 : Int32) : PR l G yL_wall cL_wall 5 [(0, 10, 13, 21)] yX6_wall cX6_wall 5 [.ref (adr G 0), .int v1, .int v2, .ref (adr G 66)] [.ref (adr G 46), .int v1, .int v2] M o := by
  by_cases hx : v1 < 0 ∨ ¬ v1 < nI nr
  · exact ⟨_, _, _, _, _, _, _, _, _, _, _, _, _, (by decide), c_L_wall_i l G M o hst np nr k hR.1 v1 v2 hx, c_X6_wall_i l G M o np nr k (R2_OKT hR) v1 v2 hx, u2_at, fun z => absurd z (by decide), _, _, _, bad_R hR⟩
  obtain ⟨r, rfl, hr⟩ := nat_of (by have := hR.1.2.1; have := hR.1.2.2.2.1; omega) hx
  by_cases hy : bdW v2 (M (4 + 13 + r) 1)
  · exact ⟨_, _, _, _, _, _, _, _, _, _, _, _, _, (by decide), c_L_wall_j l G M o hst np nr k hR.1 r hr v2 hy, c_X6_wall_j l G M o np nr k (R2_OKT hR) r hr v2 (by rw [u2_ne (by decide)]; exact (q_bdW hR hr v2).mp hy), u2_at, fun z => absurd z (by decide), _, _, _, bad_R hR⟩
  · exact ⟨_, _, _, _, _, _, _, _, _, _, _, _, _, (by decide), c_L_wall l G M o np nr k hR.1 r hr v2 hy, c_X6_wall l G M _ np nr k (R2_OKT hR) r hr v2 (by rw [u2_ne (by decide)]; exact fun z => hy ((q_bdW hR hr v2).mpr z)), u2_at, fun _ => updE (q_wall (R2_z hR) hr v2), _, _, _, qry_R hR⟩
set_option maxHeartbeats 1000000 in
theorem p_bright (l : Launch) (hst : l.stackTraces = false) (G : GG) (hR : R2 M M np nr k) (o : Nat → Int64) (v1 v2 : Int32) : PR l G yL_bright cL_bright 5 [(0, 10, 13, 21)] yX6_bright cX6_bright 3 [.ref (adr G 0), .int v1, .int v2, .ref (adr G 66)] [.ref (adr G 46), .int v1, .int v2] M o := by
  by_cases hx : v1 < 0 ∨ ¬ v1 < nI nr
  · exact ⟨_, _, _, _, _, _, _, _, _, _, _, _, _, (by decide), c_L_bright_i l G M o hst np nr k hR.1 v1 v2 hx, c_X6_bright_i l G M o np nr k (R2_OKT hR) v1 v2 hx, u2_at, fun z => absurd z (by decide), _, _, _, bad_R hR⟩
  obtain ⟨r, rfl, hr⟩ := nat_of (by have := hR.1.2.1; have := hR.1.2.2.2.1; omega) hx
  by_cases hy : v2 < 0 ∨ ¬ v2 < nI np
  · exact ⟨_, _, _, _, _, _, _, _, _, _, _, _, _, (by decide), c_L_bright_j l G M o hst np nr k hR.1 r hr v2 hy, c_X6_bright_j l G M o np nr k (R2_OKT hR) r hr v2 hy, u2_at, fun z => absurd z (by decide), _, _, _, bad_R hR⟩
  obtain ⟨i, rfl, hi⟩ := nat_of (by have := hR.1.2.1; have := hR.1.2.2.2.1; omega) hy
  exact ⟨_, _, _, _, _, _, _, _, _, _, _, _, _, (by decide), c_L_bright l G M o np nr k hR.1 r i hr hi, c_X6_bright l G M _ np nr k (R2_OKT hR) r i hr hi, u2_at, fun _ => updE (q_bright (R2_z hR) hr hi), _, _, _, qry_R hR⟩
set_option maxHeartbeats 1000000 in
theorem p_count (l : Launch) (hst : l.stackTraces = false) (G : GG) (hR : R2 M M np nr k) (o : Nat → Int64) (v1 : Int32) : PR l G yL_count cL_count 4 [(0, 9, 12, 21)] yX6_count cX6_count 2 [.ref (adr G 0), .int v1, .ref (adr G 66)] [.ref (adr G 46), .int v1] M o := by
  by_cases hx : v1 < 0 ∨ ¬ v1 < 9
  · exact ⟨_, _, _, _, _, _, _, _, _, _, _, _, _, (by decide), c_L_count_i l G M o hst np nr k hR.1 v1 hx, c_X6_count_i l G M o np nr k (R2_OKT hR) v1 hx, u2_at, fun z => absurd z (by decide), _, _, _, bad_R hR⟩
  obtain ⟨w, rfl, hw⟩ := nat_of (n := 9) (by decide) hx
  exact ⟨_, _, _, _, _, _, _, _, _, _, _, _, _, (by decide), c_L_count l G M o np nr k hR.1 w hw, c_X6_count l G M _ np nr k (R2_OKT hR) w hw, u2_at, fun _ => updE (q_hf (R2_z hR)), _, _, _, qry_R hR⟩
set_option maxHeartbeats 1000000 in
theorem p_go (l : Launch) (hst : l.stackTraces = false) (G : GG) (hR : R2 M M np nr k) (o : Nat → Int64) (v1 : Int32) : PR l G yL_go cL_go 4 [(0, 9, 12, 13)] yX6_go cX6_go 3 [.ref (adr G 0), .int v1, .ref (adr G 66)] [.ref (adr G 46), .int v1] M o := by
  by_cases hd : v1 < 1 ∨ ¬ v1 ≤ 720
  · exact ⟨_, _, _, _, _, _, _, _, _, _, _, _, _, (by decide), c_L_go_a l G M o hst np nr k hR.1 v1 hd, c_X6_go_a l G M o np nr k (R2_OKT hR) v1 hd, u2_at, fun z => absurd z (by decide), _, _, _, bad_R hR⟩
  obtain ⟨d, rfl, hd1, hd2⟩ := nat_ofW (a := 1) (b := 720) (by decide) hd
  have hF : ∀ a, 46 ≤ a → lgM M 4 np nr k (tk k d) a = M a := fun a ha => lgM_hi hR.1.2.1 (by have := hR.1.2.1; have := hR.1.2.2.2.1; omega) (Or.inl rfl)
  exact ⟨_, _, _, _, _, _, _, _, _, _, _, _, _, (by decide), c_L_go l G M o np nr k hR.1 d hd1 hd2, c_X6_go l G _ _ np nr k (R2_OKT (mid0 hR hF)) d hd1 hd2, by rw [gT_lo (by decide)]; exact u2_at, fun _ => updE (q_going (mid hR hF) (tk k d)), _, _, _, fin (m_go (mid hR hF) (tk_le d hR.1.2.2.2.2.2)) (fun a ha => by rw [gT_lo (by omega), u2_ne (by omega)])⟩
set_option maxHeartbeats 1000000 in
theorem p_when (l : Launch) (hst : l.stackTraces = false) (G : GG) (hR : R2 M M np nr k) (o : Nat → Int64) (v1 : Int32) : PR l G yL_when cL_when 4 [(0, 9, 12, 21)] yX6_when cX6_when 5 [.ref (adr G 0), .int v1, .ref (adr G 66)] [.ref (adr G 46), .int v1] M o := by
  by_cases hx : v1 < 0 ∨ ¬ v1 < nI nr
  · exact ⟨_, _, _, _, _, _, _, _, _, _, _, _, _, (by decide), c_L_when_i l G M o hst np nr k hR.1 v1 hx, c_X6_when_i l G M o np nr k (R2_OKT hR) v1 hx, u2_at, fun z => absurd z (by decide), _, _, _, bad_R hR⟩
  obtain ⟨r, rfl, hr⟩ := nat_of (by have := hR.1.2.1; have := hR.1.2.2.2.1; omega) hx
  have hF : ∀ a, a < 25 ∨ 46 ≤ a → itW (cpM M np nr) 25 np (720 - k) a = M a := fun a ha => by rw [f_it (by have := hR.1.2.1; have := hR.1.2.2.2.1; omega), cpM_row (by have := hR.1.2.1; have := hR.1.2.2.2.1; omega) hR.1.2.1 hR.1.2.2.2.1]
  have hG : ∀ a, a < 61 → gT (bcM (u2 (itW (cpM M np nr) 25 np (720 - k)) 46 0 0)) 61 np nr k (720 - k) a = u2 (itW (cpM M np nr) 25 np (720 - k)) 46 0 0 a := fun a ha => by rw [gT_lo (by omega), bcM_row (by omega)]
  exact ⟨_, _, _, _, _, _, _, _, _, _, _, _, _, (by decide), c_L_when l G M o np nr k hR.1 r hr, c_X6_when l G _ _ np nr k (R2_OKT (mid0 hR (fun a ha => hF a (Or.inr ha)))) r hr, tr_0 hG, fun _ => updE (q_when (mid hR (fun a ha => hF a (Or.inr ha))) hr), _, _, _, tr_R hR hF hG⟩
set_option maxHeartbeats 1000000 in
theorem p_seen (l : Launch) (hst : l.stackTraces = false) (G : GG) (hR : R2 M M np nr k) (o : Nat → Int64) (v1 : Int32) : PR l G yL_seen cL_seen 4 [(0, 9, 12, 21)] yX6_seen cX6_seen 5 [.ref (adr G 0), .int v1, .ref (adr G 66)] [.ref (adr G 46), .int v1] M o := by
  by_cases hx : v1 < 0 ∨ ¬ v1 < nI np
  · exact ⟨_, _, _, _, _, _, _, _, _, _, _, _, _, (by decide), c_L_seen_i l G M o hst np nr k hR.1 v1 hx, c_X6_seen_i l G M o np nr k (R2_OKT hR) v1 hx, u2_at, fun z => absurd z (by decide), _, _, _, bad_R hR⟩
  obtain ⟨r, rfl, hr⟩ := nat_of (by have := hR.1.2.1; have := hR.1.2.2.2.1; omega) hx
  have hF : ∀ a, a < 25 ∨ 46 ≤ a → snM M r (719 - k) a = M a := fun a ha => snM_ne (by have := hR.1.2.1; have := hR.1.2.2.2.1; omega)
  have hG : ∀ a, a < 61 → gT (bcM (u2 (snM M r (719 - k)) 46 0 0)) 61 np nr k (tk k (719 - k + 1)) a = u2 (snM M r (719 - k)) 46 0 0 a := fun a ha => by rw [gT_lo (by omega), bcM_row (by omega)]
  exact ⟨_, _, _, _, _, _, _, _, _, _, _, _, _, (by decide), c_L_seen l G M o np nr k hR.1 r hr, c_X6_seen l G _ _ np nr k (R2_OKT (mid0 hR (fun a ha => hF a (Or.inr ha)))) r hr, tr_0 hG, fun _ => updE (q_seen (mid hR (fun a ha => hF a (Or.inr ha))) hr), _, _, _, tr_R hR hF hG⟩
set_option maxHeartbeats 1000000 in
theorem p_foresee (l : Launch) (hst : l.stackTraces = false) (G : GG) (hR : R2 M M np nr k) (o : Nat → Int64) (v1 v2 : Int32) : PR l G yL_foresee cL_foresee 5 [(0, 10, 13, 13), (0, 10, 17, 21)] yX6_foresee cX6_foresee 3 [.ref (adr G 0), .int v1, .int v2, .ref (adr G 66)] [.ref (adr G 46), .int v1, .int v2] M o := by
  by_cases hd : v1 < 1 ∨ ¬ v1 ≤ 720
  · exact ⟨_, _, _, _, _, _, _, _, _, _, _, _, _, (by decide), c_L_foresee_a l G M o hst np nr k hR.1 v1 v2 hd, c_X6_foresee_a l G M o np nr k (R2_OKT hR) v1 v2 hd, u2_at, fun z => absurd z (by decide), _, _, _, bad_R hR⟩
  obtain ⟨d, rfl, hd1, hd2⟩ := nat_ofW (a := 1) (b := 720) (by decide) hd
  by_cases hy : v2 < 0 ∨ ¬ v2 < 3
  · exact ⟨_, _, _, _, _, _, _, _, _, _, _, _, _, (by decide), c_L_foresee_i l G M o hst np nr k hR.1 d hd1 hd2 v2 hy, c_X6_foresee_i l G M o np nr k (R2_OKT hR) d hd1 hd2 v2 hy, u2_at, fun z => absurd z (by decide), _, _, _, bad_R hR⟩
  obtain ⟨w, rfl, hw⟩ := nat_of (n := 3) (by decide) hy
  have hF : ∀ a, a < 25 ∨ 46 ≤ a → lgM (cpM M np nr) 25 np nr k (tk k d) a = M a := fun a ha => f_lg hR.1.2.1 hR.1.2.2.2.1 ha
  have hG : ∀ a, a < 61 → gT (bcM (u2 (lgM (cpM M np nr) 25 np nr k (tk k d)) 46 0 0)) 61 np nr k (tk k d) a = u2 (lgM (cpM M np nr) 25 np nr k (tk k d)) 46 0 0 a := fun a ha => by rw [gT_lo (by omega), bcM_row (by omega)]
  exact ⟨_, _, _, _, _, _, _, _, _, _, _, _, _, (by decide), c_L_foresee l G M o np nr k hR.1 d hd1 hd2 w hw, c_X6_foresee l G _ _ np nr k (R2_OKT (mid0 hR (fun a ha => hF a (Or.inr ha)))) d hd1 hd2 w hw, tr_0 hG, fun _ => updE (q_foresee (mid hR (fun a ha => hF a (Or.inr ha))) d w hw), _, _, _, tr_R hR hF hG⟩
set_option maxHeartbeats 1000000 in
theorem p_advise (l : Launch) (hst : l.stackTraces = false) (G : GG) (hR : R2 M M np nr k) (o : Nat → Int64) (v1 v2 : Int32) : PR l G yL_advise cL_advise 5 [(0, 10, 13, 21), (0, 10, 17, 13)] yX6_advise cX6_advise 6 [.ref (adr G 0), .int v1, .int v2, .ref (adr G 66)] [.ref (adr G 46), .int v1, .int v2] M o := by
  by_cases hx : v1 < 0 ∨ ¬ v1 < nI nr
  · exact ⟨_, _, _, _, _, _, _, _, _, _, _, _, _, (by decide), c_L_advise_i l G M o hst np nr k hR.1 v1 v2 hx, c_X6_advise_i l G M o np nr k (R2_OKT hR) v1 v2 hx, u2_at, fun z => absurd z (by decide), _, _, _, bad_R hR⟩
  obtain ⟨r, rfl, hr⟩ := nat_of (by have := hR.1.2.1; have := hR.1.2.2.2.1; omega) hx
  by_cases hd : v2 < 1 ∨ ¬ v2 ≤ 200
  · exact ⟨_, _, _, _, _, _, _, _, _, _, _, _, _, (by decide), c_L_advise_a l G M o hst np nr k hR.1 r hr v2 hd, c_X6_advise_a l G M o np nr k (R2_OKT hR) r hr v2 hd, u2_at, fun z => absurd z (by decide), _, _, _, bad_R hR⟩
  obtain ⟨d, rfl, hd1, hd2⟩ := nat_ofW (a := 1) (b := 200) (by decide) hd
  have hF : ∀ a, a < 25 ∨ 46 ≤ a → adM M np nr k r (tk k d) 9 a = M a := fun a ha => ha.elim (fun z => adM_lo hR.1.2.1 hR.1.2.2.2.1 z) (fun z => f_ad z hr hR.1.2.1 hR.1.2.2.2.1)
  have hG : ∀ a, a < 61 → aeM (u2 (adM M np nr k r (tk k d) 9) 46 0 0) np nr k r (tk k d) 9 a = u2 (adM M np nr k r (tk k d) 9) 46 0 0 a := fun a ha => aeM_lo ha
  exact ⟨_, _, _, _, _, _, _, _, _, _, _, _, _, (by decide), c_L_advise l G M o np nr k hR.1 r hr d hd1 hd2, c_X6_advise l G _ _ np nr k (R2_OKT (mid0 hR (fun a ha => hF a (Or.inr ha)))) r hr d hd1 hd2, tr_0 hG, fun _ => updE (q_advise (mid hR (fun a ha => hF a (Or.inr ha))) hr (tk_le d hR.1.2.2.2.2.2)), _, _, _, tr_R hR hF hG⟩
end PAI
