section PU4
variable {A B A' B' : Mem} {np nr k sc t r i j : Nat} {li : Int32}
theorem lgM_hi {a : Nat} (hp : np ≤ 10) (h : sc + 13 + nr ≤ a) (hsc : sc = 4 ∨ sc = 25) : ∀ {j : Nat}, lgM A sc np nr k j a = A a
  | 0 => rfl
  | j + 1 => by
    unfold lgM
    rw [u2_ne (by omega)]
    funext b
    rw [rpM_sl (Or.inr h), pwM_row' (Or.inr (by omega)), lgM_hi hp h hsc]
/-- the scene and the state, day by day -/
theorem gg (ht : t = 56 ∨ t = 61) (hsc : sc = 4 ∨ sc = 25) (hp : np ≤ 10) (hK : RK A B) (hP : RP A B sc t np) (hR : ∀ r, r < nr → RQ A B sc t r ∧ RV A B sc t r) : ∀ j, RP (lgM A sc np nr k j) (gT B t np nr k j) sc t np ∧ ∀ r, r < nr → RQ (lgM A sc np nr k j) (gT B t np nr k j) sc t r ∧ RV (lgM A sc np nr k j) (gT B t np nr k j) sc t r
  | 0 => ⟨hP, hR⟩
  | j + 1 => by
    obtain ⟨h1, h2⟩ := gg ht hsc hp hK hP hR j
    have e : ltF (gT B t np nr k j 47) (gT B t np nr k j 48) (k + j) = ltF (A 2) (A 3) (k + j) := by
      rw [gT_lo (by omega), gT_lo (by omega)]
      exact (lt_eq hK).symm
    unfold lgM gT goT
    rw [e]
    exact ⟨st_P2 ht hp (st_P ht h1), fun r hr => ⟨st_Q2 ht (st_Q ht (h2 r hr).1 hp), st_V2 ht hr (st_P ht h1) (st_Q ht (h2 r hr).1 hp) (st_V ht (h2 r hr).2 hp)⟩⟩
theorem gD (ht : t = 56 ∨ t = 61) (hp : np ≤ 10) (h : ∀ r, r < nr → BD B t r k) : ∀ j r, r < nr → BD (gT B t np nr k j) t r (k + j)
  | 0, r, hr => h r hr
  | j + 1, r, hr => by
    unfold gT goT
    exact st_D ht hp hr (gD ht hp h j r hr)
theorem sum_add {P Q S : Nat → Int32} : ∀ {n : Nat}, (∀ i, i < n → S i = P i + Q i) → sumF S n = sumF P n + sumF Q n
  | 0, _ => rfl
  | n + 1, h => by
    unfold sumF
    rw [sum_add (fun i hi => h i (Nat.lt_succ_of_lt hi)), h n (Nat.lt_succ_self n), Int32.add_assoc, Int32.add_assoc]
    congr 1
    rw [← Int32.add_assoc, Int32.add_comm (sumF Q n) (P n), Int32.add_assoc]
/-- what is paid in all -/
theorem gS (ht : t = 56 ∨ t = 61) (hsc : sc = 4 ∨ sc = 25) (hp : np ≤ 10) (hK : RK A B) (hP : RP A B sc t np) (hR : ∀ r, r < nr → RQ A B sc t r ∧ RV A B sc t r) : ∀ j, sumF (gT B t np nr k j (t + 4)) nr = sumF (B (t + 4)) nr + lgS A sc np nr k j
  | 0 => by
    unfold lgS gT
    rw [Int32.add_zero]
  | j + 1 => by
    obtain ⟨h1, h2⟩ := gg ht hsc hp hK hP hR (k := k) j
    have ih := gS ht hsc hp hK hP hR j
    have e : ltF (gT B t np nr k j 47) (gT B t np nr k j 48) (k + j) = ltF (A 2) (A 3) (k + j) := by
      rw [gT_lo (by omega), gT_lo (by omega)]
      exact (lt_eq hK).symm
    show sumF (goT (gT B t np nr k j) t np nr (k + j) (t + 4)) nr = sumF (B (t + 4)) nr + (lgS A sc np nr k j + rpS (pwM (lgM A sc np nr k j) sc np) sc (ltF (A 2) (A 3) (k + j)) np nr)
    rw [← Int32.add_assoc, ← ih]
    unfold rpS goT
    rw [e]
    refine sum_add (fun r hr => ?_)
    rw [u2_ne (show t + 4 ≠ t by omega), qs_4 hr, psM_row (a := t + 4) (by omega)]
    congr 1
    rw [si_eq (st_P ht h1) (st_Q ht (h2 r hr).1 hp), (st_V ht (h2 r hr).2 hp).2.1]
theorem gT_n {n r : Nat} (ht : t = 56 ∨ t = 61) (hr : nr ≤ r) (hd : n = t + 3 ∨ n = t + 4) : ∀ {j : Nat}, gT B t np nr k j n r = B n r
  | 0 => rfl
  | j + 1 => by
    unfold gT goT
    rw [u2_ne (by omega)]
    unfold qsM
    rw [if_neg (by omega), if_neg (by omega), psM_0 (by omega), gT_n ht hr hd]
theorem m_go (h : R2 A B np nr k) {n : Nat} (hn : k + n ≤ 720) : R2 (lgM A 4 np nr k n) (gT B 56 np nr k n) np nr (k + n) := by
  obtain ⟨⟨o1, o2, o3, o4, o5, o6⟩, ⟨n1, n2, n3⟩, hK, hP, hQ, hD, hL, hZ⟩ := h
  obtain ⟨g1, g2⟩ := gg (Or.inl rfl) (Or.inl rfl) o2 hK hP hQ (k := k) n
  refine ⟨⟨?_, o2, ?_, o4, lgM_h0 (Or.inl rfl) o5, hn⟩, ⟨?_, ?_, gT_t n3⟩, ?_, g1, g2, fun r hr => ⟨gD (Or.inl rfl) o2 (fun r hr => (hD r hr).1) n r hr, ?_⟩, ?_, ?_⟩
  · rw [lgM_h1 (Or.inl rfl)]
    exact o1
  · rw [lgM_h2 (Or.inl rfl)]
    exact o3
  · rw [gT_lo (by decide)]
    exact n1
  · rw [gT_lo (by decide)]
    exact n2
  · intro j hj
    rw [lgM_lo (Or.inl rfl) (by decide), lgM_lo (Or.inl rfl) (by decide), gT_lo (by decide), gT_lo (by decide)]
    exact hK j hj
  · unfold BF
    rw [gT_lo (by decide)]
    exact (hD r hr).2
  · intro j hj
    rw [gT_lo (by decide), gT_lo (by decide)]
    exact hL j hj
  · intro r h8 h9
    rw [lgM_hi o2 (by omega) (Or.inl rfl), gT_lo (by decide), gT_n (Or.inl rfl) h8 (Or.inl rfl), gT_n (Or.inl rfl) h8 (Or.inr rfl)]
    exact hZ r h8 h9
theorem add_sub_l (a b : Int32) : a + b - a = b := by rw [Int32.add_comm, Int32.add_sub_cancel]
theorem q_going (h : R2 A B np nr k) (n : Nat) : lgS A 4 np nr k n = sumF (gT B 56 np nr k n 60) nr - sumF (B 60) nr := by
  have e := gS (Or.inl rfl) (Or.inl rfl) h.1.2.1 h.2.2.1 h.2.2.2.1 h.2.2.2.2.1 (k := k) n
  have e2 : sumF (gT B 56 np nr k n 60) nr = sumF (B 60) nr + lgS A 4 np nr k n := e
  rw [e2, add_sub_l]
/-! the trial -/
theorem t_K (h : RK A B) (hp : np ≤ 10) (hr : nr ≤ 8) : RK (cpM A np nr) (bcM B) := by
  intro j hj
  rw [cpM_row (by omega) hp hr, cpM_row (by omega) hp hr, bcM_row (by omega), bcM_row (by omega)]
  exact h j hj
theorem t_P (h : RP A B 4 56 np) (hp : np ≤ 10) (hr : nr ≤ 8) : RP (cpM A np nr) (bcM B) 25 61 np := by
  intro i hi
  have e : ∀ b, b < 4 → cpM A np nr (25 + 3 + i) b = A (4 + 3 + i) b := fun b hb => by
    unfold cpM
    rw [if_neg (by omega), if_pos ⟨by omega, hb⟩, show 25 + 3 + i - 21 = 4 + 3 + i by omega]
  have e2 : bcM B (61 + 1) i = B (56 + 1) i := by
    unfold bcM
    rw [if_neg (by omega), if_pos ⟨rfl, by omega⟩]
  rw [e 0 (by omega), e 1 (by omega), e 2 (by omega), e 3 (by omega), e2, bcM_row (a := 49) (by omega), bcM_row (a := 50) (by omega), bcM_row (a := 51) (by omega)]
  exact h i hi
theorem cp_r (hr : r < nr) (hp : np ≤ 10) {b : Nat} (hb : b < 7) : cpM A np nr (25 + 13 + r) b = A (4 + 13 + r) b := by
  unfold cpM
  rw [if_neg (by omega), if_neg (by omega), if_pos ⟨by omega, hb⟩, show 25 + 13 + r - 21 = 4 + 13 + r by omega]
theorem bc_r (hr : r < 8) {d : Nat} (hd : 2 ≤ d ∧ d ≤ 4) : bcM B (61 + d) r = B (56 + d) r := by
  unfold bcM
  rw [if_neg (by omega), if_neg (by omega), if_pos ⟨by omega, hr⟩, show 61 + d - 5 = 56 + d by omega]
theorem t_R (h : RQ A B 4 56 r ∧ RV A B 4 56 r) (hr : r < nr) (hp : np ≤ 10) (h8 : nr ≤ 8) : RQ (cpM A np nr) (bcM B) 25 61 r ∧ RV (cpM A np nr) (bcM B) 25 61 r := by
  unfold RQ RV
  rw [cp_r hr hp (by omega), cp_r hr hp (by omega), cp_r hr hp (by omega), cp_r hr hp (by omega), cp_r hr hp (by omega), cp_r hr hp (by omega), cp_r hr hp (by omega), bc_r (d := 2) (by omega) (by omega), bc_r (d := 3) (by omega) (by omega), bc_r (d := 4) (by omega) (by omega), bcM_row (a := 52) (by omega), bcM_row (a := 53) (by omega), bcM_row (a := 54) (by omega), bcM_row (a := 55) (by omega)]
  exact h
theorem q_foresee (h : R2 A B np nr k) (d : Nat) : ∀ w, w < 3 → fsF A np nr k d w = fsT B np nr k d w := by
  obtain ⟨⟨o1, o2, o3, o4, o5, o6⟩, ⟨n1, n2, n3⟩, hK, hP, hQ, hD, hL, hZ⟩ := h
  have tK := t_K hK o2 o4
  have tP := t_P hP o2 o4
  have tR : ∀ r, r < nr → _ := fun r hr => t_R (hQ r hr) hr o2 o4
  obtain ⟨g1, g2⟩ := gg (Or.inr rfl) (Or.inr rfl) o2 tK tP tR (k := k) (tk k d)
  intro w hw
  rcases (show w = 0 ∨ w = 1 ∨ w = 2 by omega) with rfl | rfl | rfl
  · show lgS (cpM A np nr) 25 np nr k (tk k d) = sumF (gT (bcM B) 61 np nr k (tk k d) 65) nr - sumF (gT (bcM B) 61 np nr k (tk k d) 60) nr
    have e : sumF (gT (bcM B) 61 np nr k (tk k d) 65) nr = sumF (bcM B 65) nr + lgS (cpM A np nr) 25 np nr k (tk k d) := gS (Or.inr rfl) (Or.inr rfl) o2 tK tP tR (k := k) (tk k d)
    have e2 : sumF (bcM B 65) nr = sumF (B 60) nr := sumF_congr (fun r hr => bc_r (d := 4) (by omega) (by omega))
    rw [e, e2, gT_lo (a := 60) (by decide), bcM_row (a := 60) (by omega), add_sub_l]
  · exact sumF_congr (fun r hr => (g2 r hr).2.2.1)
  · show nI np - goM (lgM (cpM A np nr) 25 np nr k (tk k d)) 25 np = nI np - cntF (fun i => gn (gT (bcM B) 61 np nr k (tk k d) 62 i)) np
    congr 1
    exact cntF_congr (fun i hi => congrArg gn (g1 i hi).1)
/-! when -/
theorem it_gg (ht : t = 56 ∨ t = 61) (hp : np ≤ 10) (hP : RP A B sc t np) (hQ : RQ A B sc t r) : ∀ j, RP (itW A sc np j) (gT B t np nr k j) sc t np ∧ RQ (itW A sc np j) (gT B t np nr k j) sc t r
  | 0 => ⟨hP, hQ⟩
  | j + 1 => by
    obtain ⟨h1, h2⟩ := it_gg ht hp hP hQ j
    unfold itW gT goT
    constructor
    · intro i hi
      rw [u2_ne (show t + 1 ≠ t by omega), u2_ne (show 49 ≠ t by omega), u2_ne (show 50 ≠ t by omega), u2_ne (show 51 ≠ t by omega), qsM_row (a := t + 1) (by omega), qsM_row (a := 49) (by omega), qsM_row (a := 50) (by omega), qsM_row (a := 51) (by omega)]
      exact st_P ht h1 i hi
    · unfold RQ
      rw [u2_ne (show 52 ≠ t by omega), u2_ne (show 53 ≠ t by omega), u2_ne (show t + 2 ≠ t by omega), u2_ne (show 54 ≠ t by omega), qsM_row (a := 52) (by omega), qsM_row (a := 53) (by omega), qsM_row (a := t + 2) (by omega), qsM_row (a := 54) (by omega)]
      exact st_Q ht h2 hp
theorem whF_congr {s0 : Int32 × Int32} {P P' Q : Nat → Int32} : ∀ {n : Nat}, (∀ j, j < n → P j = P' j) → whF s0 P Q n = whF s0 P' Q n
  | 0, _ => rfl
  | n + 1, h => by
    unfold whF
    rw [h n (Nat.lt_succ_self n), whF_congr (fun j hj => h j (Nat.lt_succ_of_lt hj))]
theorem q_when (h : R2 A B np nr k) (hr : r < nr) : (whF (0, -1) (whP A np nr k r) (fun j => nI (k + j)) (720 - k)).2 = (whF (0, -1) (wtP B np nr k r) (fun j => nI (k + j)) (720 - k)).2 := by
  obtain ⟨⟨o1, o2, o3, o4, o5, o6⟩, ⟨n1, n2, n3⟩, hK, hP, hQ, hD, hL, hZ⟩ := h
  refine congrArg _ (whF_congr (fun j hj => ?_))
  obtain ⟨h1, h2⟩ := it_gg (Or.inr rfl) o2 (t_P hP o2 o4 (nr := nr)) (t_R (hQ r hr) hr o2 o4).1 (k := k) (nr := nr) j
  unfold whP wtP
  rw [lt_eq hK, si_eq h1 h2, bcM_row (a := 47) (by omega), bcM_row (a := 48) (by omega)]
/-! seen -/
theorem sn_gg (hP : RP A B 4 56 np) (hi : i < np) (hp : np ≤ 10) : ∀ j, snM A i j (25 + 3 + i) 0 = gT (bcM B) 61 np nr k j 62 i ∧ snM A i j (25 + 3 + i) 1 = B 49 i
  | 0 => by
    obtain ⟨p0, p1, p2, p3⟩ := hP i hi
    unfold snM gT
    rw [cmM_at.1, cmM_at.2.1, p0, p1]
    refine ⟨?_, rfl⟩
    show B 57 i = bcM B 62 i
    unfold bcM
    rw [if_neg (by omega), if_pos ⟨rfl, by omega⟩]
  | j + 1 => by
    obtain ⟨h1, h2⟩ := sn_gg hP hi hp j
    unfold snM gT goT
    rw [u2_at, u2_sl (by decide), h1, h2, u2_ne (show 62 ≠ 61 by decide), qsM_row (by decide)]
    refine ⟨?_, rfl⟩
    show _ = psM (gT (bcM B) 61 np nr k j) 61 np (61 + 1) i
    rw [ps_at hi, gT_lo (a := 49) (by decide), bcM_row (a := 49) (by omega)]
theorem or_sn {P : Nat → Int32} {W : Nat → Int32} (h0 : W 0 = P 0) (hs : ∀ n, W (n + 1) = W n ||| P (n + 1)) : ∀ n, W n = orF P 0 (n + 1)
  | 0 => by
    show W 0 = 0 ||| P 0
    rw [h0, Int32.zero_or]
  | n + 1 => by
    rw [hs, or_sn h0 hs n]
    rfl
theorem orF_congr {P Q : Nat → Int32} {x : Int32} : ∀ {n : Nat}, (∀ j, j < n → P j = Q j) → orF P x n = orF Q x n
  | 0, _ => rfl
  | n + 1, h => by
    unfold orF
    rw [h n (Nat.lt_succ_self n), orF_congr (fun j hj => h j (Nat.lt_succ_of_lt hj))]
theorem q_seen (h : R2 A B np nr k) (hi : i < np) : snW A nr i (719 - k) = orF (fun j => setF (fun r => shT (gT (bcM B) 61 np nr k (tk k j)) 61 r i) nr) 0 (719 - k + 1) := by
  obtain ⟨⟨o1, o2, o3, o4, o5, o6⟩, ⟨n1, n2, n3⟩, hK, hP, hQ, hD, hL, hZ⟩ := h
  rw [or_sn (P := fun j => waM (snM A i j) 4 (25 + 3 + i) nr) (W := snW A nr i) rfl (fun _ => rfl)]
  refine orF_congr (fun j hj => setF_congr (fun r hr => ?_))
  rw [show tk k j = j by unfold tk; omega]
  unfold shM shT
  rw [(sn_gg hP hi o2 (nr := nr) (k := k) j).1, snM_lo (by omega), snM_lo (by omega), gT_lo (a := 52) (by decide), gT_lo (a := 53) (by decide), bcM_row (a := 52) (by omega), bcM_row (a := 53) (by omega), (hQ r hr).1.1, (hQ r hr).1.2.1]
end PU4
