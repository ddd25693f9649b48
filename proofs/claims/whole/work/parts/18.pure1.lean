section PU1
/-! the class's cells and the reference's: what they hold alike -/
def RK (A B : Mem) : Prop := ∀ j, j < 12 → A 2 j = B 47 j ∧ A 3 j = B 48 j
def RP (A B : Mem) (sc t np : Nat) : Prop := ∀ i, i < np → A (sc + 3 + i) 0 = B (t + 1) i ∧ A (sc + 3 + i) 1 = B 49 i ∧ A (sc + 3 + i) 2 = B 50 i ∧ A (sc + 3 + i) 3 = B 51 i
def RQ (A B : Mem) (sc t r : Nat) : Prop := A (sc + 13 + r) 0 = B 52 r ∧ A (sc + 13 + r) 1 = B 53 r ∧ A (sc + 13 + r) 2 = B (t + 2) r ∧ A (sc + 13 + r) 3 = B 54 r
def RV (A B : Mem) (sc t r : Nat) : Prop := A (sc + 13 + r) 4 = B 55 r ∧ A (sc + 13 + r) 5 = B (t + 3) r ∧ A (sc + 13 + r) 6 = B (t + 4) r
def BD (B : Mem) (t r k : Nat) : Prop := ∃ s p c : Nat, B 55 r = nI s ∧ s ≤ 20 ∧ B (t + 3) r = nI p ∧ p ≤ s ∧ B (t + 4) r = nI c ∧ c ≤ 40 * k
def BF (B : Mem) (r : Nat) : Prop := ∃ d : Nat, B 53 r = nI d ∧ 1 ≤ d ∧ d ≤ 9
def BL (B : Mem) : Prop := ∀ j, j < 12 → ∃ a b : Nat, B 47 j = nI a ∧ a ≤ 100 ∧ B 48 j = nI b ∧ b ≤ 9
def BN (A B : Mem) (nr : Nat) : Prop := ∀ r, nr ≤ r → r < 8 → (B 54 r = 0 ∧ B 59 r = 0 ∧ B 60 r = 0) ∧ A (4 + 13 + r) 3 = 0 ∧ A (4 + 13 + r) 5 = 0 ∧ A (4 + 13 + r) 6 = 0
def R2 (A B : Mem) (np nr k : Nat) : Prop := OKM A np nr k ∧ (B 46 1 = nI np ∧ B 46 2 = nI nr ∧ B 56 0 = nI k) ∧ RK A B ∧ RP A B 4 56 np ∧ (∀ r, r < nr → RQ A B 4 56 r ∧ RV A B 4 56 r) ∧ (∀ r, r < nr → BD B 56 r k ∧ BF B r) ∧ BL B ∧ BN A B nr
theorem BF_nz {B : Mem} {r : Nat} (h : BF B r) : 10 * B 53 r * B 53 r ≠ 0 := by
  obtain ⟨d, hd, h1, h9⟩ := h
  rw [hd]
  exact (by decide +kernel : ∀ d, d < 10 → 1 ≤ d → (10 : Int32) * nI d * nI d ≠ 0) d (by omega) h1
theorem R2_OKT {A B : Mem} {np nr k : Nat} (h : R2 A B np nr k) : OKT B np nr k := ⟨h.2.1.1, h.1.2.1, h.2.1.2.1, h.1.2.2.2.1, h.2.1.2.2, h.1.2.2.2.2.2, fun r hr => BF_nz (h.2.2.2.2.2.1 r hr).2⟩
section EQS
variable {A B : Mem} {sc t np nr r i k : Nat} {li : Int32}
theorem wl_eq (hp : RP A B sc t np) (hq : RQ A B sc t r) (hi : i < np) : wlM A (sc + 13 + r) (sc + 3 + i) li = wlT B t li r i := by
  obtain ⟨p0, p1, p2, p3⟩ := hp i hi
  obtain ⟨q0, q1, q2, q3⟩ := hq
  unfold wlM wlT
  rw [p0, p2, p3, q0, q1, q2, q3]
theorem sh_eq (hp : RP A B sc t np) (hq : RQ A B sc t r) (hi : i < np) : shM A (sc + 13 + r) (sc + 3 + i) = shT B t r i := by
  obtain ⟨p0, p1, p2, p3⟩ := hp i hi
  obtain ⟨q0, q1, q2, q3⟩ := hq
  unfold shM shT
  rw [p0, q0, q1]
theorem br_eq (hp : RP A B sc t np) (hq : RQ A B sc t r) (hi : i < np) : brM A (sc + 13 + r) (sc + 3 + i) li = brT B t li r i := by
  obtain ⟨p0, p1, p2, p3⟩ := hp i hi
  obtain ⟨q0, q1, q2, q3⟩ := hq
  unfold brM brT
  rw [p3, q1, q2, q3]
theorem si_eq (hp : RP A B sc t np) (hq : RQ A B sc t r) : siM A sc (sc + 13 + r) li np = swT B t li r np := cntF_congr (fun _ hi => wl_eq hp hq hi)
theorem rs_eq (hp : RP A B sc t np) (hq : ∀ r, r < nr → RQ A B sc t r) (hi : i < np) : rsM A sc (sc + 3 + i) li nr = cntF (fun r => wlT B t li r i) nr := cntF_congr (fun r hr => wl_eq hp (hq r hr) hi)
theorem lt_eq (h : RK A B) : ltF (A 2) (A 3) k = ltF (B 47) (B 48) k := by
  unfold ltF
  by_cases hk : k < 720
  · rw [if_pos hk, if_pos hk, (h (k / 60) (by omega)).1, (h (k / 60) (by omega)).2]
  · rw [if_neg hk, if_neg hk]
theorem cnt_nat {P : Nat → Int32} : ∀ n, ∃ c, c ≤ n ∧ cntF P n = nI c
  | 0 => ⟨0, Nat.le_refl _, rfl⟩
  | n + 1 => by
    obtain ⟨c, h1, h2⟩ := cnt_nat (P := P) n
    unfold cntF
    by_cases h : P n = 0
    · rw [if_pos h]
      exact ⟨c, by omega, h2⟩
    · rw [if_neg h, h2]
      exact ⟨c + 1, by omega, nI_1 c⟩
end EQS
/-! what is asked, answered alike -/
section QRY
variable {A B : Mem} {np nr k : Nat}
theorem q_pf (h : R2 A B np nr k) {i w : Nat} (hi : i < np) : pfF A nr k i w = ptF B nr k i w := by
  obtain ⟨hO, hN, hK, hP, hQ, hB, hL, hZ⟩ := h
  obtain ⟨p0, p1, p2, p3⟩ := hP i hi
  match w with
  | 0 => exact p0
  | 1 => exact p1
  | 2 => exact p2
  | 3 => exact p3
  | w + 4 =>
    show rsM A 4 (4 + 3 + i) (ltF (A 2) (A 3) k) nr = cntF (fun r => wlT B 56 (ltF (B 47) (B 48) k) r i) nr
    rw [lt_eq hK]
    exact rs_eq hP (fun r hr => (hQ r hr).1) hi
theorem q_rf (h : R2 A B np nr k) {i w : Nat} (hi : i < nr) : rfF A np k i w = rtF B np k i w := by
  obtain ⟨hO, hN, hK, hP, hQ, hB, hL, hZ⟩ := h
  obtain ⟨⟨q0, q1, q2, q3⟩, q4, q5, q6⟩ := hQ i hi
  match w with
  | 0 => exact q0
  | 1 => exact q1
  | 2 => exact q2
  | 3 => exact q3
  | 4 => exact q4
  | 5 => exact q5
  | 6 =>
    show siM A 4 (4 + 13 + i) (ltF (A 2) (A 3) k) np = swT B 56 (ltF (B 47) (B 48) k) i np
    rw [lt_eq hK]
    exact si_eq hP (hQ i hi).1
  | w + 7 => exact q6
theorem q_pe (h : R2 A B np nr k) : peM A 4 nr = sumF (B 59) nr := sumF_congr (fun r hr => (h.2.2.2.2.1 r hr).2.2.1)
theorem q_pn (h : R2 A B np nr k) : pnM A 4 nr = sumF (B 60) nr := sumF_congr (fun r hr => (h.2.2.2.2.1 r hr).2.2.2)
theorem q_go (h : R2 A B np nr k) : goM A 4 np = cntF (fun i => gn (B 57 i)) np := cntF_congr (fun i hi => congrArg gn (h.2.2.2.1 i hi).1)
theorem q_as (h : R2 A B np nr k) : asM A 4 (ltF (A 2) (A 3) k) np nr = sumF (fun r => swT B 56 (ltF (B 47) (B 48) k) r np) nr := by
  rw [lt_eq h.2.2.1]
  exact sumF_congr (fun r hr => si_eq h.2.2.2.1 (h.2.2.2.2.1 r hr).1)
theorem q_hf (h : R2 A B np nr k) {w : Nat} : hfF A np nr k w = hfT B np nr k w := by
  unfold hfF hfT
  rw [lt_eq h.2.2.1, q_go h, q_pe h, q_pn h]
  have e := q_as h
  rw [lt_eq h.2.2.1] at e
  rw [e]
  rcases w with _ | _ | _ | _ | _ | _ | _ | _ | w <;> rfl
theorem q_wall (h : R2 A B np nr k) {r : Nat} (hr : r < nr) (v : Int32) : paM A 4 (A (4 + 13 + r) 0 - v) np = cntF (fun i => atT (B 57 i) (B 52 r) v) np := by
  refine cntF_congr (fun i hi => ?_)
  rw [(h.2.2.2.1 i hi).1, (h.2.2.2.2.1 r hr).1.1]
  show atF (B 57 i) (B 52 r - v) = atT (B 57 i) (B 52 r) v
  unfold atF atT
  have e : B 57 i = B 52 r - v ↔ B 52 r - B 57 i = v := by
    constructor
    · intro z
      have e9 : B 57 i + v = B 52 r := by rw [z, Int32.sub_add_cancel]
      rw [← e9, Int32.add_comm, Int32.add_sub_cancel]
    · intro z
      have e9 : v + B 57 i = B 52 r := by rw [← z, Int32.sub_add_cancel]
      rw [← e9, Int32.add_comm, Int32.add_sub_cancel]
  by_cases z : B 57 i = B 52 r - v
  · rw [if_pos z, if_pos (e.mp z)]
  · rw [if_neg z, if_neg (fun y => z (e.mpr y))]
theorem q_bdW (h : R2 A B np nr k) {r : Nat} (hr : r < nr) (v : Int32) : bdW v (A (4 + 13 + r) 1) ↔ bdW v (B 53 r) := by rw [(h.2.2.2.2.1 r hr).1.2.1]
theorem q_bright (h : R2 A B np nr k) {r i : Nat} (hr : r < nr) (hi : i < np) : (if shM A (4 + 13 + r) (4 + 3 + i) = 0 then -1 else brM A (4 + 13 + r) (4 + 3 + i) (ltF (A 2) (A 3) k)) = (if shT B 56 r i = 0 then -1 else brT B 56 (ltF (B 47) (B 48) k) r i) := by
  obtain ⟨hO, hN, hK, hP, hQ, hB, hL, hZ⟩ := h
  rw [lt_eq hK, sh_eq hP (hQ r hr).1 hi, br_eq hP (hQ r hr).1 hi]
theorem q_mean (h : R2 A B np nr k) : (if k = 0 then FP.dconst0 else FP.ddiv (FP.i2d (pnM A 4 nr)) (FP.i2d (A 4 0))) = (if k = 0 then FP.dconst0 else FP.ddiv (FP.i2d (sumF (B 60) nr)) (FP.i2d (nI k))) := by
  rw [q_pn h, h.1.2.2.2.2.1]
theorem fd_congr {P Q : Nat → Int32} {d d' : Int64} (hd : d = d') : ∀ {n : Nat}, (∀ i, i < n → P i = Q i) → fdF P d n = fdF Q d' n
  | 0, _ => hd
  | n + 1, h => by
    unfold fdF
    rw [h n (Nat.lt_succ_self n), fd_congr hd (fun i hi => h i (Nat.lt_succ_of_lt hi))]
theorem ff_congr {P Q : Nat → Nat → Int32} {w : Nat} {d d' : Int64} (hd : d = d') : ∀ {n : Nat}, (∀ i, i < n → ∀ j, P i j = Q i j) → ffF P w d n = ffF Q w d' n
  | 0, _ => hd
  | n + 1, h => by
    unfold ffF
    exact fd_congr (ff_congr hd (fun i hi => h i (Nat.lt_succ_of_lt hi))) (fun j _ => h n (Nat.lt_succ_self n) j)
theorem li_sum : ∀ a, a ≤ 100 → ∀ b, b ≤ 9 → Int32.toInt64 (10 * nI a + nI b) = Int32.toInt64 (10 * nI a) + Int32.toInt64 (nI b) := by
  have h : ∀ a, a < 101 → ∀ b, b < 10 → Int32.toInt64 (10 * nI a + nI b) = Int32.toInt64 (10 * nI a) + Int32.toInt64 (nI b) := by decide +kernel
  exact fun a ha b hb => h a (by omega) b (by omega)
theorem ld_eq (hK : RK A B) (hL : BL B) {d d' : Int64} (hd : d = d') : ∀ {n : Nat}, n ≤ 12 → fdF (fun h => 10 * A 2 h + A 3 h) d n = ldF (B 47) (B 48) d' n
  | 0, _ => hd
  | n + 1, hn => by
    unfold fdF ldF
    rw [ld_eq hK hL hd (show n ≤ 12 by omega), (hK n (by omega)).1, (hK n (by omega)).2]
    obtain ⟨a, b, e1, h1, e2, h2⟩ := hL n (by omega)
    rw [e1, e2, li_sum a h1 b h2, Int64.add_assoc]
theorem q_digest (h : R2 A B np nr k) : ffF (rfF A np k) 8 (ffF (pfF A nr k) 5 (fdF (fun h => 10 * A 2 h + A 3 h) (fdF (hfF A np nr k) 853 9) 12) np) nr = ffF (rtF B np k) 8 (ffF (ptF B nr k) 5 (ldF (B 47) (B 48) (fdF (hfT B np nr k) 853 9) 12) np) nr :=
  ff_congr (ff_congr (ld_eq h.2.2.1 h.2.2.2.2.2.2.1 (fd_congr rfl (fun _ _ => q_hf h)) (Nat.le_refl _)) (fun _ hi _ => q_pf h hi)) (fun _ hi _ => q_rf h hi)
end QRY
end PU1
