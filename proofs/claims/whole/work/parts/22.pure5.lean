section PU5
variable {A B A' B' : Mem} {np nr k sc t r i j n : Nat} {li : Int32}
/-- one room, with another hole, over n days -/
theorem ph (hh : Nat) (hr : r < nr) (hp : np ≤ 10) (h8 : nr ≤ 8) (hK : RK A B) (hP : RP A B 4 56 np) (hR : RQ A B 4 56 r ∧ RV A B 4 56 r) (hD : ∀ r, r < nr → BD B 56 r k) : ∀ j, (RP (pwhM A np nr k r hh j) (gT (u2 (bcM B) 63 r (nI hh)) 61 np nr k j) 25 61 np ∧ RQ (pwhM A np nr k r hh j) (gT (u2 (bcM B) 63 r (nI hh)) 61 np nr k j) 25 61 r ∧ RV (pwhM A np nr k r hh j) (gT (u2 (bcM B) 63 r (nI hh)) 61 np nr k j) 25 61 r) ∧ gT (u2 (bcM B) 63 r (nI hh)) 61 np nr k j 65 r = B 60 r + pwhS A np nr k r hh j ∧ ∃ x, x ≤ 40 * j ∧ pwhS A np nr k r hh j = nI x
  | 0 => by
    have tP := t_P hP hp h8 (nr := nr)
    have tR := t_R hR hr hp h8
    unfold pwhM gT pwhS
    refine ⟨⟨?_, ?_, ?_⟩, ?_, 0, by omega, rfl⟩
    · intro i hi
      rw [u2_ne (show 25 + 3 + i ≠ 25 + 13 + r by omega), u2_ne (show 61 + 1 ≠ 63 by decide), u2_ne (show 49 ≠ 63 by decide), u2_ne (show 50 ≠ 63 by decide), u2_ne (show 51 ≠ 63 by decide)]
      exact tP i hi
    · obtain ⟨q0, q1, q2, q3⟩ := tR.1
      refine ⟨?_, ?_, ?_, ?_⟩
      · rw [u2_sl (by decide), u2_ne (by decide)]; exact q0
      · rw [u2_sl (by decide), u2_ne (by decide)]; exact q1
      · rw [u2_at]; exact u2_at.symm
      · rw [u2_sl (by decide), u2_ne (by decide)]; exact q3
    · obtain ⟨q4, q5, q6⟩ := tR.2
      refine ⟨?_, ?_, ?_⟩
      · rw [u2_sl (by decide), u2_ne (by decide)]; exact q4
      · rw [u2_sl (by decide), u2_ne (by decide)]; exact q5
      · rw [u2_sl (by decide), u2_ne (by decide)]; exact q6
    · rw [u2_ne (show 65 ≠ 63 by decide), Int32.add_zero]
      exact bc_r (d := 4) (by omega) (by omega)
  | j + 1 => by
    obtain ⟨⟨h1, h2, h3⟩, h4, x, hx, ex⟩ := ph hh hr hp h8 hK hP hR hD j
    have hD2 : ∀ r', r' < nr → BD (u2 (bcM B) 63 r (nI hh)) 61 r' k := fun r' hr' => by
      unfold BD
      rw [u2_ne (show 55 ≠ 63 by decide), u2_ne (show 61 + 3 ≠ 63 by decide), u2_ne (show 61 + 4 ≠ 63 by decide), bc_r (d := 3) (by omega) (by omega), bc_r (d := 4) (by omega) (by omega), bcM_row (a := 55) (by omega)]
      exact hD r' hr'
    have hd := gD (Or.inr rfl) hp hD2 j r hr
    have e : ltF (gT (u2 (bcM B) 63 r (nI hh)) 61 np nr k j 47) (gT (u2 (bcM B) 63 r (nI hh)) 61 np nr k j 48) (k + j) = ltF (A 2) (A 3) (k + j) := by
      rw [gT_lo (by decide), gT_lo (by decide), u2_ne (by decide), u2_ne (by decide), bcM_row (by omega), bcM_row (by omega)]
      exact (lt_eq hK).symm
    have s1 := st_P (Or.inr rfl) h1
    have s2 := st_Q (Or.inr rfl) h2 hp
    have s3 := st_V (Or.inr rfl) h3 hp
    have esi : siM (pwM (pwhM A np nr k r hh j) 25 np) 25 (25 + 13 + r) (ltF (A 2) (A 3) (k + j)) np = swT (psM (gT (u2 (bcM B) 63 r (nI hh)) 61 np nr k j) 61 np) 61 (ltF (A 2) (A 3) (k + j)) r np := si_eq s1 s2
    unfold pwhM gT goT pwhS
    rw [e]
    obtain ⟨v4, v5, v6⟩ := s3
    refine ⟨⟨?_, ?_, ?_, ?_, ?_⟩, ?_, ?_⟩
    · intro i hi
      rw [pyM_ne (show 25 + 3 + i ≠ 25 + 13 + r by omega), u2_ne (show 61 + 1 ≠ 61 by decide), u2_ne (show 49 ≠ 61 by decide), u2_ne (show 50 ≠ 61 by decide), u2_ne (show 51 ≠ 61 by decide), qsM_row (a := 61 + 1) (by decide), qsM_row (a := 49) (by decide), qsM_row (a := 50) (by decide), qsM_row (a := 51) (by decide)]
      exact s1 i hi
    · unfold RQ
      rw [u2_ne (show 52 ≠ 61 by decide), u2_ne (show 53 ≠ 61 by decide), u2_ne (show 61 + 2 ≠ 61 by decide), u2_ne (show 54 ≠ 61 by decide), qsM_row (a := 52) (by decide), qsM_row (a := 53) (by decide), qsM_row (a := 61 + 2) (by decide), qsM_row (a := 54) (by decide)]
      have ep : ∀ b, b ≠ 5 → b ≠ 6 → pyM (pwM (pwhM A np nr k r hh j) 25 np) (25 + 13 + r) (siM (pwM (pwhM A np nr k r hh j) 25 np) 25 (25 + 13 + r) (ltF (A 2) (A 3) (k + j)) np) (25 + 13 + r) b = pwM (pwhM A np nr k r hh j) 25 np (25 + 13 + r) b := fun b b5 b6 => by
        unfold pyM
        rw [if_pos rfl, if_neg b5, if_neg b6]
      rw [ep 0 (by decide) (by decide), ep 1 (by decide) (by decide), ep 2 (by decide) (by decide), ep 3 (by decide) (by decide)]
      exact s2
    · rw [u2_ne (show 55 ≠ 61 by decide), qsM_row (a := 55) (by decide), ← v4]
      unfold pyM
      rw [if_pos rfl, if_neg (by decide), if_neg (by decide)]
    · rw [u2_ne (show 61 + 3 ≠ 61 by decide), qs_3 hr, ← v4, ← v5, ← esi]
      unfold pyM
      rw [if_pos rfl, if_pos rfl]
    · rw [u2_ne (show 61 + 4 ≠ 61 by decide), qs_4 hr, ← v6, ← v5, ← esi]
      unfold pyM
      rw [if_pos rfl, if_neg (by decide), if_pos rfl]
    · rw [u2_ne (show 65 ≠ 61 by decide)]
      show qsM _ 61 _ np nr (61 + 4) r = _
      rw [qs_4 hr, ← v5, ← esi, psM_row (a := 61 + 4) (by decide)]
      show gT (u2 (bcM B) 63 r (nI hh)) 61 np nr k j 65 r + _ = _
      rw [h4, Int32.add_assoc]
    · obtain ⟨s, p, c, e1, b1, e2, b2, e3, b3⟩ := hd
      obtain ⟨w, hw, ew⟩ := cnt_nat (P := fun i => wlT (psM (gT (u2 (bcM B) 63 r (nI hh)) 61 np nr k j) 61 np) 61 (ltF (A 2) (A 3) (k + j)) r i) np
      have ew2 : swT (psM (gT (u2 (bcM B) 63 r (nI hh)) 61 np nr k j) 61 np) 61 (ltF (A 2) (A 3) (k + j)) r np = nI w := ew
      obtain ⟨y1, y2⟩ := pa_nat w (by omega) p (by omega)
      have ep : psM (gT (u2 (bcM B) 63 r (nI hh)) 61 np nr k j) 61 np (61 + 3) r = nI p := by
        rw [psM_row (a := 61 + 3) (by decide)]
        exact e2
      refine ⟨x + (paF (nI w) (nI p)).toNatClampNeg, by omega, ?_⟩
      rw [ex, esi, ew2, v5, ep, ← nI_add]
      congr 1
theorem whF_rel {P P' Q : Nat → Int32} {c0 : Nat} (hc : c0 ≤ 28800) (hP : ∀ j, j < 9 → ∃ x, x ≤ 28800 ∧ P j = nI x ∧ P' j = nI (c0 + x)) : ∀ n, n < 9 → ∃ g b, g ≤ 28800 ∧ whF (-1, 1) P Q (n + 1) = (nI g, b) ∧ whF (-1, 0) P' Q (n + 1) = (nI (c0 + g), b)
  | 0, _ => by
    obtain ⟨x, hx, e1, e2⟩ := hP 0 (by omega)
    refine ⟨x, Q 0, hx, ?_, ?_⟩
    · show (if P 0 ≤ -1 then _ else (P 0, Q 0)) = _
      rw [e1, if_neg (fun z => by
        rw [Int32.le_iff_toInt_le, nI_toInt (by omega)] at z
        have : (-1 : Int32).toInt = -1 := by decide
        omega)]
    · show (if P' 0 ≤ -1 then _ else (P' 0, Q 0)) = _
      rw [e2, if_neg (fun z => by
        rw [Int32.le_iff_toInt_le, nI_toInt (by omega)] at z
        have : (-1 : Int32).toInt = -1 := by decide
        omega)]
  | n + 1, hn => by
    obtain ⟨g, b, hg, e1, e2⟩ := whF_rel hc hP n (by omega)
    obtain ⟨x, hx, x1, x2⟩ := hP (n + 1) hn
    have f1 : whF (-1, 1) P Q (n + 1 + 1) = if P (n + 1) ≤ (whF (-1, 1) P Q (n + 1)).1 then whF (-1, 1) P Q (n + 1) else (P (n + 1), Q (n + 1)) := rfl
    have f2 : whF (-1, 0) P' Q (n + 1 + 1) = if P' (n + 1) ≤ (whF (-1, 0) P' Q (n + 1)).1 then whF (-1, 0) P' Q (n + 1) else (P' (n + 1), Q (n + 1)) := rfl
    rw [f1, f2, e1, e2, x1, x2]
    by_cases z : x ≤ g
    · refine ⟨g, b, hg, ?_, ?_⟩
      · rw [if_pos ((nI_leI (by omega) (by omega)).mpr z)]
      · rw [if_pos ((nI_leI (by omega) (by omega)).mpr (by omega))]
    · refine ⟨x, Q (n + 1), hx, ?_, ?_⟩
      · rw [if_neg (fun y => z ((nI_leI (by omega) (by omega)).mp y))]
      · rw [if_neg (fun y => z (by have := (nI_leI (by omega) (by omega)).mp y; omega))]
theorem q_advise (h : R2 A B np nr k) (hr : r < nr) (hn : k + n ≤ 720) : (whF (-1, 1) (adP A np nr k r n) (fun j => nI (j + 1)) 9).2 = (whF (-1, 0) (aeP B np nr k r n) (fun j => nI (j + 1)) 9).2 := by
  obtain ⟨⟨o1, o2, o3, o4, o5, o6⟩, ⟨n1, n2, n3⟩, hK, hP, hQ, hD, hL, hZ⟩ := h
  obtain ⟨s, p, c, e1, b1, e2, b2, e3, b3⟩ := (hD r hr).1
  have hA : ∀ j a, a < 25 → adM A np nr k r n j a = A a := fun j a ha => adM_lo o2 o4 ha
  have hB : ∀ j a, a < 61 → aeM B np nr k r n j a = B a := fun j a ha => aeM_lo ha
  obtain ⟨g, b, hg, w1, w2⟩ := whF_rel (P := adP A np nr k r n) (P' := aeP B np nr k r n) (Q := fun j => nI (j + 1)) (c0 := c) (by omega) (fun j hj => by
    have q1 : RK (adM A np nr k r n j) (aeM B np nr k r n j) := fun i hi => by
      rw [hA j 2 (by omega), hA j 3 (by omega), hB j 47 (by omega), hB j 48 (by omega)]
      exact hK i hi
    have q2 : RP (adM A np nr k r n j) (aeM B np nr k r n j) 4 56 np := fun i hi => by
      rw [hA j (4 + 3 + i) (by omega), hB j (56 + 1) (by omega), hB j 49 (by omega), hB j 50 (by omega), hB j 51 (by omega)]
      exact hP i hi
    have q3 : RQ (adM A np nr k r n j) (aeM B np nr k r n j) 4 56 r ∧ RV (adM A np nr k r n j) (aeM B np nr k r n j) 4 56 r := by
      unfold RQ RV
      rw [hA j (4 + 13 + r) (by omega), hB j 52 (by omega), hB j 53 (by omega), hB j (56 + 2) (by omega), hB j 54 (by omega), hB j 55 (by omega), hB j (56 + 3) (by omega), hB j (56 + 4) (by omega)]
      exact hQ r hr
    obtain ⟨-, y1, x, hx, y2⟩ := ph (j + 1) hr o2 o4 q1 q2 q3 (fun r' hr' => by
      unfold BD
      rw [hB j 55 (by omega), hB j (56 + 3) (by omega), hB j (56 + 4) (by omega)]
      exact (hD r' hr').1) (k := k) n
    refine ⟨x, by omega, y2, ?_⟩
    show gT (u2 (bcM (aeM B np nr k r n j)) 63 r (nI (j + 1))) 61 np nr k n 65 r = _
    rw [y1, y2, hB j 60 (by omega)]
    have : B 60 r = nI c := e3
    rw [this, nI_add]) 8 (by omega)
  rw [w1, w2]
/-! what each leaves as it was -/
theorem f_it {a : Nat} (h : a < 28 ∨ 28 + np ≤ a) : ∀ {j : Nat}, itW A 25 np j a = A a
  | 0 => rfl
  | j + 1 => by
    unfold itW
    rw [pwM_row' (by omega), f_it h]
theorem f_ad {a : Nat} (ha : 46 ≤ a) (hr : r < nr) (hp : np ≤ 10) (h8 : nr ≤ 8) : ∀ {j : Nat}, adM A np nr k r n j a = A a
  | 0 => rfl
  | j + 1 => by
    unfold adM
    rw [pdM_hi ha (by omega) hp h8, f_ad ha hr hp h8]
theorem f_lg {a : Nat} (hp : np ≤ 10) (h8 : nr ≤ 8) (ha : a < 25 ∨ 46 ≤ a) : lgM (cpM A np nr) 25 np nr k n a = A a := by
  rcases ha with ha | ha
  · rw [lgM_lo (Or.inr rfl) ha, cpM_row (by omega) hp h8]
  · rw [lgM_hi hp (by omega) (Or.inr rfl), cpM_row (by omega) hp h8]
end PU5
