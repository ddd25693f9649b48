section PU3
variable {A B A' B' : Mem} {np nr k sc t r i : Nat} {li : Int32}
theorem an_fr {P : Nat → Int32} {v : Int32} : ∀ {n : Nat}, frF P v 1 n = if anyF (fun i => hhF (P i) v) n = 0 then 1 else 0
  | 0 => rfl
  | n + 1 => by
    unfold frF anyF hhF
    rw [an_fr]
    by_cases h : P n = v
    · simp [h]
    · simp only [h, if_false, if_true]
      unfold hhF
      split <;> decide
theorem any_congr {P Q : Nat → Int32} : ∀ {n : Nat}, (∀ i, i < n → P i = Q i) → anyF P n = anyF Q n
  | 0, _ => rfl
  | n + 1, h => by
    unfold anyF
    rw [h n (Nat.lt_succ_self n), any_congr (fun i hi => h i (Nat.lt_succ_of_lt hi))]
theorem q_free (h : R2 A B np nr k) (v : Int32) : frF (B 52) v (if nr < 8 then 1 else 0) nr = 0 ↔ ¬ nr < 8 ∨ ¬ hhM A 4 v nr = 0 := by
  have e : hhM A 4 v nr = anyF (fun i => hhF (B 52 i) v) nr := any_congr (fun i hi => by rw [(h.2.2.2.2.1 i hi).1.1])
  by_cases h8 : nr < 8
  · rw [if_pos h8, an_fr, e]
    by_cases z : anyF (fun i => hhF (B 52 i) v) nr = 0
    · simp [z, h8]
    · simp [z]
  · rw [frF_no (if_neg h8)]
    simp [h8]
theorem m_addRoom (h : R2 A B np nr k) (hn : nr < 8) {a1 a2 a3 : Int32} (hb : ¬ bdR a1 a2 a3) : R2 (u2 (bdM A (4 + 13 + nr) a1 a2 a3) 4 2 (nI (nr + 1))) (u2 (u2 (u2 (u2 (u2 B 52 nr a1) 53 nr a2) 55 nr a3) 58 nr 3) 46 2 (nI (nr + 1))) np (nr + 1) k := by
  obtain ⟨⟨o1, o2, o3, o4, o5, o6⟩, ⟨n1, n2, n3⟩, hK, hP, hQ, hD, hL, hZ⟩ := h
  rw [bdR_in] at hb
  obtain ⟨d, e2, hd1, hd9⟩ := in_nat (x := a2) (a := 1) (b := 9) (by decide) (fun z => hb (Or.inr (Or.inl z)))
  obtain ⟨s, e3, -, hs⟩ := in_nat (x := a3) (a := 0) (b := 20) (by decide) (fun z => hb (Or.inr (Or.inr z)))
  have hA : ∀ a, a ≠ 4 → a ≠ 4 + 13 + nr → u2 (bdM A (4 + 13 + nr) a1 a2 a3) 4 2 (nI (nr + 1)) a = A a := fun a h1 h2 => by rw [u2_ne h1, bdM_row h2]
  have hB : ∀ a, a ≠ 52 → a ≠ 53 → a ≠ 55 → a ≠ 58 → a ≠ 46 → u2 (u2 (u2 (u2 (u2 B 52 nr a1) 53 nr a2) 55 nr a3) 58 nr 3) 46 2 (nI (nr + 1)) a = B a := fun a h1 h2 h3 h4 h5 => by rw [u2_ne h5, u2_ne h4, u2_ne h3, u2_ne h2, u2_ne h1]
  obtain ⟨⟨z1, z2, z3⟩, z4, z5, z6⟩ := hZ nr (Nat.le_refl _) hn
  refine ⟨⟨?_, o2, u2_at, by omega, ?_, o6⟩, ⟨?_, u2_at, ?_⟩, ?_, ?_, ?_, ?_, ?_, ?_⟩
  · rw [u2_sl (by decide), bdM_lo (by omega)]
    exact o1
  · rw [u2_sl (by decide), bdM_lo (by omega)]
    exact o5
  · rw [u2_sl (by decide), u2_ne (by decide), u2_ne (by decide), u2_ne (by decide), u2_ne (by decide)]
    exact n1
  · rw [hB 56 (by decide) (by decide) (by decide) (by decide) (by decide)]
    exact n3
  · intro j hj
    rw [hA 2 (by omega) (by omega), hA 3 (by omega) (by omega), hB 47 (by decide) (by decide) (by decide) (by decide) (by decide), hB 48 (by decide) (by decide) (by decide) (by decide) (by decide)]
    exact hK j hj
  · intro i hi
    rw [hA (4 + 3 + i) (by omega) (by omega), hB (56 + 1) (by decide) (by decide) (by decide) (by decide) (by decide), hB 49 (by decide) (by decide) (by decide) (by decide) (by decide), hB 50 (by decide) (by decide) (by decide) (by decide) (by decide), hB 51 (by decide) (by decide) (by decide) (by decide) (by decide)]
    exact hP i hi
  · intro r hr
    by_cases e : r = nr
    · subst e
      have hr4 : 4 + 13 + r ≠ 4 := by omega
      refine ⟨⟨?_, ?_, ?_, ?_⟩, ?_, ?_, ?_⟩ <;> rw [u2_ne hr4] <;> simp [bdM, u2, z1, z2, z3, z4, z5, z6]
    · unfold RQ RV
      rw [hA (4 + 13 + r) (by omega) (by omega)]
      have := hQ r (by omega)
      unfold RQ RV at this
      simpa [u2, e] using this
  · intro r hr
    by_cases e : r = nr
    · subst e
      exact ⟨⟨s, 0, 0, by simp [u2, e3], hs, by simp [u2, z2]; rfl, by omega, by simp [u2, z3]; rfl, by omega⟩, d, by simp [u2, e2], hd1, hd9⟩
    · have := hD r (by omega)
      unfold BD BF at this ⊢
      simpa [u2, e] using this
  · intro j hj
    rw [hB 47 (by decide) (by decide) (by decide) (by decide) (by decide), hB 48 (by decide) (by decide) (by decide) (by decide) (by decide)]
    exact hL j hj
  · intro r h8 h9
    rw [hA (4 + 13 + r) (by omega) (by omega), hB 54 (by decide) (by decide) (by decide) (by decide) (by decide), hB 59 (by decide) (by decide) (by decide) (by decide) (by decide), hB 60 (by decide) (by decide) (by decide) (by decide) (by decide)]
    exact hZ r (by omega) h9
/-! one minute -/
theorem pwM_row' {M : Mem} {n a : Nat} (h : a < sc + 3 ∨ sc + 3 + n ≤ a) : pwM M sc n a = M a := by
  funext b
  exact pwM_sl h
theorem pw_at (hi : i < np) : pwM A sc np (sc + 3 + i) 0 = wk (A (sc + 3 + i) 0) (A (sc + 3 + i) 1) := by
  unfold pwM
  rw [if_pos ⟨by omega, rfl⟩]
theorem pw_b {b : Nat} (hb : b ≠ 0) {a : Nat} : pwM A sc np a b = A a b := by
  unfold pwM
  rw [if_neg (fun z => hb z.2)]
theorem ps_at (hi : i < np) : psM B t np (t + 1) i = wk (B (t + 1) i) (B 49 i) := by
  unfold psM
  rw [if_pos ⟨rfl, hi⟩]
theorem rp_5 (hr : r < nr) : rpM A sc li np nr (sc + 13 + r) 5 = ppF (siM A sc (sc + 13 + r) li np) (A (sc + 13 + r) 5) (A (sc + 13 + r) 4) := by
  unfold rpM
  rw [if_pos (show sc + 13 ≤ sc + 13 + r ∧ sc + 13 + r < sc + 13 + nr by omega), if_pos rfl]
theorem rp_6 (hr : r < nr) : rpM A sc li np nr (sc + 13 + r) 6 = A (sc + 13 + r) 6 + paF (siM A sc (sc + 13 + r) li np) (A (sc + 13 + r) 5) := by
  unfold rpM
  rw [if_pos (show sc + 13 ≤ sc + 13 + r ∧ sc + 13 + r < sc + 13 + nr by omega), if_neg (by decide), if_pos rfl]
theorem qs_3 (hr : r < nr) : qsM B t li np nr (t + 3) r = ppF (swT B t li r np) (B (t + 3) r) (B 55 r) := by
  unfold qsM
  rw [if_pos ⟨rfl, hr⟩]
theorem qs_4 (hr : r < nr) : qsM B t li np nr (t + 4) r = B (t + 4) r + paF (swT B t li r np) (B (t + 3) r) := by
  unfold qsM
  rw [if_neg (by omega), if_pos ⟨rfl, hr⟩]
theorem st_P (ht : t = 56 ∨ t = 61) (h : RP A B sc t np) : RP (pwM A sc np) (psM B t np) sc t np := by
  intro i hi
  obtain ⟨p0, p1, p2, p3⟩ := h i hi
  rw [pw_at hi, pw_b (by decide), pw_b (by decide), pw_b (by decide), ps_at hi, psM_row (a := 49) (by omega), psM_row (a := 50) (by omega), psM_row (a := 51) (by omega), p0, p1]
  exact ⟨rfl, rfl, p2, p3⟩
theorem st_Q (ht : t = 56 ∨ t = 61) (h : RQ A B sc t r) (hp : np ≤ 10) : RQ (pwM A sc np) (psM B t np) sc t r := by
  unfold RQ
  rw [pwM_row' (by omega), psM_row (a := 52) (by omega), psM_row (a := 53) (by omega), psM_row (a := t + 2) (by omega), psM_row (a := 54) (by omega)]
  exact h
theorem st_V (ht : t = 56 ∨ t = 61) (h : RV A B sc t r) (hp : np ≤ 10) : RV (pwM A sc np) (psM B t np) sc t r := by
  unfold RV
  rw [pwM_row' (by omega), psM_row (a := 55) (by omega), psM_row (a := t + 3) (by omega), psM_row (a := t + 4) (by omega)]
  exact h
/-- the minute as a whole, over the cells that walk -/
theorem st_P2 {v v' : Int32} (ht : t = 56 ∨ t = 61) (hp : np ≤ 10) (h : RP A B sc t np) : RP (u2 (rpM A sc li np nr) sc 0 v) (u2 (qsM B t li np nr) t 0 v') sc t np := by
  intro i hi
  rw [u2_ne (show sc + 3 + i ≠ sc by omega), u2_ne (show t + 1 ≠ t by omega), u2_ne (show 49 ≠ t by omega), u2_ne (show 50 ≠ t by omega), u2_ne (show 51 ≠ t by omega), qsM_row (a := t + 1) (by omega), qsM_row (a := 49) (by omega), qsM_row (a := 50) (by omega), qsM_row (a := 51) (by omega), rpM_row (by omega)]
  exact h i hi
theorem st_Q2 {v v' : Int32} (ht : t = 56 ∨ t = 61) (h : RQ A B sc t r) : RQ (u2 (rpM A sc li np nr) sc 0 v) (u2 (qsM B t li np nr) t 0 v') sc t r := by
  unfold RQ
  rw [u2_ne (show sc + 13 + r ≠ sc by omega), u2_ne (show 52 ≠ t by omega), u2_ne (show 53 ≠ t by omega), u2_ne (show t + 2 ≠ t by omega), u2_ne (show 54 ≠ t by omega), qsM_row (a := 52) (by omega), qsM_row (a := 53) (by omega), qsM_row (a := t + 2) (by omega), qsM_row (a := 54) (by omega), rpM_st (by decide), rpM_st (by decide), rpM_st (by decide), rpM_st (by decide)]
  exact h
theorem st_V2 {v v' : Int32} (ht : t = 56 ∨ t = 61) (hr : r < nr) (hP : RP A B sc t np) (hQ : RQ A B sc t r) (h : RV A B sc t r) : RV (u2 (rpM A sc li np nr) sc 0 v) (u2 (qsM B t li np nr) t 0 v') sc t r := by
  obtain ⟨h4, h5, h6⟩ := h
  unfold RV
  rw [u2_ne (show sc + 13 + r ≠ sc by omega), u2_ne (show 55 ≠ t by omega), u2_ne (show t + 3 ≠ t by omega), u2_ne (show t + 4 ≠ t by omega), qsM_row (a := 55) (by omega), qs_3 hr, qs_4 hr, rpM_st (by decide), rp_5 hr, rp_6 hr, si_eq hP hQ, h4, h5, h6]
  exact ⟨rfl, rfl, rfl⟩
theorem pp_nat : ∀ c, c < 11 → ∀ s, s < 21 → ∀ p, p < s + 1 → ppF (nI c) (nI p) (nI s) = nI (ppF (nI c) (nI p) (nI s)).toNatClampNeg ∧ (ppF (nI c) (nI p) (nI s)).toNatClampNeg ≤ s := by decide +kernel
theorem pa_nat : ∀ c, c < 11 → ∀ p, p < 21 → paF (nI c) (nI p) = nI (paF (nI c) (nI p)).toNatClampNeg ∧ (paF (nI c) (nI p)).toNatClampNeg ≤ 40 := by decide +kernel
/-- a room's bounds over a minute -/
theorem st_D {v' : Int32} (ht : t = 56 ∨ t = 61) (hp : np ≤ 10) (hr : r < nr) (h : BD B t r k) : BD (u2 (qsM (psM B t np) t li np nr) t 0 v') t r (k + 1) := by
  obtain ⟨s, p, c, e1, h1, e2, h2, e3, h3⟩ := h
  obtain ⟨w, hw, ew⟩ := cnt_nat (P := fun i => wlT (psM B t np) t li r i) np
  have ew2 : swT (psM B t np) t li r np = nI w := ew
  obtain ⟨a1, a2⟩ := pp_nat w (by omega) s (by omega) p (by omega)
  obtain ⟨b1, b2⟩ := pa_nat w (by omega) p (by omega)
  refine ⟨s, (ppF (nI w) (nI p) (nI s)).toNatClampNeg, c + (paF (nI w) (nI p)).toNatClampNeg, ?_, h1, ?_, a2, ?_, by omega⟩
  · rw [u2_ne (show 55 ≠ t by omega), qsM_row (by omega), psM_row (by omega)]
    exact e1
  · rw [u2_ne (show t + 3 ≠ t by omega), qs_3 hr, ew2, psM_row (a := t + 3) (by omega), psM_row (a := 55) (by omega), e1, e2]
    exact a1
  · rw [u2_ne (show t + 4 ≠ t by omega), qs_4 hr, ew2, psM_row (a := t + 3) (by omega), psM_row (a := t + 4) (by omega), e2, e3, ← nI_add]
    rw [b1]
    congr 2
    exact congrArg _ b1
end PU3
