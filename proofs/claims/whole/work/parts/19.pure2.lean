section PU2
variable {A B A' B' : Mem} {np nr k : Nat}
theorem nJ_of {x : Int32} (h : ¬ x < 0) : ∃ n : Nat, x = nI n ∧ n < 2 ^ 31 := by
  have h0 : (0 : Int) ≤ x.toInt := by
    have := Int32.not_lt.mp h
    simpa using Int32.le_iff_toInt_le.mp this
  have h1 : x.toInt < 2 ^ 31 := Int32.toInt_lt x
  refine ⟨x.toInt.toNat, ?_, by omega⟩
  apply Int32.toInt_inj.mp
  rw [nI_toInt (by omega)]
  omega
theorem nJ_in {x : Int32} {b : Nat} (hb : b < 2000) (h : ¬ x < 0) (h2 : ¬ nI b < x) : ∃ n : Nat, x = nI n ∧ n ≤ b := by
  obtain ⟨n, e, hn⟩ := nJ_of h
  refine ⟨n, e, ?_⟩
  rcases Nat.lt_or_ge b n with z | z
  · exact absurd (by rw [e, Int32.lt_iff_toInt_lt, nI_toInt (by omega), nI_toInt hn]; omega) h2
  · exact z
theorem in_nat {x : Int32} {a b : Nat} (hb : a < 2000 ∧ b < 2000) (h : ¬ inF x (nI a) (nI b) = 0) : ∃ n : Nat, x = nI n ∧ a ≤ n ∧ n ≤ b := by
  rw [inF_0] at h
  have h1 : ¬ x < nI a := fun z => h (Or.inl z)
  have h2 : ¬ nI b < x := fun z => h (Or.inr z)
  · have h0 : ¬ x < 0 := by
      intro z
      apply h1
      rw [Int32.lt_iff_toInt_lt] at z ⊢
      rw [nI_toInt (by omega)]
      have : (0 : Int32).toInt = 0 := by decide
      omega
    obtain ⟨n, e, hn⟩ := nJ_in hb.2 h0 h2
    refine ⟨n, e, ?_, hn⟩
    rcases Nat.lt_or_ge n a with z | z
    · exact absurd (by rw [e, Int32.lt_iff_toInt_lt, nI_toInt (by omega), nI_toInt (by omega)]; omega) h1
    · exact z
theorem R2_ext (h : R2 A B np nr k) (hA : ∀ a, a < 25 → A' a = A a) (h1 : B' 46 1 = B 46 1) (h2 : B' 46 2 = B 46 2) (hB : ∀ a, 47 ≤ a → a < 61 → B' a = B a) : R2 A' B' np nr k := by
  obtain ⟨hO, hN, hK, hP, hQ, hD, hL, hZ⟩ := h
  refine ⟨?_, ?_, ?_, ?_, ?_, ?_, ?_, ?_⟩
  · unfold OKM at hO ⊢
    rw [hA 4 (by omega)]
    exact hO
  · rw [h1, h2, hB 56 (by omega) (by omega)]
    exact hN
  · intro j hj
    rw [hA 2 (by omega), hA 3 (by omega), hB 47 (by omega) (by omega), hB 48 (by omega) (by omega)]
    exact hK j hj
  · intro i hi
    have := hO.2.1
    rw [hA (4 + 3 + i) (by omega), hB (56 + 1) (by omega) (by omega), hB 49 (by omega) (by omega), hB 50 (by omega) (by omega), hB 51 (by omega) (by omega)]
    exact hP i hi
  · intro r hr
    have := hO.2.2.2.1
    unfold RQ RV
    rw [hA (4 + 13 + r) (by omega), hB 52 (by omega) (by omega), hB 53 (by omega) (by omega), hB (56 + 2) (by omega) (by omega), hB 54 (by omega) (by omega), hB 55 (by omega) (by omega), hB (56 + 3) (by omega) (by omega), hB (56 + 4) (by omega) (by omega)]
    exact hQ r hr
  · intro r hr
    unfold BD BF
    rw [hB 53 (by omega) (by omega), hB 55 (by omega) (by omega), hB (56 + 3) (by omega) (by omega), hB (56 + 4) (by omega) (by omega)]
    exact hD r hr
  · intro j hj
    rw [hB 47 (by omega) (by omega), hB 48 (by omega) (by omega)]
    exact hL j hj
  · intro r h8 h9
    rw [hA (4 + 13 + r) (by omega), hB 54 (by omega) (by omega), hB 59 (by omega) (by omega), hB 60 (by omega) (by omega)]
    exact hZ r h8 h9
theorem R2_z {v : Int32} (h : R2 A B np nr k) : R2 A (u2 B 46 0 v) np nr k := R2_ext h (fun _ _ => rfl) (u2_sl (by decide)) (u2_sl (by decide)) (fun a h1 h2 => u2_ne (by omega))
theorem cmM_at {M : Mem} {h : Nat} {a b c d : Int32} : cmM M h a b c d h 0 = a ∧ cmM M h a b c d h 1 = b ∧ cmM M h a b c d h 2 = c ∧ cmM M h a b c d h 3 = d := by simp [cmM, u2]
theorem cmM_row {M : Mem} {h a : Nat} {a1 a2 a3 a4 : Int32} (hne : a ≠ h) : cmM M h a1 a2 a3 a4 a = M a := by
  funext j
  exact cmM_lo hne
theorem bdM_row {M : Mem} {h a : Nat} {a1 a2 a3 : Int32} (hne : a ≠ h) : bdM M h a1 a2 a3 a = M a := by
  funext j
  exact bdM_lo hne
theorem m_pass (h : R2 A B np nr k) (hp : np < 10) (a1 a2 a3 a4 : Int32) : R2 (u2 (cmM A (4 + 3 + np) a1 a2 a3 a4) 4 1 (nI (np + 1))) (u2 (u2 (u2 (u2 (u2 B 57 np a1) 49 np a2) 50 np a3) 51 np a4) 46 1 (nI (np + 1))) (np + 1) nr k := by
  obtain ⟨⟨o1, o2, o3, o4, o5, o6⟩, ⟨n1, n2, n3⟩, hK, hP, hQ, hD, hL, hZ⟩ := h
  have hA : ∀ a, a ≠ 4 → a ≠ 4 + 3 + np → u2 (cmM A (4 + 3 + np) a1 a2 a3 a4) 4 1 (nI (np + 1)) a = A a := fun a h1 h2 => by rw [u2_ne h1, cmM_row h2]
  have hB : ∀ a, a ≠ 57 → a ≠ 49 → a ≠ 50 → a ≠ 51 → a ≠ 46 → u2 (u2 (u2 (u2 (u2 B 57 np a1) 49 np a2) 50 np a3) 51 np a4) 46 1 (nI (np + 1)) a = B a := fun a h1 h2 h3 h4 h5 => by rw [u2_ne h5, u2_ne h4, u2_ne h3, u2_ne h2, u2_ne h1]
  refine ⟨⟨u2_at, by omega, ?_, o4, ?_, o6⟩, ⟨u2_at, ?_, ?_⟩, ?_, ?_, ?_, ?_, ?_, ?_⟩
  · rw [u2_sl (by decide), cmM_lo (by omega)]
    exact o3
  · rw [u2_sl (by decide), cmM_lo (by omega)]
    exact o5
  · rw [u2_sl (by decide), u2_ne (by decide), u2_ne (by decide), u2_ne (by decide), u2_ne (by decide)]
    exact n2
  · rw [hB 56 (by decide) (by decide) (by decide) (by decide) (by decide)]
    exact n3
  · intro j hj
    rw [hA 2 (by omega) (by omega), hA 3 (by omega) (by omega), hB 47 (by decide) (by decide) (by decide) (by decide) (by decide), hB 48 (by decide) (by decide) (by decide) (by decide) (by decide)]
    exact hK j hj
  · intro i hi
    by_cases e : i = np
    · subst e
      rw [u2_ne (show 4 + 3 + i ≠ 4 by omega)]
      refine ⟨?_, ?_, ?_, ?_⟩
      · rw [cmM_at.1]; simp [u2]
      · rw [cmM_at.2.1]; simp [u2]
      · rw [cmM_at.2.2.1]; simp [u2]
      · rw [cmM_at.2.2.2]; simp [u2]
    · rw [hA (4 + 3 + i) (by omega) (by omega)]
      obtain ⟨p0, p1, p2, p3⟩ := hP i (by omega)
      refine ⟨?_, ?_, ?_, ?_⟩
      · rw [p0]; simp [u2, e]
      · rw [p1]; simp [u2, e]
      · rw [p2]; simp [u2, e]
      · rw [p3]; simp [u2, e]
  · intro r hr
    unfold RQ RV
    rw [hA (4 + 13 + r) (by omega) (by omega), hB 52 (by decide) (by decide) (by decide) (by decide) (by decide), hB 53 (by decide) (by decide) (by decide) (by decide) (by decide), hB (56 + 2) (by decide) (by decide) (by decide) (by decide) (by decide), hB 54 (by decide) (by decide) (by decide) (by decide) (by decide), hB 55 (by decide) (by decide) (by decide) (by decide) (by decide), hB (56 + 3) (by decide) (by decide) (by decide) (by decide) (by decide), hB (56 + 4) (by decide) (by decide) (by decide) (by decide) (by decide)]
    exact hQ r hr
  · intro r hr
    unfold BD BF
    rw [hB 53 (by decide) (by decide) (by decide) (by decide) (by decide), hB 55 (by decide) (by decide) (by decide) (by decide) (by decide), hB (56 + 3) (by decide) (by decide) (by decide) (by decide) (by decide), hB (56 + 4) (by decide) (by decide) (by decide) (by decide) (by decide)]
    exact hD r hr
  · intro j hj
    rw [hB 47 (by decide) (by decide) (by decide) (by decide) (by decide), hB 48 (by decide) (by decide) (by decide) (by decide) (by decide)]
    exact hL j hj
  · intro r h8 h9
    rw [hA (4 + 13 + r) (by omega) (by omega), hB 54 (by decide) (by decide) (by decide) (by decide) (by decide), hB 59 (by decide) (by decide) (by decide) (by decide) (by decide), hB 60 (by decide) (by decide) (by decide) (by decide) (by decide)]
    exact hZ r h8 h9
theorem m_setLight (h : R2 A B np nr k) {x : Nat} (hx : x < 12) {a2 a3 : Int32} (hb : ¬ bdL a2 a3) : R2 (u2 (u2 A 2 x a2) 3 x a3) (u2 (u2 B 47 x a2) 48 x a3) np nr k := by
  obtain ⟨⟨o1, o2, o3, o4, o5, o6⟩, ⟨n1, n2, n3⟩, hK, hP, hQ, hD, hL, hZ⟩ := h
  rw [bdL_in] at hb
  obtain ⟨u, e2, -, hu⟩ := in_nat (x := a2) (a := 0) (b := 100) (by decide) (fun z => hb (Or.inl z))
  obtain ⟨w, e3, -, hw⟩ := in_nat (x := a3) (a := 0) (b := 9) (by decide) (fun z => hb (Or.inr z))
  have hA : ∀ a, a ≠ 2 → a ≠ 3 → u2 (u2 A 2 x a2) 3 x a3 a = A a := fun a h1 h2 => by rw [u2_ne h2, u2_ne h1]
  have hB : ∀ a, a ≠ 47 → a ≠ 48 → u2 (u2 B 47 x a2) 48 x a3 a = B a := fun a h1 h2 => by rw [u2_ne h2, u2_ne h1]
  refine ⟨?_, ?_, ?_, ?_, ?_, ?_, ?_, ?_⟩
  · unfold OKM
    rw [hA 4 (by omega) (by omega)]
    exact ⟨o1, o2, o3, o4, o5, o6⟩
  · rw [hB 46 (by omega) (by omega), hB 56 (by omega) (by omega)]
    exact ⟨n1, n2, n3⟩
  · intro j hj
    by_cases e : j = x
    · subst e
      simp [u2]
    · have := hK j hj
      simpa [u2, e] using this
  · intro i hi
    rw [hA (4 + 3 + i) (by omega) (by omega), hB (56 + 1) (by omega) (by omega), hB 49 (by omega) (by omega), hB 50 (by omega) (by omega), hB 51 (by omega) (by omega)]
    exact hP i hi
  · intro r hr
    unfold RQ RV
    rw [hA (4 + 13 + r) (by omega) (by omega), hB 52 (by omega) (by omega), hB 53 (by omega) (by omega), hB (56 + 2) (by omega) (by omega), hB 54 (by omega) (by omega), hB 55 (by omega) (by omega), hB (56 + 3) (by omega) (by omega), hB (56 + 4) (by omega) (by omega)]
    exact hQ r hr
  · intro r hr
    unfold BD BF
    rw [hB 53 (by omega) (by omega), hB 55 (by omega) (by omega), hB (56 + 3) (by omega) (by omega), hB (56 + 4) (by omega) (by omega)]
    exact hD r hr
  · intro j hj
    by_cases e : j = x
    · subst e
      exact ⟨u, w, by simp [u2, e2], hu, by simp [u2, e3], hw⟩
    · obtain ⟨u', w', q1, q2, q3, q4⟩ := hL j hj
      exact ⟨u', w', by simpa [u2, e] using q1, q2, by simpa [u2, e] using q3, q4⟩
  · intro r h8 h9
    rw [hA (4 + 13 + r) (by omega) (by omega), hB 54 (by omega) (by omega), hB 59 (by omega) (by omega), hB 60 (by omega) (by omega)]
    exact hZ r h8 h9
/-- one slot of one room -/
theorem m_slot (h : R2 A B np nr k) {r j c : Nat} {v : Int32} (hr : r < nr) (hc : (j = 2 ∧ c = 58) ∨ (j = 3 ∧ c = 54) ∨ (j = 5 ∧ c = 59)) (hv : j = 5 → ∀ s : Nat, B 55 r = nI s → s ≤ 20 → ∃ p : Nat, v = nI p ∧ p ≤ s) : R2 (u2 A (4 + 13 + r) j v) (u2 B c r v) np nr k := by
  obtain ⟨⟨o1, o2, o3, o4, o5, o6⟩, ⟨n1, n2, n3⟩, hK, hP, hQ, hD, hL, hZ⟩ := h
  have hA : ∀ a, a ≠ 4 + 13 + r → u2 A (4 + 13 + r) j v a = A a := fun a h1 => u2_ne h1
  have hB : ∀ a, a ≠ c → u2 B c r v a = B a := fun a h1 => u2_ne h1
  refine ⟨?_, ?_, ?_, ?_, ?_, ?_, ?_, ?_⟩
  · unfold OKM
    rw [hA 4 (by omega)]
    exact ⟨o1, o2, o3, o4, o5, o6⟩
  · rw [hB 46 (by omega), hB 56 (by omega)]
    exact ⟨n1, n2, n3⟩
  · intro i hi
    rw [hA 2 (by omega), hA 3 (by omega), hB 47 (by omega), hB 48 (by omega)]
    exact hK i hi
  · intro i hi
    rw [hA (4 + 3 + i) (by omega), hB (56 + 1) (by omega), hB 49 (by omega), hB 50 (by omega), hB 51 (by omega)]
    exact hP i hi
  · intro i hi
    by_cases e : i = r
    · subst e
      obtain ⟨⟨q0, q1, q2, q3⟩, q4, q5, q6⟩ := hQ i hi
      unfold RQ RV
      rcases hc with ⟨rfl, rfl⟩ | ⟨rfl, rfl⟩ | ⟨rfl, rfl⟩ <;> simp [u2, q0, q1, q2, q3, q4, q5, q6]
    · unfold RQ RV
      rw [hA (4 + 13 + i) (by omega)]
      have := hQ i hi
      unfold RQ RV at this
      rcases hc with ⟨rfl, rfl⟩ | ⟨rfl, rfl⟩ | ⟨rfl, rfl⟩ <;> simpa [u2, e] using this
  · intro i hi
    by_cases e : i = r
    · subst e
      obtain ⟨⟨s, p, x, b1, b2, b3, b4, b5, b6⟩, d, d1, d2, d3⟩ := hD i hi
      rcases hc with ⟨rfl, rfl⟩ | ⟨rfl, rfl⟩ | ⟨rfl, rfl⟩
      · exact ⟨⟨s, p, x, by simpa [u2] using b1, b2, by simpa [u2] using b3, b4, by simpa [u2] using b5, b6⟩, d, by simpa [u2] using d1, d2, d3⟩
      · exact ⟨⟨s, p, x, by simpa [u2] using b1, b2, by simpa [u2] using b3, b4, by simpa [u2] using b5, b6⟩, d, by simpa [u2] using d1, d2, d3⟩
      · obtain ⟨p', c2, c3⟩ := hv rfl s b1 b2
        exact ⟨⟨s, p', x, by simpa [u2] using b1, b2, by simp [u2, c2], c3, by simpa [u2] using b5, b6⟩, d, by simpa [u2] using d1, d2, d3⟩
    · have := hD i hi
      unfold BD BF at this ⊢
      rcases hc with ⟨rfl, rfl⟩ | ⟨rfl, rfl⟩ | ⟨rfl, rfl⟩ <;> simpa [u2, e] using this
  · intro i hi
    rw [hB 47 (by omega), hB 48 (by omega)]
    exact hL i hi
  · intro i h8 h9
    rw [hA (4 + 13 + i) (by omega)]
    have := hZ i h8 h9
    have e : i ≠ r := by omega
    rcases hc with ⟨rfl, rfl⟩ | ⟨rfl, rfl⟩ | ⟨rfl, rfl⟩ <;> simpa [u2, e] using this
end PU2
