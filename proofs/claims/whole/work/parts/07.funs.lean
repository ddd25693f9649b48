section FUN

/-! what the methods answer, as plain functions; the class's and the reference's alike -/
def gn (x : Int32) : Int32 := if x = -1 then 1 else 0
def ab (x : Int32) : Int32 := if 0 ≤ x then x else 0 - x
def mn (x y : Int32) : Int32 := if y < x then y else x
def mx (x y : Int32) : Int32 := if x < y then y else x
def stp (v : Int32) : Int32 := if v < 0 then 0 else if 60 ≤ v then 0 else 1
def wk (x y : Int32) : Int32 := if gn x = 0 then (if stp (x + y) = 0 then -1 else x + y) else x
def shF (x rs dp : Int32) : Int32 := if gn x = 0 then (if 4 * dp < ab (x - rs) then 0 else 1) else 0
def brF (li br ho dp pa : Int32) : Int32 := li * br * ho * ho / (10 * dp * dp) * (10 - pa) / 10
def wlF (x rs dp ho ta li br pa : Int32) : Int32 := if shF x rs dp = 0 then 0 else if ta < ho * dp / 3 then 0 else if brF li br ho dp pa < 5 then 0 else 1
def paF (sh pe : Int32) : Int32 := if sh = 0 then 0 else pe * mn sh 2
def ppF (sh pe se : Int32) : Int32 := if sh = 0 then mx (pe - 1) 0 else if sh < 2 then pe else if se ≤ pe then pe else pe + 1
def cntF (P : Nat → Int32) : Nat → Int32
  | 0 => 0
  | n + 1 => if P n = 0 then cntF P n else cntF P n + 1
def sumF (P : Nat → Int32) : Nat → Int32
  | 0 => 0
  | n + 1 => sumF P n + P n
def setF (P : Nat → Int32) : Nat → Int32
  | 0 => 0
  | n + 1 => if P n = 0 then setF P n else setF P n ||| (1 <<< (nI n &&& 31))
def anyF (P : Nat → Int32) : Nat → Int32
  | 0 => 0
  | n + 1 => if P n = 0 then anyF P n else 1
theorem cntF_congr {P Q : Nat → Int32} : ∀ {n : Nat}, (∀ i, i < n → P i = Q i) → cntF P n = cntF Q n
  | 0, _ => rfl
  | n + 1, h => by
    unfold cntF
    rw [h n (Nat.lt_succ_self n), cntF_congr (fun i hi => h i (Nat.lt_succ_of_lt hi))]
theorem sumF_congr {P Q : Nat → Int32} : ∀ {n : Nat}, (∀ i, i < n → P i = Q i) → sumF P n = sumF Q n
  | 0, _ => rfl
  | n + 1, h => by
    unfold sumF
    rw [h n (Nat.lt_succ_self n), sumF_congr (fun i hi => h i (Nat.lt_succ_of_lt hi))]
theorem setF_congr {P Q : Nat → Int32} : ∀ {n : Nat}, (∀ i, i < n → P i = Q i) → setF P n = setF Q n
  | 0, _ => rfl
  | n + 1, h => by
    unfold setF
    rw [h n (Nat.lt_succ_self n), setF_congr (fun i hi => h i (Nat.lt_succ_of_lt hi))]
theorem anyF_hit {P : Nat → Int32} {i : Nat} (hp : ¬ P i = 0) : ∀ {n : Nat}, i < n → anyF P n = 1
  | 0, h => absurd h (Nat.not_lt_zero i)
  | n + 1, h => by
    unfold anyF
    by_cases hn : P n = 0
    · rw [if_pos hn]
      have : i ≠ n := fun z => hp (z ▸ hn)
      exact anyF_hit hp (by omega)
    · rw [if_neg hn]
theorem anyF_no {P : Nat → Int32} : ∀ {n : Nat}, (∀ i, i < n → P i = 0) → anyF P n = 0
  | 0, _ => rfl
  | n + 1, h => by
    unfold anyF
    rw [if_pos (h n (Nat.lt_succ_self n))]
    exact anyF_no (fun i hi => h i (Nat.lt_succ_of_lt hi))
theorem gn01 (x : Int32) : gn x = 0 ∨ gn x = 1 := by unfold gn; split <;> simp
/-- over the memory -/
def wlM (M : Mem) (r q : Nat) (li : Int32) : Int32 := wlF (M q 0) (M r 0) (M r 1) (M r 2) (M q 2) li (M q 3) (M r 3)
def shM (M : Mem) (r q : Nat) : Int32 := shF (M q 0) (M r 0) (M r 1)
def brM (M : Mem) (r q : Nat) (li : Int32) : Int32 := brF li (M q 3) (M r 2) (M r 1) (M r 3)
def siM (M : Mem) (sc r : Nat) (li : Int32) (n : Nat) : Int32 := cntF (fun i => wlM M r (sc + 3 + i) li) n
def rsM (M : Mem) (sc q : Nat) (li : Int32) (n : Nat) : Int32 := cntF (fun i => wlM M (sc + 13 + i) q li) n
def waM (M : Mem) (sc q n : Nat) : Int32 := setF (fun i => shM M (sc + 13 + i) q) n
def asM (M : Mem) (sc : Nat) (li : Int32) (np n : Nat) : Int32 := sumF (fun i => siM M sc (sc + 13 + i) li np) n
def peM (M : Mem) (sc n : Nat) : Int32 := sumF (fun i => M (sc + 13 + i) 5) n
def pnM (M : Mem) (sc n : Nat) : Int32 := sumF (fun i => M (sc + 13 + i) 6) n
def goM (M : Mem) (sc n : Nat) : Int32 := cntF (fun i => gn (M (sc + 3 + i) 0)) n
def atF (x v : Int32) : Int32 := if gn x = 0 then (if x = v then 1 else 0) else 0
def paM (M : Mem) (sc : Nat) (v : Int32) (n : Nat) : Int32 := cntF (fun i => atF (M (sc + 3 + i) 0) v) n
def hhF (x v : Int32) : Int32 := if x = v then 1 else 0
def hhM (M : Mem) (sc : Nat) (v : Int32) (n : Nat) : Int32 := anyF (fun i => hhF (M (sc + 13 + i) 0) v) n
def ltF (L C : Nat → Int32) (k : Nat) : Int32 := if k < 720 then L (k / 60) * (10 - C (k / 60)) / 10 else 0
/-- passers go -/
def pwM (M : Mem) (sc n : Nat) : Mem := fun a b => if (sc + 3 ≤ a ∧ a < sc + 3 + n) ∧ b = 0 then wk (M a 0) (M a 1) else M a b
/-- a room pays -/
def pyM (M : Mem) (r : Nat) (sh : Int32) : Mem := fun a b => if a = r then (if b = 5 then ppF sh (M r 5) (M r 4) else if b = 6 then M r 6 + paF sh (M r 5) else M a b) else M a b
/-- rooms pay -/
def rpM (M : Mem) (sc : Nat) (li : Int32) (np n : Nat) : Mem := fun a b => if sc + 13 ≤ a ∧ a < sc + 13 + n then (if b = 5 then ppF (siM M sc a li np) (M a 5) (M a 4) else if b = 6 then M a 6 + paF (siM M sc a li np) (M a 5) else M a b) else M a b
def rpS (M : Mem) (sc : Nat) (li : Int32) (np n : Nat) : Int32 := sumF (fun i => paF (siM M sc (sc + 13 + i) li np) (M (sc + 13 + i) 5)) n
/-- the trial becomes as now is -/
def cpM (M : Mem) (np nr : Nat) : Mem := fun a b => if a = 25 then (if b < 3 then M 4 b else M a b) else if (28 ≤ a ∧ a < 28 + np) ∧ b < 4 then M (a - 21) b else if (38 ≤ a ∧ a < 38 + nr) ∧ b < 7 then M (a - 21) b else M a b
def cmM (M : Mem) (h : Nat) (a b c d : Int32) : Mem := u2 (u2 (u2 (u2 M h 0 a) h 1 b) h 2 c) h 3 d
def bdM (M : Mem) (h : Nat) (a b c : Int32) : Mem := u2 (u2 (u2 (u2 M h 0 a) h 1 b) h 4 c) h 2 3
/-- cells' kinds -/
theorem kdS {sc : Nat} (h : sc = 4 ∨ sc = 25) : kd sc = 2 := by rcases h with rfl | rfl <;> decide
theorem kdS1 {sc : Nat} (h : sc = 4 ∨ sc = 25) : kd (sc + 1) = 8 := by rcases h with rfl | rfl <;> decide
theorem kdS2 {sc : Nat} (h : sc = 4 ∨ sc = 25) : kd (sc + 2) = 9 := by rcases h with rfl | rfl <;> decide
theorem kdSp {sc i : Nat} (h : sc = 4 ∨ sc = 25) (hi : i < 10) : kd (sc + 3 + i) = 0 := by
  rcases h with rfl | rfl
  · exact (by decide : ∀ i, i < 10 → kd (4 + 3 + i) = 0) i hi
  · exact (by decide : ∀ i, i < 10 → kd (25 + 3 + i) = 0) i hi
theorem kdSr {sc i : Nat} (h : sc = 4 ∨ sc = 25) (hi : i < 8) : kd (sc + 13 + i) = 1 := by
  rcases h with rfl | rfl
  · exact (by decide : ∀ i, i < 8 → kd (4 + 13 + i) = 1) i hi
  · exact (by decide : ∀ i, i < 8 → kd (25 + 13 + i) = 1) i hi
theorem kdT {t : Nat} (h : t = 56 ∨ t = 61) : kd t = 5 := by rcases h with rfl | rfl <;> decide
theorem kdT1 {t : Nat} (h : t = 56 ∨ t = 61) : kd (t + 1) = 7 := by rcases h with rfl | rfl <;> decide
theorem kdT2 {t : Nat} (h : t = 56 ∨ t = 61) : kd (t + 2) = 7 := by rcases h with rfl | rfl <;> decide
theorem kdT3 {t : Nat} (h : t = 56 ∨ t = 61) : kd (t + 3) = 7 := by rcases h with rfl | rfl <;> decide
theorem kdT4 {t : Nat} (h : t = 56 ∨ t = 61) : kd (t + 4) = 7 := by rcases h with rfl | rfl <;> decide
theorem lnT1 {t : Nat} (h : t = 56 ∨ t = 61) : ln (t + 1) = 10 := by rcases h with rfl | rfl <;> decide
theorem lnT2 {t : Nat} (h : t = 56 ∨ t = 61) : ln (t + 2) = 8 := by rcases h with rfl | rfl <;> decide
theorem lnT3 {t : Nat} (h : t = 56 ∨ t = 61) : ln (t + 3) = 8 := by rcases h with rfl | rfl <;> decide
theorem lnT4 {t : Nat} (h : t = 56 ∨ t = 61) : ln (t + 4) = 8 := by rcases h with rfl | rfl <;> decide
/-- a loop's guard -/
theorem lp_ge {i n : Nat} (h : nI n ≤ nI i) (hn : n < 64) (hi : i ≤ n) : i = n := by
  have := (nI_leI (by omega) (by omega)).mp h
  omega
theorem lp_lt {i n : Nat} (h : ¬ nI n ≤ nI i) (hn : n < 64) (hi : i ≤ n) : i < n := by
  rcases Nat.lt_or_ge i n with q | q
  · exact q
  · exact absurd (nI_le q (by omega)) h
/-- how the writes come together -/
theorem pwM_0 {M : Mem} {sc : Nat} : pwM M sc 0 = M := by
  funext a b
  unfold pwM
  rw [if_neg (by omega)]
theorem pwM_s {M : Mem} {sc i : Nat} : u2 (pwM M sc i) (sc + 3 + i) 0 (wk (pwM M sc i (sc + 3 + i) 0) (pwM M sc i (sc + 3 + i) 1)) = pwM M sc (i + 1) := by
  funext a b
  unfold u2
  by_cases h : a = sc + 3 + i ∧ b = 0
  · obtain ⟨rfl, rfl⟩ := h
    rw [if_pos ⟨rfl, rfl⟩]
    unfold pwM
    rw [if_neg (by omega), if_neg (by omega), if_pos (by omega)]
  · rw [if_neg h]
    unfold pwM
    by_cases h2 : (sc + 3 ≤ a ∧ a < sc + 3 + i) ∧ b = 0
    · rw [if_pos h2, if_pos (by omega)]
    · rw [if_neg h2, if_neg (by omega)]
theorem pwM_sl {M : Mem} {sc n j : Nat} {a : Nat} (h : a < sc + 3 ∨ sc + 3 + n ≤ a) : pwM M sc n a j = M a j := by
  unfold pwM
  rw [if_neg (by omega)]
end FUN
section MTH
variable {p : Program} {l : Launch} {e : Env} {R : Room} {s : State} {m : MethodId} {args : Array Value} {below : List Frame} {meth : Method} {c : Code} {H : Heap} {locs : List Loc} {cells slots : Nat} {Q : State → Prop} {cc : ByteArray} {pc : Nat} {ls : Array Slot} {rest : List Value} {own : String} {nL : Nat} {G : GG} {sz : Nat} {M : Mem} {o : Nat → Int64}
theorem mt_abs : Cond.static Lib.Math.abs.name ∈ UU ∧ Cond.initialized "java/lang/Math" ∈ UU ∧ Cond.code Lib.Math.abs.name Lib.Math.abs.code 1 (some .int) ∈ UU := ⟨List.mem_filter.mpr ⟨List.mem_append_right _ (List.mem_append_left _ (List.mem_of_getElem? (i := 200) rfl)), rfl⟩, List.mem_filter.mpr ⟨List.mem_append_right _ (List.mem_append_left _ (List.mem_of_getElem? (i := 14) rfl)), rfl⟩, List.mem_filter.mpr ⟨List.mem_append_right _ (List.mem_append_left _ (List.mem_of_getElem? (i := 201) rfl)), rfl⟩⟩
theorem mt_min : Cond.static Lib.Math.min.name ∈ UU ∧ Cond.initialized "java/lang/Math" ∈ UU ∧ Cond.code Lib.Math.min.name Lib.Math.min.code 2 (some .int) ∈ UU := ⟨List.mem_filter.mpr ⟨List.mem_append_right _ (List.mem_append_right _ (List.mem_append_left _ (List.mem_of_getElem? (i := 214) rfl))), rfl⟩, List.mem_filter.mpr ⟨List.mem_append_right _ (List.mem_append_left _ (List.mem_of_getElem? (i := 14) rfl)), rfl⟩, List.mem_filter.mpr ⟨List.mem_append_right _ (List.mem_append_right _ (List.mem_append_left _ (List.mem_of_getElem? (i := 215) rfl))), rfl⟩⟩
theorem mt_max : Cond.static Lib.Math.max.name ∈ UU ∧ Cond.initialized "java/lang/Math" ∈ UU ∧ Cond.code Lib.Math.max.name Lib.Math.max.code 2 (some .int) ∈ UU := ⟨List.mem_filter.mpr ⟨List.mem_append_right _ (List.mem_append_right _ (List.mem_append_left _ (List.mem_of_getElem? (i := 235) rfl))), rfl⟩, List.mem_filter.mpr ⟨List.mem_append_right _ (List.mem_append_left _ (List.mem_of_getElem? (i := 14) rfl)), rfl⟩, List.mem_filter.mpr ⟨List.mem_append_right _ (List.mem_append_right _ (List.mem_append_left _ (List.mem_of_getElem? (i := 236) rfl))), rfl⟩⟩
theorem ml_X1_44 : Cond.methodLink RX1 44 Lib.Math.abs.name ∈ UU := List.mem_filter.mpr ⟨List.mem_append_right _ (List.mem_append_left _ (List.mem_of_getElem? (i := 199) rfl)), rfl⟩
theorem ml_X1_68 : Cond.methodLink RX1 68 Lib.Math.max.name ∈ UU := List.mem_filter.mpr ⟨List.mem_append_right _ (List.mem_append_right _ (List.mem_append_left _ (List.mem_of_getElem? (i := 234) rfl))), rfl⟩
theorem ml_X1_72 : Cond.methodLink RX1 72 Lib.Math.min.name ∈ UU := List.mem_filter.mpr ⟨List.mem_append_right _ (List.mem_append_right _ (List.mem_append_left _ (List.mem_of_getElem? (i := 237) rfl))), rfl⟩
theorem ml_X4_213 : Cond.methodLink RX4 213 Lib.Math.min.name ∈ UU := List.mem_filter.mpr ⟨List.mem_append_right _ (List.mem_append_right _ (List.mem_append_left _ (List.mem_of_getElem? (i := 213) rfl))), rfl⟩
theorem ml_X5_51 : Cond.methodLink RX5 51 Lib.Math.abs.name ∈ UU := List.mem_filter.mpr ⟨List.mem_append_right _ (List.mem_append_right _ (List.mem_append_right _ (List.mem_append_left _ (List.mem_of_getElem? (i := 201) rfl)))), rfl⟩
theorem ml_X5_100 : Cond.methodLink RX5 100 Lib.Math.max.name ∈ UU := List.mem_filter.mpr ⟨List.mem_append_right _ (List.mem_append_right _ (List.mem_append_right _ (List.mem_append_right _ (List.mem_of_getElem? (i := 28) rfl)))), rfl⟩
theorem ml_X5_103 : Cond.methodLink RX5 103 Lib.Math.min.name ∈ UU := List.mem_filter.mpr ⟨List.mem_append_right _ (List.mem_append_right _ (List.mem_append_right _ (List.mem_append_right _ (List.mem_of_getElem? (i := 29) rfl)))), rfl⟩
theorem m_abs (C0 : CX p s m args meth c cc own nL G sz) {idx : Nat} (hlink : Cond.methodLink own idx Lib.Math.abs.name ∈ UU) (hls : ls.size = nL) (hR : (rest.map fun v => v.category).sum ≤ 8 ∧ 1 ≤ R.frames ∧ 21 ≤ R.locals) (hroom : cells ≤ R.cells ∧ slots ≤ R.slots) {x : Int32} (dg : decode cc pc = .ok (.invokestatic idx, 3))
    (kk : W p l e R s m args below meth c H locs cells slots Q (F0 m (pc + 3) ls (.int (ab x) :: rest))) : W p l e R s m args below meth c H locs cells slots Q (F0 m pc ls (.int x :: rest)) :=
  va_mabs C0.1 C0.2.1 (by rw [C0.2.2.1, hls]) C0.ow (C0.ts _ hlink) (C0.ts _ mt_abs.1) (C0.ts _ mt_abs.2.1) (C0.ts _ mt_abs.2.2) hR.2.1 (by omega) hroom.1 hroom.2 dg kk
theorem m_min (C0 : CX p s m args meth c cc own nL G sz) {idx : Nat} (hlink : Cond.methodLink own idx Lib.Math.min.name ∈ UU) (hls : ls.size = nL) (hR : (rest.map fun v => v.category).sum ≤ 8 ∧ 1 ≤ R.frames ∧ 21 ≤ R.locals) (hroom : cells ≤ R.cells ∧ slots ≤ R.slots) {x y : Int32} (dg : decode cc pc = .ok (.invokestatic idx, 3))
    (kk : W p l e R s m args below meth c H locs cells slots Q (F0 m (pc + 3) ls (.int (mn x y) :: rest))) : W p l e R s m args below meth c H locs cells slots Q (F0 m pc ls (.int y :: .int x :: rest)) :=
  va_mmin C0.1 C0.2.1 (by rw [C0.2.2.1, hls]) C0.ow (C0.ts _ hlink) (C0.ts _ mt_min.1) (C0.ts _ mt_min.2.1) (C0.ts _ mt_min.2.2) hR.2.1 (by omega) hroom.1 hroom.2 dg kk
theorem m_max (C0 : CX p s m args meth c cc own nL G sz) {idx : Nat} (hlink : Cond.methodLink own idx Lib.Math.max.name ∈ UU) (hls : ls.size = nL) (hR : (rest.map fun v => v.category).sum ≤ 8 ∧ 1 ≤ R.frames ∧ 21 ≤ R.locals) (hroom : cells ≤ R.cells ∧ slots ≤ R.slots) {x y : Int32} (dg : decode cc pc = .ok (.invokestatic idx, 3))
    (kk : W p l e R s m args below meth c H locs cells slots Q (F0 m (pc + 3) ls (.int (mx x y) :: rest))) : W p l e R s m args below meth c H locs cells slots Q (F0 m pc ls (.int y :: .int x :: rest)) :=
  va_mmax C0.1 C0.2.1 (by rw [C0.2.2.1, hls]) C0.ow (C0.ts _ hlink) (C0.ts _ mt_max.1) (C0.ts _ mt_max.2.1) (C0.ts _ mt_max.2.2) hR.2.1 (by omega) hroom.1 hroom.2 dg kk
end MTH
