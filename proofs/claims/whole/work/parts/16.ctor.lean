section CTR
variable {p : Program} {l : Launch} {e : Env} {R : Room} {s : State} {m : MethodId} {args : Array Value} {below : List Frame} {meth : Method} {c : Code} {H : Heap} {locs : List Loc} {cells slots : Nat} {Q : State → Prop} {cc : ByteArray} {pc : Nat} {ls : Array Slot} {rest : List Value} {own : String} {nL : Nat} {G : GG} {sz : Nat} {M : Mem} {o : Nat → Int64}
variable {k n : Nat} {E : Nat → va_E}
/-! making the world: its cells lie one behind the other -/
def aK (G : GG) (k : Nat) : Nat → Prop := fun q => adr G k ≤ q
def linG (G : GG) : Prop := ∀ k, adr G (k + 1) = adr G k + 1
theorem lin_add (h : linG G) (k : Nat) : ∀ p, adr G (k + p) = adr G k + p
  | 0 => rfl
  | p + 1 => by rw [← Nat.add_assoc, h, lin_add h k p, Nat.add_assoc]
theorem lin_inj (h : linG G) : injG G := fun i j _ _ e => by
  have h1 := lin_add h 0 i
  have h2 := lin_add h 0 j
  rw [Nat.zero_add] at h1 h2
  omega
def BZ (G : GG) (k n : Nat) (E : Nat → va_E) (H : Heap) : Prop := H.size = adr G (k + n) ∧ ∀ p, p < n → va_at (DG G) vwCl (adr G (k + p), E p) H
def apE (E : Nat → va_E) (n : Nat) (E2 : Nat → va_E) : Nat → va_E := fun p => if p < n then E p else E2 (p - n)
def upE (E : Nat → va_E) (p : Nat) (e : va_E) : Nat → va_E := fun q => if q = p then e else E q
theorem BZ_eq {E' : Nat → va_E} (e : ∀ p, p < n → E p = E' p) (h : BZ G k n E H) : BZ G k n E' H := ⟨h.1, fun p hp => by rw [← e p hp]; exact h.2 p hp⟩
theorem aK_pA {k sz : Nat} (hL : linG G) (hs : sz = adr G (k + 1)) (hk : k < 67) : ∀ q, aK G k q → pA G sz q := by
  intro q hq
  unfold aK at hq
  rcases Nat.lt_or_ge q sz with z | z
  · refine Or.inl ⟨k, hk, ?_⟩
    rw [hs, hL] at z
    omega
  · exact Or.inr z
theorem aK_up {k n : Nat} (hL : linG G) : ∀ q, aK G (k + n) q → aK G k q := by
  intro q hq
  unfold aK at hq ⊢
  rw [lin_add hL] at hq
  omega
theorem va_S_mono {A A' : Nat → Prop} {H0 : Heap} (h : ∀ q, A q → A' q) (hS : va_S A H0 H locs) : va_S A' H0 H locs := ⟨hS.1, fun q h1 h2 => hS.2.1 q h1 (fun z => h2 (h q z)), fun l hl => h _ (hS.2.2 l hl)⟩
theorem BZ_put {H1 : Heap} {p : Nat} {e : va_E} (hL : linG G) (h : BZ G k n E H) (z : H1.size = H.size) (oq : ∀ q, q ≠ adr G (k + p) → H1[q]? = H[q]?) (he : va_at (DG G) vwCl (adr G (k + p), e) H1) : BZ G k n (upE E p e) H1 := by
  refine ⟨z.trans h.1, fun q hq => ?_⟩
  unfold upE
  by_cases e9 : q = p
  · subst e9
    rw [if_pos rfl]
    exact he
  · rw [if_neg e9]
    refine (h.2 q hq).kept (oq _ ?_)
    show adr G (k + q) ≠ adr G (k + p)
    rw [lin_add hL, lin_add hL]
    omega
theorem BZ_push {H1 : Heap} {e : va_E} (hL : linG G) (h : BZ G k n E H) (z : H1.size = H.size + 1) (o1 : ∀ q, q < H.size → H1[q]? = H[q]?) (he : va_at (DG G) vwCl (adr G (k + n), e) H1) : BZ G k (n + 1) (apE E n (fun _ => e)) H1 := by
  refine ⟨by rw [z, h.1, ← Nat.add_assoc, hL], fun q hq => ?_⟩
  unfold apE
  by_cases e9 : q < n
  · rw [if_pos e9]
    exact (h.2 q e9).kept (o1 _ (h.2 q e9).lt)
  · rw [if_neg e9, show q = n by omega]
    exact he
theorem BZ_one {e : va_E} (h : BZ G k (n + 1) E H) (he : E n = e) : BZ G (k + n) 1 (fun _ => e) H := ⟨h.1, fun p hp => by
  have := h.2 n (Nat.lt_succ_self n)
  rw [he] at this
  rw [show p = 0 by omega]
  exact this⟩
theorem BZ_call {H1 : Heap} {n2 : Nat} {E2 : Nat → va_E} (hL : linG G) (h : BZ G k (n + 1) E H) (h1 : BZ G (k + n) n2 E2 H1) (hk : ∀ q, q < H.size → ¬ aK G (k + n) q → H1[q]? = H[q]?) : BZ G k (n + n2) (apE E n E2) H1 := by
  refine ⟨by rw [h1.1, Nat.add_assoc], fun q hq => ?_⟩
  unfold apE
  by_cases e9 : q < n
  · rw [if_pos e9]
    refine (h.2 q (by omega)).kept (hk _ (h.2 q (by omega)).lt ?_)
    show ¬ adr G (k + n) ≤ adr G (k + q)
    rw [lin_add hL, lin_add hL]
    omega
  · rw [if_neg e9]
    have := h1.2 (q - n) (by omega)
    rw [show k + n + (q - n) = k + q by omega] at this
    exact this
theorem BZ_S {H0 H1 : Heap} {a j : Nat} (hS : va_S (aK G k) H0 H locs) (hL : linG G) (z : H1.size = H.size) (oq : ∀ q, q ≠ adr G (k + a) → H1[q]? = H[q]?) : va_S (aK G k) H0 H1 (locs ++ [⟨adr G (k + a), j⟩]) := hS.put z oq (by show adr G k ≤ adr G (k + a); rw [lin_add hL]; omega)
theorem BZ_N {H0 H1 : Heap} (hS : va_S (aK G k) H0 H locs) (z : H1.size = H.size + 1) (o1 : ∀ q, q < H.size → H1[q]? = H[q]?) : va_S (aK G k) H0 H1 locs := ⟨Nat.le_trans hS.1 (by omega), fun x h1 h2 => (o1 x (Nat.lt_of_lt_of_le h1 hS.1)).trans (hS.2.1 x h1 h2), hS.2.2⟩
theorem z_putF (C0 : CX p s m args meth c cc own nL G sz) (hin2 : meth.name = "<init>") (hL : linG G) (hB : BZ G k n E H) (hS : va_S (aK G k) s.heap H locs) (p0 : Nat) (hp : p0 < n) {ci idx N j : Nat} {T : u_T} {fs : List Value} {v : Value} {ty : FieldType} (hE : E p0 = .inr (ci, fs)) (hin : ∀ w ∈ u_ws own T N, w ∈ UU) (hc : vwCl[ci]? = some (own, T, N)) (ty0 : Nat → FieldType) (hty : ∀ k, k < N → parseFieldDescriptor (T k).2.2.1 = some (ty0 k)) (hnm : ∀ a, a < N → ∀ b, b < N → a ≠ b → (T a).2.1 ≠ (T b).2.1) (hj : j < N) (hown : (T j).1 = own)
    (hlink : Cond.fieldLink own idx own (T j).2.1 (T j).2.2.1 ∈ UU) (hfin : (T j).2.2.2 = true) (hd : parseFieldDescriptor (T j).2.2.1 = some ty) (hn : narrow ty v = v) (hfit : fits ty v = true) (hl : j < fs.length) (dg : decode cc pc = .ok (.putfield idx, 3))
    (kk : ∀ (H1 : Heap) (locs1 : List Loc), BZ G k n (upE E p0 (.inr (ci, fs.set j v))) H1 → va_S (aK G k) s.heap H1 locs1 → W p l e R s m args below meth c H1 locs1 cells slots Q (F0 m (pc + 3) ls (rest))) : W p l e R s m args below meth c H locs cells slots Q (F0 m pc ls (v :: .ref (adr G (k + p0)) :: rest)) := by
  have hap := va_apart (own := own) C0.ts hin ty0 hty hnm C0.K hc
  have hP := hB.2 p0 hp
  rw [hE] at hP
  obtain ⟨r, h1, cell, q1, q2, q3, q4⟩ := hP
  have hr : r = (own, T, N) := Option.some.inj (h1.symm.trans hc)
  subst hr
  obtain ⟨hS0, hfc, kC, hkC, hkind⟩ := C0.K.1 ci _ hc
  obtain ⟨cf, kf, fi, f, hi, hsl⟩ := hS0 j hj
  have hlay := C0.ts _ (hin _ (u_in_lay hj))
  unfold u_lay at hlay
  rw [if_pos hfin] at hlay
  have hst := (u_facts hfc hkC (u_lays C0.ts hin hj) hi).1
  have hcf : m.cls = cf := by
    obtain ⟨_, _, c', _, _, _, -, -, hf', -, -, -, hown2, -⟩ := Cond.laysFinal_spec hlay
    have e1 : c' = cf := by have := hi.symm.trans hf'; simp at this; exact this.1.symm
    rw [hown] at hown2
    rw [← e1]; exact Option.some.inj (C0.ow.symm.trans hown2)
  have h6 := u_fits hfc hkC hkind (Or.inr hlay) hi hd hn hfit
  rw [hown] at hi
  refine W.putFinK C0.1 C0.2.1 C0.ow (C0.ts _ hlink) hi hst hcf hin2 (by rw [q2]; exact h6) q1 q3 (by rw [hsl]; exact k2_hasslot (q4 j hj)) rfl rfl dg fun H' e1 e2 e3 => ?_
  rw [hsl] at e1 ⊢
  exact kk H' _ (BZ_put hL hB e2 e3 ⟨_, hc, t_OB.to (V := updV (vp_V fs) j v) ⟨_, e1, q2, q3, t_set q4 hap hj v⟩ (fun i _ => vp_updV_set hl v i)⟩) (BZ_S hS hL e2 e3)
theorem z_put (C0 : CX p s m args meth c cc own nL G sz) (hL : linG G) (hB : BZ G k n E H) (hS : va_S (aK G k) s.heap H locs) (p0 : Nat) (hp : p0 < n) {ci idx N j : Nat} {T : u_T} {fs : List Value} {v : Value} {ty : FieldType} (hE : E p0 = .inr (ci, fs)) (hin : ∀ w ∈ u_ws own T N, w ∈ UU) (hc : vwCl[ci]? = some (own, T, N)) (ty0 : Nat → FieldType) (hty : ∀ k, k < N → parseFieldDescriptor (T k).2.2.1 = some (ty0 k)) (hnm : ∀ a, a < N → ∀ b, b < N → a ≠ b → (T a).2.1 ≠ (T b).2.1) (hj : j < N) (hown : (T j).1 = own)
    (hlink : Cond.fieldLink own idx own (T j).2.1 (T j).2.2.1 ∈ UU) (hfin : (T j).2.2.2 = false) (hd : parseFieldDescriptor (T j).2.2.1 = some ty) (hn : narrow ty v = v) (hfit : fits ty v = true) (hl : j < fs.length) (dg : decode cc pc = .ok (.putfield idx, 3))
    (kk : ∀ (H1 : Heap) (locs1 : List Loc), BZ G k n (upE E p0 (.inr (ci, fs.set j v))) H1 → va_S (aK G k) s.heap H1 locs1 → W p l e R s m args below meth c H1 locs1 cells slots Q (F0 m (pc + 3) ls (rest))) : W p l e R s m args below meth c H locs cells slots Q (F0 m pc ls (v :: .ref (adr G (k + p0)) :: rest)) := by
  have hap := va_apart (own := own) C0.ts hin ty0 hty hnm C0.K hc
  have hP := hB.2 p0 hp
  rw [hE] at hP
  obtain ⟨r, h1, cell, q1, q2, q3, q4⟩ := hP
  have hr : r = (own, T, N) := Option.some.inj (h1.symm.trans hc)
  subst hr
  obtain ⟨hS0, hfc, kC, hkC, hkind⟩ := C0.K.1 ci _ hc
  obtain ⟨cf, kf, fi, f, hi, hsl⟩ := hS0 j hj
  have hlay := C0.ts _ (hin _ (u_in_lay hj))
  unfold u_lay at hlay
  rw [if_neg (by rw [hfin]; decide)] at hlay
  have hst := (u_facts hfc hkC (u_lays C0.ts hin hj) hi).1
  have h6 := u_store hfc hkC hkind hlay hi hd hn hfit
  rw [hown] at hi
  refine W.putK C0.1 C0.2.1 (f := f) ⟨C0.ow, C0.ts _ hlink, ⟨_, _, _, hi⟩, hst⟩ (by rw [q2]; exact h6) q1 q3 (by rw [hsl]; exact k2_hasslot (q4 j hj)) rfl rfl dg fun H' e1 e2 e3 => ?_
  rw [hsl] at e1 ⊢
  exact kk H' _ (BZ_put hL hB e2 e3 ⟨_, hc, t_OB.to (V := updV (vp_V fs) j v) ⟨_, e1, q2, q3, t_set q4 hap hj v⟩ (fun i _ => vp_updV_set hl v i)⟩) (BZ_S hS hL e2 e3)
theorem BZ_w (hB : BZ G k n E H) {p0 : Nat} (hp : p0 < n) {e : va_E} (hE : E p0 = e) : va_P (DG G) vwCl [(adr G (k + p0), e)] H := fun i q hq => by
  match i, hq with
  | 0, hq =>
    cases hq
    rw [← hE]
    exact hB.2 p0 hp
  | i + 1, hq => cases hq
theorem z_get (C0 : CX p s m args meth c cc own nL G sz) (hB : BZ G k n E H) (p0 : Nat) (hp : p0 < n) {ci j idx N : Nat} {T : u_T} {fs : List Value} {v : Value} (hE : E p0 = .inr (ci, fs)) (hin : ∀ w ∈ u_ws own T N, w ∈ UU) (hc : vwCl[ci]? = some (own, T, N)) (hj : j < N) (hown : (T j).1 = own)
    (hlink : Cond.fieldLink own idx own (T j).2.1 (T j).2.2.1 ∈ UU) (hv : fs[j]? = some v) (dg : decode cc pc = .ok (.getfield idx, 3)) (kk : W p l e R s m args below meth c H locs cells slots Q (F0 m (pc + 3) ls (v :: rest))) : W p l e R s m args below meth c H locs cells slots Q (F0 m pc ls (.ref (adr G (k + p0)) :: rest)) :=
  va_get (D := DG G) (ci := ci) (v := v) (C := own) (T := T) (N := N) (ref := own) C0.1 C0.2.1 C0.ts hin C0.ow C0.K (BZ_w hB hp hE) 0 rfl hc j hj (C0.ts _ hlink) (fun x h => by rw [hown] at h; exact h) hv dg kk
theorem z_new (C0 : CX p s m args meth c cc own nL G sz) (hL : linG G) (hB : BZ G k n E H) (hS : va_S (aK G k) s.heap H locs) {ci idx N : Nat} {C : String} {T : u_T} (hin : ∀ w ∈ u_ws C T N, w ∈ UU) (hc : vwCl[ci]? = some (C, T, N)) (ty : Nat → FieldType) (hty : ∀ k, k < N → parseFieldDescriptor (T k).2.2.1 = some (ty k)) (hcl : Cond.classLink own idx C ∈ UU) (hinst : Cond.instantiable C N ∈ UU) (hini : Cond.initialized C ∈ UU) (fs : List Value) (hfs : ∀ j, j < N → defaultValue (ty j) = vp_V fs j) (hcells : cells + 1 ≤ R.cells) (hslots : slots + N ≤ R.slots) (dg : decode cc pc = .ok (.new idx, 3))
    (kk : ∀ (H1 : Heap), BZ G k (n + 1) (apE E n (fun _ => .inr (ci, fs))) H1 → va_S (aK G k) s.heap H1 locs → W p l e R s m args below meth c H1 locs (cells + 1) (slots + N) Q (F0 m (pc + 3) ls (.ref (adr G (k + n)) :: rest))) : W p l e R s m args below meth c H locs cells slots Q (F0 m pc ls (rest)) := by
  have hKn := C0.K.1 ci _ hc
  refine W.newcK C0.1 C0.2.1 C0.ow (C0.ts _ hcl) (C0.ts _ hinst) (C0.ts _ hini) rfl dg hcells hslots hKn.2.1 hB.1 fun H1 kC hkC e1 z1 o1 => ?_
  exact kk H1 (BZ_push hL hB (by rw [z1, hB.1]) (by rw [hB.1]; exact o1) ⟨_, hc, (u_born ty C0.ts hin hKn hkC e1 hty).to hfs⟩) (BZ_N hS (by rw [z1, hB.1]) (by rw [hB.1]; exact o1))
theorem z_newa (C0 : CX p s m args meth c cc own nL G sz) (hL : linG G) (hB : BZ G k n E H) (hS : va_S (aK G k) s.heap H locs) {x : Int32} {N : Nat} (hx : ¬ x < 0) (hN : x.toNatClampNeg = N) (hbytes : N * 4 ≤ 536870912) (hcells : cells + 1 ≤ R.cells) (hslots : slots + N ≤ R.slots) (dg : decode cc pc = .ok (.newarray .int, 2))
    (kk : ∀ (H1 : Heap), BZ G k (n + 1) (apE E n (fun _ => .inl (G.2.2.2 0, N, .inl (fun _ => 0)))) H1 → va_S (aK G k) s.heap H1 locs → W p l e R s m args below meth c H1 locs (cells + 1) (slots + N) Q (F0 m (pc + 2) ls (.ref (adr G (k + n)) :: rest))) : W p l e R s m args below meth c H locs cells slots Q (F0 m pc ls (.int x :: rest)) := by
  subst hN
  refine W.newa C0.1 C0.2.1 (C0.ts _ (List.mem_filter.mpr ⟨List.mem_append_right _ (List.mem_append_left _ (List.mem_of_getElem? (i := 39) rfl)), rfl⟩)) rfl dg rfl hx hbytes hcells hslots fun cA kA comp h1 h2 h3 => ?_
  have hcA : cA = G.2.2.2 0 := Option.some.inj (h1.symm.trans (C0.K.2 0 (G.2.2.2 0, .int) rfl).2)
  subst hcA
  have z1 : (H.push { cls := G.2.2.2 0, slots := Array.replicate x.toNatClampNeg (defaultValue .int), vm := .none }).size = H.size + 1 := Array.size_push ..
  have o1 : ∀ q : Nat, q < H.size → (H.push { cls := G.2.2.2 0, slots := Array.replicate x.toNatClampNeg (defaultValue .int), vm := .none })[q]? = H[q]? := fun q hq => by rw [Array.getElem?_push, if_neg (Nat.ne_of_lt hq)]
  have e1 : (H.push { cls := G.2.2.2 0, slots := Array.replicate x.toNatClampNeg (defaultValue .int), vm := .none })[H.size]? = some (arrV (G.2.2.2 0) x.toNatClampNeg (fun _ => .int 0)) := by rw [Array.getElem?_push_size, arrV_new]; rfl
  rw [show W p l e R s m args below meth c (H.push { cls := G.2.2.2 0, slots := Array.replicate x.toNatClampNeg (defaultValue (newarray.typeOf .int)), vm := .none }) locs (cells + 1) (slots + x.toNatClampNeg) Q { F0 m pc ls (.int x :: rest) with pc := (F0 m pc ls (.int x :: rest)).pc + 2, stack := .ref H.size :: rest } = W p l e R s m args below meth c (H.push { cls := G.2.2.2 0, slots := Array.replicate x.toNatClampNeg (defaultValue .int), vm := .none }) locs (cells + 1) (slots + x.toNatClampNeg) Q (F0 m (pc + 2) ls (.ref H.size :: rest)) from rfl]
  generalize hH1 : H.push { cls := G.2.2.2 0, slots := Array.replicate x.toNatClampNeg (defaultValue .int), vm := .none } = H1 at z1 o1 e1 ⊢
  rw [hB.1] at e1 ⊢
  exact kk H1 (BZ_push hL hB z1 o1 e1) (BZ_N hS z1 o1)
theorem z_newq (C0 : CX p s m args meth c cc own nL G sz) (hL : linG G) (hB : BZ G k n E H) (hS : va_S (aK G k) s.heap H locs) {x : Int32} {N i idx : Nat} {C : String} (hi : (tysG G)[i]? = some (G.2.2.2 i, .object C)) (hcl : Cond.classLink own idx C ∈ UU) (hov : va_AO C s) (hx : ¬ x < 0) (hN : x.toNatClampNeg = N) (hbytes : N * 4 ≤ 536870912) (hcells : cells + 1 ≤ R.cells) (hslots : slots + N ≤ R.slots) (dg : decode cc pc = .ok (.anewarray idx, 3))
    (kk : ∀ (H1 : Heap), BZ G k (n + 1) (apE E n (fun _ => .inl (G.2.2.2 i, N, .inr (.inr (.inr (.inr (fun _ => none))))))) H1 → va_S (aK G k) s.heap H1 locs → W p l e R s m args below meth c H1 locs (cells + 1) (slots + N) Q (F0 m (pc + 3) ls (.ref (adr G (k + n)) :: rest))) : W p l e R s m args below meth c H locs cells slots Q (F0 m pc ls (.int x :: rest)) := by
  subst hN
  refine W.anew C0.1 C0.2.1 C0.ow (C0.ts _ hcl) (va_AO.use hov) rfl dg rfl hx hbytes hcells hslots fun cA kA comp f1 f2 f3 f4 => ?_
  have hcA : cA = G.2.2.2 i := by
    obtain ⟨kA', comp', k1, k2, k3, k4⟩ := (C0.K.2 i _ hi).2
    exact Option.some.inj (f1.symm.trans k4)
  subst hcA
  have z1 : (H.push { cls := G.2.2.2 i, slots := Array.replicate x.toNatClampNeg .null, vm := .none }).size = H.size + 1 := Array.size_push ..
  have o1 : ∀ q : Nat, q < H.size → (H.push { cls := G.2.2.2 i, slots := Array.replicate x.toNatClampNeg .null, vm := .none })[q]? = H[q]? := fun q hq => by rw [Array.getElem?_push, if_neg (Nat.ne_of_lt hq)]
  have e1 : (H.push { cls := G.2.2.2 i, slots := Array.replicate x.toNatClampNeg .null, vm := .none })[H.size]? = some (arrV (G.2.2.2 i) x.toNatClampNeg (fun _ => .null)) := by rw [Array.getElem?_push_size, arrV_new]
  generalize hH1 : H.push { cls := G.2.2.2 i, slots := Array.replicate x.toNatClampNeg .null, vm := .none } = H1 at z1 o1 e1 ⊢
  rw [hB.1] at e1 ⊢
  exact kk H1 (BZ_push hL hB z1 o1 e1) (BZ_N hS z1 o1)
theorem z_iast (C0 : CX p s m args meth c cc own nL G sz) (hL : linG G) (hB : BZ G k n E H) (hS : va_S (aK G k) s.heap H locs) (p0 : Nat) (hp : p0 < n) {N i : Nat} {f : Nat → Int32} {v : Int32} (hE : E p0 = .inl (G.2.2.2 0, N, .inl f)) (hi : i < N) (hN : N < 64) (dg : decode cc pc = .ok (.iastore, 1))
    (kk : ∀ (H1 : Heap) (locs1 : List Loc), BZ G k n (upE E p0 (.inl (G.2.2.2 0, N, .inl (upd f i v)))) H1 → va_S (aK G k) s.heap H1 locs1 → W p l e R s m args below meth c H1 locs1 cells slots Q (F0 m (pc + 1) ls (rest))) : W p l e R s m args below meth c H locs cells slots Q (F0 m pc ls (.int v :: .int (nI i) :: .ref (adr G (k + p0)) :: rest)) := by
  have hP := hB.2 p0 hp
  rw [hE] at hP
  refine W.iast C0.1 C0.2.1 hP ((C0.K.2 0 (G.2.2.2 0, .int) rfl).1 N (fun j => .int (f j))) (fun q => by cases q) (by
    show ¬ (_ ∨ (arrV _ _ _).slots.size ≤ _)
    rw [arrV_size, nI_clamp (by omega)]
    rintro (z | z)
    · exact nI_pos (by omega) z
    · exact absurd (show N ≤ i from z) (by omega)) rfl rfl dg fun H1 e z oq => ?_
  refine kk H1 _ (BZ_put hL hB z oq ?_) (BZ_S hS hL z oq)
  show H1[adr G (k + p0)]? = some (vp_cell _ _)
  rw [e, vp_cell_i, vp_cell_i, arrV_store, nI_clamp (by omega)]
  congr 2
  funext q
  by_cases hq : q = i
  · subst hq
    simp [updV, upd]
  · simp [updV, upd, hq]
theorem z_aast (C0 : CX p s m args meth c cc own nL G sz) (hL : linG G) (hB : BZ G k n E H) (hS : va_S (aK G k) s.heap H locs) (p0 pv : Nat) (hp : p0 < n) (hpv : pv < n) {N i ci ti : Nat} {r : vw_C} {vs : List Value} {f : Nat → Option Nat} (hE : E p0 = .inl (G.2.2.2 ti, N, .inr (.inr (.inr (.inr f))))) (hti : (tysG G)[ti]? = some (G.2.2.2 ti, .object r.1)) (hv : E pv = .inr (ci, vs)) (hc : vwCl[ci]? = some r) (hi : i < N) (hN : N < 64) (dg : decode cc pc = .ok (.aastore, 1))
    (kk : ∀ (H1 : Heap) (locs1 : List Loc), BZ G k n (upE E p0 (.inl (G.2.2.2 ti, N, .inr (.inr (.inr (.inr (va_up f i (some (adr G (k + pv)))))))))) H1 → va_S (aK G k) s.heap H1 locs1 → W p l e R s m args below meth c H1 locs1 cells slots Q (F0 m (pc + 1) ls (rest))) : W p l e R s m args below meth c H locs cells slots Q (F0 m pc ls (.ref (adr G (k + pv)) :: .int (nI i) :: .ref (adr G (k + p0)) :: rest)) := by
  have hP := hB.2 p0 hp
  rw [hE] at hP
  have hV := hB.2 pv hpv
  rw [hv] at hV
  obtain ⟨r', hr', cellV, g1, g2, g3, -⟩ := hV
  have hcls := (C0.K.1 ci r hc).2
  obtain ⟨kA, comp, k1, k2, k3, -⟩ := (C0.K.2 ti _ hti).2
  have hcomp : comp = (DG G).1 ci := Option.some.inj (k3.symm.trans hcls.1)
  subst hcomp
  obtain ⟨kC, hkC, -⟩ := hcls.2
  refine W.aast C0.1 C0.2.1 hP (fun q h => by cases h) (fun h => by cases h) k1 k2 rfl hkC ⟨nI_pos (by omega), by show _ < (arrV _ _ _).slots.size; rw [arrV_size, nI_clamp (by omega)]; exact hi⟩ g1 (fun q h => by rw [g3] at h; cases h) (by rw [g2]; exact hkC) (by rw [g2]; exact va_assign hcls) rfl rfl dg fun H1 e z oq => ?_
  refine kk H1 _ (BZ_put hL hB z oq ?_) (BZ_S hS hL z oq)
  show H1[adr G (k + p0)]? = some (vp_cell _ _)
  rw [e, vp_cell_q, vp_cell_q, arrV_store, nI_clamp (by omega)]
  congr 2
  funext q
  by_cases hq : q = i
  · subst hq
    simp [updV, va_up, va_rf]
  · simp [updV, va_up, hq]
/-- contracts of what makes -/
def AO2 (U : State) : Prop := va_AO RX0 U ∧ va_AO RX1 U
def PCK (G : GG) (sz k : Nat) (e0 : va_E) (av : List Value) : Array Value → State → Prop := va_Pc av (fun U => EV G sz U ∧ AO2 U ∧ linG G ∧ BZ G k 1 (fun _ => e0) U.heap)
theorem PCK_blind {k : Nat} {e0 : va_E} {av : List Value} : FrameBlind (PCK G sz k e0 av) := fun _ _ _ _ h => ⟨h.1, h.2.1.calling, h.2.2.1, h.2.2.2⟩
abbrev QK (G : GG) (k n : Nat) (E : Nat → va_E) : Array Value → State → Outcome → State → Prop := va_Qv (fun (_ : Unit) => True) (fun _ t => BZ G k n E t.heap) (aK G k)
def MK (l : Launch) (y : MethodName) (b : ByteArray) (n : Nat) (fr lo : Nat) (G : GG) (k : Nat) (e0 : va_E) (n2 : Nat) (E2 : Nat → va_E) (av : List Value) (mc ms : Nat) : Prop := ∀ sz, Met l y (wsU y b n none) (rmU fr lo mc ms) (PCK G sz k e0 av) (QK G k n2 E2) mc ms (aK G k)
theorem MK_of {y : MethodName} {b : ByteArray} {n : Nat} {fr lo : Nat} {k : Nat} {e0 : va_E} {n2 : Nat} {E2 : Nat → va_E} {av : List Value} {mc ms : Nat} (own : String) (hown : y.cls = own) (hni : y.name = "<init>") (hy : plainName y.cls = true) (hn : (lg_sl av).length ≤ n)
    (body : ∀ p e s m below meth c sz, CX p s m av.toArray meth c b own n G sz → meth.sig.returnType = none → meth.name = "<init>" → AO2 s → linG G → BZ G k 1 (fun _ => e0) s.heap → ∀ ls, lv_has ls n (lv_args 0 av) →
      W p l e (rmU fr lo mc ms) s m av.toArray below meth c s.heap [] 0 0 (MQ below (QK G k n2 E2) av.toArray s mc ms (aK G k)) (F0 m 0 ls [])) : MK l y b n fr lo G k e0 n2 E2 av mc ms := by
  intro sz
  refine Met.ofW (cc := b) (maxL := n) (ret := none) hy rfl ?_
  intro p e s m args below meth c s₁ B hml hv
  obtain ⟨rfl, hE, hAO, hLn, hP⟩ := hv
  subst hown
  have hl := lv_entry av (n := n) hn
  rw [lg_entry_eq]
  generalize (lg_sl av ++ List.replicate (n - (lg_sl av).length) Slot.unset).toArray = ls at hl ⊢
  exact body p e s m below meth c sz ⟨B.exec, B.bytes, hml, findClass_of_methodNamed B.named, fun w hw => atoms_spec (ws := wsU y b n none) B.pre w (List.mem_cons_of_mem _ hw), hE, B.notSynchronized⟩ B.returns ((name_of_methodNamed B.named B.method).1.trans hni) hAO hLn hP ls hl
def MFI (y : MethodName) (b : ByteArray) (n na : Nat) : Prop :=
  (Cond.code y b n none ∈ UU ∧ Cond.instanceMethod y ∈ UU ∧ Cond.initialized y.cls ∈ UU) ∧ y.name = "<init>" ∧ y.cls ≠ "java/lang/invoke/MethodHandle" ∧ y.cls ≠ "java/lang/invoke/VarHandle" ∧ (parseMethodDescriptor y.desc).map (fun d => d.parameters.length) = some na
theorem z_callN (C0 : CX p s m args meth c cc own nL G sz) (hAO : AO2 s) (hL : linG G) (hk67 : k < 67) (hz : sz = adr G (k + 1)) (hB : BZ G k (n + 1) E H) (hS : va_S (aK G k) s.heap H locs) {nl fr lo n2 mc ms idx na : Nat} {y : MethodName} {b : ByteArray} {host : String} {e0 : va_E} {E2 : Nat → va_E} {As rest st0 : List Value} (hM : MK l y b nl fr lo G (k + n) e0 n2 E2 (.ref (adr G (k + n)) :: As) mc ms) (he : E n = e0) (mf : MFI y b nl na) (hlink : (own, idx, y, host) ∈ nestM) (hls : ls.size = nL) (hR : fr + 1 ≤ R.frames ∧ 8 + (nl + 11) + lo ≤ R.locals) (hroom : cells + mc ≤ R.cells ∧ slots + ms ≤ R.slots) (hw : (rest.map fun v => v.category).sum ≤ 8) (hna : As.length = na) (hst : st0 = As.reverse ++ .ref (adr G (k + n)) :: rest) (dg : decode cc pc = .ok (.invokespecial idx, 3))
    (kk : ∀ (H1 : Heap) (locs1 : List Loc), BZ G k (n + n2) (apE E n E2) H1 → va_S (aK G k) s.heap H1 locs1 → W p l e R s m args below meth c H1 locs1 (cells + mc) (slots + ms) Q (F0 m (pc + 3) ls (rest))) : W p l e R s m args below meth c H locs cells slots Q (F0 m pc ls (st0)) := by
  refine va_callv (va_runIN (As := As) (rest := rest) (host := host) ⟨C0.1, C0.2.1, C0.2.2.1, C0.ow, C0.ts⟩ (hM H.size) ⟨va_cnB na C0.ts (wsU_in mf.1.1) rfl rfl rfl (C0.nx.2.1 _ hlink) (C0.ts _ mf.1.2.2) mf.2.2 hR, mf.2.1, C0.ts _ mf.1.2.1⟩ ⟨PCK_blind, fun U hU hW => ⟨rfl, C0.ev.call (va_S_mono (aK_pA hL hz hk67) hS) hU hW, ⟨hAO.1.moved hW.alike, hAO.2.moved hW.alike⟩, hL, by rw [hU]; exact BZ_one hB he⟩⟩ rfl hna hls hst (lv_room hw) dg hroom) hS (fun q _ h => aK_up hL q h) (aK_up hL) (fun u t H1 locs1 ht hvm hw1 hB1 hz1 hk1 hS1 => ?_)
  rw [ht] at hB1
  exact kk H1 locs1 (BZ_call hL hB hB1 hk1) hS1
/-- Object's own -/
theorem z_obj (C0 : CX p s m args meth c cc own nL G sz) {a idx : Nat} (hlink : Cond.methodLink own idx Lib.objectInit ∈ UU) (hls : ls.size = nL) (hR : 1 ≤ R.frames ∧ (rest.map fun v => v.category).sum + 12 ≤ R.locals) (dg : decode cc pc = .ok (.invokespecial idx, 3)) (kk : W p l e R s m args below meth c H locs cells slots Q (F0 m (pc + 3) ls (rest))) : W p l e R s m args below meth c H locs cells slots Q (F0 m pc ls (.ref a :: rest)) :=
  W.objInit C0.1 C0.2.1 C0.ow (C0.ts _ hlink) (C0.ts _ (List.mem_filter.mpr ⟨List.mem_append_right _ (List.mem_append_left _ (List.mem_of_getElem? (i := 22) rfl)), rfl⟩)) (C0.ts _ (List.mem_filter.mpr ⟨List.mem_append_right _ (List.mem_append_left _ (List.mem_of_getElem? (i := 23) rfl)), rfl⟩)) rfl (hls.trans C0.2.2.1.symm) rfl dg hR.1 (by show 2 * 0 + _ + 12 ≤ _; omega) kk
theorem z_end {below : List Frame} {mc ms : Nat} {av : List Value} {E2 : Nat → va_E} (C0 : CX p s m av.toArray meth c cc own nL G sz) (hr : meth.sig.returnType = none) (hB : BZ G k n E2 H) (hS : va_S (aK G k) s.heap H locs) (hw : cells ≤ mc ∧ slots ≤ ms) (dg : decode cc pc = .ok (.return_, 1)) : W p l e R s m av.toArray below meth c H locs cells slots (MQ below (QK G k n E2) av.toArray s mc ms (aK G k)) (F0 m pc ls []) :=
  W.widen (k := mc) (n := ms) hw.1 hw.2 (W.vret C0.1 C0.2.1 hr (fun t ht hW => ⟨⟨(), rfl, trivial, by show BZ G k n E2 t.heap; rw [ht]; exact hB⟩, hS.F ht⟩) hS.2.2 dg C0.lk)
end CTR
