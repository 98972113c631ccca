/-! MAKING: rows for new objects and rows, the constructors' contracts. -/
def ao2 (U : State) : Prop := va_AO "CleanNets$Standing" U ∧ va_AO "CleanNets$Sheet" U
theorem ao2_to {u U : State} (h : ao2 u) (hvm : u.vm.Alike U.vm) : ao2 U := ⟨va_AO.moved hvm h.1, va_AO.moved hvm h.2⟩
/-- a constructor: its cell before; behind it a world of which Wd holds -/
abbrev ctn (l : Launch) (y : MethodName) (wsy : List Cond) (rm : Room) (D : vg) (tys : List (ClassId × FieldType)) (sz : Nat) (av : List Value) (ws : va_W) (Wd : va_W → Prop) (mc ms : Nat) : Prop :=
  Met l y wsy rm (va_Pc av (fun U => pre1 D tys sz ws U ∧ ao2 U)) (va_Qv Wd (fun ws' t => pos1 D sz ws ws' t) (va_A ws sz)) mc ms (va_A ws sz)
theorem blind2 {D : vg} {tys : List (ClassId × FieldType)} {sz : Nat} {ws : va_W} {av : List Value} : FrameBlind (va_Pc av (fun U => pre1 D tys sz ws U ∧ ao2 U)) := fun a U g mk q => ⟨q.1, ⟨q.2.1.1, q.2.1.2.1, kx_call q.2.1.2.2.1, q.2.1.2.2.2⟩, ao2_to (u := U) (U := U.calling g mk a) q.2.2 (Vm.Alike.refl U.vm)⟩
section N1
variable {p : Program} {l : Launch} {e : Env} {R : Room} {s : State} {m : MethodId} {args : Array Value} {below : List Frame} {meth : Method} {c : Code} {H : Heap} {locs : List Loc} {cells slots : Nat} {Q : State → Prop}
variable {D : vg} {tys : List (ClassId × FieldType)} {cI cL cS cH : ClassId} {A : Nat → Prop} {H0 : Heap} {ws ws0 ws1 wc wr : va_W} {ws' : Nat → va_W} {cc : ByteArray} {nL pc : Nat} {Ts : List Cond} {own : String} {ls : Array Slot} {rest : List Value}
theorem r_newI (C : CallFix p m c cc nL s args Ts own) (w : wd D (ty4 cI cL cS cH) s A H0 H locs ws) (harr : Cond.arrayClass .int ∈ Ts) {n : Int32} {N' : Nat} (hn : ¬ n < 0) (hN : n.toNatClampNeg = N') (hb : N' * 4 ≤ 536870912) (hws : ∀ q : Nat, ws ++ [(q, .inl (cI, N', .inl (fun _ => 0)))] = ws' q) (hcs : cells + 1 ≤ R.cells ∧ slots + N' ≤ R.slots) (hdg : decode cc pc = .ok (.newarray .int, 2))
    (kk : ∀ (q : Nat) (H1 : Heap), wd D (ty4 cI cL cS cH) s A H0 H1 locs (ws' q) → W p l e R s m args below meth c H1 locs (cells + 1) (slots + N') Q (F0 m (pc + 2) ls (.ref q :: rest))) : W p l e R s m args below meth c H locs cells slots Q (F0 m pc ls (.int n :: rest)) := by
  refine va_newa (atype := .int) (ty := .int) (a0 := (N', .inl (fun _ => 0))) C.1 C.2.1 (C.2.2.2.2 _ harr) rfl w.1.1 w.2.1 w.2.2.1 w.2.2.2.1 w.2.2.2.2 (fun cA => vp_cell_i cA N' (fun _ => 0)) hn hN hb hcs.1 hcs.2 hdg (fun q cA H1 hK hP hD hS => ?_)
  have e1 := va_nm_int (hK.2 4 (cA, .int) rfl).2
  have e2 := va_nm_int (w.1.1.2 0 (cI, .int) rfl).2
  rw [e1] at e2
  obtain rfl := Option.some.inj e2
  have := hws q
  exact kk q H1 ⟨w.1, this ▸ hP, this ▸ hD, hS, w.2.2.2.2⟩
theorem r_newJ (C : CallFix p m c cc nL s args Ts own) (w : wd D (ty4 cI cL cS cH) s A H0 H locs ws) (harr : Cond.arrayClass .long ∈ Ts) {n : Int32} {N' : Nat} (hn : ¬ n < 0) (hN : n.toNatClampNeg = N') (hb : N' * 8 ≤ 536870912) (hws : ∀ q : Nat, ws ++ [(q, .inl (cL, N', .inr (.inl (fun _ => 0))))] = ws' q) (hcs : cells + 1 ≤ R.cells ∧ slots + N' ≤ R.slots) (hdg : decode cc pc = .ok (.newarray .long, 2))
    (kk : ∀ (q : Nat) (H1 : Heap), wd D (ty4 cI cL cS cH) s A H0 H1 locs (ws' q) → W p l e R s m args below meth c H1 locs (cells + 1) (slots + N') Q (F0 m (pc + 2) ls (.ref q :: rest))) : W p l e R s m args below meth c H locs cells slots Q (F0 m pc ls (.int n :: rest)) := by
  refine va_newa (atype := .long) (ty := .long) (a0 := (N', .inr (.inl (fun _ => 0)))) C.1 C.2.1 (C.2.2.2.2 _ harr) rfl w.1.1 w.2.1 w.2.2.1 w.2.2.2.1 w.2.2.2.2 (fun cA => vp_cell_l cA N' (fun _ => 0)) hn hN hb hcs.1 hcs.2 hdg (fun q cA H1 hK hP hD hS => ?_)
  have e1 := va_nm_long (hK.2 4 (cA, .long) rfl).2
  have e2 := va_nm_long (w.1.1.2 1 (cL, .long) rfl).2
  rw [e1] at e2
  obtain rfl := Option.some.inj e2
  have := hws q
  exact kk q H1 ⟨w.1, this ▸ hP, this ▸ hD, hS, w.2.2.2.2⟩
theorem r_newQs (C : CallFix p m c cc nL s args Ts own) (w : wd D (ty4 cI cL cS cH) s A H0 H locs ws) (ao : ao2 s) {index : Nat} (hcl : Cond.classLink own index "CleanNets$Standing" ∈ Ts) {n : Int32} {N' : Nat} (hn : ¬ n < 0) (hN : n.toNatClampNeg = N') (hb : N' * 4 ≤ 536870912) (hws : ∀ q : Nat, ws ++ [(q, .inl (cS, N', .inr (.inr (.inr (.inr (fun _ => none))))))] = ws' q) (hcs : cells + 1 ≤ R.cells ∧ slots + N' ≤ R.slots) (hdg : decode cc pc = .ok (.anewarray index, 3))
    (kk : ∀ (q : Nat) (H1 : Heap), wd D (ty4 cI cL cS cH) s A H0 H1 locs (ws' q) → W p l e R s m args below meth c H1 locs (cells + 1) (slots + N') Q (F0 m (pc + 3) ls (.ref q :: rest))) : W p l e R s m args below meth c H locs cells slots Q (F0 m pc ls (.int n :: rest)) := by
  refine va_newq C.1 C.2.1 C.2.2.2.1 (C.2.2.2.2 _ hcl) ao.1 w.1.1 w.2.1 w.2.2.1 w.2.2.2.1 w.2.2.2.2 hn hN hb hcs.1 hcs.2 hdg (fun q cA H1 hK hP hD hS => ?_)
  have e1 := va_nmO (hK.2 4 (cA, .object "CleanNets$Standing") rfl).2 rfl
  have e2 := va_nmO (w.1.1.2 2 (cS, .object "CleanNets$Standing") rfl).2 rfl
  rw [e1] at e2
  obtain rfl := Option.some.inj e2
  have := hws q
  exact kk q H1 ⟨w.1, this ▸ hP, this ▸ hD, hS, w.2.2.2.2⟩
theorem r_newQh (C : CallFix p m c cc nL s args Ts own) (w : wd D (ty4 cI cL cS cH) s A H0 H locs ws) (ao : ao2 s) {index : Nat} (hcl : Cond.classLink own index "CleanNets$Sheet" ∈ Ts) {n : Int32} {N' : Nat} (hn : ¬ n < 0) (hN : n.toNatClampNeg = N') (hb : N' * 4 ≤ 536870912) (hws : ∀ q : Nat, ws ++ [(q, .inl (cH, N', .inr (.inr (.inr (.inr (fun _ => none))))))] = ws' q) (hcs : cells + 1 ≤ R.cells ∧ slots + N' ≤ R.slots) (hdg : decode cc pc = .ok (.anewarray index, 3))
    (kk : ∀ (q : Nat) (H1 : Heap), wd D (ty4 cI cL cS cH) s A H0 H1 locs (ws' q) → W p l e R s m args below meth c H1 locs (cells + 1) (slots + N') Q (F0 m (pc + 3) ls (.ref q :: rest))) : W p l e R s m args below meth c H locs cells slots Q (F0 m pc ls (.int n :: rest)) := by
  refine va_newq C.1 C.2.1 C.2.2.2.1 (C.2.2.2.2 _ hcl) ao.2 w.1.1 w.2.1 w.2.2.1 w.2.2.2.1 w.2.2.2.2 hn hN hb hcs.1 hcs.2 hdg (fun q cA H1 hK hP hD hS => ?_)
  have e1 := va_nmO (hK.2 4 (cA, .object "CleanNets$Sheet") rfl).2 rfl
  have e2 := va_nmO (w.1.1.2 3 (cH, .object "CleanNets$Sheet") rfl).2 rfl
  rw [e1] at e2
  obtain rfl := Option.some.inj e2
  have := hws q
  exact kk q H1 ⟨w.1, this ▸ hP, this ▸ hD, hS, w.2.2.2.2⟩
theorem r_new (C : CallFix p m c cc nL s args Ts own) (w : wd D tys s A H0 H locs ws) {Cn : String} {T : u_T} {N ci index : Nat} (hin : ∀ w ∈ u_ws Cn T N, w ∈ Ts) (ty : Nat → FieldType) (hty : ∀ k, k < N → parseFieldDescriptor (T k).2.2.1 = some (ty k)) (hcl : Cond.classLink own index Cn ∈ Ts) (hinst : Cond.instantiable Cn N ∈ Ts) (hini : Cond.initialized Cn ∈ Ts) (hc : vwCl[ci]? = some (Cn, T, N)) {fs : List Value} (hfs : ∀ j, j < N → defaultValue (ty j) = vp_V fs j) (hws : ∀ q : Nat, ws ++ [(q, .inr (ci, fs))] = ws' q) (hcs : cells + 1 ≤ R.cells ∧ slots + N ≤ R.slots) (hdg : decode cc pc = .ok (.new index, 3))
    (kk : ∀ (q : Nat) (H1 : Heap), wd D tys s A H0 H1 locs (ws' q) → W p l e R s m args below meth c H1 locs (cells + 1) (slots + N) Q (F0 m (pc + 3) ls (.ref q :: rest))) : W p l e R s m args below meth c H locs cells slots Q (F0 m pc ls rest) := by
  refine va_new C.1 C.2.1 C.2.2.2.2 hin ty hty C.2.2.2.1 (C.2.2.2.2 _ hcl) (C.2.2.2.2 _ hinst) (C.2.2.2.2 _ hini) w.1.1 w.2.1 w.2.2.1 w.2.2.2.1 w.2.2.2.2 hc hfs hcs.1 hcs.2 hdg (fun q H1 hP hD hS => ?_)
  have := hws q
  exact kk q H1 ⟨w.1, this ▸ hP, this ▸ hD, hS, w.2.2.2.2⟩
theorem r_putF (C : CallFix p m c cc nL s args Ts own) (w : wd D tys s A H0 H locs ws) {Cn : String} {T : u_T} {N ci index : Nat} (hin : ∀ w ∈ u_ws Cn T N, w ∈ Ts) (ty0 : Nat → FieldType) (hty : ∀ k, k < N → parseFieldDescriptor (T k).2.2.1 = some (ty0 k)) (hnm : ∀ a, a < N → ∀ b, b < N → a ≠ b → (T a).2.1 ≠ (T b).2.1) (q0 : Nat) {a : Nat} {fs : List Value} (he : ws[q0]? = some (a, .inr (ci, fs))) (hc : vwCl[ci]? = some (Cn, T, N)) (k : Nat) (hk : k < N) (hlink : Cond.fieldLink own index (T k).1 (T k).2.1 (T k).2.2.1 ∈ Ts) (hfin : (T k).2.2.2 = true) (hin2 : meth.name = "<init>") (hdecl : (T k).1 = own) {v : Value} (hn : narrow (ty0 k) v = v) (hfit : fits (ty0 k) v = true) (hl : k < fs.length) (hws : ws.set q0 (a, .inr (ci, fs.set k v)) = ws1) (hdg : decode cc pc = .ok (.putfield index, 3))
    (kk : ∀ (H1 : Heap) (locs1 : List Loc), wd D tys s A H0 H1 locs1 ws1 → W p l e R s m args below meth c H1 locs1 cells slots Q (F0 m (pc + 3) ls rest)) : W p l e R s m args below meth c H locs cells slots Q (F0 m pc ls (v :: .ref a :: rest)) := by
  subst hws
  exact va_putF C.1 C.2.1 C.2.2.2.2 hin ty0 hty hnm C.2.2.2.1 w.1.1 w.2.1 w.2.2.1 w.2.2.2.1 q0 he hc k hk (C.2.2.2.2 _ hlink) (fun _ h => h) hfin hin2 hdecl (hty k hk) hn hfit hl hdg (fun H1 locs1 h1 h2 h3 => kk H1 locs1 ⟨w.1, h1, h2, h3, w.2.2.2.2⟩)
theorem r_astq (C : CallFix p m c cc nL s args Ts own) (w : wd D tys s A H0 H locs ws) (q0 t0 qk : Nat) {ci a : Nat} {cA : ClassId} {r : vw_C} {n v : Nat} {vs : List Value} {f : Nat → Option Nat} (ha : ws[q0]? = some (a, .inl (cA, n, .inr (.inr (.inr (.inr f)))))) (ht : tys[t0]? = some (cA, .object r.1)) (hv : ws[qk]? = some (v, .inr (ci, vs))) (hc : vwCl[ci]? = some r) {i : Int32} (hin : vp_in i n) (hws : ws.set q0 (a, .inl (cA, n, .inr (.inr (.inr (.inr (va_up f i.toNatClampNeg (some v))))))) = ws1) (hdg : decode cc pc = .ok (.aastore, 1))
    (kk : ∀ (H1 : Heap) (locs1 : List Loc), wd D tys s A H0 H1 locs1 ws1 → W p l e R s m args below meth c H1 locs1 cells slots Q (F0 m (pc + 1) ls rest)) : W p l e R s m args below meth c H locs cells slots Q (F0 m pc ls (.ref v :: .int i :: .ref a :: rest)) := by
  subst hws
  exact va_astq C.1 C.2.1 w.1.1 w.2.1 w.2.2.1 w.2.2.2.1 q0 t0 qk ci ha ht hv hc hin hdg (fun H1 locs1 h1 h2 h3 => kk H1 locs1 ⟨w.1, h1, h2, h3, w.2.2.2.2⟩)
theorem ret_n {Wd : va_W → Prop} (C : CallFix p m c cc nL s args Ts own) (hr : meth.sig.returnType = none) (hlocks : meth.locks = false) (w : wd D tys s (va_A ws0 s.heap.size) s.heap H locs ws1) (h : Wd ws1) (hdg : decode cc pc = .ok (.return_, 1)) :
    W p l e R s m args below meth c H locs cells slots (MQ below (va_Qv Wd (fun u t => pos1 D s.heap.size ws0 u t) (va_A ws0 s.heap.size)) args s cells slots (va_A ws0 s.heap.size)) (F0 m pc ls []) :=
  W.vret C.1 C.2.1 hr (fun t ht hW => ⟨⟨ws1, rfl, h, by rw [ht]; exact w.2.1, w.2.2.1⟩, w.2.2.2.1.F ht⟩) w.2.2.2.1.2.2 hdg hlocks
variable {y : MethodName} {wsy : List Cond} {rm : Room} {bytes : ByteArray} {maxL index mc ms : Nat} {Wd : va_W → Prop}
theorem prN (w : wd D tys s A H0 H locs ws) (ao : ao2 s) {isC : List Nat} (hnd : isC.Nodup) (hC : sameAt ws isC wc) {As : List Value} : PreS s H (va_Pc As (fun U => pre1 D tys H.size wc U ∧ ao2 U)) As :=
  ⟨blind2, fun U hU hW => ⟨rfl, preU w hnd hC U hU hW, ao2_to ao hW.alike⟩⟩
theorem aft_n (w : wd D tys s A H0 H locs ws) (isC isR : List Nat) (wr : va_W) (hC : sameAt ws isC wc) (hR : sameAt ws isR wr) (hndR : va_nd isR = true) (hdis : ∀ i ∈ isR, i ∉ isC) {st0 : List Value} {a : Array Value}
    (hr : va_Run p l e R s m args below meth c H locs cells slots mc ms (F0 m pc ls st0) rest (va_Qv Wd (fun u t => pos1 D H.size wc u t) (va_A wc H.size) a) (va_A wc H.size))
    (kk : ∀ (wc' : va_W) (H1 : Heap) (locs1 : List Loc), Wd wc' → wd D tys s A H0 H1 locs1 (wr ++ wc') → W p l e R s m args below meth c H1 locs1 (cells + mc) (slots + ms) Q (F0 m (pc + 3) ls rest)) : W p l e R s m args below meth c H locs cells slots Q (F0 m pc ls st0) := by
  have hF := free_of w hC
  refine va_callv hr w.2.2.2.1 (fun q _ h => hF q h) hF (fun u t H1 locs1 ht hvm hw hB hz hk hS => ?_)
  subst ht
  obtain ⟨h1, h2⟩ := va_join w.2.1 w.2.2.1 isC isR (map_of hC) (map_of hR) hndR hdis hk hF hB.1 hB.2
  exact kk u _ locs1 hw ⟨w.1, h1, h2, hS, w.2.2.2.2⟩
theorem call_I {b : Nat} (C : CallFix p m c cc nL s args Ts own) (w : wd D tys s A H0 H locs ws) (ao : ao2 s) (hM : ctn l y wsy rm D tys H.size [.ref b] wc Wd mc ms) (cw : CallB R s args own index y bytes maxL none wsy rm mc ms 0 ∧ y.name = "<init>" ∧ (Cond.instanceMethod y).before args s = true) (isC isR : List Nat) (wr : va_W) (hC : sameAt ws isC wc) (hR : sameAt ws isR wr) (hnd : isC.Nodup) (hndR : va_nd isR = true) (hdis : ∀ i ∈ isR, i ∉ isC) (hsize : ls.size = nL) (hW : 2 * (F0 m pc ls (.ref b :: rest)).monitorRoom + (rest.map fun v => v.category).sum ≤ 8) (hdg : decode cc pc = .ok (.invokespecial index, 3)) (hcs : cells + mc ≤ R.cells ∧ slots + ms ≤ R.slots)
    (kk : ∀ (wc' : va_W) (H1 : Heap) (locs1 : List Loc), Wd wc' → wd D tys s A H0 H1 locs1 (wr ++ wc') → W p l e R s m args below meth c H1 locs1 (cells + mc) (slots + ms) Q (F0 m (pc + 3) ls rest)) : W p l e R s m args below meth c H locs cells slots Q (F0 m pc ls (.ref b :: rest)) :=
  aft_n w isC isR wr hC hR hndR hdis (va_runI (As := []) (rest := rest) C hM cw (prN w ao hnd hC) rfl rfl hsize rfl hW hdg hcs) kk
theorem call_IN {b : Nat} {host : String} (C : CallFix p m c cc nL s args Ts own) (w : wd D tys s A H0 H locs ws) (ao : ao2 s) (hM : ctn l y wsy rm D tys H.size [.ref b] wc Wd mc ms) (cw : va_CN R s args own index y host bytes maxL none wsy rm mc ms 0 ∧ y.name = "<init>" ∧ (Cond.instanceMethod y).before args s = true) (isC isR : List Nat) (wr : va_W) (hC : sameAt ws isC wc) (hR : sameAt ws isR wr) (hnd : isC.Nodup) (hndR : va_nd isR = true) (hdis : ∀ i ∈ isR, i ∉ isC) (hsize : ls.size = nL) (hW : 2 * (F0 m pc ls (.ref b :: rest)).monitorRoom + (rest.map fun v => v.category).sum ≤ 8) (hdg : decode cc pc = .ok (.invokespecial index, 3)) (hcs : cells + mc ≤ R.cells ∧ slots + ms ≤ R.slots)
    (kk : ∀ (wc' : va_W) (H1 : Heap) (locs1 : List Loc), Wd wc' → wd D tys s A H0 H1 locs1 (wr ++ wc') → W p l e R s m args below meth c H1 locs1 (cells + mc) (slots + ms) Q (F0 m (pc + 3) ls rest)) : W p l e R s m args below meth c H locs cells slots Q (F0 m pc ls (.ref b :: rest)) :=
  aft_n w isC isR wr hC hR hndR hdis (va_runIN (As := []) (rest := rest) C hM cw (prN w ao hnd hC) rfl rfl hsize rfl hW hdg hcs) kk
theorem arrV_cong {cA : ClassId} {n : Nat} {f g : Nat → Value} (h : ∀ j, j < n → f j = g j) : arrV cA n f = arrV cA n g := by
  unfold arrV
  have : (fun j : Fin n => f j.val) = (fun j : Fin n => g j.val) := funext fun j => h j.val j.isLt
  rw [this]
/-- a row of references, told by another function that is the same within -/
theorem wd_cong (w : wd D tys s A H0 H locs ws) (q0 : Nat) {a n : Nat} {cA : ClassId} {f g : Nat → Option Nat} (ha : ws[q0]? = some (a, .inl (cA, n, .inr (.inr (.inr (.inr f)))))) (hfg : ∀ j, j < n → f j = g j) (hws : ws.set q0 (a, .inl (cA, n, .inr (.inr (.inr (.inr g))))) = ws1) : wd D tys s A H0 H locs ws1 := by
  subst hws
  have key : ∀ (k : Nat) (q : Nat × va_E), (ws.set q0 (a, .inl (cA, n, .inr (.inr (.inr (.inr g))))))[k]? = some q → (k = q0 ∧ q = (a, .inl (cA, n, .inr (.inr (.inr (.inr g)))))) ∨ (k ≠ q0 ∧ ws[k]? = some q) := by
    intro k q hq
    by_cases hk : k = q0
    · subst hk
      rw [List.getElem?_set_self (List.getElem?_eq_some_iff.mp ha).1] at hq
      exact Or.inl ⟨rfl, (Option.some.inj hq).symm⟩
    · rw [List.getElem?_set_ne (Ne.symm hk)] at hq
      exact Or.inr ⟨hk, hq⟩
  refine ⟨w.1, fun k q hq => ?_, ⟨fun i j x y hx hy hxy => ?_, fun k q hq => ?_⟩, w.2.2.2⟩
  · rcases key k q hq with ⟨rfl, rfl⟩ | ⟨_, h⟩
    · have h1 : H[a]? = some (vp_cell cA (n, .inr (.inr (.inr (.inr f))))) := w.2.1 k _ ha
      show H[a]? = some (vp_cell cA (n, .inr (.inr (.inr (.inr g)))))
      rw [h1, vp_cell_q, vp_cell_q, arrV_cong (fun j hj => by rw [hfg j hj])]
    · exact w.2.1 k q h
  · rcases key i x hx with ⟨rfl, rfl⟩ | ⟨hi, h⟩
    · rcases key j y hy with ⟨rfl, rfl⟩ | ⟨hj, h'⟩
      · rfl
      · exact w.2.2.1.1 _ _ _ _ ha h' hxy
    · rcases key j y hy with ⟨rfl, rfl⟩ | ⟨hj, h'⟩
      · exact w.2.2.1.1 _ _ _ _ h ha hxy
      · exact w.2.2.1.1 _ _ _ _ h h' hxy
  · rcases key k q hq with ⟨rfl, rfl⟩ | ⟨_, h⟩
    · have h1 : A a := w.2.2.1.2 _ _ ha
      exact h1
    · exact w.2.2.1.2 _ _ h
end N1

set_option maxRecDepth 100000 in
theorem inX5_init_X5 : ∀ w ∈ u_ws RX5 TX5 7, w ∈ wsX5_init := by decide +kernel
set_option maxRecDepth 100000 in
theorem lkX5_init_9 : Cond.fieldLink RX5 9 "CleanNets$Standing" "nodes" "I" ∈ wsX5_init := by decide +kernel
set_option maxRecDepth 100000 in
theorem lkX5_init_15 : Cond.fieldLink RX5 15 "CleanNets$Standing" "near" "[I" ∈ wsX5_init := by decide +kernel
set_option maxRecDepth 100000 in
theorem lkX5_init_19 : Cond.fieldLink RX5 19 "CleanNets$Standing" "clean" "I" ∈ wsX5_init := by decide +kernel
set_option maxRecDepth 100000 in
theorem lkX5_init_22 : Cond.fieldLink RX5 22 "CleanNets$Standing" "guards" "I" ∈ wsX5_init := by decide +kernel
set_option maxRecDepth 100000 in
theorem lkX5_init_25 : Cond.fieldLink RX5 25 "CleanNets$Standing" "kind" "I" ∈ wsX5_init := by decide +kernel
set_option maxRecDepth 100000 in
theorem lkX5_init_28 : Cond.fieldLink RX5 28 "CleanNets$Standing" "team" "I" ∈ wsX5_init := by decide +kernel
set_option maxRecDepth 100000 in
theorem lkX5_init_31 : Cond.fieldLink RX5 31 "CleanNets$Standing" "draw" "I" ∈ wsX5_init := by decide +kernel
set_option maxHeartbeats 4000000 in
set_option maxRecDepth 100000 in
theorem nX5_init (l : Launch) (D : vg) (cI cL cS cH : ClassId) (sz : Nat) (a : Nat) : ctn l yX5_init wsX5_init ({ frames := 1, cells := 1, slots := 7, locals := 12 }) D (ty4 cI cL cS cH) sz [.ref a] [(a, .inr (5, [.int 0, .null, .int 0, .int 0, .int 0, .int 0, .int 0]))] (fun ws' => ∃ (q1 : Nat), ws' = [(a, .inr (5, [.int (2 : Int32), .ref q1, .int (0 : Int32), .int (0 : Int32), .int (0 : Int32), .int (2 : Int32), .int (1 : Int32)])), (q1, .inl (cI, 7, .inl (fun _ => 0)))]) 1 7 := by
  refine Met.ofW (cc := cX5_init) (maxL := 1) (ret := none) (by decide) rfl ?_
  intro p e s m args below meth c s₁ B hml hv
  obtain ⟨rfl, hpre, ao⟩ := hv
  obtain rfl := hpre.1
  have C : CallFix p m c cX5_init 1 s _ wsX5_init RX5 := ⟨B.exec, B.bytes, hml, findClass_of_methodNamed B.named, atoms_spec (ws := wsX5_init) B.pre⟩
  have hr := B.returns
  have hlocks := B.notSynchronized
  have hin : meth.name = "<init>" := (name_of_methodNamed B.named B.method).1
  have w := wd_start hpre
  clear hpre B
  have hl := lv_entry ([.ref a]) (n := 1) (Nat.le_of_ble_eq_true rfl)
  rw [lg_entry_eq]
  generalize (lg_sl ([.ref a]) ++ List.replicate (1 - (lg_sl ([.ref a])).length) Slot.unset).toArray = ls at hl ⊢
  have hl : lv_has ls 1 [(0, .ref a)] := hl
  refine lv_aload_n C.1 C.2.1 dX5_init_0 rfl (lv_at hl 0 rfl) ?_
  refine W.objInit C.1 C.2.1 C.2.2.2.1 (C.2.2.2.2 (.methodLink RX5 3 objectInit) (by decide +kernel)) (C.2.2.2.2 (.instanceMethod objectInit) (by decide +kernel)) (C.2.2.2.2 _ (List.mem_of_getElem? (i := 3) rfl)) rfl (by rw [C.2.2.1]; exact hl.1) rfl dX5_init_1 (Nat.le_of_ble_eq_true rfl) (Nat.le_of_ble_eq_true rfl) ?_
  refine W.eq (g2 := F0 m 4 ls []) rfl ?_
  refine lv_aload_n C.1 C.2.1 dX5_init_4 rfl (lv_at hl 0 rfl) ?_
  refine lv_iconst (v := (2 : Int32)) C.1 C.2.1 dX5_init_5 (by decide) ?_
  refine r_put (ws' := [(a, .inr (5, [.int (2 : Int32), .null, .int 0, .int 0, .int 0, .int 0, .int 0]))]) C w inX5_init_X5 tyX5 tyX5_ok nmX5 0 rfl rfl 0 (by decide) lkX5_init_9 rfl rfl rfl (Nat.le_of_ble_eq_true rfl) rfl dX5_init_6 (fun H locs w => ?_)
  refine lv_aload_n C.1 C.2.1 dX5_init_9 rfl (lv_at hl 0 rfl) ?_
  refine lv_bipush (v := (7 : Int32)) C.1 C.2.1 dX5_init_10 (by decide) ?_
  refine r_newI (ws' := fun q1 => [(a, .inr (5, [.int (2 : Int32), .null, .int 0, .int 0, .int 0, .int 0, .int 0])), (q1, .inl (cI, 7, .inl (fun _ => 0)))]) C w (by decide +kernel) (by decide) rfl (Nat.le_of_ble_eq_true rfl) (fun _ => rfl) ⟨Nat.le_of_ble_eq_true rfl, Nat.le_of_ble_eq_true rfl⟩ dX5_init_12 (fun q1 H w => ?_)
  refine W.widen (k := 1) (n := 7) (Nat.le_of_ble_eq_true rfl) (Nat.le_of_ble_eq_true rfl) ?_
  refine r_putF (ws1 := [(a, .inr (5, [.int (2 : Int32), .ref q1, .int 0, .int 0, .int 0, .int 0, .int 0])), (q1, .inl (cI, 7, .inl (fun _ => 0)))]) C w inX5_init_X5 tyX5 tyX5_ok nmX5 0 rfl rfl 1 (by decide) lkX5_init_15 rfl hin rfl rfl rfl (Nat.le_of_ble_eq_true rfl) rfl dX5_init_14 (fun H locs w => ?_)
  refine lv_aload_n C.1 C.2.1 dX5_init_17 rfl (lv_at hl 0 rfl) ?_
  refine lv_iconst (v := (0 : Int32)) C.1 C.2.1 dX5_init_18 (by decide) ?_
  refine r_put (ws' := [(a, .inr (5, [.int (2 : Int32), .ref q1, .int (0 : Int32), .int 0, .int 0, .int 0, .int 0])), (q1, .inl (cI, 7, .inl (fun _ => 0)))]) C w inX5_init_X5 tyX5 tyX5_ok nmX5 0 rfl rfl 2 (by decide) lkX5_init_19 rfl rfl rfl (Nat.le_of_ble_eq_true rfl) rfl dX5_init_19 (fun H locs w => ?_)
  refine lv_aload_n C.1 C.2.1 dX5_init_22 rfl (lv_at hl 0 rfl) ?_
  refine lv_iconst (v := (0 : Int32)) C.1 C.2.1 dX5_init_23 (by decide) ?_
  refine r_put (ws' := [(a, .inr (5, [.int (2 : Int32), .ref q1, .int (0 : Int32), .int (0 : Int32), .int 0, .int 0, .int 0])), (q1, .inl (cI, 7, .inl (fun _ => 0)))]) C w inX5_init_X5 tyX5 tyX5_ok nmX5 0 rfl rfl 3 (by decide) lkX5_init_22 rfl rfl rfl (Nat.le_of_ble_eq_true rfl) rfl dX5_init_24 (fun H locs w => ?_)
  refine lv_aload_n C.1 C.2.1 dX5_init_27 rfl (lv_at hl 0 rfl) ?_
  refine lv_iconst (v := (0 : Int32)) C.1 C.2.1 dX5_init_28 (by decide) ?_
  refine r_put (ws' := [(a, .inr (5, [.int (2 : Int32), .ref q1, .int (0 : Int32), .int (0 : Int32), .int (0 : Int32), .int 0, .int 0])), (q1, .inl (cI, 7, .inl (fun _ => 0)))]) C w inX5_init_X5 tyX5 tyX5_ok nmX5 0 rfl rfl 4 (by decide) lkX5_init_25 rfl rfl rfl (Nat.le_of_ble_eq_true rfl) rfl dX5_init_29 (fun H locs w => ?_)
  refine lv_aload_n C.1 C.2.1 dX5_init_32 rfl (lv_at hl 0 rfl) ?_
  refine lv_iconst (v := (2 : Int32)) C.1 C.2.1 dX5_init_33 (by decide) ?_
  refine r_put (ws' := [(a, .inr (5, [.int (2 : Int32), .ref q1, .int (0 : Int32), .int (0 : Int32), .int (0 : Int32), .int (2 : Int32), .int 0])), (q1, .inl (cI, 7, .inl (fun _ => 0)))]) C w inX5_init_X5 tyX5 tyX5_ok nmX5 0 rfl rfl 5 (by decide) lkX5_init_28 rfl rfl rfl (Nat.le_of_ble_eq_true rfl) rfl dX5_init_34 (fun H locs w => ?_)
  refine lv_aload_n C.1 C.2.1 dX5_init_37 rfl (lv_at hl 0 rfl) ?_
  refine lv_iconst (v := (1 : Int32)) C.1 C.2.1 dX5_init_38 (by decide) ?_
  refine r_put (ws' := [(a, .inr (5, [.int (2 : Int32), .ref q1, .int (0 : Int32), .int (0 : Int32), .int (0 : Int32), .int (2 : Int32), .int (1 : Int32)])), (q1, .inl (cI, 7, .inl (fun _ => 0)))]) C w inX5_init_X5 tyX5 tyX5_ok nmX5 0 rfl rfl 6 (by decide) lkX5_init_31 rfl rfl rfl (Nat.le_of_ble_eq_true rfl) rfl dX5_init_39 (fun H locs w => ?_)
  exact ret_n C hr hlocks w ⟨q1, rfl⟩ dX5_init_42

set_option maxRecDepth 100000 in
theorem inX1_init_X1 : ∀ w ∈ u_ws RX1 TX1 2, w ∈ wsX1_init := by decide +kernel
set_option maxRecDepth 100000 in
theorem lkX1_init_9 : Cond.fieldLink RX1 9 "CleanNets$Past" "known" "I" ∈ wsX1_init := by decide +kernel
set_option maxRecDepth 100000 in
theorem lkX1_init_17 : Cond.fieldLink RX1 17 "CleanNets$Past" "rows" "[LCleanNets$Standing;" ∈ wsX1_init := by decide +kernel
set_option maxRecDepth 100000 in
theorem inX1_init_X5 : ∀ w ∈ u_ws RX5 TX5 7, w ∈ wsX1_init := by decide +kernel
set_option maxHeartbeats 4000000 in
set_option maxRecDepth 100000 in
theorem nX1_init (l : Launch) (D : vg) (cI cL cS cH : ClassId) (sz : Nat) (a : Nat) : ctn l yX1_init wsX1_init ({ frames := 2, cells := 13, slots := 90, locals := 32 }) D (ty4 cI cL cS cH) sz [.ref a] [(a, .inr (1, [.int 0, .null]))] (fun ws' => ∃ (q1 : Nat) (R : Nat → Nat) (NR : Nat → Nat), ws' = [(a, .inr (1, [.int (0 : Int32), .ref q1])), (q1, .inl (cS, 6, .inr (.inr (.inr (.inr (fun k => some (R k))))))), ((R 0), .inr (5, [.int (2 : Int32), .ref (NR 0), .int (0 : Int32), .int (0 : Int32), .int (0 : Int32), .int (2 : Int32), .int (1 : Int32)])), ((NR 0), .inl (cI, 7, .inl (fun _ => 0))), ((R 1), .inr (5, [.int (2 : Int32), .ref (NR 1), .int (0 : Int32), .int (0 : Int32), .int (0 : Int32), .int (2 : Int32), .int (1 : Int32)])), ((NR 1), .inl (cI, 7, .inl (fun _ => 0))), ((R 2), .inr (5, [.int (2 : Int32), .ref (NR 2), .int (0 : Int32), .int (0 : Int32), .int (0 : Int32), .int (2 : Int32), .int (1 : Int32)])), ((NR 2), .inl (cI, 7, .inl (fun _ => 0))), ((R 3), .inr (5, [.int (2 : Int32), .ref (NR 3), .int (0 : Int32), .int (0 : Int32), .int (0 : Int32), .int (2 : Int32), .int (1 : Int32)])), ((NR 3), .inl (cI, 7, .inl (fun _ => 0))), ((R 4), .inr (5, [.int (2 : Int32), .ref (NR 4), .int (0 : Int32), .int (0 : Int32), .int (0 : Int32), .int (2 : Int32), .int (1 : Int32)])), ((NR 4), .inl (cI, 7, .inl (fun _ => 0))), ((R 5), .inr (5, [.int (2 : Int32), .ref (NR 5), .int (0 : Int32), .int (0 : Int32), .int (0 : Int32), .int (2 : Int32), .int (1 : Int32)])), ((NR 5), .inl (cI, 7, .inl (fun _ => 0)))]) 13 90 := by
  refine Met.ofW (cc := cX1_init) (maxL := 2) (ret := none) (by decide) rfl ?_
  intro p e s m args below meth c s₁ B hml hv
  obtain ⟨rfl, hpre, ao⟩ := hv
  obtain rfl := hpre.1
  have C : CallFix p m c cX1_init 2 s _ wsX1_init RX1 := ⟨B.exec, B.bytes, hml, findClass_of_methodNamed B.named, atoms_spec (ws := wsX1_init) B.pre⟩
  have hr := B.returns
  have hlocks := B.notSynchronized
  have hin : meth.name = "<init>" := (name_of_methodNamed B.named B.method).1
  have w := wd_start hpre
  clear hpre B
  have hl := lv_entry ([.ref a]) (n := 2) (Nat.le_of_ble_eq_true rfl)
  rw [lg_entry_eq]
  generalize (lg_sl ([.ref a]) ++ List.replicate (2 - (lg_sl ([.ref a])).length) Slot.unset).toArray = ls at hl ⊢
  have hl : lv_has ls 2 [(0, .ref a)] := hl
  refine lv_aload_n C.1 C.2.1 dX1_init_0 rfl (lv_at hl 0 rfl) ?_
  refine W.objInit C.1 C.2.1 C.2.2.2.1 (C.2.2.2.2 (.methodLink RX1 3 objectInit) (by decide +kernel)) (C.2.2.2.2 (.instanceMethod objectInit) (by decide +kernel)) (C.2.2.2.2 _ (List.mem_of_getElem? (i := 3) rfl)) rfl (by rw [C.2.2.1]; exact hl.1) rfl dX1_init_1 (Nat.le_of_ble_eq_true rfl) (Nat.le_of_ble_eq_true rfl) ?_
  refine W.eq (g2 := F0 m 4 ls []) rfl ?_
  refine lv_aload_n C.1 C.2.1 dX1_init_4 rfl (lv_at hl 0 rfl) ?_
  refine lv_iconst (v := (0 : Int32)) C.1 C.2.1 dX1_init_5 (by decide) ?_
  refine r_put (ws' := [(a, .inr (1, [.int (0 : Int32), .null]))]) C w inX1_init_X1 tyX1 tyX1_ok nmX1 0 rfl rfl 0 (by decide) lkX1_init_9 rfl rfl rfl (Nat.le_of_ble_eq_true rfl) rfl dX1_init_6 (fun H locs w => ?_)
  refine lv_aload_n C.1 C.2.1 dX1_init_9 rfl (lv_at hl 0 rfl) ?_
  refine lv_bipush (v := (6 : Int32)) C.1 C.2.1 dX1_init_10 (by decide) ?_
  refine r_newQs (ws' := fun q1 => [(a, .inr (1, [.int (0 : Int32), .null])), (q1, .inl (cS, 6, .inr (.inr (.inr (.inr (fun _ => none))))))]) C w ao (by decide +kernel) (by decide) rfl (Nat.le_of_ble_eq_true rfl) (fun _ => rfl) ⟨Nat.le_of_ble_eq_true rfl, Nat.le_of_ble_eq_true rfl⟩ dX1_init_12 (fun q1 H w => ?_)
  refine W.widen (k := 1) (n := 6) (Nat.le_of_ble_eq_true rfl) (Nat.le_of_ble_eq_true rfl) ?_
  refine r_putF (ws1 := [(a, .inr (1, [.int (0 : Int32), .ref q1])), (q1, .inl (cS, 6, .inr (.inr (.inr (.inr (fun _ => none))))))]) C w inX1_init_X1 tyX1 tyX1_ok nmX1 0 rfl rfl 1 (by decide) lkX1_init_17 rfl hin rfl rfl rfl (Nat.le_of_ble_eq_true rfl) rfl dX1_init_15 (fun H locs w => ?_)
  refine lv_iconst (v := (0 : Int32)) C.1 C.2.1 dX1_init_18 (by decide) ?_
  refine lv_istore_n (lv' := [(1, .int (0 : Int32)), (0, .ref a)]) C.1 C.2.1 dX1_init_19 rfl hl (by decide) rfl (fun ls hl => ?_)
  refine lv_iload_n C.1 C.2.1 dX1_init_20 rfl (lv_at hl 0 rfl) ?_
  refine lv_bipush (v := (6 : Int32)) C.1 C.2.1 dX1_init_21 (by decide) ?_
  refine lv_icmp_ge (tgt := 45) C.1 C.2.1 dX1_init_23 (by decide) (fun hq => ?_) (fun hq => ?_)
  · exact absurd hq (by decide)
  refine lv_aload_n C.1 C.2.1 dX1_init_26 rfl (lv_at hl 1 rfl) ?_
  refine r_get C w inX1_init_X1 0 rfl rfl 1 (by decide) lkX1_init_17 rfl dX1_init_27 ?_
  refine lv_iload_n C.1 C.2.1 dX1_init_30 rfl (lv_at hl 0 rfl) ?_
  refine r_new (ws' := fun q2 => [(a, .inr (1, [.int (0 : Int32), .ref q1])), (q1, .inl (cS, 6, .inr (.inr (.inr (.inr (fun _ => none)))))), (q2, .inr (5, [.int 0, .null, .int 0, .int 0, .int 0, .int 0, .int 0]))]) (ci := 5) (fs := [.int 0, .null, .int 0, .int 0, .int 0, .int 0, .int 0]) C w inX1_init_X5 tyX5 tyX5_ok (by decide +kernel) (by decide +kernel) (by decide +kernel) rfl (fun j hj => by rcases (show j = 0 ∨ j = 1 ∨ j = 2 ∨ j = 3 ∨ j = 4 ∨ j = 5 ∨ j = 6 by omega) with rfl | rfl | rfl | rfl | rfl | rfl | rfl <;> rfl) (fun _ => rfl) ⟨Nat.le_of_ble_eq_true rfl, Nat.le_of_ble_eq_true rfl⟩ dX1_init_31 (fun q2 H w => ?_)
  refine W.widen (k := 2) (n := 13) (Nat.le_of_ble_eq_true rfl) (Nat.le_of_ble_eq_true rfl) ?_
  refine lv_dup C.1 C.2.1 dX1_init_34 rfl ?_
  refine call_IN (rest := [.ref q2, .int (0 : Int32), .ref q1]) C w ao (nX5_init l D cI cL cS cH _ q2) ⟨va_cnB 0 C.2.2.2.2 gX1_init_X5_init_n21 rfl rfl rfl (w.1.2.1 (RX1, 21, yX5_init) (by decide +kernel)) (C.2.2.2.2 (.initialized RX5) (by decide +kernel)) (by decide +kernel) ⟨Nat.le_of_ble_eq_true rfl, Nat.le_of_ble_eq_true rfl⟩, rfl, C.2.2.2.2 (.instanceMethod yX5_init) (by decide +kernel)⟩ [2] [0, 1] [(a, .inr (1, [.int (0 : Int32), .ref q1])), (q1, .inl (cS, 6, .inr (.inr (.inr (.inr (fun _ => none))))))] ⟨rfl, trivial⟩ ⟨rfl, rfl, trivial⟩ (by decide) (by decide) (by decide) hl.1 (lv_room (Nat.le_of_ble_eq_true rfl)) dX1_init_35 ⟨Nat.le_of_ble_eq_true rfl, Nat.le_of_ble_eq_true rfl⟩ (fun wc' H locs hw w => ?_)
  obtain ⟨q1_3, rfl⟩ := hw
  have w : wd D (ty4 cI cL cS cH) s _ s.heap H locs [(a, .inr (1, [.int (0 : Int32), .ref q1])), (q1, .inl (cS, 6, .inr (.inr (.inr (.inr (fun _ => none)))))), (q2, .inr (5, [.int (2 : Int32), .ref q1_3, .int (0 : Int32), .int (0 : Int32), .int (0 : Int32), .int (2 : Int32), .int (1 : Int32)])), (q1_3, .inl (cI, 7, .inl (fun _ => 0)))] := w
  refine W.widen (k := 3) (n := 20) (Nat.le_of_ble_eq_true rfl) (Nat.le_of_ble_eq_true rfl) ?_
  refine r_astq (ws1 := [(a, .inr (1, [.int (0 : Int32), .ref q1])), (q1, .inl (cS, 6, .inr (.inr (.inr (.inr (va_up (fun _ => none) 0 (some q2))))))), (q2, .inr (5, [.int (2 : Int32), .ref q1_3, .int (0 : Int32), .int (0 : Int32), .int (0 : Int32), .int (2 : Int32), .int (1 : Int32)])), (q1_3, .inl (cI, 7, .inl (fun _ => 0)))]) C w 1 2 2 (ci := 5) rfl rfl rfl rfl (inb_in (n := 6) (by decide)) rfl dX1_init_38 (fun H locs w => ?_)
  refine lv_iinc (v := (1 : Int32)) (lv' := [(1, .int (1 : Int32)), (0, .ref a)]) C.1 C.2.1 dX1_init_39 hl (k := 0) rfl (by decide) (by decide) rfl (fun ls hl => ?_)
  refine lv_goto (tgt := 20) C.1 C.2.1 dX1_init_42 (by decide) ?_
  refine lv_iload_n C.1 C.2.1 dX1_init_20 rfl (lv_at hl 0 rfl) ?_
  refine lv_bipush (v := (6 : Int32)) C.1 C.2.1 dX1_init_21 (by decide) ?_
  refine lv_icmp_ge (tgt := 45) C.1 C.2.1 dX1_init_23 (by decide) (fun hq => ?_) (fun hq => ?_)
  · exact absurd hq (by decide)
  refine lv_aload_n C.1 C.2.1 dX1_init_26 rfl (lv_at hl 1 rfl) ?_
  refine r_get C w inX1_init_X1 0 rfl rfl 1 (by decide) lkX1_init_17 rfl dX1_init_27 ?_
  refine lv_iload_n C.1 C.2.1 dX1_init_30 rfl (lv_at hl 0 rfl) ?_
  refine r_new (ws' := fun q4 => [(a, .inr (1, [.int (0 : Int32), .ref q1])), (q1, .inl (cS, 6, .inr (.inr (.inr (.inr (va_up (fun _ => none) 0 (some q2))))))), (q2, .inr (5, [.int (2 : Int32), .ref q1_3, .int (0 : Int32), .int (0 : Int32), .int (0 : Int32), .int (2 : Int32), .int (1 : Int32)])), (q1_3, .inl (cI, 7, .inl (fun _ => 0))), (q4, .inr (5, [.int 0, .null, .int 0, .int 0, .int 0, .int 0, .int 0]))]) (ci := 5) (fs := [.int 0, .null, .int 0, .int 0, .int 0, .int 0, .int 0]) C w inX1_init_X5 tyX5 tyX5_ok (by decide +kernel) (by decide +kernel) (by decide +kernel) rfl (fun j hj => by rcases (show j = 0 ∨ j = 1 ∨ j = 2 ∨ j = 3 ∨ j = 4 ∨ j = 5 ∨ j = 6 by omega) with rfl | rfl | rfl | rfl | rfl | rfl | rfl <;> rfl) (fun _ => rfl) ⟨Nat.le_of_ble_eq_true rfl, Nat.le_of_ble_eq_true rfl⟩ dX1_init_31 (fun q4 H w => ?_)
  refine W.widen (k := 4) (n := 27) (Nat.le_of_ble_eq_true rfl) (Nat.le_of_ble_eq_true rfl) ?_
  refine lv_dup C.1 C.2.1 dX1_init_34 rfl ?_
  refine call_IN (rest := [.ref q4, .int (1 : Int32), .ref q1]) C w ao (nX5_init l D cI cL cS cH _ q4) ⟨va_cnB 0 C.2.2.2.2 gX1_init_X5_init_n21 rfl rfl rfl (w.1.2.1 (RX1, 21, yX5_init) (by decide +kernel)) (C.2.2.2.2 (.initialized RX5) (by decide +kernel)) (by decide +kernel) ⟨Nat.le_of_ble_eq_true rfl, Nat.le_of_ble_eq_true rfl⟩, rfl, C.2.2.2.2 (.instanceMethod yX5_init) (by decide +kernel)⟩ [4] [0, 1, 2, 3] [(a, .inr (1, [.int (0 : Int32), .ref q1])), (q1, .inl (cS, 6, .inr (.inr (.inr (.inr (va_up (fun _ => none) 0 (some q2))))))), (q2, .inr (5, [.int (2 : Int32), .ref q1_3, .int (0 : Int32), .int (0 : Int32), .int (0 : Int32), .int (2 : Int32), .int (1 : Int32)])), (q1_3, .inl (cI, 7, .inl (fun _ => 0)))] ⟨rfl, trivial⟩ ⟨rfl, rfl, rfl, rfl, trivial⟩ (by decide) (by decide) (by decide) hl.1 (lv_room (Nat.le_of_ble_eq_true rfl)) dX1_init_35 ⟨Nat.le_of_ble_eq_true rfl, Nat.le_of_ble_eq_true rfl⟩ (fun wc' H locs hw w => ?_)
  obtain ⟨q1_5, rfl⟩ := hw
  have w : wd D (ty4 cI cL cS cH) s _ s.heap H locs [(a, .inr (1, [.int (0 : Int32), .ref q1])), (q1, .inl (cS, 6, .inr (.inr (.inr (.inr (va_up (fun _ => none) 0 (some q2))))))), (q2, .inr (5, [.int (2 : Int32), .ref q1_3, .int (0 : Int32), .int (0 : Int32), .int (0 : Int32), .int (2 : Int32), .int (1 : Int32)])), (q1_3, .inl (cI, 7, .inl (fun _ => 0))), (q4, .inr (5, [.int (2 : Int32), .ref q1_5, .int (0 : Int32), .int (0 : Int32), .int (0 : Int32), .int (2 : Int32), .int (1 : Int32)])), (q1_5, .inl (cI, 7, .inl (fun _ => 0)))] := w
  refine W.widen (k := 5) (n := 34) (Nat.le_of_ble_eq_true rfl) (Nat.le_of_ble_eq_true rfl) ?_
  refine r_astq (ws1 := [(a, .inr (1, [.int (0 : Int32), .ref q1])), (q1, .inl (cS, 6, .inr (.inr (.inr (.inr (va_up (va_up (fun _ => none) 0 (some q2)) 1 (some q4))))))), (q2, .inr (5, [.int (2 : Int32), .ref q1_3, .int (0 : Int32), .int (0 : Int32), .int (0 : Int32), .int (2 : Int32), .int (1 : Int32)])), (q1_3, .inl (cI, 7, .inl (fun _ => 0))), (q4, .inr (5, [.int (2 : Int32), .ref q1_5, .int (0 : Int32), .int (0 : Int32), .int (0 : Int32), .int (2 : Int32), .int (1 : Int32)])), (q1_5, .inl (cI, 7, .inl (fun _ => 0)))]) C w 1 2 4 (ci := 5) rfl rfl rfl rfl (inb_in (n := 6) (by decide)) rfl dX1_init_38 (fun H locs w => ?_)
  refine lv_iinc (v := (2 : Int32)) (lv' := [(1, .int (2 : Int32)), (0, .ref a)]) C.1 C.2.1 dX1_init_39 hl (k := 0) rfl (by decide) (by decide) rfl (fun ls hl => ?_)
  refine lv_goto (tgt := 20) C.1 C.2.1 dX1_init_42 (by decide) ?_
  refine lv_iload_n C.1 C.2.1 dX1_init_20 rfl (lv_at hl 0 rfl) ?_
  refine lv_bipush (v := (6 : Int32)) C.1 C.2.1 dX1_init_21 (by decide) ?_
  refine lv_icmp_ge (tgt := 45) C.1 C.2.1 dX1_init_23 (by decide) (fun hq => ?_) (fun hq => ?_)
  · exact absurd hq (by decide)
  refine lv_aload_n C.1 C.2.1 dX1_init_26 rfl (lv_at hl 1 rfl) ?_
  refine r_get C w inX1_init_X1 0 rfl rfl 1 (by decide) lkX1_init_17 rfl dX1_init_27 ?_
  refine lv_iload_n C.1 C.2.1 dX1_init_30 rfl (lv_at hl 0 rfl) ?_
  refine r_new (ws' := fun q6 => [(a, .inr (1, [.int (0 : Int32), .ref q1])), (q1, .inl (cS, 6, .inr (.inr (.inr (.inr (va_up (va_up (fun _ => none) 0 (some q2)) 1 (some q4))))))), (q2, .inr (5, [.int (2 : Int32), .ref q1_3, .int (0 : Int32), .int (0 : Int32), .int (0 : Int32), .int (2 : Int32), .int (1 : Int32)])), (q1_3, .inl (cI, 7, .inl (fun _ => 0))), (q4, .inr (5, [.int (2 : Int32), .ref q1_5, .int (0 : Int32), .int (0 : Int32), .int (0 : Int32), .int (2 : Int32), .int (1 : Int32)])), (q1_5, .inl (cI, 7, .inl (fun _ => 0))), (q6, .inr (5, [.int 0, .null, .int 0, .int 0, .int 0, .int 0, .int 0]))]) (ci := 5) (fs := [.int 0, .null, .int 0, .int 0, .int 0, .int 0, .int 0]) C w inX1_init_X5 tyX5 tyX5_ok (by decide +kernel) (by decide +kernel) (by decide +kernel) rfl (fun j hj => by rcases (show j = 0 ∨ j = 1 ∨ j = 2 ∨ j = 3 ∨ j = 4 ∨ j = 5 ∨ j = 6 by omega) with rfl | rfl | rfl | rfl | rfl | rfl | rfl <;> rfl) (fun _ => rfl) ⟨Nat.le_of_ble_eq_true rfl, Nat.le_of_ble_eq_true rfl⟩ dX1_init_31 (fun q6 H w => ?_)
  refine W.widen (k := 6) (n := 41) (Nat.le_of_ble_eq_true rfl) (Nat.le_of_ble_eq_true rfl) ?_
  refine lv_dup C.1 C.2.1 dX1_init_34 rfl ?_
  refine call_IN (rest := [.ref q6, .int (2 : Int32), .ref q1]) C w ao (nX5_init l D cI cL cS cH _ q6) ⟨va_cnB 0 C.2.2.2.2 gX1_init_X5_init_n21 rfl rfl rfl (w.1.2.1 (RX1, 21, yX5_init) (by decide +kernel)) (C.2.2.2.2 (.initialized RX5) (by decide +kernel)) (by decide +kernel) ⟨Nat.le_of_ble_eq_true rfl, Nat.le_of_ble_eq_true rfl⟩, rfl, C.2.2.2.2 (.instanceMethod yX5_init) (by decide +kernel)⟩ [6] [0, 1, 2, 3, 4, 5] [(a, .inr (1, [.int (0 : Int32), .ref q1])), (q1, .inl (cS, 6, .inr (.inr (.inr (.inr (va_up (va_up (fun _ => none) 0 (some q2)) 1 (some q4))))))), (q2, .inr (5, [.int (2 : Int32), .ref q1_3, .int (0 : Int32), .int (0 : Int32), .int (0 : Int32), .int (2 : Int32), .int (1 : Int32)])), (q1_3, .inl (cI, 7, .inl (fun _ => 0))), (q4, .inr (5, [.int (2 : Int32), .ref q1_5, .int (0 : Int32), .int (0 : Int32), .int (0 : Int32), .int (2 : Int32), .int (1 : Int32)])), (q1_5, .inl (cI, 7, .inl (fun _ => 0)))] ⟨rfl, trivial⟩ ⟨rfl, rfl, rfl, rfl, rfl, rfl, trivial⟩ (by decide) (by decide) (by decide) hl.1 (lv_room (Nat.le_of_ble_eq_true rfl)) dX1_init_35 ⟨Nat.le_of_ble_eq_true rfl, Nat.le_of_ble_eq_true rfl⟩ (fun wc' H locs hw w => ?_)
  obtain ⟨q1_7, rfl⟩ := hw
  have w : wd D (ty4 cI cL cS cH) s _ s.heap H locs [(a, .inr (1, [.int (0 : Int32), .ref q1])), (q1, .inl (cS, 6, .inr (.inr (.inr (.inr (va_up (va_up (fun _ => none) 0 (some q2)) 1 (some q4))))))), (q2, .inr (5, [.int (2 : Int32), .ref q1_3, .int (0 : Int32), .int (0 : Int32), .int (0 : Int32), .int (2 : Int32), .int (1 : Int32)])), (q1_3, .inl (cI, 7, .inl (fun _ => 0))), (q4, .inr (5, [.int (2 : Int32), .ref q1_5, .int (0 : Int32), .int (0 : Int32), .int (0 : Int32), .int (2 : Int32), .int (1 : Int32)])), (q1_5, .inl (cI, 7, .inl (fun _ => 0))), (q6, .inr (5, [.int (2 : Int32), .ref q1_7, .int (0 : Int32), .int (0 : Int32), .int (0 : Int32), .int (2 : Int32), .int (1 : Int32)])), (q1_7, .inl (cI, 7, .inl (fun _ => 0)))] := w
  refine W.widen (k := 7) (n := 48) (Nat.le_of_ble_eq_true rfl) (Nat.le_of_ble_eq_true rfl) ?_
  refine r_astq (ws1 := [(a, .inr (1, [.int (0 : Int32), .ref q1])), (q1, .inl (cS, 6, .inr (.inr (.inr (.inr (va_up (va_up (va_up (fun _ => none) 0 (some q2)) 1 (some q4)) 2 (some q6))))))), (q2, .inr (5, [.int (2 : Int32), .ref q1_3, .int (0 : Int32), .int (0 : Int32), .int (0 : Int32), .int (2 : Int32), .int (1 : Int32)])), (q1_3, .inl (cI, 7, .inl (fun _ => 0))), (q4, .inr (5, [.int (2 : Int32), .ref q1_5, .int (0 : Int32), .int (0 : Int32), .int (0 : Int32), .int (2 : Int32), .int (1 : Int32)])), (q1_5, .inl (cI, 7, .inl (fun _ => 0))), (q6, .inr (5, [.int (2 : Int32), .ref q1_7, .int (0 : Int32), .int (0 : Int32), .int (0 : Int32), .int (2 : Int32), .int (1 : Int32)])), (q1_7, .inl (cI, 7, .inl (fun _ => 0)))]) C w 1 2 6 (ci := 5) rfl rfl rfl rfl (inb_in (n := 6) (by decide)) rfl dX1_init_38 (fun H locs w => ?_)
  refine lv_iinc (v := (3 : Int32)) (lv' := [(1, .int (3 : Int32)), (0, .ref a)]) C.1 C.2.1 dX1_init_39 hl (k := 0) rfl (by decide) (by decide) rfl (fun ls hl => ?_)
  refine lv_goto (tgt := 20) C.1 C.2.1 dX1_init_42 (by decide) ?_
  refine lv_iload_n C.1 C.2.1 dX1_init_20 rfl (lv_at hl 0 rfl) ?_
  refine lv_bipush (v := (6 : Int32)) C.1 C.2.1 dX1_init_21 (by decide) ?_
  refine lv_icmp_ge (tgt := 45) C.1 C.2.1 dX1_init_23 (by decide) (fun hq => ?_) (fun hq => ?_)
  · exact absurd hq (by decide)
  refine lv_aload_n C.1 C.2.1 dX1_init_26 rfl (lv_at hl 1 rfl) ?_
  refine r_get C w inX1_init_X1 0 rfl rfl 1 (by decide) lkX1_init_17 rfl dX1_init_27 ?_
  refine lv_iload_n C.1 C.2.1 dX1_init_30 rfl (lv_at hl 0 rfl) ?_
  refine r_new (ws' := fun q8 => [(a, .inr (1, [.int (0 : Int32), .ref q1])), (q1, .inl (cS, 6, .inr (.inr (.inr (.inr (va_up (va_up (va_up (fun _ => none) 0 (some q2)) 1 (some q4)) 2 (some q6))))))), (q2, .inr (5, [.int (2 : Int32), .ref q1_3, .int (0 : Int32), .int (0 : Int32), .int (0 : Int32), .int (2 : Int32), .int (1 : Int32)])), (q1_3, .inl (cI, 7, .inl (fun _ => 0))), (q4, .inr (5, [.int (2 : Int32), .ref q1_5, .int (0 : Int32), .int (0 : Int32), .int (0 : Int32), .int (2 : Int32), .int (1 : Int32)])), (q1_5, .inl (cI, 7, .inl (fun _ => 0))), (q6, .inr (5, [.int (2 : Int32), .ref q1_7, .int (0 : Int32), .int (0 : Int32), .int (0 : Int32), .int (2 : Int32), .int (1 : Int32)])), (q1_7, .inl (cI, 7, .inl (fun _ => 0))), (q8, .inr (5, [.int 0, .null, .int 0, .int 0, .int 0, .int 0, .int 0]))]) (ci := 5) (fs := [.int 0, .null, .int 0, .int 0, .int 0, .int 0, .int 0]) C w inX1_init_X5 tyX5 tyX5_ok (by decide +kernel) (by decide +kernel) (by decide +kernel) rfl (fun j hj => by rcases (show j = 0 ∨ j = 1 ∨ j = 2 ∨ j = 3 ∨ j = 4 ∨ j = 5 ∨ j = 6 by omega) with rfl | rfl | rfl | rfl | rfl | rfl | rfl <;> rfl) (fun _ => rfl) ⟨Nat.le_of_ble_eq_true rfl, Nat.le_of_ble_eq_true rfl⟩ dX1_init_31 (fun q8 H w => ?_)
  refine W.widen (k := 8) (n := 55) (Nat.le_of_ble_eq_true rfl) (Nat.le_of_ble_eq_true rfl) ?_
  refine lv_dup C.1 C.2.1 dX1_init_34 rfl ?_
  refine call_IN (rest := [.ref q8, .int (3 : Int32), .ref q1]) C w ao (nX5_init l D cI cL cS cH _ q8) ⟨va_cnB 0 C.2.2.2.2 gX1_init_X5_init_n21 rfl rfl rfl (w.1.2.1 (RX1, 21, yX5_init) (by decide +kernel)) (C.2.2.2.2 (.initialized RX5) (by decide +kernel)) (by decide +kernel) ⟨Nat.le_of_ble_eq_true rfl, Nat.le_of_ble_eq_true rfl⟩, rfl, C.2.2.2.2 (.instanceMethod yX5_init) (by decide +kernel)⟩ [8] [0, 1, 2, 3, 4, 5, 6, 7] [(a, .inr (1, [.int (0 : Int32), .ref q1])), (q1, .inl (cS, 6, .inr (.inr (.inr (.inr (va_up (va_up (va_up (fun _ => none) 0 (some q2)) 1 (some q4)) 2 (some q6))))))), (q2, .inr (5, [.int (2 : Int32), .ref q1_3, .int (0 : Int32), .int (0 : Int32), .int (0 : Int32), .int (2 : Int32), .int (1 : Int32)])), (q1_3, .inl (cI, 7, .inl (fun _ => 0))), (q4, .inr (5, [.int (2 : Int32), .ref q1_5, .int (0 : Int32), .int (0 : Int32), .int (0 : Int32), .int (2 : Int32), .int (1 : Int32)])), (q1_5, .inl (cI, 7, .inl (fun _ => 0))), (q6, .inr (5, [.int (2 : Int32), .ref q1_7, .int (0 : Int32), .int (0 : Int32), .int (0 : Int32), .int (2 : Int32), .int (1 : Int32)])), (q1_7, .inl (cI, 7, .inl (fun _ => 0)))] ⟨rfl, trivial⟩ ⟨rfl, rfl, rfl, rfl, rfl, rfl, rfl, rfl, trivial⟩ (by decide) (by decide) (by decide) hl.1 (lv_room (Nat.le_of_ble_eq_true rfl)) dX1_init_35 ⟨Nat.le_of_ble_eq_true rfl, Nat.le_of_ble_eq_true rfl⟩ (fun wc' H locs hw w => ?_)
  obtain ⟨q1_9, rfl⟩ := hw
  have w : wd D (ty4 cI cL cS cH) s _ s.heap H locs [(a, .inr (1, [.int (0 : Int32), .ref q1])), (q1, .inl (cS, 6, .inr (.inr (.inr (.inr (va_up (va_up (va_up (fun _ => none) 0 (some q2)) 1 (some q4)) 2 (some q6))))))), (q2, .inr (5, [.int (2 : Int32), .ref q1_3, .int (0 : Int32), .int (0 : Int32), .int (0 : Int32), .int (2 : Int32), .int (1 : Int32)])), (q1_3, .inl (cI, 7, .inl (fun _ => 0))), (q4, .inr (5, [.int (2 : Int32), .ref q1_5, .int (0 : Int32), .int (0 : Int32), .int (0 : Int32), .int (2 : Int32), .int (1 : Int32)])), (q1_5, .inl (cI, 7, .inl (fun _ => 0))), (q6, .inr (5, [.int (2 : Int32), .ref q1_7, .int (0 : Int32), .int (0 : Int32), .int (0 : Int32), .int (2 : Int32), .int (1 : Int32)])), (q1_7, .inl (cI, 7, .inl (fun _ => 0))), (q8, .inr (5, [.int (2 : Int32), .ref q1_9, .int (0 : Int32), .int (0 : Int32), .int (0 : Int32), .int (2 : Int32), .int (1 : Int32)])), (q1_9, .inl (cI, 7, .inl (fun _ => 0)))] := w
  refine W.widen (k := 9) (n := 62) (Nat.le_of_ble_eq_true rfl) (Nat.le_of_ble_eq_true rfl) ?_
  refine r_astq (ws1 := [(a, .inr (1, [.int (0 : Int32), .ref q1])), (q1, .inl (cS, 6, .inr (.inr (.inr (.inr (va_up (va_up (va_up (va_up (fun _ => none) 0 (some q2)) 1 (some q4)) 2 (some q6)) 3 (some q8))))))), (q2, .inr (5, [.int (2 : Int32), .ref q1_3, .int (0 : Int32), .int (0 : Int32), .int (0 : Int32), .int (2 : Int32), .int (1 : Int32)])), (q1_3, .inl (cI, 7, .inl (fun _ => 0))), (q4, .inr (5, [.int (2 : Int32), .ref q1_5, .int (0 : Int32), .int (0 : Int32), .int (0 : Int32), .int (2 : Int32), .int (1 : Int32)])), (q1_5, .inl (cI, 7, .inl (fun _ => 0))), (q6, .inr (5, [.int (2 : Int32), .ref q1_7, .int (0 : Int32), .int (0 : Int32), .int (0 : Int32), .int (2 : Int32), .int (1 : Int32)])), (q1_7, .inl (cI, 7, .inl (fun _ => 0))), (q8, .inr (5, [.int (2 : Int32), .ref q1_9, .int (0 : Int32), .int (0 : Int32), .int (0 : Int32), .int (2 : Int32), .int (1 : Int32)])), (q1_9, .inl (cI, 7, .inl (fun _ => 0)))]) C w 1 2 8 (ci := 5) rfl rfl rfl rfl (inb_in (n := 6) (by decide)) rfl dX1_init_38 (fun H locs w => ?_)
  refine lv_iinc (v := (4 : Int32)) (lv' := [(1, .int (4 : Int32)), (0, .ref a)]) C.1 C.2.1 dX1_init_39 hl (k := 0) rfl (by decide) (by decide) rfl (fun ls hl => ?_)
  refine lv_goto (tgt := 20) C.1 C.2.1 dX1_init_42 (by decide) ?_
  refine lv_iload_n C.1 C.2.1 dX1_init_20 rfl (lv_at hl 0 rfl) ?_
  refine lv_bipush (v := (6 : Int32)) C.1 C.2.1 dX1_init_21 (by decide) ?_
  refine lv_icmp_ge (tgt := 45) C.1 C.2.1 dX1_init_23 (by decide) (fun hq => ?_) (fun hq => ?_)
  · exact absurd hq (by decide)
  refine lv_aload_n C.1 C.2.1 dX1_init_26 rfl (lv_at hl 1 rfl) ?_
  refine r_get C w inX1_init_X1 0 rfl rfl 1 (by decide) lkX1_init_17 rfl dX1_init_27 ?_
  refine lv_iload_n C.1 C.2.1 dX1_init_30 rfl (lv_at hl 0 rfl) ?_
  refine r_new (ws' := fun q10 => [(a, .inr (1, [.int (0 : Int32), .ref q1])), (q1, .inl (cS, 6, .inr (.inr (.inr (.inr (va_up (va_up (va_up (va_up (fun _ => none) 0 (some q2)) 1 (some q4)) 2 (some q6)) 3 (some q8))))))), (q2, .inr (5, [.int (2 : Int32), .ref q1_3, .int (0 : Int32), .int (0 : Int32), .int (0 : Int32), .int (2 : Int32), .int (1 : Int32)])), (q1_3, .inl (cI, 7, .inl (fun _ => 0))), (q4, .inr (5, [.int (2 : Int32), .ref q1_5, .int (0 : Int32), .int (0 : Int32), .int (0 : Int32), .int (2 : Int32), .int (1 : Int32)])), (q1_5, .inl (cI, 7, .inl (fun _ => 0))), (q6, .inr (5, [.int (2 : Int32), .ref q1_7, .int (0 : Int32), .int (0 : Int32), .int (0 : Int32), .int (2 : Int32), .int (1 : Int32)])), (q1_7, .inl (cI, 7, .inl (fun _ => 0))), (q8, .inr (5, [.int (2 : Int32), .ref q1_9, .int (0 : Int32), .int (0 : Int32), .int (0 : Int32), .int (2 : Int32), .int (1 : Int32)])), (q1_9, .inl (cI, 7, .inl (fun _ => 0))), (q10, .inr (5, [.int 0, .null, .int 0, .int 0, .int 0, .int 0, .int 0]))]) (ci := 5) (fs := [.int 0, .null, .int 0, .int 0, .int 0, .int 0, .int 0]) C w inX1_init_X5 tyX5 tyX5_ok (by decide +kernel) (by decide +kernel) (by decide +kernel) rfl (fun j hj => by rcases (show j = 0 ∨ j = 1 ∨ j = 2 ∨ j = 3 ∨ j = 4 ∨ j = 5 ∨ j = 6 by omega) with rfl | rfl | rfl | rfl | rfl | rfl | rfl <;> rfl) (fun _ => rfl) ⟨Nat.le_of_ble_eq_true rfl, Nat.le_of_ble_eq_true rfl⟩ dX1_init_31 (fun q10 H w => ?_)
  refine W.widen (k := 10) (n := 69) (Nat.le_of_ble_eq_true rfl) (Nat.le_of_ble_eq_true rfl) ?_
  refine lv_dup C.1 C.2.1 dX1_init_34 rfl ?_
  refine call_IN (rest := [.ref q10, .int (4 : Int32), .ref q1]) C w ao (nX5_init l D cI cL cS cH _ q10) ⟨va_cnB 0 C.2.2.2.2 gX1_init_X5_init_n21 rfl rfl rfl (w.1.2.1 (RX1, 21, yX5_init) (by decide +kernel)) (C.2.2.2.2 (.initialized RX5) (by decide +kernel)) (by decide +kernel) ⟨Nat.le_of_ble_eq_true rfl, Nat.le_of_ble_eq_true rfl⟩, rfl, C.2.2.2.2 (.instanceMethod yX5_init) (by decide +kernel)⟩ [10] [0, 1, 2, 3, 4, 5, 6, 7, 8, 9] [(a, .inr (1, [.int (0 : Int32), .ref q1])), (q1, .inl (cS, 6, .inr (.inr (.inr (.inr (va_up (va_up (va_up (va_up (fun _ => none) 0 (some q2)) 1 (some q4)) 2 (some q6)) 3 (some q8))))))), (q2, .inr (5, [.int (2 : Int32), .ref q1_3, .int (0 : Int32), .int (0 : Int32), .int (0 : Int32), .int (2 : Int32), .int (1 : Int32)])), (q1_3, .inl (cI, 7, .inl (fun _ => 0))), (q4, .inr (5, [.int (2 : Int32), .ref q1_5, .int (0 : Int32), .int (0 : Int32), .int (0 : Int32), .int (2 : Int32), .int (1 : Int32)])), (q1_5, .inl (cI, 7, .inl (fun _ => 0))), (q6, .inr (5, [.int (2 : Int32), .ref q1_7, .int (0 : Int32), .int (0 : Int32), .int (0 : Int32), .int (2 : Int32), .int (1 : Int32)])), (q1_7, .inl (cI, 7, .inl (fun _ => 0))), (q8, .inr (5, [.int (2 : Int32), .ref q1_9, .int (0 : Int32), .int (0 : Int32), .int (0 : Int32), .int (2 : Int32), .int (1 : Int32)])), (q1_9, .inl (cI, 7, .inl (fun _ => 0)))] ⟨rfl, trivial⟩ ⟨rfl, rfl, rfl, rfl, rfl, rfl, rfl, rfl, rfl, rfl, trivial⟩ (by decide) (by decide) (by decide) hl.1 (lv_room (Nat.le_of_ble_eq_true rfl)) dX1_init_35 ⟨Nat.le_of_ble_eq_true rfl, Nat.le_of_ble_eq_true rfl⟩ (fun wc' H locs hw w => ?_)
  obtain ⟨q1_11, rfl⟩ := hw
  have w : wd D (ty4 cI cL cS cH) s _ s.heap H locs [(a, .inr (1, [.int (0 : Int32), .ref q1])), (q1, .inl (cS, 6, .inr (.inr (.inr (.inr (va_up (va_up (va_up (va_up (fun _ => none) 0 (some q2)) 1 (some q4)) 2 (some q6)) 3 (some q8))))))), (q2, .inr (5, [.int (2 : Int32), .ref q1_3, .int (0 : Int32), .int (0 : Int32), .int (0 : Int32), .int (2 : Int32), .int (1 : Int32)])), (q1_3, .inl (cI, 7, .inl (fun _ => 0))), (q4, .inr (5, [.int (2 : Int32), .ref q1_5, .int (0 : Int32), .int (0 : Int32), .int (0 : Int32), .int (2 : Int32), .int (1 : Int32)])), (q1_5, .inl (cI, 7, .inl (fun _ => 0))), (q6, .inr (5, [.int (2 : Int32), .ref q1_7, .int (0 : Int32), .int (0 : Int32), .int (0 : Int32), .int (2 : Int32), .int (1 : Int32)])), (q1_7, .inl (cI, 7, .inl (fun _ => 0))), (q8, .inr (5, [.int (2 : Int32), .ref q1_9, .int (0 : Int32), .int (0 : Int32), .int (0 : Int32), .int (2 : Int32), .int (1 : Int32)])), (q1_9, .inl (cI, 7, .inl (fun _ => 0))), (q10, .inr (5, [.int (2 : Int32), .ref q1_11, .int (0 : Int32), .int (0 : Int32), .int (0 : Int32), .int (2 : Int32), .int (1 : Int32)])), (q1_11, .inl (cI, 7, .inl (fun _ => 0)))] := w
  refine W.widen (k := 11) (n := 76) (Nat.le_of_ble_eq_true rfl) (Nat.le_of_ble_eq_true rfl) ?_
  refine r_astq (ws1 := [(a, .inr (1, [.int (0 : Int32), .ref q1])), (q1, .inl (cS, 6, .inr (.inr (.inr (.inr (va_up (va_up (va_up (va_up (va_up (fun _ => none) 0 (some q2)) 1 (some q4)) 2 (some q6)) 3 (some q8)) 4 (some q10))))))), (q2, .inr (5, [.int (2 : Int32), .ref q1_3, .int (0 : Int32), .int (0 : Int32), .int (0 : Int32), .int (2 : Int32), .int (1 : Int32)])), (q1_3, .inl (cI, 7, .inl (fun _ => 0))), (q4, .inr (5, [.int (2 : Int32), .ref q1_5, .int (0 : Int32), .int (0 : Int32), .int (0 : Int32), .int (2 : Int32), .int (1 : Int32)])), (q1_5, .inl (cI, 7, .inl (fun _ => 0))), (q6, .inr (5, [.int (2 : Int32), .ref q1_7, .int (0 : Int32), .int (0 : Int32), .int (0 : Int32), .int (2 : Int32), .int (1 : Int32)])), (q1_7, .inl (cI, 7, .inl (fun _ => 0))), (q8, .inr (5, [.int (2 : Int32), .ref q1_9, .int (0 : Int32), .int (0 : Int32), .int (0 : Int32), .int (2 : Int32), .int (1 : Int32)])), (q1_9, .inl (cI, 7, .inl (fun _ => 0))), (q10, .inr (5, [.int (2 : Int32), .ref q1_11, .int (0 : Int32), .int (0 : Int32), .int (0 : Int32), .int (2 : Int32), .int (1 : Int32)])), (q1_11, .inl (cI, 7, .inl (fun _ => 0)))]) C w 1 2 10 (ci := 5) rfl rfl rfl rfl (inb_in (n := 6) (by decide)) rfl dX1_init_38 (fun H locs w => ?_)
  refine lv_iinc (v := (5 : Int32)) (lv' := [(1, .int (5 : Int32)), (0, .ref a)]) C.1 C.2.1 dX1_init_39 hl (k := 0) rfl (by decide) (by decide) rfl (fun ls hl => ?_)
  refine lv_goto (tgt := 20) C.1 C.2.1 dX1_init_42 (by decide) ?_
  refine lv_iload_n C.1 C.2.1 dX1_init_20 rfl (lv_at hl 0 rfl) ?_
  refine lv_bipush (v := (6 : Int32)) C.1 C.2.1 dX1_init_21 (by decide) ?_
  refine lv_icmp_ge (tgt := 45) C.1 C.2.1 dX1_init_23 (by decide) (fun hq => ?_) (fun hq => ?_)
  · exact absurd hq (by decide)
  refine lv_aload_n C.1 C.2.1 dX1_init_26 rfl (lv_at hl 1 rfl) ?_
  refine r_get C w inX1_init_X1 0 rfl rfl 1 (by decide) lkX1_init_17 rfl dX1_init_27 ?_
  refine lv_iload_n C.1 C.2.1 dX1_init_30 rfl (lv_at hl 0 rfl) ?_
  refine r_new (ws' := fun q12 => [(a, .inr (1, [.int (0 : Int32), .ref q1])), (q1, .inl (cS, 6, .inr (.inr (.inr (.inr (va_up (va_up (va_up (va_up (va_up (fun _ => none) 0 (some q2)) 1 (some q4)) 2 (some q6)) 3 (some q8)) 4 (some q10))))))), (q2, .inr (5, [.int (2 : Int32), .ref q1_3, .int (0 : Int32), .int (0 : Int32), .int (0 : Int32), .int (2 : Int32), .int (1 : Int32)])), (q1_3, .inl (cI, 7, .inl (fun _ => 0))), (q4, .inr (5, [.int (2 : Int32), .ref q1_5, .int (0 : Int32), .int (0 : Int32), .int (0 : Int32), .int (2 : Int32), .int (1 : Int32)])), (q1_5, .inl (cI, 7, .inl (fun _ => 0))), (q6, .inr (5, [.int (2 : Int32), .ref q1_7, .int (0 : Int32), .int (0 : Int32), .int (0 : Int32), .int (2 : Int32), .int (1 : Int32)])), (q1_7, .inl (cI, 7, .inl (fun _ => 0))), (q8, .inr (5, [.int (2 : Int32), .ref q1_9, .int (0 : Int32), .int (0 : Int32), .int (0 : Int32), .int (2 : Int32), .int (1 : Int32)])), (q1_9, .inl (cI, 7, .inl (fun _ => 0))), (q10, .inr (5, [.int (2 : Int32), .ref q1_11, .int (0 : Int32), .int (0 : Int32), .int (0 : Int32), .int (2 : Int32), .int (1 : Int32)])), (q1_11, .inl (cI, 7, .inl (fun _ => 0))), (q12, .inr (5, [.int 0, .null, .int 0, .int 0, .int 0, .int 0, .int 0]))]) (ci := 5) (fs := [.int 0, .null, .int 0, .int 0, .int 0, .int 0, .int 0]) C w inX1_init_X5 tyX5 tyX5_ok (by decide +kernel) (by decide +kernel) (by decide +kernel) rfl (fun j hj => by rcases (show j = 0 ∨ j = 1 ∨ j = 2 ∨ j = 3 ∨ j = 4 ∨ j = 5 ∨ j = 6 by omega) with rfl | rfl | rfl | rfl | rfl | rfl | rfl <;> rfl) (fun _ => rfl) ⟨Nat.le_of_ble_eq_true rfl, Nat.le_of_ble_eq_true rfl⟩ dX1_init_31 (fun q12 H w => ?_)
  refine W.widen (k := 12) (n := 83) (Nat.le_of_ble_eq_true rfl) (Nat.le_of_ble_eq_true rfl) ?_
  refine lv_dup C.1 C.2.1 dX1_init_34 rfl ?_
  refine call_IN (rest := [.ref q12, .int (5 : Int32), .ref q1]) C w ao (nX5_init l D cI cL cS cH _ q12) ⟨va_cnB 0 C.2.2.2.2 gX1_init_X5_init_n21 rfl rfl rfl (w.1.2.1 (RX1, 21, yX5_init) (by decide +kernel)) (C.2.2.2.2 (.initialized RX5) (by decide +kernel)) (by decide +kernel) ⟨Nat.le_of_ble_eq_true rfl, Nat.le_of_ble_eq_true rfl⟩, rfl, C.2.2.2.2 (.instanceMethod yX5_init) (by decide +kernel)⟩ [12] [0, 1, 2, 3, 4, 5, 6, 7, 8, 9, 10, 11] [(a, .inr (1, [.int (0 : Int32), .ref q1])), (q1, .inl (cS, 6, .inr (.inr (.inr (.inr (va_up (va_up (va_up (va_up (va_up (fun _ => none) 0 (some q2)) 1 (some q4)) 2 (some q6)) 3 (some q8)) 4 (some q10))))))), (q2, .inr (5, [.int (2 : Int32), .ref q1_3, .int (0 : Int32), .int (0 : Int32), .int (0 : Int32), .int (2 : Int32), .int (1 : Int32)])), (q1_3, .inl (cI, 7, .inl (fun _ => 0))), (q4, .inr (5, [.int (2 : Int32), .ref q1_5, .int (0 : Int32), .int (0 : Int32), .int (0 : Int32), .int (2 : Int32), .int (1 : Int32)])), (q1_5, .inl (cI, 7, .inl (fun _ => 0))), (q6, .inr (5, [.int (2 : Int32), .ref q1_7, .int (0 : Int32), .int (0 : Int32), .int (0 : Int32), .int (2 : Int32), .int (1 : Int32)])), (q1_7, .inl (cI, 7, .inl (fun _ => 0))), (q8, .inr (5, [.int (2 : Int32), .ref q1_9, .int (0 : Int32), .int (0 : Int32), .int (0 : Int32), .int (2 : Int32), .int (1 : Int32)])), (q1_9, .inl (cI, 7, .inl (fun _ => 0))), (q10, .inr (5, [.int (2 : Int32), .ref q1_11, .int (0 : Int32), .int (0 : Int32), .int (0 : Int32), .int (2 : Int32), .int (1 : Int32)])), (q1_11, .inl (cI, 7, .inl (fun _ => 0)))] ⟨rfl, trivial⟩ ⟨rfl, rfl, rfl, rfl, rfl, rfl, rfl, rfl, rfl, rfl, rfl, rfl, trivial⟩ (by decide) (by decide) (by decide) hl.1 (lv_room (Nat.le_of_ble_eq_true rfl)) dX1_init_35 ⟨Nat.le_of_ble_eq_true rfl, Nat.le_of_ble_eq_true rfl⟩ (fun wc' H locs hw w => ?_)
  obtain ⟨q1_13, rfl⟩ := hw
  have w : wd D (ty4 cI cL cS cH) s _ s.heap H locs [(a, .inr (1, [.int (0 : Int32), .ref q1])), (q1, .inl (cS, 6, .inr (.inr (.inr (.inr (va_up (va_up (va_up (va_up (va_up (fun _ => none) 0 (some q2)) 1 (some q4)) 2 (some q6)) 3 (some q8)) 4 (some q10))))))), (q2, .inr (5, [.int (2 : Int32), .ref q1_3, .int (0 : Int32), .int (0 : Int32), .int (0 : Int32), .int (2 : Int32), .int (1 : Int32)])), (q1_3, .inl (cI, 7, .inl (fun _ => 0))), (q4, .inr (5, [.int (2 : Int32), .ref q1_5, .int (0 : Int32), .int (0 : Int32), .int (0 : Int32), .int (2 : Int32), .int (1 : Int32)])), (q1_5, .inl (cI, 7, .inl (fun _ => 0))), (q6, .inr (5, [.int (2 : Int32), .ref q1_7, .int (0 : Int32), .int (0 : Int32), .int (0 : Int32), .int (2 : Int32), .int (1 : Int32)])), (q1_7, .inl (cI, 7, .inl (fun _ => 0))), (q8, .inr (5, [.int (2 : Int32), .ref q1_9, .int (0 : Int32), .int (0 : Int32), .int (0 : Int32), .int (2 : Int32), .int (1 : Int32)])), (q1_9, .inl (cI, 7, .inl (fun _ => 0))), (q10, .inr (5, [.int (2 : Int32), .ref q1_11, .int (0 : Int32), .int (0 : Int32), .int (0 : Int32), .int (2 : Int32), .int (1 : Int32)])), (q1_11, .inl (cI, 7, .inl (fun _ => 0))), (q12, .inr (5, [.int (2 : Int32), .ref q1_13, .int (0 : Int32), .int (0 : Int32), .int (0 : Int32), .int (2 : Int32), .int (1 : Int32)])), (q1_13, .inl (cI, 7, .inl (fun _ => 0)))] := w
  refine W.widen (k := 13) (n := 90) (Nat.le_of_ble_eq_true rfl) (Nat.le_of_ble_eq_true rfl) ?_
  refine r_astq (ws1 := [(a, .inr (1, [.int (0 : Int32), .ref q1])), (q1, .inl (cS, 6, .inr (.inr (.inr (.inr (va_up (va_up (va_up (va_up (va_up (va_up (fun _ => none) 0 (some q2)) 1 (some q4)) 2 (some q6)) 3 (some q8)) 4 (some q10)) 5 (some q12))))))), (q2, .inr (5, [.int (2 : Int32), .ref q1_3, .int (0 : Int32), .int (0 : Int32), .int (0 : Int32), .int (2 : Int32), .int (1 : Int32)])), (q1_3, .inl (cI, 7, .inl (fun _ => 0))), (q4, .inr (5, [.int (2 : Int32), .ref q1_5, .int (0 : Int32), .int (0 : Int32), .int (0 : Int32), .int (2 : Int32), .int (1 : Int32)])), (q1_5, .inl (cI, 7, .inl (fun _ => 0))), (q6, .inr (5, [.int (2 : Int32), .ref q1_7, .int (0 : Int32), .int (0 : Int32), .int (0 : Int32), .int (2 : Int32), .int (1 : Int32)])), (q1_7, .inl (cI, 7, .inl (fun _ => 0))), (q8, .inr (5, [.int (2 : Int32), .ref q1_9, .int (0 : Int32), .int (0 : Int32), .int (0 : Int32), .int (2 : Int32), .int (1 : Int32)])), (q1_9, .inl (cI, 7, .inl (fun _ => 0))), (q10, .inr (5, [.int (2 : Int32), .ref q1_11, .int (0 : Int32), .int (0 : Int32), .int (0 : Int32), .int (2 : Int32), .int (1 : Int32)])), (q1_11, .inl (cI, 7, .inl (fun _ => 0))), (q12, .inr (5, [.int (2 : Int32), .ref q1_13, .int (0 : Int32), .int (0 : Int32), .int (0 : Int32), .int (2 : Int32), .int (1 : Int32)])), (q1_13, .inl (cI, 7, .inl (fun _ => 0)))]) C w 1 2 12 (ci := 5) rfl rfl rfl rfl (inb_in (n := 6) (by decide)) rfl dX1_init_38 (fun H locs w => ?_)
  refine lv_iinc (v := (6 : Int32)) (lv' := [(1, .int (6 : Int32)), (0, .ref a)]) C.1 C.2.1 dX1_init_39 hl (k := 0) rfl (by decide) (by decide) rfl (fun ls hl => ?_)
  refine lv_goto (tgt := 20) C.1 C.2.1 dX1_init_42 (by decide) ?_
  refine lv_iload_n C.1 C.2.1 dX1_init_20 rfl (lv_at hl 0 rfl) ?_
  refine lv_bipush (v := (6 : Int32)) C.1 C.2.1 dX1_init_21 (by decide) ?_
  refine lv_icmp_ge (tgt := 45) C.1 C.2.1 dX1_init_23 (by decide) (fun hq => ?_) (fun hq => ?_)
  rotate_left
  · exact absurd (by decide) hq
  have w := wd_cong w 1 (g := (fun k => some ((fun k => ([q2, q4, q6, q8, q10, q12] : List Nat).getD k 0) k))) (ws1 := [(a, .inr (1, [.int (0 : Int32), .ref q1])), (q1, .inl (cS, 6, .inr (.inr (.inr (.inr (fun k => some ((fun k => ([q2, q4, q6, q8, q10, q12] : List Nat).getD k 0) k))))))), (q2, .inr (5, [.int (2 : Int32), .ref q1_3, .int (0 : Int32), .int (0 : Int32), .int (0 : Int32), .int (2 : Int32), .int (1 : Int32)])), (q1_3, .inl (cI, 7, .inl (fun _ => 0))), (q4, .inr (5, [.int (2 : Int32), .ref q1_5, .int (0 : Int32), .int (0 : Int32), .int (0 : Int32), .int (2 : Int32), .int (1 : Int32)])), (q1_5, .inl (cI, 7, .inl (fun _ => 0))), (q6, .inr (5, [.int (2 : Int32), .ref q1_7, .int (0 : Int32), .int (0 : Int32), .int (0 : Int32), .int (2 : Int32), .int (1 : Int32)])), (q1_7, .inl (cI, 7, .inl (fun _ => 0))), (q8, .inr (5, [.int (2 : Int32), .ref q1_9, .int (0 : Int32), .int (0 : Int32), .int (0 : Int32), .int (2 : Int32), .int (1 : Int32)])), (q1_9, .inl (cI, 7, .inl (fun _ => 0))), (q10, .inr (5, [.int (2 : Int32), .ref q1_11, .int (0 : Int32), .int (0 : Int32), .int (0 : Int32), .int (2 : Int32), .int (1 : Int32)])), (q1_11, .inl (cI, 7, .inl (fun _ => 0))), (q12, .inr (5, [.int (2 : Int32), .ref q1_13, .int (0 : Int32), .int (0 : Int32), .int (0 : Int32), .int (2 : Int32), .int (1 : Int32)])), (q1_13, .inl (cI, 7, .inl (fun _ => 0)))]) rfl (fun j hj => by rcases (show j = 0 ∨ j = 1 ∨ j = 2 ∨ j = 3 ∨ j = 4 ∨ j = 5 by omega) with rfl | rfl | rfl | rfl | rfl | rfl <;> rfl) rfl
  exact ret_n C hr hlocks w ⟨q1, (fun k => ([q2, q4, q6, q8, q10, q12] : List Nat).getD k 0), (fun k => ([q1_3, q1_5, q1_7, q1_9, q1_11, q1_13] : List Nat).getD k 0), rfl⟩ dX1_init_45

set_option maxRecDepth 100000 in
theorem inX0_init_X0 : ∀ w ∈ u_ws RX0 TX0 5, w ∈ wsX0_init := by decide +kernel
set_option maxRecDepth 100000 in
theorem lkX0_init_9 : Cond.fieldLink RX0 9 "CleanNets$Net" "nodes" "I" ∈ wsX0_init := by decide +kernel
set_option maxRecDepth 100000 in
theorem lkX0_init_15 : Cond.fieldLink RX0 15 "CleanNets$Net" "all" "I" ∈ wsX0_init := by decide +kernel
set_option maxRecDepth 100000 in
theorem lkX0_init_18 : Cond.fieldLink RX0 18 "CleanNets$Net" "edition" "I" ∈ wsX0_init := by decide +kernel
set_option maxRecDepth 100000 in
theorem lkX0_init_21 : Cond.fieldLink RX0 21 "CleanNets$Net" "near" "[I" ∈ wsX0_init := by decide +kernel
set_option maxRecDepth 100000 in
theorem lkX0_init_25 : Cond.fieldLink RX0 25 "CleanNets$Net" "beside" "[I" ∈ wsX0_init := by decide +kernel
set_option maxHeartbeats 4000000 in
set_option maxRecDepth 100000 in
theorem nX0_init (l : Launch) (D : vg) (cI cL cS cH : ClassId) (sz : Nat) (a : Nat) : ctn l yX0_init wsX0_init ({ frames := 1, cells := 2, slots := 135, locals := 12 }) D (ty4 cI cL cS cH) sz [.ref a] [(a, .inr (0, [.int 0, .int 0, .int 0, .null, .null]))] (fun ws' => ∃ (q1 : Nat) (q2 : Nat), ws' = [(a, .inr (0, [.int (0 : Int32), .int (0 : Int32), .int (0 : Int32), .ref q1, .ref q2])), (q1, .inl (cI, 7, .inl (fun _ => 0))), (q2, .inl (cI, 128, .inl (fun _ => 0)))]) 2 135 := by
  refine Met.ofW (cc := cX0_init) (maxL := 1) (ret := none) (by decide) rfl ?_
  intro p e s m args below meth c s₁ B hml hv
  obtain ⟨rfl, hpre, ao⟩ := hv
  obtain rfl := hpre.1
  have C : CallFix p m c cX0_init 1 s _ wsX0_init RX0 := ⟨B.exec, B.bytes, hml, findClass_of_methodNamed B.named, atoms_spec (ws := wsX0_init) B.pre⟩
  have hr := B.returns
  have hlocks := B.notSynchronized
  have hin : meth.name = "<init>" := (name_of_methodNamed B.named B.method).1
  have w := wd_start hpre
  clear hpre B
  have hl := lv_entry ([.ref a]) (n := 1) (Nat.le_of_ble_eq_true rfl)
  rw [lg_entry_eq]
  generalize (lg_sl ([.ref a]) ++ List.replicate (1 - (lg_sl ([.ref a])).length) Slot.unset).toArray = ls at hl ⊢
  have hl : lv_has ls 1 [(0, .ref a)] := hl
  refine lv_aload_n C.1 C.2.1 dX0_init_0 rfl (lv_at hl 0 rfl) ?_
  refine W.objInit C.1 C.2.1 C.2.2.2.1 (C.2.2.2.2 (.methodLink RX0 3 objectInit) (by decide +kernel)) (C.2.2.2.2 (.instanceMethod objectInit) (by decide +kernel)) (C.2.2.2.2 _ (List.mem_of_getElem? (i := 3) rfl)) rfl (by rw [C.2.2.1]; exact hl.1) rfl dX0_init_1 (Nat.le_of_ble_eq_true rfl) (Nat.le_of_ble_eq_true rfl) ?_
  refine W.eq (g2 := F0 m 4 ls []) rfl ?_
  refine lv_aload_n C.1 C.2.1 dX0_init_4 rfl (lv_at hl 0 rfl) ?_
  refine lv_iconst (v := (0 : Int32)) C.1 C.2.1 dX0_init_5 (by decide) ?_
  refine r_put (ws' := [(a, .inr (0, [.int (0 : Int32), .int 0, .int 0, .null, .null]))]) C w inX0_init_X0 tyX0 tyX0_ok nmX0 0 rfl rfl 0 (by decide) lkX0_init_9 rfl rfl rfl (Nat.le_of_ble_eq_true rfl) rfl dX0_init_6 (fun H locs w => ?_)
  refine lv_aload_n C.1 C.2.1 dX0_init_9 rfl (lv_at hl 0 rfl) ?_
  refine lv_iconst (v := (0 : Int32)) C.1 C.2.1 dX0_init_10 (by decide) ?_
  refine r_put (ws' := [(a, .inr (0, [.int (0 : Int32), .int (0 : Int32), .int 0, .null, .null]))]) C w inX0_init_X0 tyX0 tyX0_ok nmX0 0 rfl rfl 1 (by decide) lkX0_init_15 rfl rfl rfl (Nat.le_of_ble_eq_true rfl) rfl dX0_init_11 (fun H locs w => ?_)
  refine lv_aload_n C.1 C.2.1 dX0_init_14 rfl (lv_at hl 0 rfl) ?_
  refine lv_iconst (v := (0 : Int32)) C.1 C.2.1 dX0_init_15 (by decide) ?_
  refine r_put (ws' := [(a, .inr (0, [.int (0 : Int32), .int (0 : Int32), .int (0 : Int32), .null, .null]))]) C w inX0_init_X0 tyX0 tyX0_ok nmX0 0 rfl rfl 2 (by decide) lkX0_init_18 rfl rfl rfl (Nat.le_of_ble_eq_true rfl) rfl dX0_init_16 (fun H locs w => ?_)
  refine lv_aload_n C.1 C.2.1 dX0_init_19 rfl (lv_at hl 0 rfl) ?_
  refine lv_bipush (v := (7 : Int32)) C.1 C.2.1 dX0_init_20 (by decide) ?_
  refine r_newI (ws' := fun q1 => [(a, .inr (0, [.int (0 : Int32), .int (0 : Int32), .int (0 : Int32), .null, .null])), (q1, .inl (cI, 7, .inl (fun _ => 0)))]) C w (by decide +kernel) (by decide) rfl (Nat.le_of_ble_eq_true rfl) (fun _ => rfl) ⟨Nat.le_of_ble_eq_true rfl, Nat.le_of_ble_eq_true rfl⟩ dX0_init_22 (fun q1 H w => ?_)
  refine W.widen (k := 1) (n := 7) (Nat.le_of_ble_eq_true rfl) (Nat.le_of_ble_eq_true rfl) ?_
  refine r_putF (ws1 := [(a, .inr (0, [.int (0 : Int32), .int (0 : Int32), .int (0 : Int32), .ref q1, .null])), (q1, .inl (cI, 7, .inl (fun _ => 0)))]) C w inX0_init_X0 tyX0 tyX0_ok nmX0 0 rfl rfl 3 (by decide) lkX0_init_21 rfl hin rfl rfl rfl (Nat.le_of_ble_eq_true rfl) rfl dX0_init_24 (fun H locs w => ?_)
  refine lv_aload_n C.1 C.2.1 dX0_init_27 rfl (lv_at hl 0 rfl) ?_
  refine lv_sipush (v := (128 : Int32)) C.1 C.2.1 dX0_init_28 (by decide) ?_
  refine r_newI (ws' := fun q2 => [(a, .inr (0, [.int (0 : Int32), .int (0 : Int32), .int (0 : Int32), .ref q1, .null])), (q1, .inl (cI, 7, .inl (fun _ => 0))), (q2, .inl (cI, 128, .inl (fun _ => 0)))]) C w (by decide +kernel) (by decide) rfl (Nat.le_of_ble_eq_true rfl) (fun _ => rfl) ⟨Nat.le_of_ble_eq_true rfl, Nat.le_of_ble_eq_true rfl⟩ dX0_init_31 (fun q2 H w => ?_)
  refine W.widen (k := 2) (n := 135) (Nat.le_of_ble_eq_true rfl) (Nat.le_of_ble_eq_true rfl) ?_
  refine r_putF (ws1 := [(a, .inr (0, [.int (0 : Int32), .int (0 : Int32), .int (0 : Int32), .ref q1, .ref q2])), (q1, .inl (cI, 7, .inl (fun _ => 0))), (q2, .inl (cI, 128, .inl (fun _ => 0)))]) C w inX0_init_X0 tyX0 tyX0_ok nmX0 0 rfl rfl 4 (by decide) lkX0_init_25 rfl hin rfl rfl rfl (Nat.le_of_ble_eq_true rfl) rfl dX0_init_33 (fun H locs w => ?_)
  exact ret_n C hr hlocks w ⟨q1, q2, rfl⟩ dX0_init_36

set_option maxRecDepth 100000 in
theorem inX3_init_X0 : ∀ w ∈ u_ws RX0 TX0 5, w ∈ wsX3_init := by decide +kernel
set_option maxRecDepth 100000 in
theorem inX3_init_X3 : ∀ w ∈ u_ws RX3 TX3 7, w ∈ wsX3_init := by decide +kernel
set_option maxRecDepth 100000 in
theorem lkX3_init_12 : Cond.fieldLink RX3 12 "CleanNets$Search" "net" "LCleanNets$Net;" ∈ wsX3_init := by decide +kernel
set_option maxRecDepth 100000 in
theorem lkX3_init_18 : Cond.fieldLink RX3 18 "CleanNets$Search" "states" "[I" ∈ wsX3_init := by decide +kernel
set_option maxRecDepth 100000 in
theorem lkX3_init_22 : Cond.fieldLink RX3 22 "CleanNets$Search" "steps" "[I" ∈ wsX3_init := by decide +kernel
set_option maxRecDepth 100000 in
theorem lkX3_init_25 : Cond.fieldLink RX3 25 "CleanNets$Search" "seen" "[J" ∈ wsX3_init := by decide +kernel
set_option maxRecDepth 100000 in
theorem lkX3_init_29 : Cond.fieldLink RX3 29 "CleanNets$Search" "found" "I" ∈ wsX3_init := by decide +kernel
set_option maxRecDepth 100000 in
theorem lkX3_init_33 : Cond.fieldLink RX3 33 "CleanNets$Search" "goal" "I" ∈ wsX3_init := by decide +kernel
set_option maxRecDepth 100000 in
theorem lkX3_init_36 : Cond.fieldLink RX3 36 "CleanNets$Search" "isSteady" "Z" ∈ wsX3_init := by decide +kernel
set_option maxHeartbeats 4000000 in
set_option maxRecDepth 100000 in
theorem nX3_init (l : Launch) (D : vg) (cI cL cS cH : ClassId) (sz : Nat) (a : Nat) : ctn l yX3_init wsX3_init ({ frames := 2, cells := 6, slots := 4770, locals := 32 }) D (ty4 cI cL cS cH) sz [.ref a] [(a, .inr (3, [.null, .null, .null, .null, .int 0, .int 0, .int 0]))] (fun ws' => ∃ (q1 : Nat) (q1_2 : Nat) (q2_3 : Nat) (q4 : Nat) (q5 : Nat) (q6 : Nat), ws' = [(a, .inr (3, [.ref q1, .ref q4, .ref q5, .ref q6, .int (0 : Int32), .int (-1 : Int32), .int (0 : Int32)])), (q1, .inr (0, [.int (0 : Int32), .int (0 : Int32), .int (0 : Int32), .ref q1_2, .ref q2_3])), (q1_2, .inl (cI, 7, .inl (fun _ => 0))), (q2_3, .inl (cI, 128, .inl (fun _ => 0))), (q4, .inl (cI, 2187, .inl (fun _ => 0))), (q5, .inl (cI, 2187, .inl (fun _ => 0))), (q6, .inl (cL, 256, .inr (.inl (fun _ => 0))))]) 6 4770 := by
  refine Met.ofW (cc := cX3_init) (maxL := 1) (ret := none) (by decide) rfl ?_
  intro p e s m args below meth c s₁ B hml hv
  obtain ⟨rfl, hpre, ao⟩ := hv
  obtain rfl := hpre.1
  have C : CallFix p m c cX3_init 1 s _ wsX3_init RX3 := ⟨B.exec, B.bytes, hml, findClass_of_methodNamed B.named, atoms_spec (ws := wsX3_init) B.pre⟩
  have hr := B.returns
  have hlocks := B.notSynchronized
  have hin : meth.name = "<init>" := (name_of_methodNamed B.named B.method).1
  have w := wd_start hpre
  clear hpre B
  have hl := lv_entry ([.ref a]) (n := 1) (Nat.le_of_ble_eq_true rfl)
  rw [lg_entry_eq]
  generalize (lg_sl ([.ref a]) ++ List.replicate (1 - (lg_sl ([.ref a])).length) Slot.unset).toArray = ls at hl ⊢
  have hl : lv_has ls 1 [(0, .ref a)] := hl
  refine lv_aload_n C.1 C.2.1 dX3_init_0 rfl (lv_at hl 0 rfl) ?_
  refine W.objInit C.1 C.2.1 C.2.2.2.1 (C.2.2.2.2 (.methodLink RX3 3 objectInit) (by decide +kernel)) (C.2.2.2.2 (.instanceMethod objectInit) (by decide +kernel)) (C.2.2.2.2 _ (List.mem_of_getElem? (i := 3) rfl)) rfl (by rw [C.2.2.1]; exact hl.1) rfl dX3_init_1 (Nat.le_of_ble_eq_true rfl) (Nat.le_of_ble_eq_true rfl) ?_
  refine W.eq (g2 := F0 m 4 ls []) rfl ?_
  refine lv_aload_n C.1 C.2.1 dX3_init_4 rfl (lv_at hl 0 rfl) ?_
  refine r_new (ws' := fun q1 => [(a, .inr (3, [.null, .null, .null, .null, .int 0, .int 0, .int 0])), (q1, .inr (0, [.int 0, .int 0, .int 0, .null, .null]))]) (ci := 0) (fs := [.int 0, .int 0, .int 0, .null, .null]) C w inX3_init_X0 tyX0 tyX0_ok (by decide +kernel) (by decide +kernel) (by decide +kernel) rfl (fun j hj => by rcases (show j = 0 ∨ j = 1 ∨ j = 2 ∨ j = 3 ∨ j = 4 by omega) with rfl | rfl | rfl | rfl | rfl <;> rfl) (fun _ => rfl) ⟨Nat.le_of_ble_eq_true rfl, Nat.le_of_ble_eq_true rfl⟩ dX3_init_5 (fun q1 H w => ?_)
  refine W.widen (k := 1) (n := 5) (Nat.le_of_ble_eq_true rfl) (Nat.le_of_ble_eq_true rfl) ?_
  refine lv_dup C.1 C.2.1 dX3_init_8 rfl ?_
  refine call_IN (rest := [.ref q1, .ref a]) C w ao (nX0_init l D cI cL cS cH _ q1) ⟨va_cnB 0 C.2.2.2.2 gX3_init_X0_init_n11 rfl rfl rfl (w.1.2.1 (RX3, 11, yX0_init) (by decide +kernel)) (C.2.2.2.2 (.initialized RX0) (by decide +kernel)) (by decide +kernel) ⟨Nat.le_of_ble_eq_true rfl, Nat.le_of_ble_eq_true rfl⟩, rfl, C.2.2.2.2 (.instanceMethod yX0_init) (by decide +kernel)⟩ [1] [0] [(a, .inr (3, [.null, .null, .null, .null, .int 0, .int 0, .int 0]))] ⟨rfl, trivial⟩ ⟨rfl, trivial⟩ (by decide) (by decide) (by decide) hl.1 (lv_room (Nat.le_of_ble_eq_true rfl)) dX3_init_9 ⟨Nat.le_of_ble_eq_true rfl, Nat.le_of_ble_eq_true rfl⟩ (fun wc' H locs hw w => ?_)
  obtain ⟨q1_2, q2_3, rfl⟩ := hw
  have w : wd D (ty4 cI cL cS cH) s _ s.heap H locs [(a, .inr (3, [.null, .null, .null, .null, .int 0, .int 0, .int 0])), (q1, .inr (0, [.int (0 : Int32), .int (0 : Int32), .int (0 : Int32), .ref q1_2, .ref q2_3])), (q1_2, .inl (cI, 7, .inl (fun _ => 0))), (q2_3, .inl (cI, 128, .inl (fun _ => 0)))] := w
  refine W.widen (k := 3) (n := 140) (Nat.le_of_ble_eq_true rfl) (Nat.le_of_ble_eq_true rfl) ?_
  refine r_putF (ws1 := [(a, .inr (3, [.ref q1, .null, .null, .null, .int 0, .int 0, .int 0])), (q1, .inr (0, [.int (0 : Int32), .int (0 : Int32), .int (0 : Int32), .ref q1_2, .ref q2_3])), (q1_2, .inl (cI, 7, .inl (fun _ => 0))), (q2_3, .inl (cI, 128, .inl (fun _ => 0)))]) C w inX3_init_X3 tyX3 tyX3_ok nmX3 0 rfl rfl 0 (by decide) lkX3_init_12 rfl hin rfl rfl rfl (Nat.le_of_ble_eq_true rfl) rfl dX3_init_12 (fun H locs w => ?_)
  refine lv_aload_n C.1 C.2.1 dX3_init_15 rfl (lv_at hl 0 rfl) ?_
  refine lv_sipush (v := (2187 : Int32)) C.1 C.2.1 dX3_init_16 (by decide) ?_
  refine r_newI (ws' := fun q4 => [(a, .inr (3, [.ref q1, .null, .null, .null, .int 0, .int 0, .int 0])), (q1, .inr (0, [.int (0 : Int32), .int (0 : Int32), .int (0 : Int32), .ref q1_2, .ref q2_3])), (q1_2, .inl (cI, 7, .inl (fun _ => 0))), (q2_3, .inl (cI, 128, .inl (fun _ => 0))), (q4, .inl (cI, 2187, .inl (fun _ => 0)))]) C w (by decide +kernel) (by decide) rfl (Nat.le_of_ble_eq_true rfl) (fun _ => rfl) ⟨Nat.le_of_ble_eq_true rfl, Nat.le_of_ble_eq_true rfl⟩ dX3_init_19 (fun q4 H w => ?_)
  refine W.widen (k := 4) (n := 2327) (Nat.le_of_ble_eq_true rfl) (Nat.le_of_ble_eq_true rfl) ?_
  refine r_putF (ws1 := [(a, .inr (3, [.ref q1, .ref q4, .null, .null, .int 0, .int 0, .int 0])), (q1, .inr (0, [.int (0 : Int32), .int (0 : Int32), .int (0 : Int32), .ref q1_2, .ref q2_3])), (q1_2, .inl (cI, 7, .inl (fun _ => 0))), (q2_3, .inl (cI, 128, .inl (fun _ => 0))), (q4, .inl (cI, 2187, .inl (fun _ => 0)))]) C w inX3_init_X3 tyX3 tyX3_ok nmX3 0 rfl rfl 1 (by decide) lkX3_init_18 rfl hin rfl rfl rfl (Nat.le_of_ble_eq_true rfl) rfl dX3_init_21 (fun H locs w => ?_)
  refine lv_aload_n C.1 C.2.1 dX3_init_24 rfl (lv_at hl 0 rfl) ?_
  refine lv_sipush (v := (2187 : Int32)) C.1 C.2.1 dX3_init_25 (by decide) ?_
  refine r_newI (ws' := fun q5 => [(a, .inr (3, [.ref q1, .ref q4, .null, .null, .int 0, .int 0, .int 0])), (q1, .inr (0, [.int (0 : Int32), .int (0 : Int32), .int (0 : Int32), .ref q1_2, .ref q2_3])), (q1_2, .inl (cI, 7, .inl (fun _ => 0))), (q2_3, .inl (cI, 128, .inl (fun _ => 0))), (q4, .inl (cI, 2187, .inl (fun _ => 0))), (q5, .inl (cI, 2187, .inl (fun _ => 0)))]) C w (by decide +kernel) (by decide) rfl (Nat.le_of_ble_eq_true rfl) (fun _ => rfl) ⟨Nat.le_of_ble_eq_true rfl, Nat.le_of_ble_eq_true rfl⟩ dX3_init_28 (fun q5 H w => ?_)
  refine W.widen (k := 5) (n := 4514) (Nat.le_of_ble_eq_true rfl) (Nat.le_of_ble_eq_true rfl) ?_
  refine r_putF (ws1 := [(a, .inr (3, [.ref q1, .ref q4, .ref q5, .null, .int 0, .int 0, .int 0])), (q1, .inr (0, [.int (0 : Int32), .int (0 : Int32), .int (0 : Int32), .ref q1_2, .ref q2_3])), (q1_2, .inl (cI, 7, .inl (fun _ => 0))), (q2_3, .inl (cI, 128, .inl (fun _ => 0))), (q4, .inl (cI, 2187, .inl (fun _ => 0))), (q5, .inl (cI, 2187, .inl (fun _ => 0)))]) C w inX3_init_X3 tyX3 tyX3_ok nmX3 0 rfl rfl 2 (by decide) lkX3_init_22 rfl hin rfl rfl rfl (Nat.le_of_ble_eq_true rfl) rfl dX3_init_30 (fun H locs w => ?_)
  refine lv_aload_n C.1 C.2.1 dX3_init_33 rfl (lv_at hl 0 rfl) ?_
  refine lv_sipush (v := (256 : Int32)) C.1 C.2.1 dX3_init_34 (by decide) ?_
  refine r_newJ (ws' := fun q6 => [(a, .inr (3, [.ref q1, .ref q4, .ref q5, .null, .int 0, .int 0, .int 0])), (q1, .inr (0, [.int (0 : Int32), .int (0 : Int32), .int (0 : Int32), .ref q1_2, .ref q2_3])), (q1_2, .inl (cI, 7, .inl (fun _ => 0))), (q2_3, .inl (cI, 128, .inl (fun _ => 0))), (q4, .inl (cI, 2187, .inl (fun _ => 0))), (q5, .inl (cI, 2187, .inl (fun _ => 0))), (q6, .inl (cL, 256, .inr (.inl (fun _ => 0))))]) C w (by decide +kernel) (by decide) rfl (Nat.le_of_ble_eq_true rfl) (fun _ => rfl) ⟨Nat.le_of_ble_eq_true rfl, Nat.le_of_ble_eq_true rfl⟩ dX3_init_37 (fun q6 H w => ?_)
  refine W.widen (k := 6) (n := 4770) (Nat.le_of_ble_eq_true rfl) (Nat.le_of_ble_eq_true rfl) ?_
  refine r_putF (ws1 := [(a, .inr (3, [.ref q1, .ref q4, .ref q5, .ref q6, .int 0, .int 0, .int 0])), (q1, .inr (0, [.int (0 : Int32), .int (0 : Int32), .int (0 : Int32), .ref q1_2, .ref q2_3])), (q1_2, .inl (cI, 7, .inl (fun _ => 0))), (q2_3, .inl (cI, 128, .inl (fun _ => 0))), (q4, .inl (cI, 2187, .inl (fun _ => 0))), (q5, .inl (cI, 2187, .inl (fun _ => 0))), (q6, .inl (cL, 256, .inr (.inl (fun _ => 0))))]) C w inX3_init_X3 tyX3 tyX3_ok nmX3 0 rfl rfl 3 (by decide) lkX3_init_25 rfl hin rfl rfl rfl (Nat.le_of_ble_eq_true rfl) rfl dX3_init_39 (fun H locs w => ?_)
  refine lv_aload_n C.1 C.2.1 dX3_init_42 rfl (lv_at hl 0 rfl) ?_
  refine lv_iconst (v := (0 : Int32)) C.1 C.2.1 dX3_init_43 (by decide) ?_
  refine r_put (ws' := [(a, .inr (3, [.ref q1, .ref q4, .ref q5, .ref q6, .int (0 : Int32), .int 0, .int 0])), (q1, .inr (0, [.int (0 : Int32), .int (0 : Int32), .int (0 : Int32), .ref q1_2, .ref q2_3])), (q1_2, .inl (cI, 7, .inl (fun _ => 0))), (q2_3, .inl (cI, 128, .inl (fun _ => 0))), (q4, .inl (cI, 2187, .inl (fun _ => 0))), (q5, .inl (cI, 2187, .inl (fun _ => 0))), (q6, .inl (cL, 256, .inr (.inl (fun _ => 0))))]) C w inX3_init_X3 tyX3 tyX3_ok nmX3 0 rfl rfl 4 (by decide) lkX3_init_29 rfl rfl rfl (Nat.le_of_ble_eq_true rfl) rfl dX3_init_44 (fun H locs w => ?_)
  refine lv_aload_n C.1 C.2.1 dX3_init_47 rfl (lv_at hl 0 rfl) ?_
  refine lv_iconst (v := (-1 : Int32)) C.1 C.2.1 dX3_init_48 (by decide) ?_
  refine r_put (ws' := [(a, .inr (3, [.ref q1, .ref q4, .ref q5, .ref q6, .int (0 : Int32), .int (-1 : Int32), .int 0])), (q1, .inr (0, [.int (0 : Int32), .int (0 : Int32), .int (0 : Int32), .ref q1_2, .ref q2_3])), (q1_2, .inl (cI, 7, .inl (fun _ => 0))), (q2_3, .inl (cI, 128, .inl (fun _ => 0))), (q4, .inl (cI, 2187, .inl (fun _ => 0))), (q5, .inl (cI, 2187, .inl (fun _ => 0))), (q6, .inl (cL, 256, .inr (.inl (fun _ => 0))))]) C w inX3_init_X3 tyX3 tyX3_ok nmX3 0 rfl rfl 5 (by decide) lkX3_init_33 rfl rfl rfl (Nat.le_of_ble_eq_true rfl) rfl dX3_init_49 (fun H locs w => ?_)
  refine lv_aload_n C.1 C.2.1 dX3_init_52 rfl (lv_at hl 0 rfl) ?_
  refine lv_iconst (v := (0 : Int32)) C.1 C.2.1 dX3_init_53 (by decide) ?_
  refine r_put (ws' := [(a, .inr (3, [.ref q1, .ref q4, .ref q5, .ref q6, .int (0 : Int32), .int (-1 : Int32), .int (0 : Int32)])), (q1, .inr (0, [.int (0 : Int32), .int (0 : Int32), .int (0 : Int32), .ref q1_2, .ref q2_3])), (q1_2, .inl (cI, 7, .inl (fun _ => 0))), (q2_3, .inl (cI, 128, .inl (fun _ => 0))), (q4, .inl (cI, 2187, .inl (fun _ => 0))), (q5, .inl (cI, 2187, .inl (fun _ => 0))), (q6, .inl (cL, 256, .inr (.inl (fun _ => 0))))]) C w inX3_init_X3 tyX3 tyX3_ok nmX3 0 rfl rfl 6 (by decide) lkX3_init_36 rfl (by decide) (by decide) (Nat.le_of_ble_eq_true rfl) rfl dX3_init_54 (fun H locs w => ?_)
  exact ret_n C hr hlocks w ⟨q1, q1_2, q2_3, q4, q5, q6, rfl⟩ dX3_init_57

set_option maxRecDepth 100000 in
theorem inX2_init_X3 : ∀ w ∈ u_ws RX3 TX3 7, w ∈ wsX2_init := by decide +kernel
set_option maxRecDepth 100000 in
theorem inX2_init_X2 : ∀ w ∈ u_ws RX2 TX2 5, w ∈ wsX2_init := by decide +kernel
set_option maxRecDepth 100000 in
theorem lkX2_init_12 : Cond.fieldLink RX2 12 "CleanNets$Plans" "search" "LCleanNets$Search;" ∈ wsX2_init := by decide +kernel
set_option maxRecDepth 100000 in
theorem lkX2_init_18 : Cond.fieldLink RX2 18 "CleanNets$Search" "net" "LCleanNets$Net;" ∈ wsX2_init := by decide +kernel
set_option maxRecDepth 100000 in
theorem lkX2_init_22 : Cond.fieldLink RX2 22 "CleanNets$Plans" "net" "LCleanNets$Net;" ∈ wsX2_init := by decide +kernel
set_option maxRecDepth 100000 in
theorem lkX2_init_23 : Cond.fieldLink RX2 23 "CleanNets$Plans" "lengths" "[I" ∈ wsX2_init := by decide +kernel
set_option maxRecDepth 100000 in
theorem lkX2_init_27 : Cond.fieldLink RX2 27 "CleanNets$Plans" "edition" "I" ∈ wsX2_init := by decide +kernel
set_option maxRecDepth 100000 in
theorem lkX2_init_31 : Cond.fieldLink RX2 31 "CleanNets$Plans" "held" "I" ∈ wsX2_init := by decide +kernel
set_option maxHeartbeats 4000000 in
set_option maxRecDepth 100000 in
theorem nX2_init (l : Launch) (D : vg) (cI cL cS cH : ClassId) (sz : Nat) (a : Nat) : ctn l yX2_init wsX2_init ({ frames := 3, cells := 8, slots := 4819, locals := 52 }) D (ty4 cI cL cS cH) sz [.ref a] [(a, .inr (2, [.null, .null, .null, .int 0, .int 0]))] (fun ws' => ∃ (q1 : Nat) (q1_2 : Nat) (q1_2_3 : Nat) (q2_3_4 : Nat) (q4_5 : Nat) (q5_6 : Nat) (q6_7 : Nat) (q8 : Nat), ws' = [(a, .inr (2, [.ref q1, .ref q1_2, .ref q8, .int (0 : Int32), .int (-1 : Int32)])), (q1, .inr (3, [.ref q1_2, .ref q4_5, .ref q5_6, .ref q6_7, .int (0 : Int32), .int (-1 : Int32), .int (0 : Int32)])), (q1_2, .inr (0, [.int (0 : Int32), .int (0 : Int32), .int (0 : Int32), .ref q1_2_3, .ref q2_3_4])), (q1_2_3, .inl (cI, 7, .inl (fun _ => 0))), (q2_3_4, .inl (cI, 128, .inl (fun _ => 0))), (q4_5, .inl (cI, 2187, .inl (fun _ => 0))), (q5_6, .inl (cI, 2187, .inl (fun _ => 0))), (q6_7, .inl (cL, 256, .inr (.inl (fun _ => 0)))), (q8, .inl (cI, 42, .inl (fun _ => 0)))]) 8 4819 := by
  refine Met.ofW (cc := cX2_init) (maxL := 1) (ret := none) (by decide) rfl ?_
  intro p e s m args below meth c s₁ B hml hv
  obtain ⟨rfl, hpre, ao⟩ := hv
  obtain rfl := hpre.1
  have C : CallFix p m c cX2_init 1 s _ wsX2_init RX2 := ⟨B.exec, B.bytes, hml, findClass_of_methodNamed B.named, atoms_spec (ws := wsX2_init) B.pre⟩
  have hr := B.returns
  have hlocks := B.notSynchronized
  have hin : meth.name = "<init>" := (name_of_methodNamed B.named B.method).1
  have w := wd_start hpre
  clear hpre B
  have hl := lv_entry ([.ref a]) (n := 1) (Nat.le_of_ble_eq_true rfl)
  rw [lg_entry_eq]
  generalize (lg_sl ([.ref a]) ++ List.replicate (1 - (lg_sl ([.ref a])).length) Slot.unset).toArray = ls at hl ⊢
  have hl : lv_has ls 1 [(0, .ref a)] := hl
  refine lv_aload_n C.1 C.2.1 dX2_init_0 rfl (lv_at hl 0 rfl) ?_
  refine W.objInit C.1 C.2.1 C.2.2.2.1 (C.2.2.2.2 (.methodLink RX2 3 objectInit) (by decide +kernel)) (C.2.2.2.2 (.instanceMethod objectInit) (by decide +kernel)) (C.2.2.2.2 _ (List.mem_of_getElem? (i := 3) rfl)) rfl (by rw [C.2.2.1]; exact hl.1) rfl dX2_init_1 (Nat.le_of_ble_eq_true rfl) (Nat.le_of_ble_eq_true rfl) ?_
  refine W.eq (g2 := F0 m 4 ls []) rfl ?_
  refine lv_aload_n C.1 C.2.1 dX2_init_4 rfl (lv_at hl 0 rfl) ?_
  refine r_new (ws' := fun q1 => [(a, .inr (2, [.null, .null, .null, .int 0, .int 0])), (q1, .inr (3, [.null, .null, .null, .null, .int 0, .int 0, .int 0]))]) (ci := 3) (fs := [.null, .null, .null, .null, .int 0, .int 0, .int 0]) C w inX2_init_X3 tyX3 tyX3_ok (by decide +kernel) (by decide +kernel) (by decide +kernel) rfl (fun j hj => by rcases (show j = 0 ∨ j = 1 ∨ j = 2 ∨ j = 3 ∨ j = 4 ∨ j = 5 ∨ j = 6 by omega) with rfl | rfl | rfl | rfl | rfl | rfl | rfl <;> rfl) (fun _ => rfl) ⟨Nat.le_of_ble_eq_true rfl, Nat.le_of_ble_eq_true rfl⟩ dX2_init_5 (fun q1 H w => ?_)
  refine W.widen (k := 1) (n := 7) (Nat.le_of_ble_eq_true rfl) (Nat.le_of_ble_eq_true rfl) ?_
  refine lv_dup C.1 C.2.1 dX2_init_8 rfl ?_
  refine call_IN (rest := [.ref q1, .ref a]) C w ao (nX3_init l D cI cL cS cH _ q1) ⟨va_cnB 0 C.2.2.2.2 gX2_init_X3_init_n11 rfl rfl rfl (w.1.2.1 (RX2, 11, yX3_init) (by decide +kernel)) (C.2.2.2.2 (.initialized RX3) (by decide +kernel)) (by decide +kernel) ⟨Nat.le_of_ble_eq_true rfl, Nat.le_of_ble_eq_true rfl⟩, rfl, C.2.2.2.2 (.instanceMethod yX3_init) (by decide +kernel)⟩ [1] [0] [(a, .inr (2, [.null, .null, .null, .int 0, .int 0]))] ⟨rfl, trivial⟩ ⟨rfl, trivial⟩ (by decide) (by decide) (by decide) hl.1 (lv_room (Nat.le_of_ble_eq_true rfl)) dX2_init_9 ⟨Nat.le_of_ble_eq_true rfl, Nat.le_of_ble_eq_true rfl⟩ (fun wc' H locs hw w => ?_)
  obtain ⟨q1_2, q1_2_3, q2_3_4, q4_5, q5_6, q6_7, rfl⟩ := hw
  have w : wd D (ty4 cI cL cS cH) s _ s.heap H locs [(a, .inr (2, [.null, .null, .null, .int 0, .int 0])), (q1, .inr (3, [.ref q1_2, .ref q4_5, .ref q5_6, .ref q6_7, .int (0 : Int32), .int (-1 : Int32), .int (0 : Int32)])), (q1_2, .inr (0, [.int (0 : Int32), .int (0 : Int32), .int (0 : Int32), .ref q1_2_3, .ref q2_3_4])), (q1_2_3, .inl (cI, 7, .inl (fun _ => 0))), (q2_3_4, .inl (cI, 128, .inl (fun _ => 0))), (q4_5, .inl (cI, 2187, .inl (fun _ => 0))), (q5_6, .inl (cI, 2187, .inl (fun _ => 0))), (q6_7, .inl (cL, 256, .inr (.inl (fun _ => 0))))] := w
  refine W.widen (k := 7) (n := 4777) (Nat.le_of_ble_eq_true rfl) (Nat.le_of_ble_eq_true rfl) ?_
  refine r_putF (ws1 := [(a, .inr (2, [.ref q1, .null, .null, .int 0, .int 0])), (q1, .inr (3, [.ref q1_2, .ref q4_5, .ref q5_6, .ref q6_7, .int (0 : Int32), .int (-1 : Int32), .int (0 : Int32)])), (q1_2, .inr (0, [.int (0 : Int32), .int (0 : Int32), .int (0 : Int32), .ref q1_2_3, .ref q2_3_4])), (q1_2_3, .inl (cI, 7, .inl (fun _ => 0))), (q2_3_4, .inl (cI, 128, .inl (fun _ => 0))), (q4_5, .inl (cI, 2187, .inl (fun _ => 0))), (q5_6, .inl (cI, 2187, .inl (fun _ => 0))), (q6_7, .inl (cL, 256, .inr (.inl (fun _ => 0))))]) C w inX2_init_X2 tyX2 tyX2_ok nmX2 0 rfl rfl 0 (by decide) lkX2_init_12 rfl hin rfl rfl rfl (Nat.le_of_ble_eq_true rfl) rfl dX2_init_12 (fun H locs w => ?_)
  refine lv_aload_n C.1 C.2.1 dX2_init_15 rfl (lv_at hl 0 rfl) ?_
  refine lv_aload_n C.1 C.2.1 dX2_init_16 rfl (lv_at hl 0 rfl) ?_
  refine r_get C w inX2_init_X2 0 rfl rfl 0 (by decide) lkX2_init_12 rfl dX2_init_17 ?_
  refine r_get C w inX2_init_X3 1 rfl rfl 0 (by decide) lkX2_init_18 rfl dX2_init_20 ?_
  refine r_putF (ws1 := [(a, .inr (2, [.ref q1, .ref q1_2, .null, .int 0, .int 0])), (q1, .inr (3, [.ref q1_2, .ref q4_5, .ref q5_6, .ref q6_7, .int (0 : Int32), .int (-1 : Int32), .int (0 : Int32)])), (q1_2, .inr (0, [.int (0 : Int32), .int (0 : Int32), .int (0 : Int32), .ref q1_2_3, .ref q2_3_4])), (q1_2_3, .inl (cI, 7, .inl (fun _ => 0))), (q2_3_4, .inl (cI, 128, .inl (fun _ => 0))), (q4_5, .inl (cI, 2187, .inl (fun _ => 0))), (q5_6, .inl (cI, 2187, .inl (fun _ => 0))), (q6_7, .inl (cL, 256, .inr (.inl (fun _ => 0))))]) C w inX2_init_X2 tyX2 tyX2_ok nmX2 0 rfl rfl 1 (by decide) lkX2_init_22 rfl hin rfl rfl rfl (Nat.le_of_ble_eq_true rfl) rfl dX2_init_23 (fun H locs w => ?_)
  refine lv_aload_n C.1 C.2.1 dX2_init_26 rfl (lv_at hl 0 rfl) ?_
  refine lv_bipush (v := (42 : Int32)) C.1 C.2.1 dX2_init_27 (by decide) ?_
  refine r_newI (ws' := fun q8 => [(a, .inr (2, [.ref q1, .ref q1_2, .null, .int 0, .int 0])), (q1, .inr (3, [.ref q1_2, .ref q4_5, .ref q5_6, .ref q6_7, .int (0 : Int32), .int (-1 : Int32), .int (0 : Int32)])), (q1_2, .inr (0, [.int (0 : Int32), .int (0 : Int32), .int (0 : Int32), .ref q1_2_3, .ref q2_3_4])), (q1_2_3, .inl (cI, 7, .inl (fun _ => 0))), (q2_3_4, .inl (cI, 128, .inl (fun _ => 0))), (q4_5, .inl (cI, 2187, .inl (fun _ => 0))), (q5_6, .inl (cI, 2187, .inl (fun _ => 0))), (q6_7, .inl (cL, 256, .inr (.inl (fun _ => 0)))), (q8, .inl (cI, 42, .inl (fun _ => 0)))]) C w (by decide +kernel) (by decide) rfl (Nat.le_of_ble_eq_true rfl) (fun _ => rfl) ⟨Nat.le_of_ble_eq_true rfl, Nat.le_of_ble_eq_true rfl⟩ dX2_init_29 (fun q8 H w => ?_)
  refine W.widen (k := 8) (n := 4819) (Nat.le_of_ble_eq_true rfl) (Nat.le_of_ble_eq_true rfl) ?_
  refine r_putF (ws1 := [(a, .inr (2, [.ref q1, .ref q1_2, .ref q8, .int 0, .int 0])), (q1, .inr (3, [.ref q1_2, .ref q4_5, .ref q5_6, .ref q6_7, .int (0 : Int32), .int (-1 : Int32), .int (0 : Int32)])), (q1_2, .inr (0, [.int (0 : Int32), .int (0 : Int32), .int (0 : Int32), .ref q1_2_3, .ref q2_3_4])), (q1_2_3, .inl (cI, 7, .inl (fun _ => 0))), (q2_3_4, .inl (cI, 128, .inl (fun _ => 0))), (q4_5, .inl (cI, 2187, .inl (fun _ => 0))), (q5_6, .inl (cI, 2187, .inl (fun _ => 0))), (q6_7, .inl (cL, 256, .inr (.inl (fun _ => 0)))), (q8, .inl (cI, 42, .inl (fun _ => 0)))]) C w inX2_init_X2 tyX2 tyX2_ok nmX2 0 rfl rfl 2 (by decide) lkX2_init_23 rfl hin rfl rfl rfl (Nat.le_of_ble_eq_true rfl) rfl dX2_init_31 (fun H locs w => ?_)
  refine lv_aload_n C.1 C.2.1 dX2_init_34 rfl (lv_at hl 0 rfl) ?_
  refine lv_iconst (v := (0 : Int32)) C.1 C.2.1 dX2_init_35 (by decide) ?_
  refine r_put (ws' := [(a, .inr (2, [.ref q1, .ref q1_2, .ref q8, .int (0 : Int32), .int 0])), (q1, .inr (3, [.ref q1_2, .ref q4_5, .ref q5_6, .ref q6_7, .int (0 : Int32), .int (-1 : Int32), .int (0 : Int32)])), (q1_2, .inr (0, [.int (0 : Int32), .int (0 : Int32), .int (0 : Int32), .ref q1_2_3, .ref q2_3_4])), (q1_2_3, .inl (cI, 7, .inl (fun _ => 0))), (q2_3_4, .inl (cI, 128, .inl (fun _ => 0))), (q4_5, .inl (cI, 2187, .inl (fun _ => 0))), (q5_6, .inl (cI, 2187, .inl (fun _ => 0))), (q6_7, .inl (cL, 256, .inr (.inl (fun _ => 0)))), (q8, .inl (cI, 42, .inl (fun _ => 0)))]) C w inX2_init_X2 tyX2 tyX2_ok nmX2 0 rfl rfl 3 (by decide) lkX2_init_27 rfl rfl rfl (Nat.le_of_ble_eq_true rfl) rfl dX2_init_36 (fun H locs w => ?_)
  refine lv_aload_n C.1 C.2.1 dX2_init_39 rfl (lv_at hl 0 rfl) ?_
  refine lv_iconst (v := (-1 : Int32)) C.1 C.2.1 dX2_init_40 (by decide) ?_
  refine r_put (ws' := [(a, .inr (2, [.ref q1, .ref q1_2, .ref q8, .int (0 : Int32), .int (-1 : Int32)])), (q1, .inr (3, [.ref q1_2, .ref q4_5, .ref q5_6, .ref q6_7, .int (0 : Int32), .int (-1 : Int32), .int (0 : Int32)])), (q1_2, .inr (0, [.int (0 : Int32), .int (0 : Int32), .int (0 : Int32), .ref q1_2_3, .ref q2_3_4])), (q1_2_3, .inl (cI, 7, .inl (fun _ => 0))), (q2_3_4, .inl (cI, 128, .inl (fun _ => 0))), (q4_5, .inl (cI, 2187, .inl (fun _ => 0))), (q5_6, .inl (cI, 2187, .inl (fun _ => 0))), (q6_7, .inl (cL, 256, .inr (.inl (fun _ => 0)))), (q8, .inl (cI, 42, .inl (fun _ => 0)))]) C w inX2_init_X2 tyX2 tyX2_ok nmX2 0 rfl rfl 4 (by decide) lkX2_init_31 rfl rfl rfl (Nat.le_of_ble_eq_true rfl) rfl dX2_init_41 (fun H locs w => ?_)
  exact ret_n C hr hlocks w ⟨q1, q1_2, q1_2_3, q2_3_4, q4_5, q5_6, q6_7, q8, rfl⟩ dX2_init_44

set_option maxRecDepth 100000 in
theorem inX6_init_X6 : ∀ w ∈ u_ws RX6 TX6 6, w ∈ wsX6_init := by decide +kernel
set_option maxRecDepth 100000 in
theorem lkX6_init_9 : Cond.fieldLink RX6 9 "CleanNets$Tape" "length" "I" ∈ wsX6_init := by decide +kernel
set_option maxRecDepth 100000 in
theorem lkX6_init_15 : Cond.fieldLink RX6 15 "CleanNets$Tape" "nodes" "I" ∈ wsX6_init := by decide +kernel
set_option maxRecDepth 100000 in
theorem lkX6_init_18 : Cond.fieldLink RX6 18 "CleanNets$Tape" "near" "[I" ∈ wsX6_init := by decide +kernel
set_option maxRecDepth 100000 in
theorem lkX6_init_22 : Cond.fieldLink RX6 22 "CleanNets$Tape" "letters" "[I" ∈ wsX6_init := by decide +kernel
set_option maxRecDepth 100000 in
theorem lkX6_init_25 : Cond.fieldLink RX6 25 "CleanNets$Tape" "at" "I" ∈ wsX6_init := by decide +kernel
set_option maxRecDepth 100000 in
theorem lkX6_init_28 : Cond.fieldLink RX6 28 "CleanNets$Tape" "fault" "I" ∈ wsX6_init := by decide +kernel
set_option maxHeartbeats 4000000 in
set_option maxRecDepth 100000 in
theorem nX6_init (l : Launch) (D : vg) (cI cL cS cH : ClassId) (sz : Nat) (a : Nat) : ctn l yX6_init wsX6_init ({ frames := 1, cells := 2, slots := 97, locals := 12 }) D (ty4 cI cL cS cH) sz [.ref a] [(a, .inr (6, [.int 0, .int 0, .null, .null, .int 0, .int 0]))] (fun ws' => ∃ (q1 : Nat) (q2 : Nat), ws' = [(a, .inr (6, [.int (0 : Int32), .int (0 : Int32), .ref q1, .ref q2, .int (0 : Int32), .int (-1 : Int32)])), (q1, .inl (cI, 7, .inl (fun _ => 0))), (q2, .inl (cI, 90, .inl (fun _ => 0)))]) 2 97 := by
  refine Met.ofW (cc := cX6_init) (maxL := 1) (ret := none) (by decide) rfl ?_
  intro p e s m args below meth c s₁ B hml hv
  obtain ⟨rfl, hpre, ao⟩ := hv
  obtain rfl := hpre.1
  have C : CallFix p m c cX6_init 1 s _ wsX6_init RX6 := ⟨B.exec, B.bytes, hml, findClass_of_methodNamed B.named, atoms_spec (ws := wsX6_init) B.pre⟩
  have hr := B.returns
  have hlocks := B.notSynchronized
  have hin : meth.name = "<init>" := (name_of_methodNamed B.named B.method).1
  have w := wd_start hpre
  clear hpre B
  have hl := lv_entry ([.ref a]) (n := 1) (Nat.le_of_ble_eq_true rfl)
  rw [lg_entry_eq]
  generalize (lg_sl ([.ref a]) ++ List.replicate (1 - (lg_sl ([.ref a])).length) Slot.unset).toArray = ls at hl ⊢
  have hl : lv_has ls 1 [(0, .ref a)] := hl
  refine lv_aload_n C.1 C.2.1 dX6_init_0 rfl (lv_at hl 0 rfl) ?_
  refine W.objInit C.1 C.2.1 C.2.2.2.1 (C.2.2.2.2 (.methodLink RX6 3 objectInit) (by decide +kernel)) (C.2.2.2.2 (.instanceMethod objectInit) (by decide +kernel)) (C.2.2.2.2 _ (List.mem_of_getElem? (i := 3) rfl)) rfl (by rw [C.2.2.1]; exact hl.1) rfl dX6_init_1 (Nat.le_of_ble_eq_true rfl) (Nat.le_of_ble_eq_true rfl) ?_
  refine W.eq (g2 := F0 m 4 ls []) rfl ?_
  refine lv_aload_n C.1 C.2.1 dX6_init_4 rfl (lv_at hl 0 rfl) ?_
  refine lv_iconst (v := (0 : Int32)) C.1 C.2.1 dX6_init_5 (by decide) ?_
  refine r_put (ws' := [(a, .inr (6, [.int (0 : Int32), .int 0, .null, .null, .int 0, .int 0]))]) C w inX6_init_X6 tyX6 tyX6_ok nmX6 0 rfl rfl 0 (by decide) lkX6_init_9 rfl rfl rfl (Nat.le_of_ble_eq_true rfl) rfl dX6_init_6 (fun H locs w => ?_)
  refine lv_aload_n C.1 C.2.1 dX6_init_9 rfl (lv_at hl 0 rfl) ?_
  refine lv_iconst (v := (0 : Int32)) C.1 C.2.1 dX6_init_10 (by decide) ?_
  refine r_put (ws' := [(a, .inr (6, [.int (0 : Int32), .int (0 : Int32), .null, .null, .int 0, .int 0]))]) C w inX6_init_X6 tyX6 tyX6_ok nmX6 0 rfl rfl 1 (by decide) lkX6_init_15 rfl rfl rfl (Nat.le_of_ble_eq_true rfl) rfl dX6_init_11 (fun H locs w => ?_)
  refine lv_aload_n C.1 C.2.1 dX6_init_14 rfl (lv_at hl 0 rfl) ?_
  refine lv_bipush (v := (7 : Int32)) C.1 C.2.1 dX6_init_15 (by decide) ?_
  refine r_newI (ws' := fun q1 => [(a, .inr (6, [.int (0 : Int32), .int (0 : Int32), .null, .null, .int 0, .int 0])), (q1, .inl (cI, 7, .inl (fun _ => 0)))]) C w (by decide +kernel) (by decide) rfl (Nat.le_of_ble_eq_true rfl) (fun _ => rfl) ⟨Nat.le_of_ble_eq_true rfl, Nat.le_of_ble_eq_true rfl⟩ dX6_init_17 (fun q1 H w => ?_)
  refine W.widen (k := 1) (n := 7) (Nat.le_of_ble_eq_true rfl) (Nat.le_of_ble_eq_true rfl) ?_
  refine r_putF (ws1 := [(a, .inr (6, [.int (0 : Int32), .int (0 : Int32), .ref q1, .null, .int 0, .int 0])), (q1, .inl (cI, 7, .inl (fun _ => 0)))]) C w inX6_init_X6 tyX6 tyX6_ok nmX6 0 rfl rfl 2 (by decide) lkX6_init_18 rfl hin rfl rfl rfl (Nat.le_of_ble_eq_true rfl) rfl dX6_init_19 (fun H locs w => ?_)
  refine lv_aload_n C.1 C.2.1 dX6_init_22 rfl (lv_at hl 0 rfl) ?_
  refine lv_bipush (v := (90 : Int32)) C.1 C.2.1 dX6_init_23 (by decide) ?_
  refine r_newI (ws' := fun q2 => [(a, .inr (6, [.int (0 : Int32), .int (0 : Int32), .ref q1, .null, .int 0, .int 0])), (q1, .inl (cI, 7, .inl (fun _ => 0))), (q2, .inl (cI, 90, .inl (fun _ => 0)))]) C w (by decide +kernel) (by decide) rfl (Nat.le_of_ble_eq_true rfl) (fun _ => rfl) ⟨Nat.le_of_ble_eq_true rfl, Nat.le_of_ble_eq_true rfl⟩ dX6_init_25 (fun q2 H w => ?_)
  refine W.widen (k := 2) (n := 97) (Nat.le_of_ble_eq_true rfl) (Nat.le_of_ble_eq_true rfl) ?_
  refine r_putF (ws1 := [(a, .inr (6, [.int (0 : Int32), .int (0 : Int32), .ref q1, .ref q2, .int 0, .int 0])), (q1, .inl (cI, 7, .inl (fun _ => 0))), (q2, .inl (cI, 90, .inl (fun _ => 0)))]) C w inX6_init_X6 tyX6 tyX6_ok nmX6 0 rfl rfl 3 (by decide) lkX6_init_22 rfl hin rfl rfl rfl (Nat.le_of_ble_eq_true rfl) rfl dX6_init_27 (fun H locs w => ?_)
  refine lv_aload_n C.1 C.2.1 dX6_init_30 rfl (lv_at hl 0 rfl) ?_
  refine lv_iconst (v := (0 : Int32)) C.1 C.2.1 dX6_init_31 (by decide) ?_
  refine r_put (ws' := [(a, .inr (6, [.int (0 : Int32), .int (0 : Int32), .ref q1, .ref q2, .int (0 : Int32), .int 0])), (q1, .inl (cI, 7, .inl (fun _ => 0))), (q2, .inl (cI, 90, .inl (fun _ => 0)))]) C w inX6_init_X6 tyX6 tyX6_ok nmX6 0 rfl rfl 4 (by decide) lkX6_init_25 rfl rfl rfl (Nat.le_of_ble_eq_true rfl) rfl dX6_init_32 (fun H locs w => ?_)
  refine lv_aload_n C.1 C.2.1 dX6_init_35 rfl (lv_at hl 0 rfl) ?_
  refine lv_iconst (v := (-1 : Int32)) C.1 C.2.1 dX6_init_36 (by decide) ?_
  refine r_put (ws' := [(a, .inr (6, [.int (0 : Int32), .int (0 : Int32), .ref q1, .ref q2, .int (0 : Int32), .int (-1 : Int32)])), (q1, .inl (cI, 7, .inl (fun _ => 0))), (q2, .inl (cI, 90, .inl (fun _ => 0)))]) C w inX6_init_X6 tyX6 tyX6_ok nmX6 0 rfl rfl 5 (by decide) lkX6_init_28 rfl rfl rfl (Nat.le_of_ble_eq_true rfl) rfl dX6_init_37 (fun H locs w => ?_)
  exact ret_n C hr hlocks w ⟨q1, q2, rfl⟩ dX6_init_40

set_option maxRecDepth 100000 in
theorem inX4_init_X4 : ∀ w ∈ u_ws RX4 TX4 3, w ∈ wsX4_init := by decide +kernel
set_option maxRecDepth 100000 in
theorem lkX4_init_11 : Cond.fieldLink RX4 11 "CleanNets$Sheet" "lane" "I" ∈ wsX4_init := by decide +kernel
set_option maxRecDepth 100000 in
theorem lkX4_init_15 : Cond.fieldLink RX4 15 "CleanNets$Sheet" "length" "I" ∈ wsX4_init := by decide +kernel
set_option maxRecDepth 100000 in
theorem lkX4_init_18 : Cond.fieldLink RX4 18 "CleanNets$Sheet" "items" "[J" ∈ wsX4_init := by decide +kernel
set_option maxHeartbeats 4000000 in
set_option maxRecDepth 100000 in
theorem nX4_init (l : Launch) (D : vg) (cI cL cS cH : ClassId) (sz : Nat) (a : Nat) : ctn l yX4_init wsX4_init ({ frames := 1, cells := 1, slots := 24, locals := 12 }) D (ty4 cI cL cS cH) sz [.ref a] [(a, .inr (4, [.int 0, .int 0, .null]))] (fun ws' => ∃ (q1 : Nat), ws' = [(a, .inr (4, [.int (-1 : Int32), .int (0 : Int32), .ref q1])), (q1, .inl (cL, 24, .inr (.inl (fun _ => 0))))]) 1 24 := by
  refine Met.ofW (cc := cX4_init) (maxL := 1) (ret := none) (by decide) rfl ?_
  intro p e s m args below meth c s₁ B hml hv
  obtain ⟨rfl, hpre, ao⟩ := hv
  obtain rfl := hpre.1
  have C : CallFix p m c cX4_init 1 s _ wsX4_init RX4 := ⟨B.exec, B.bytes, hml, findClass_of_methodNamed B.named, atoms_spec (ws := wsX4_init) B.pre⟩
  have hr := B.returns
  have hlocks := B.notSynchronized
  have hin : meth.name = "<init>" := (name_of_methodNamed B.named B.method).1
  have w := wd_start hpre
  clear hpre B
  have hl := lv_entry ([.ref a]) (n := 1) (Nat.le_of_ble_eq_true rfl)
  rw [lg_entry_eq]
  generalize (lg_sl ([.ref a]) ++ List.replicate (1 - (lg_sl ([.ref a])).length) Slot.unset).toArray = ls at hl ⊢
  have hl : lv_has ls 1 [(0, .ref a)] := hl
  refine lv_aload_n C.1 C.2.1 dX4_init_0 rfl (lv_at hl 0 rfl) ?_
  refine W.objInit C.1 C.2.1 C.2.2.2.1 (C.2.2.2.2 (.methodLink RX4 3 objectInit) (by decide +kernel)) (C.2.2.2.2 (.instanceMethod objectInit) (by decide +kernel)) (C.2.2.2.2 _ (List.mem_of_getElem? (i := 3) rfl)) rfl (by rw [C.2.2.1]; exact hl.1) rfl dX4_init_1 (Nat.le_of_ble_eq_true rfl) (Nat.le_of_ble_eq_true rfl) ?_
  refine W.eq (g2 := F0 m 4 ls []) rfl ?_
  refine lv_aload_n C.1 C.2.1 dX4_init_4 rfl (lv_at hl 0 rfl) ?_
  refine lv_iconst (v := (-1 : Int32)) C.1 C.2.1 dX4_init_5 (by decide) ?_
  refine r_put (ws' := [(a, .inr (4, [.int (-1 : Int32), .int 0, .null]))]) C w inX4_init_X4 tyX4 tyX4_ok nmX4 0 rfl rfl 0 (by decide) lkX4_init_11 rfl rfl rfl (Nat.le_of_ble_eq_true rfl) rfl dX4_init_6 (fun H locs w => ?_)
  refine lv_aload_n C.1 C.2.1 dX4_init_9 rfl (lv_at hl 0 rfl) ?_
  refine lv_iconst (v := (0 : Int32)) C.1 C.2.1 dX4_init_10 (by decide) ?_
  refine r_put (ws' := [(a, .inr (4, [.int (-1 : Int32), .int (0 : Int32), .null]))]) C w inX4_init_X4 tyX4 tyX4_ok nmX4 0 rfl rfl 1 (by decide) lkX4_init_15 rfl rfl rfl (Nat.le_of_ble_eq_true rfl) rfl dX4_init_11 (fun H locs w => ?_)
  refine lv_aload_n C.1 C.2.1 dX4_init_14 rfl (lv_at hl 0 rfl) ?_
  refine lv_bipush (v := (24 : Int32)) C.1 C.2.1 dX4_init_15 (by decide) ?_
  refine r_newJ (ws' := fun q1 => [(a, .inr (4, [.int (-1 : Int32), .int (0 : Int32), .null])), (q1, .inl (cL, 24, .inr (.inl (fun _ => 0))))]) C w (by decide +kernel) (by decide) rfl (Nat.le_of_ble_eq_true rfl) (fun _ => rfl) ⟨Nat.le_of_ble_eq_true rfl, Nat.le_of_ble_eq_true rfl⟩ dX4_init_17 (fun q1 H w => ?_)
  refine W.widen (k := 1) (n := 24) (Nat.le_of_ble_eq_true rfl) (Nat.le_of_ble_eq_true rfl) ?_
  refine r_putF (ws1 := [(a, .inr (4, [.int (-1 : Int32), .int (0 : Int32), .ref q1])), (q1, .inl (cL, 24, .inr (.inl (fun _ => 0))))]) C w inX4_init_X4 tyX4 tyX4_ok nmX4 0 rfl rfl 2 (by decide) lkX4_init_18 rfl hin rfl rfl rfl (Nat.le_of_ble_eq_true rfl) rfl dX4_init_19 (fun H locs w => ?_)
  exact ret_n C hr hlocks w ⟨q1, rfl⟩ dX4_init_22
