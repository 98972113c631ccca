/-! OUR OWN BASE: the worlds of one walk in one hypothesis, a row a heap instruction, a row a call. -/
abbrev ty4 (cI cL cS cH : ClassId) : List (ClassId × FieldType) := [(cI, .int), (cL, .long), (cS, .object "CleanNets$Standing"), (cH, .object "CleanNets$Sheet")]
/-- the private members that nest mates call: who, at which number, what -/
def nests : List (String × Nat × MethodName) := [(RX0, 47, yX7_has), (RX3, 68, yX7_has), (RX5, 46, yX7_has), (RX6, 95, yX7_has), (RX1, 21, yX5_init), (RX2, 11, yX3_init), (RX3, 11, yX0_init), (RX7, 11, yX5_init), (RX7, 35, yX2_init), (RX7, 47, yX6_init), (RX7, 58, yX4_init)]
def nw (U : State) : Prop := ∀ q ∈ nests, va_Nw (.methodLinkNest q.1 q.2.1 q.2.2 "CleanNets") U
theorem nw_warm {s U : State} (hW : s.WarmedH U.vm) (h : nw s) : nw U := fun q hq => va_Nw.warmM hW (h q hq)
theorem nw_same {s U : State} (e : s.vm = U.vm) (h : nw s) : nw U := fun q hq => va_Nw.same rfl e (h q hq)
/-- the six names of shapes, as String constants: how long, their bytes, where -/
def lenT : List Nat := [4, 4, 4, 3, 3, 4]
def bytT : List (List Int32) := [[112, 97, 116, 104], [114, 105, 110, 103], [115, 116, 97, 114], [97, 108, 108], [110, 101, 116], [103, 114, 105, 100]]
def idxT : List Nat := [46, 52, 54, 56, 58, 60]
def txtT : List String := ["path", "\x72ing", "star", "all", "net", "grid"]
def strs (K V : Nat → Nat) (A : Nat → Prop) (U : State) (H : Heap) : Prop := vk_S 6 lenT bytT K V A U H ∧ (∀ i, i < 6 → vk_R RX6 (idxT.getD i 0) (txtT.getD i "") (K i) U) ∧ va_Z "java/lang/String" "COMPACT_STRINGS" "Z" (.int 1) A U H ∧ va_Zq "jdk/internal/util/Preconditions" "SIOOBE_FORMATTER" "Ljava/util/function/BiFunction;" A U H
theorem strs_to {K V : Nat → Nat} {A B : Nat → Prop} {s U : State} {H0 H : Heap} {locs : List Loc} (h : strs K V A s H0) (hS : va_S A H0 H locs) (hB : ∀ q, B q → A q) (hW : s.WarmedH U.vm) : strs K V B U H :=
  ⟨((h.1.kept hS.2.1).narrow hB).moved hW.alike, fun i hi => vk_R.warm hW (h.2.1 i hi), ((h.2.2.1.kept hS.2.1).narrow hB).moved hW.alike, ((h.2.2.2.kept hS.2.1).narrow hB).moved hW.alike⟩
theorem strs_same {K V : Nat → Nat} {A : Nat → Prop} {s U : State} {H : Heap} (e : U.vm = s.vm) (ha : s.vm.Alike U.vm) (h : strs K V A s H) : strs K V A U H :=
  ⟨h.1.moved ha, fun i hi => vk_R.same e (h.2.1 i hi), h.2.2.1.moved ha, h.2.2.2.moved ha⟩
/-- class numbers and slots; the String constants' addresses -/
abbrev vg : Type := va_G × (Nat → Nat) × (Nat → Nat)
/-- what holds of the tables in every walk -/
def kx (D : vg) (tys : List (ClassId × FieldType)) (A : Nat → Prop) (U : State) (H : Heap) : Prop := va_K D.1 vwCl tys U ∧ nw U ∧ strs D.2.1 D.2.2 A U H
theorem kx_to {D : vg} {tys : List (ClassId × FieldType)} {A B : Nat → Prop} {s U : State} {H0 H : Heap} {locs : List Loc} (h : kx D tys A s H0) (hS : va_S A H0 H locs) (hB : ∀ q, B q → A q) (hW : s.WarmedH U.vm) : kx D tys B U H := ⟨va_K.moved hW.alike h.1, nw_warm hW h.2.1, strs_to h.2.2 hS hB hW⟩
theorem kx_call {D : vg} {tys : List (ClassId × FieldType)} {A : Nat → Prop} {U : State} {H : Heap} {g : JFrame} {mk : MethodId} {a : Array Value} (h : kx D tys A U H) : kx D tys A (U.calling g mk a) H := ⟨va_K.moved (u := U) (U := U.calling g mk a) (Vm.Alike.refl U.vm) h.1, nw_same rfl h.2.1, strs_same rfl (Vm.Alike.refl U.vm) h.2.2⟩
/-- the worlds of a walk -/
def wd (D : vg) (tys : List (ClassId × FieldType)) (s : State) (A : Nat → Prop) (H0 H : Heap) (locs : List Loc) (ws : va_W) : Prop := kx D tys A s H0 ∧ va_P D.1 vwCl ws H ∧ va_D A ws ∧ va_S A H0 H locs ∧ ∀ q : Nat, H0.size ≤ q → A q
/-- some places of a world hold these cells -/
def sameAt (ws : va_W) : List Nat → va_W → Prop
  | [], [] => True
  | i :: is, x :: es => ws[i]? = some x ∧ sameAt ws is es
  | _, _ => False
theorem sameAt_at {ws : va_W} : ∀ {is : List Nat} {es : va_W}, sameAt ws is es → is.length = es.length ∧ (∀ (k : Nat) (q : Nat × va_E), es[k]? = some q → ∃ i : Nat, is[k]? = some i ∧ ws[i]? = some q) ∧ (∀ (k i : Nat), is[k]? = some i → ∃ q : Nat × va_E, es[k]? = some q ∧ ws[i]? = some q) := by
  intro is
  induction is with
  | nil =>
    intro es h
    cases es with
    | nil => exact ⟨rfl, fun k q hk => by simp at hk, fun k i hk => by simp at hk⟩
    | cons x es => exact h.elim
  | cons i is ih =>
    intro es h
    cases es with
    | nil => exact h.elim
    | cons x es =>
      obtain ⟨h1, h2⟩ := h
      obtain ⟨g1, g2, g3⟩ := ih h2
      refine ⟨by simp [g1], fun k q hk => ?_, fun k j hk => ?_⟩
      · cases k with
        | zero => simp at hk; subst hk; exact ⟨i, rfl, h1⟩
        | succ k => simp at hk; obtain ⟨j, a, b⟩ := g2 k q hk; exact ⟨j, by simpa using a, b⟩
      · cases k with
        | zero => simp at hk; subst hk; exact ⟨x, rfl, h1⟩
        | succ k => simp at hk; obtain ⟨q, a, b⟩ := g3 k j hk; exact ⟨q, by simpa using a, b⟩
/-- some places hold the same in two worlds -/
def keepAt (ws ws' : va_W) : List Nat → Prop
  | [] => True
  | i :: is => (∃ x, ws[i]? = some x ∧ ws'[i]? = some x) ∧ keepAt ws ws' is
theorem keepAt_at {ws ws' : va_W} : ∀ {is : List Nat}, keepAt ws ws' is → ∀ i ∈ is, ∃ x, ws[i]? = some x ∧ ws'[i]? = some x := by
  intro is
  induction is with
  | nil => intro _ i hi; simp at hi
  | cons j is ih =>
    intro h i hi
    rcases List.mem_cons.mp hi with rfl | hi
    · exact h.1
    · exact ih h.2 i hi
/-- behind a call: the callee's cells in their places, the rest as it was -/
def framed (ws ws' wc wc' : va_W) (isC isR : List Nat) (n : Nat) : Prop := sameAt ws isC wc ∧ sameAt ws' isC wc' ∧ keepAt ws ws' isR ∧ ws'.length = n ∧ isC.Nodup ∧ ∀ k, k < n → k ∈ isC ∨ k ∈ isR
theorem D_adr {A : Nat → Prop} {ws ws' : va_W} (h : va_D A ws) (e : ws'.map (fun q => q.1) = ws.map (fun q => q.1)) : va_D A ws' := by
  have key : ∀ (k : Nat) (q : Nat × va_E), ws'[k]? = some q → ∃ q', ws[k]? = some q' ∧ q'.1 = q.1 := by
    intro k q hk
    have h1 : (ws'.map (fun q => q.1))[k]? = some q.1 := by rw [List.getElem?_map, hk]; rfl
    rw [e, List.getElem?_map] at h1
    cases h2 : ws[k]? with
    | none => rw [h2] at h1; cases h1
    | some q' => rw [h2] at h1; exact ⟨q', rfl, Option.some.inj h1⟩
  refine ⟨fun i j x y hx hy hxy => ?_, fun k q hk => ?_⟩
  · obtain ⟨x', h1, h2⟩ := key i x hx
    obtain ⟨y', h3, h4⟩ := key j y hy
    exact h.1 i j x' y' h1 h3 (by rw [h2, h4, hxy])
  · obtain ⟨q', h1, h2⟩ := key k q hk
    rw [← h2]; exact h.2 k q' h1
theorem at_of {ws wc : va_W} {is : List Nat} (hs : sameAt ws is wc) (k : Nat) (q : Nat × va_E) (hq : wc[k]? = some q) : ∃ i : Nat, is[k]? = some i ∧ ws[i]? = some q := (sameAt_at hs).2.1 k q hq
theorem map_of {ws wc : va_W} {is : List Nat} (hs : sameAt ws is wc) : is.map (fun i => ws[i]?) = wc.map some := by
  obtain ⟨h1, h2, h3⟩ := sameAt_at hs
  apply List.ext_getElem?
  intro k
  rw [List.getElem?_map, List.getElem?_map]
  cases hk : is[k]? with
  | none =>
    have : wc[k]? = none := by
      rw [List.getElem?_eq_none_iff] at hk ⊢
      omega
    rw [this]; rfl
  | some i =>
    obtain ⟨q, a, b⟩ := h3 k i hk
    rw [a]; simp [b]
/-- the frame: behind a call the callee's cells are new ones, all else is as it was -/
theorem join_repl {A0 : Nat → Prop} {D : va_G} {cl : List vw_C} {ws ws' wc w1 : va_W} {H H1 : Heap} (hP : va_P D cl ws H) (hD : va_D A0 ws) {isC isR : List Nat} {n : Nat} (hf : framed ws ws' wc w1 isC isR n)
    (hk : ∀ q : Nat, q < H.size → ¬ va_A wc H.size q → H1[q]? = H[q]?) (hF : ∀ q, va_A wc H.size q → A0 q) (hP1 : va_P D cl w1 H1) (hD1 : va_D (va_A wc H.size) w1) : va_P D cl ws' H1 ∧ va_D A0 ws' := by
  obtain ⟨hC, hC', hR, hn, hnd, hcov⟩ := hf
  have apart : ∀ (k : Nat) (q : Nat × va_E), k ∉ isC → ws[k]? = some q → q.1 < H.size ∧ ¬ va_A wc H.size q.1 := by
    intro k q hk h2
    have hlt := (hP k q h2).lt
    refine ⟨hlt, fun h => ?_⟩
    rcases h with ⟨k2, e, h⟩ | h
    · obtain ⟨j, h3, h4⟩ := at_of hC k2 (q.1, e) h
      have hij := hD.1 k j q (q.1, e) h2 h4 rfl
      subst hij
      exact hk (List.mem_of_getElem? h3)
    · omega
  have repl_at : ∀ (k : Nat) (q : Nat × va_E), ws'[k]? = some q → (∃ j : Nat, isC[j]? = some k ∧ w1[j]? = some q) ∨ (k ∉ isC ∧ ws[k]? = some q) := by
    intro k q hq
    by_cases hm : k ∈ isC
    · obtain ⟨j, hj⟩ := List.mem_iff_getElem?.mp hm
      obtain ⟨q', a, b⟩ := (sameAt_at hC').2.2 j k hj
      rw [hq] at b
      obtain rfl := Option.some.inj b
      exact Or.inl ⟨j, hj, a⟩
    · have hlt : k < n := by rw [← hn]; exact (List.getElem?_eq_some_iff.mp hq).1
      rcases hcov k hlt with h | h
      · exact absurd h hm
      · obtain ⟨x, a, b⟩ := keepAt_at hR k h
        rw [hq] at b
        obtain rfl := Option.some.inj b
        exact Or.inr ⟨hm, a⟩
  refine ⟨fun k q hq => ?_, fun i j x y hx hy hxy => ?_, fun k q hq => ?_⟩
  · rcases repl_at k q hq with ⟨j, h1, h2⟩ | ⟨h1, h2⟩
    · exact hP1 j q h2
    · obtain ⟨g1, g2⟩ := apart k q h1 h2
      exact (hP k q h2).kept (hk q.1 g1 g2)
  · rcases repl_at i x hx with ⟨a, h1, h2⟩ | ⟨h1, h2⟩
    · rcases repl_at j y hy with ⟨b, h3, h4⟩ | ⟨h3, h4⟩
      · have hab := hD1.1 a b x y h2 h4 hxy
        subst hab
        rw [h1] at h3
        exact Option.some.inj h3
      · exact absurd (by rw [← hxy]; exact hD1.2 a x h2) (apart j y h3 h4).2
    · rcases repl_at j y hy with ⟨b, h3, h4⟩ | ⟨h3, h4⟩
      · exact absurd (by rw [hxy]; exact hD1.2 b y h4) (apart i x h1 h2).2
      · exact hD.1 i j x y h2 h4 hxy
  · rcases repl_at k q hq with ⟨j, h1, h2⟩ | ⟨h1, h2⟩
    · exact hF _ (hD1.2 j q h2)
    · exact hD.2 k q h2
/-- contracts: what the method answers, its cells before and behind -/
abbrev pre1 (D : vg) (tys : List (ClassId × FieldType)) (sz : Nat) (ws : va_W) (U : State) : Prop := U.heap.size = sz ∧ va_P D.1 vwCl ws U.heap ∧ kx D tys (va_A ws sz) U U.heap ∧ va_D (fun _ => True) ws
abbrev pos1 (D : vg) (sz : Nat) (ws ws' : va_W) (t : State) : Prop := va_P D.1 vwCl ws' t.heap ∧ va_D (va_A ws sz) ws'
abbrev cti (l : Launch) (y : MethodName) (wsy : List Cond) (rm : Room) (D : vg) (tys : List (ClassId × FieldType)) (sz : Nat) (av : List Value) (ws ws' : va_W) (r : Int32) : Prop :=
  Met l y wsy rm (va_Pc av (pre1 D tys sz ws)) (va_Qi (fun r' (_ : Unit) => r' = r) (fun _ t => pos1 D sz ws ws' t) (va_A ws sz)) 0 0 (va_A ws sz)
abbrev ctl (l : Launch) (y : MethodName) (wsy : List Cond) (rm : Room) (D : vg) (tys : List (ClassId × FieldType)) (sz : Nat) (av : List Value) (ws ws' : va_W) (r : Int64) : Prop :=
  Met l y wsy rm (va_Pc av (pre1 D tys sz ws)) (va_Ql (fun r' (_ : Unit) => r' = r) (fun _ t => pos1 D sz ws ws' t) (va_A ws sz)) 0 0 (va_A ws sz)
abbrev ctv (l : Launch) (y : MethodName) (wsy : List Cond) (rm : Room) (D : vg) (tys : List (ClassId × FieldType)) (sz : Nat) (av : List Value) (ws ws' : va_W) : Prop :=
  Met l y wsy rm (va_Pc av (pre1 D tys sz ws)) (va_Qv (fun (_ : Unit) => True) (fun _ t => pos1 D sz ws ws' t) (va_A ws sz)) 0 0 (va_A ws sz)
abbrev ctr (l : Launch) (y : MethodName) (wsy : List Cond) (rm : Room) (D : vg) (tys : List (ClassId × FieldType)) (sz : Nat) (av : List Value) (ws ws' : va_W) (r : Nat) : Prop :=
  Met l y wsy rm (va_Pc av (pre1 D tys sz ws)) (va_Qr (fun (_ : Unit) => True) (fun _ a t => a = r ∧ pos1 D sz ws ws' t) (va_A ws sz)) 0 0 (va_A ws sz)
theorem blind1 {D : vg} {tys : List (ClassId × FieldType)} {sz : Nat} {ws : va_W} {av : List Value} : FrameBlind (va_Pc av (pre1 D tys sz ws)) := fun _ _ _ _ q => ⟨q.1, q.2.1, q.2.2.1, kx_call q.2.2.2.1, q.2.2.2.2⟩
section B1
variable {p : Program} {l : Launch} {e : Env} {R : Room} {s : State} {m : MethodId} {args : Array Value} {below : List Frame} {meth : Method} {c : Code} {H : Heap} {locs : List Loc} {cells slots : Nat} {Q : State → Prop}
variable {D : vg} {tys : List (ClassId × FieldType)} {A : Nat → Prop} {H0 : Heap} {ws ws' wc wc' : va_W} {cc : ByteArray} {nL pc : Nat} {Ts : List Cond} {own : String} {ls : Array Slot} {rest st0 : List Value}
theorem sub_P (w : wd D tys s A H0 H locs ws) {isC : List Nat} (hC : sameAt ws isC wc) : va_P D.1 vwCl wc H := fun k q hq => by
  obtain ⟨i, h1, h2⟩ := at_of hC k q hq
  exact w.2.1 i q h2
theorem sub_D (w : wd D tys s A H0 H locs ws) {isC : List Nat} (hnd : isC.Nodup) (hC : sameAt ws isC wc) : va_D (fun _ => True) wc := by
  refine ⟨fun i j x y hx hy hxy => ?_, fun _ _ _ => trivial⟩
  obtain ⟨a, h1, h2⟩ := at_of hC i x hx
  obtain ⟨b, h3, h4⟩ := at_of hC j y hy
  have hab := w.2.2.1.1 a b x y h2 h4 hxy
  subst hab
  exact (List.getElem?_inj (List.getElem?_eq_some_iff.mp h1).1 hnd).mp (by rw [h1, h3])
theorem free_of (w : wd D tys s A H0 H locs ws) {isC : List Nat} (hC : sameAt ws isC wc) : ∀ q, va_A wc H.size q → A q := va_free w.2.2.1 w.2.2.2.1 w.2.2.2.2 isC (map_of hC)
/-- what the callee is given -/
theorem preU (w : wd D tys s A H0 H locs ws) {isC : List Nat} (hnd : isC.Nodup) (hC : sameAt ws isC wc) (U : State) (hU : U.heap = H) (hW : s.WarmedH U.vm) : pre1 D tys H.size wc U :=
  ⟨by rw [hU], by rw [hU]; exact sub_P w hC, by rw [hU]; exact kx_to w.1 w.2.2.2.1 (free_of w hC) hW, sub_D w hnd hC⟩
theorem prV (w : wd D tys s A H0 H locs ws) {isC : List Nat} (hnd : isC.Nodup) (hC : sameAt ws isC wc) {b ci q0 : Nat} {q : vw_C} {fs : List Value} {As : List Value} (hc : vwCl[ci]? = some q) (he : ws[q0]? = some (b, .inr (ci, fs))) : PreV s H q.1 b (va_Pc (.ref b :: As) (pre1 D tys H.size wc)) As :=
  ⟨blind1, va_recv w.1.1 w.2.1 hc he, fun U hU hW => ⟨rfl, preU w hnd hC U hU hW⟩⟩
theorem prS (w : wd D tys s A H0 H locs ws) {isC : List Nat} (hnd : isC.Nodup) (hC : sameAt ws isC wc) {As : List Value} : PreS s H (va_Pc As (pre1 D tys H.size wc)) As :=
  ⟨blind1, fun U hU hW => ⟨rfl, preU w hnd hC U hU hW⟩⟩
theorem aft_w (w : wd D tys s A H0 H locs ws) {isC isR : List Nat} {n : Nat} (hf : framed ws ws' wc wc' isC isR n) {H1 : Heap} {locs1 : List Loc} {t : State} (ht : t.heap = H1) (hB : pos1 D H.size wc wc' t) (hk : ∀ q : Nat, q < H.size → ¬ va_A wc H.size q → H1[q]? = H[q]?) (hS : va_S A H0 H1 locs1) : wd D tys s A H0 H1 locs1 ws' := by
  subst ht
  obtain ⟨h1, h2⟩ := join_repl w.2.1 w.2.2.1 hf hk (free_of w hf.1) hB.1 hB.2
  exact ⟨w.1, h1, h2, hS, w.2.2.2.2⟩
theorem aft_i (w : wd D tys s A H0 H locs ws) {isC isR : List Nat} {n : Nat} (hf : framed ws ws' wc wc' isC isR n) {r : Int32} {a : Array Value}
    (hr : va_Run p l e R s m args below meth c H locs cells slots 0 0 (F0 m pc ls st0) rest (va_Qi (fun r' (_ : Unit) => r' = r) (fun _ t => pos1 D H.size wc wc' t) (va_A wc H.size) a) (va_A wc H.size))
    (kk : ∀ (H1 : Heap) (locs1 : List Loc), wd D tys s A H0 H1 locs1 ws' → W p l e R s m args below meth c H1 locs1 cells slots Q (F0 m (pc + 3) ls (.int r :: rest))) : W p l e R s m args below meth c H locs cells slots Q (F0 m pc ls st0) := by
  have hF := free_of w hf.1
  refine va_calli hr w.2.2.2.1 (fun q _ h => hF q h) hF (fun r1 u t H1 locs1 ht hvm hw hB hz hk hS => ?_)
  rw [hw]
  exact kk H1 locs1 (aft_w w hf ht hB hk hS)
theorem aft_l (w : wd D tys s A H0 H locs ws) {isC isR : List Nat} {n : Nat} (hf : framed ws ws' wc wc' isC isR n) {r : Int64} {a : Array Value}
    (hr : va_Run p l e R s m args below meth c H locs cells slots 0 0 (F0 m pc ls st0) rest (va_Ql (fun r' (_ : Unit) => r' = r) (fun _ t => pos1 D H.size wc wc' t) (va_A wc H.size) a) (va_A wc H.size))
    (kk : ∀ (H1 : Heap) (locs1 : List Loc), wd D tys s A H0 H1 locs1 ws' → W p l e R s m args below meth c H1 locs1 cells slots Q (F0 m (pc + 3) ls (.long r :: rest))) : W p l e R s m args below meth c H locs cells slots Q (F0 m pc ls st0) := by
  have hF := free_of w hf.1
  refine va_calll hr w.2.2.2.1 (fun q _ h => hF q h) hF (fun r1 u t H1 locs1 ht hvm hw hB hz hk hS => ?_)
  rw [hw]
  exact kk H1 locs1 (aft_w w hf ht hB hk hS)
theorem aft_v (w : wd D tys s A H0 H locs ws) {isC isR : List Nat} {n : Nat} (hf : framed ws ws' wc wc' isC isR n) {a : Array Value}
    (hr : va_Run p l e R s m args below meth c H locs cells slots 0 0 (F0 m pc ls st0) rest (va_Qv (fun (_ : Unit) => True) (fun _ t => pos1 D H.size wc wc' t) (va_A wc H.size) a) (va_A wc H.size))
    (kk : ∀ (H1 : Heap) (locs1 : List Loc), wd D tys s A H0 H1 locs1 ws' → W p l e R s m args below meth c H1 locs1 cells slots Q (F0 m (pc + 3) ls (rest))) : W p l e R s m args below meth c H locs cells slots Q (F0 m pc ls st0) := by
  have hF := free_of w hf.1
  refine va_callv hr w.2.2.2.1 (fun q _ h => hF q h) hF (fun u t H1 locs1 ht hvm hw hB hz hk hS => ?_)
  exact kk H1 locs1 (aft_w w hf ht hB hk hS)
theorem aft_r (w : wd D tys s A H0 H locs ws) {isC isR : List Nat} {n : Nat} (hf : framed ws ws' wc wc' isC isR n) {r : Nat} {a : Array Value}
    (hr : va_Run p l e R s m args below meth c H locs cells slots 0 0 (F0 m pc ls st0) rest (va_Qr (fun (_ : Unit) => True) (fun _ a t => a = r ∧ pos1 D H.size wc wc' t) (va_A wc H.size) a) (va_A wc H.size))
    (kk : ∀ (H1 : Heap) (locs1 : List Loc), wd D tys s A H0 H1 locs1 ws' → W p l e R s m args below meth c H1 locs1 cells slots Q (F0 m (pc + 3) ls (.ref r :: rest))) : W p l e R s m args below meth c H locs cells slots Q (F0 m pc ls st0) := by
  have hF := free_of w hf.1
  refine va_callr hr w.2.2.2.1 (fun q _ h => hF q h) hF (fun u ra t H1 locs1 ht hvm hw hB hz hk hS => ?_)
  obtain ⟨h1, hB⟩ := hB
  rw [h1]
  exact kk H1 locs1 (aft_w w hf ht hB hk hS)
/-- the heap's own instructions -/
theorem r_get (C : CallFix p m c cc nL s args Ts own) (w : wd D tys s A H0 H locs ws) {Cn : String} {T : u_T} {N ci index : Nat} (hin : ∀ w ∈ u_ws Cn T N, w ∈ Ts) (q0 : Nat) {a : Nat} {fs : List Value} (he : ws[q0]? = some (a, .inr (ci, fs))) (hc : vwCl[ci]? = some (Cn, T, N)) (k : Nat) (hk : k < N) (hlink : Cond.fieldLink own index (T k).1 (T k).2.1 (T k).2.2.1 ∈ Ts) {v : Value} (hv : fs[k]? = some v) (hdg : decode cc pc = .ok (.getfield index, 3))
    (kk : W p l e R s m args below meth c H locs cells slots Q (F0 m (pc + 3) ls (v :: rest))) : W p l e R s m args below meth c H locs cells slots Q (F0 m pc ls (.ref a :: rest)) :=
  va_get C.1 C.2.1 C.2.2.2.2 hin C.2.2.2.1 w.1.1 w.2.1 q0 he hc k hk (C.2.2.2.2 _ hlink) (fun _ h => h) hv hdg kk
theorem r_put (C : CallFix p m c cc nL s args Ts own) (w : wd D tys s A H0 H locs ws) {Cn : String} {T : u_T} {N ci index : Nat} (hin : ∀ w ∈ u_ws Cn T N, w ∈ Ts) (ty0 : Nat → FieldType) (hty : ∀ k, k < N → parseFieldDescriptor (T k).2.2.1 = some (ty0 k)) (hnm : ∀ a, a < N → ∀ b, b < N → a ≠ b → (T a).2.1 ≠ (T b).2.1) (q0 : Nat) {a : Nat} {fs : List Value} (he : ws[q0]? = some (a, .inr (ci, fs))) (hc : vwCl[ci]? = some (Cn, T, N)) (k : Nat) (hk : k < N) (hlink : Cond.fieldLink own index (T k).1 (T k).2.1 (T k).2.2.1 ∈ Ts) (hfin : (T k).2.2.2 = false) {v : Value} (hn : narrow (ty0 k) v = v) (hfit : fits (ty0 k) v = true) (hl : k < fs.length) (hws : ws.set q0 (a, .inr (ci, fs.set k v)) = ws') (hdg : decode cc pc = .ok (.putfield index, 3))
    (kk : ∀ (H1 : Heap) (locs1 : List Loc), wd D tys s A H0 H1 locs1 ws' → W p l e R s m args below meth c H1 locs1 cells slots Q (F0 m (pc + 3) ls rest)) : W p l e R s m args below meth c H locs cells slots Q (F0 m pc ls (v :: .ref a :: rest)) := by
  subst hws
  exact va_put C.1 C.2.1 C.2.2.2.2 hin ty0 hty hnm C.2.2.2.1 w.1.1 w.2.1 w.2.2.1 w.2.2.2.1 q0 he hc k hk (C.2.2.2.2 _ hlink) (fun _ h => h) hfin (hty k hk) hn hfit hl hdg (fun H1 locs1 h1 h2 h3 => kk H1 locs1 ⟨w.1, h1, h2, h3, w.2.2.2.2⟩)
theorem r_iald (C : CallFix p m c cc nL s args Ts own) (w : wd D tys s A H0 H locs ws) (q0 t0 : Nat) {a : Nat} {cA : ClassId} {n : Nat} {f : Nat → Int32} (ha : ws[q0]? = some (a, .inl (cA, n, .inl f))) (ht : tys[t0]? = some (cA, .int)) {i v : Int32} (hin : vp_in i n ∧ f i.toNatClampNeg = v) (hdg : decode cc pc = .ok (.iaload, 1))
    (kk : W p l e R s m args below meth c H locs cells slots Q (F0 m (pc + 1) ls (.int v :: rest))) : W p l e R s m args below meth c H locs cells slots Q (F0 m pc ls (.int i :: .ref a :: rest)) := by
  obtain ⟨hin, rfl⟩ := hin
  exact va_iald C.1 C.2.1 w.1.1 w.2.1 q0 t0 ha ht hin hdg kk
theorem r_iast (C : CallFix p m c cc nL s args Ts own) (w : wd D tys s A H0 H locs ws) (q0 t0 : Nat) {a : Nat} {cA : ClassId} {n : Nat} {f g : Nat → Int32} (ha : ws[q0]? = some (a, .inl (cA, n, .inl f))) (ht : tys[t0]? = some (cA, .int)) {i x : Int32} (hin : vp_in i n ∧ upd f i.toNatClampNeg x = g) (hws : ws.set q0 (a, .inl (cA, n, .inl g)) = ws') (hdg : decode cc pc = .ok (.iastore, 1))
    (kk : ∀ (H1 : Heap) (locs1 : List Loc), wd D tys s A H0 H1 locs1 ws' → W p l e R s m args below meth c H1 locs1 cells slots Q (F0 m (pc + 1) ls rest)) : W p l e R s m args below meth c H locs cells slots Q (F0 m pc ls (.int x :: .int i :: .ref a :: rest)) := by
  obtain ⟨hin, rfl⟩ := hin
  subst hws
  exact va_iast C.1 C.2.1 w.1.1 w.2.1 w.2.2.1 w.2.2.2.1 q0 t0 ha ht hin hdg (fun H1 locs1 h1 h2 h3 => kk H1 locs1 ⟨w.1, h1, h2, h3, w.2.2.2.2⟩)
theorem r_lald (C : CallFix p m c cc nL s args Ts own) (w : wd D tys s A H0 H locs ws) (q0 t0 : Nat) {a : Nat} {cA : ClassId} {n : Nat} {f : Nat → Int64} (ha : ws[q0]? = some (a, .inl (cA, n, .inr (.inl f)))) (ht : tys[t0]? = some (cA, .long)) {i : Int32} {v : Int64} (hin : vp_in i n ∧ f i.toNatClampNeg = v) (hdg : decode cc pc = .ok (.laload, 1))
    (kk : W p l e R s m args below meth c H locs cells slots Q (F0 m (pc + 1) ls (.long v :: rest))) : W p l e R s m args below meth c H locs cells slots Q (F0 m pc ls (.int i :: .ref a :: rest)) := by
  obtain ⟨hin, rfl⟩ := hin
  exact va_lald C.1 C.2.1 w.1.1 w.2.1 q0 t0 ha ht hin hdg kk
theorem r_last (C : CallFix p m c cc nL s args Ts own) (w : wd D tys s A H0 H locs ws) (q0 t0 : Nat) {a : Nat} {cA : ClassId} {n : Nat} {f g : Nat → Int64} (ha : ws[q0]? = some (a, .inl (cA, n, .inr (.inl f)))) (ht : tys[t0]? = some (cA, .long)) {i : Int32} {x : Int64} (hin : vp_in i n ∧ vp_updL f i.toNatClampNeg x = g) (hws : ws.set q0 (a, .inl (cA, n, .inr (.inl g))) = ws') (hdg : decode cc pc = .ok (.lastore, 1))
    (kk : ∀ (H1 : Heap) (locs1 : List Loc), wd D tys s A H0 H1 locs1 ws' → W p l e R s m args below meth c H1 locs1 cells slots Q (F0 m (pc + 1) ls rest)) : W p l e R s m args below meth c H locs cells slots Q (F0 m pc ls (.long x :: .int i :: .ref a :: rest)) := by
  obtain ⟨hin, rfl⟩ := hin
  subst hws
  exact va_last C.1 C.2.1 w.1.1 w.2.1 w.2.2.1 w.2.2.2.1 q0 t0 ha ht hin hdg (fun H1 locs1 h1 h2 h3 => kk H1 locs1 ⟨w.1, h1, h2, h3, w.2.2.2.2⟩)
theorem r_aald (C : CallFix p m c cc nL s args Ts own) (w : wd D tys s A H0 H locs ws) (q0 t0 : Nat) {a : Nat} {cA : ClassId} {Cn : String} {n v : Nat} {f : Nat → Option Nat} (ha : ws[q0]? = some (a, .inl (cA, n, .inr (.inr (.inr (.inr f)))))) (ht : tys[t0]? = some (cA, .object Cn)) {i : Int32} (hin : vp_in i n ∧ f i.toNatClampNeg = some v) (hdg : decode cc pc = .ok (.aaload, 1))
    (kk : W p l e R s m args below meth c H locs cells slots Q (F0 m (pc + 1) ls (.ref v :: rest))) : W p l e R s m args below meth c H locs cells slots Q (F0 m pc ls (.int i :: .ref a :: rest)) := by
  refine va_aldq C.1 C.2.1 w.1.1 w.2.1 q0 t0 ha ht hin.1 hdg ?_
  rw [hin.2]
  exact kk
end B1
/-- the start of a method -/
theorem wd_start {D : vg} {tys : List (ClassId × FieldType)} {s : State} {ws : va_W} (h : pre1 D tys s.heap.size ws s) : wd D tys s (va_A ws s.heap.size) s.heap s.heap [] ws := ⟨h.2.2.1, h.2.1, h.2.2.2.self, va_S.rf, fun _ h => Or.inr h⟩
/-- the pure side: what the methods compute, in Option; loops by turns -/
def fu : Nat := 5000
def itL {V E : Type} (b : V → Option (V ⊕ E)) : Nat → V → Option E
  | 0, _ => none
  | n + 1, v => match b v with
    | none => none
    | some (.inl v') => itL b n v'
    | some (.inr x) => some x
theorem itL_succ {V E : Type} {b : V → Option (V ⊕ E)} {n : Nat} {v : V} {x : E} (h : itL b (n + 1) v = some x) : ∃ o, b v = some o ∧ (match o with
    | .inl v' => itL b n v' = some x
    | .inr y => y = x) := by
  unfold itL at h
  split at h
  · cases h
  · rename_i v' hb; exact ⟨_, hb, h⟩
  · rename_i y hb; exact ⟨_, hb, Option.some.inj h⟩
theorem bd {α β : Type} {o : Option α} {k : α → Option β} {x : β} (h : Option.bind o k = some x) : ∃ a, o = some a ∧ k a = some x := by
  cases o with
  | none => cases h
  | some a => exact ⟨a, rfl, h⟩
theorem ite_t {α : Type} {c : Prop} [Decidable c] {a b x : α} (h : (if c then a else b) = x) (hc : c) : a = x := by rw [if_pos hc] at h; exact h
theorem ite_f {α : Type} {c : Prop} [Decidable c] {a b x : α} (h : (if c then a else b) = x) (hc : ¬ c) : b = x := by rw [if_neg hc] at h; exact h
theorem ite_n {α : Type} {c : Prop} [Decidable c] {a b x : α} (h : (if c then a else b) = x) (hc : ¬ ¬ c) : a = x := ite_t h (Decidable.of_not_not hc)
def inb (i : Int32) (n : Nat) : Bool := decide (0 ≤ i) && decide (i.toNatClampNeg < n)
theorem inb_in {i : Int32} {n : Nat} (h : inb i n = true) : vp_in i n := by
  simp only [inb, Bool.and_eq_true, decide_eq_true_eq] at h
  intro g
  rcases g with g | g
  · exact absurd h.1 (by rw [Int32.not_le]; exact g)
  · omega
/-- reading and writing a row -/
def rd {α : Type} (f : Nat → α) (n : Nat) (i : Int32) : Option α := if inb i n = true then some (f i.toNatClampNeg) else none
def wi (f : Nat → Int32) (n : Nat) (i : Int32) (x : Int32) : Option (Nat → Int32) := if inb i n = true then some (upd f i.toNatClampNeg x) else none
def wl (f : Nat → Int64) (n : Nat) (i : Int32) (x : Int64) : Option (Nat → Int64) := if inb i n = true then some (vp_updL f i.toNatClampNeg x) else none
theorem rd_in {α : Type} {f : Nat → α} {n : Nat} {i : Int32} {v : α} (h : rd f n i = some v) : vp_in i n ∧ f i.toNatClampNeg = v := by
  unfold rd at h
  split at h
  · rename_i g; exact ⟨inb_in g, Option.some.inj h⟩
  · cases h
theorem wi_in {f g : Nat → Int32} {n : Nat} {i x : Int32} (h : wi f n i x = some g) : vp_in i n ∧ upd f i.toNatClampNeg x = g := by
  unfold wi at h
  split at h
  · rename_i g; exact ⟨inb_in g, Option.some.inj h⟩
  · cases h
theorem wl_in {f g : Nat → Int64} {n : Nat} {i : Int32} {x : Int64} (h : wl f n i x = some g) : vp_in i n ∧ vp_updL f i.toNatClampNeg x = g := by
  unfold wl at h
  split at h
  · rename_i g; exact ⟨inb_in g, Option.some.inj h⟩
  · cases h
/-- a truth value: 0 or 1 -/
def bz (x : Int32) : Option Unit := if x = 0 ∨ x = 1 then some () else none
theorem bz_in {x : Int32} {u : Unit} (h : bz x = some u) : narrow .boolean (.int x) = .int x ∧ fits .boolean (.int x) = true := by
  unfold bz at h
  split at h
  · rename_i g; rcases g with rfl | rfl <;> exact ⟨by decide, by decide⟩
  · cases h
def dv (x y : Int32) : Option Int32 := if y = 0 then none else some (x / y)
def rmd (x y : Int32) : Option Int32 := if y = 0 then none else some (x - x / y * y)
theorem dv_in {x y v : Int32} (h : dv x y = some v) : ¬ y = 0 ∧ x / y = v := by
  unfold dv at h
  split at h
  · cases h
  · rename_i g; exact ⟨g, Option.some.inj h⟩
theorem rmd_in {x y v : Int32} (h : rmd x y = some v) : ¬ y = 0 ∧ x - x / y * y = v := by
  unfold rmd at h
  split at h
  · cases h
  · rename_i g; exact ⟨g, Option.some.inj h⟩
def dvl (x y : Int64) : Option Int64 := if y = 0 then none else some (x / y)
def rml (x y : Int64) : Option Int64 := if y = 0 then none else some (x - x / y * y)
theorem dvl_in {x y v : Int64} (h : dvl x y = some v) : ¬ y = 0 ∧ x / y = v := by
  unfold dvl at h
  split at h
  · cases h
  · rename_i g; exact ⟨g, Option.some.inj h⟩
theorem rml_in {x y v : Int64} (h : rml x y = some v) : ¬ y = 0 ∧ x - x / y * y = v := by
  unfold rml at h
  split at h
  · cases h
  · rename_i g; exact ⟨g, Option.some.inj h⟩
theorem itL_zero {V E : Type} {b : V → Option (V ⊕ E)} {v : V} {x : E} (h : itL b 0 v = some x) : False := by
  unfold itL at h
  cases h
/-- a name for a value -/
def bnd {α β : Type} (x : α) (k : α → Option β) : Option β := k x
theorem bnd_e {α β : Type} {x : α} {k : α → Option β} {r : β} (h : bnd x k = some r) : ∃ y, x = y ∧ k y = some r := ⟨x, rfl, h⟩
theorem se_l {α β γ : Type} {f : α → γ} {g : β → γ} {a : α} {x : γ} (h : Sum.elim f g (.inl a) = x) : f a = x := h
theorem se_r {α β γ : Type} {f : α → γ} {g : β → γ} {a : β} {x : γ} (h : Sum.elim f g (.inr a) = x) : g a = x := h
/-- one of four -/
def sel4 {β : Type} (i : Int32) (f : Nat → Option β) : Option β := if i = 0 then f 0 else if i = 1 then f 1 else if i = 2 then f 2 else if i = 3 then f 3 else none
theorem sel4_in {β : Type} {i : Int32} {f : Nat → Option β} {x : β} (h : sel4 i f = some x) : (i = 0 ∧ f 0 = some x) ∨ (i = 1 ∧ f 1 = some x) ∨ (i = 2 ∧ f 2 = some x) ∨ (i = 3 ∧ f 3 = some x) := by
  unfold sel4 at h
  split at h
  · exact Or.inl ⟨by assumption, h⟩
  · split at h
    · exact Or.inr (Or.inl ⟨by assumption, h⟩)
    · split at h
      · exact Or.inr (Or.inr (Or.inl ⟨by assumption, h⟩))
      · split at h
        · exact Or.inr (Or.inr (Or.inr ⟨by assumption, h⟩))
        · cases h
def cpy {α : Type} (f g : Nat → α) (n0 n1 : Nat) (sp dp n : Int32) : Option (Nat → α) := if ¬ sp < 0 ∧ ¬ dp < 0 ∧ ¬ n < 0 ∧ sp.toNatClampNeg + n.toNatClampNeg ≤ n0 ∧ dp.toNatClampNeg + n.toNatClampNeg ≤ n1 then some (va_cpy f g sp.toNatClampNeg dp.toNatClampNeg n.toNatClampNeg) else none
theorem cpy_in {α : Type} {f g h : Nat → α} {n0 n1 : Nat} {sp dp n : Int32} (e : cpy f g n0 n1 sp dp n = some h) : (¬ sp < 0 ∧ ¬ dp < 0 ∧ ¬ n < 0 ∧ sp.toNatClampNeg + n.toNatClampNeg ≤ n0 ∧ dp.toNatClampNeg + n.toNatClampNeg ≤ n1) ∧ va_cpy f g sp.toNatClampNeg dp.toNatClampNeg n.toNatClampNeg = h := by
  unfold cpy at e
  split at e
  · rename_i q; exact ⟨q, Option.some.inj e⟩
  · cases e
section B2
variable {p : Program} {l : Launch} {e : Env} {R : Room} {s : State} {m : MethodId} {args : Array Value} {below : List Frame} {meth : Method} {c : Code} {H : Heap} {locs : List Loc} {cells slots : Nat} {Q : State → Prop}
variable {D : vg} {tys : List (ClassId × FieldType)} {A : Nat → Prop} {H0 : Heap} {ws ws' ws0 : va_W} {cc : ByteArray} {nL pc : Nat} {Ts : List Cond} {own : String} {ls : Array Slot} {rest : List Value}
theorem lt_topi {x y : Int32} (h : x = y) (k : W p l e R s m args below meth c H locs cells slots Q (F0 m pc ls (.int y :: rest))) : W p l e R s m args below meth c H locs cells slots Q (F0 m pc ls (.int x :: rest)) := h ▸ k
theorem lt_topl {x y : Int64} (h : x = y) (k : W p l e R s m args below meth c H locs cells slots Q (F0 m pc ls (.long y :: rest))) : W p l e R s m args below meth c H locs cells slots Q (F0 m pc ls (.long x :: rest)) := h ▸ k
theorem ret_i {v r : Int32} (C : CallFix p m c cc nL s args Ts own) (hr : meth.sig.returnType = some .int) (hlocks : meth.locks = false) (w : wd D tys s (va_A ws0 s.heap.size) s.heap H locs ws') (h : v = r) (hdg : decode cc pc = .ok (.ireturn, 1)) :
    W p l e R s m args below meth c H locs cells slots (MQ below (va_Qi (fun r' (_ : Unit) => r' = r) (fun _ t => pos1 D s.heap.size ws0 ws' t) (va_A ws0 s.heap.size)) args s cells slots (va_A ws0 s.heap.size)) (F0 m pc ls [.int v]) :=
  W.iret C.1 C.2.1 hr (fun t ht hW => ⟨⟨v, (), rfl, h, by rw [ht]; exact w.2.1, w.2.2.1⟩, w.2.2.2.1.F ht⟩) w.2.2.2.1.2.2 hdg hlocks
theorem ret_z {v r : Int32} (C : CallFix p m c cc nL s args Ts own) (hr : meth.sig.returnType = some .boolean) (hlocks : meth.locks = false) (w : wd D tys s (va_A ws0 s.heap.size) s.heap H locs ws') (hn : narrow .boolean (.int v) = .int v) (h : v = r) (hdg : decode cc pc = .ok (.ireturn, 1)) :
    W p l e R s m args below meth c H locs cells slots (MQ below (va_Qi (fun r' (_ : Unit) => r' = r) (fun _ t => pos1 D s.heap.size ws0 ws' t) (va_A ws0 s.heap.size)) args s cells slots (va_A ws0 s.heap.size)) (F0 m pc ls [.int v]) :=
  W.zret C.1 C.2.1 hr hn (fun t ht hW => ⟨⟨v, (), rfl, h, by rw [ht]; exact w.2.1, w.2.2.1⟩, w.2.2.2.1.F ht⟩) w.2.2.2.1.2.2 hdg hlocks
theorem ret_l {v r : Int64} (C : CallFix p m c cc nL s args Ts own) (hr : meth.sig.returnType = some .long) (hlocks : meth.locks = false) (w : wd D tys s (va_A ws0 s.heap.size) s.heap H locs ws') (h : v = r) (hdg : decode cc pc = .ok (.lreturn, 1)) :
    W p l e R s m args below meth c H locs cells slots (MQ below (va_Ql (fun r' (_ : Unit) => r' = r) (fun _ t => pos1 D s.heap.size ws0 ws' t) (va_A ws0 s.heap.size)) args s cells slots (va_A ws0 s.heap.size)) (F0 m pc ls [.long v]) :=
  W.lret C.1 C.2.1 hr (fun t ht hW => ⟨⟨v, (), rfl, h, by rw [ht]; exact w.2.1, w.2.2.1⟩, w.2.2.2.1.F ht⟩) w.2.2.2.1.2.2 hdg hlocks
theorem ret_v (C : CallFix p m c cc nL s args Ts own) (hr : meth.sig.returnType = none) (hlocks : meth.locks = false) (w : wd D tys s (va_A ws0 s.heap.size) s.heap H locs ws') (hdg : decode cc pc = .ok (.return_, 1)) :
    W p l e R s m args below meth c H locs cells slots (MQ below (va_Qv (fun (_ : Unit) => True) (fun _ t => pos1 D s.heap.size ws0 ws' t) (va_A ws0 s.heap.size)) args s cells slots (va_A ws0 s.heap.size)) (F0 m pc ls []) :=
  W.vret C.1 C.2.1 hr (fun t ht hW => ⟨⟨(), rfl, trivial, by rw [ht]; exact w.2.1, w.2.2.1⟩, w.2.2.2.1.F ht⟩) w.2.2.2.1.2.2 hdg hlocks
theorem ret_r {a : Nat} {rt : FieldType} (C : CallFix p m c cc nL s args Ts own) (hr : meth.sig.returnType = some rt) (hlocks : meth.locks = false) (w : wd D tys s (va_A ws0 s.heap.size) s.heap H locs ws') (hrt : (∃ n, rt = .object n) ∨ ∃ t, rt = .array t) (hdg : decode cc pc = .ok (.areturn, 1)) :
    W p l e R s m args below meth c H locs cells slots (MQ below (va_Qr (fun (_ : Unit) => True) (fun _ b t => b = a ∧ pos1 D s.heap.size ws0 ws' t) (va_A ws0 s.heap.size)) args s cells slots (va_A ws0 s.heap.size)) (F0 m pc ls [.ref a]) :=
  W.aret C.1 C.2.1 hr hrt (Or.inr ⟨a, rfl⟩) (fun t ht hW => ⟨⟨(), a, rfl, trivial, rfl, by rw [ht]; exact w.2.1, w.2.2.1⟩, w.2.2.2.1.F ht⟩) w.2.2.2.1.2.2 hdg hlocks
theorem r_copyi (C : CallFix p m c cc nL s args Ts own) (w : wd D tys s A H0 H locs ws) (hsz : ls.size = nL) {index : Nat} (hl1 : Cond.methodLink own index arraycopyName ∈ Ts) (hl2 : Cond.native arraycopyName ∈ Ts) (hl3 : Cond.static arraycopyName ∈ Ts) (hl4 : Cond.initialized "java/lang/System" ∈ Ts)
    (q0 q1 t0 : Nat) {a0 a : Nat} {c0 : ClassId} {n0 n1 : Nat} {f g h : Nat → Int32} (ha0 : ws[q0]? = some (a0, .inl (c0, n0, .inl f))) (ha1 : ws[q1]? = some (a, .inl (c0, n1, .inl g))) (ht0 : tys[t0]? = some (c0, .int)) {sp dp n : Int32} (hc : (¬ sp < 0 ∧ ¬ dp < 0 ∧ ¬ n < 0 ∧ sp.toNatClampNeg + n.toNatClampNeg ≤ n0 ∧ dp.toNatClampNeg + n.toNatClampNeg ≤ n1) ∧ va_cpy f g sp.toNatClampNeg dp.toNatClampNeg n.toNatClampNeg = h)
    (hws : ws.set q1 (a, .inl (c0, n1, .inl h)) = ws') (hframes : 1 ≤ R.frames) (hlocals : (rest.map fun v => v.category).sum + (nativeFrameWords "java/lang/System" "arraycopy" 5 + 11) ≤ R.locals) (hdg : decode cc pc = .ok (.invokestatic index, 3))
    (kk : ∀ (H1 : Heap) (locs1 : List Loc), wd D tys s A H0 H1 locs1 ws' → W p l e R s m args below meth c H1 locs1 cells slots Q (F0 m (pc + 3) ls rest)) : W p l e R s m args below meth c H locs cells slots Q (F0 m pc ls (.int n :: .int dp :: .ref a :: .int sp :: .ref a0 :: rest)) := by
  obtain ⟨⟨h1, h2, h3, h4, h5⟩, rfl⟩ := hc
  subst hws
  exact va_copyi C.1 C.2.1 (C.2.2.1.trans hsz.symm) C.2.2.2.1 (C.2.2.2.2 _ hl1) (C.2.2.2.2 _ hl2) (C.2.2.2.2 _ hl3) (C.2.2.2.2 _ hl4) w.1.1 w.2.1 w.2.2.1 w.2.2.2.1 q0 q1 t0 t0 ha0 ha1 ht0 ht0 rfl h1 h2 h3 h4 h5 (fun _ _ => rfl) hframes hlocals hdg (fun H1 locs1 g1 g2 g3 => kk H1 locs1 ⟨w.1, g1, g2, g3, w.2.2.2.2⟩)
theorem r_copyl (C : CallFix p m c cc nL s args Ts own) (w : wd D tys s A H0 H locs ws) (hsz : ls.size = nL) {index : Nat} (hl1 : Cond.methodLink own index arraycopyName ∈ Ts) (hl2 : Cond.native arraycopyName ∈ Ts) (hl3 : Cond.static arraycopyName ∈ Ts) (hl4 : Cond.initialized "java/lang/System" ∈ Ts)
    (q0 q1 t0 : Nat) {a0 a : Nat} {c0 : ClassId} {n0 n1 : Nat} {f g h : Nat → Int64} (ha0 : ws[q0]? = some (a0, .inl (c0, n0, .inr (.inl f)))) (ha1 : ws[q1]? = some (a, .inl (c0, n1, .inr (.inl g)))) (ht0 : tys[t0]? = some (c0, .long)) {sp dp n : Int32} (hc : (¬ sp < 0 ∧ ¬ dp < 0 ∧ ¬ n < 0 ∧ sp.toNatClampNeg + n.toNatClampNeg ≤ n0 ∧ dp.toNatClampNeg + n.toNatClampNeg ≤ n1) ∧ va_cpy f g sp.toNatClampNeg dp.toNatClampNeg n.toNatClampNeg = h)
    (hws : ws.set q1 (a, .inl (c0, n1, .inr (.inl h))) = ws') (hframes : 1 ≤ R.frames) (hlocals : (rest.map fun v => v.category).sum + (nativeFrameWords "java/lang/System" "arraycopy" 5 + 11) ≤ R.locals) (hdg : decode cc pc = .ok (.invokestatic index, 3))
    (kk : ∀ (H1 : Heap) (locs1 : List Loc), wd D tys s A H0 H1 locs1 ws' → W p l e R s m args below meth c H1 locs1 cells slots Q (F0 m (pc + 3) ls rest)) : W p l e R s m args below meth c H locs cells slots Q (F0 m pc ls (.int n :: .int dp :: .ref a :: .int sp :: .ref a0 :: rest)) := by
  obtain ⟨⟨h1, h2, h3, h4, h5⟩, rfl⟩ := hc
  subst hws
  exact va_copyl C.1 C.2.1 (C.2.2.1.trans hsz.symm) C.2.2.2.1 (C.2.2.2.2 _ hl1) (C.2.2.2.2 _ hl2) (C.2.2.2.2 _ hl3) (C.2.2.2.2 _ hl4) w.1.1 w.2.1 w.2.2.1 w.2.2.2.1 q0 q1 t0 t0 ha0 ha1 ht0 ht0 rfl h1 h2 h3 h4 h5 (fun _ _ => rfl) hframes hlocals hdg (fun H1 locs1 g1 g2 g3 => kk H1 locs1 ⟨w.1, g1, g2, g3, w.2.2.2.2⟩)
end B2
theorem i32_of {x : Int32} {k : Int} (h : x.toInt = k) : x = Int32.ofInt k := by
  rw [← h]; exact (Int32.ofInt_toInt x).symm
theorem sw_out0_2 {x : Int32} (h0 : ¬ x = 0) (h1 : ¬ x = 1) (h2 : ¬ x = 2) : x.toInt < 0 ∨ 2 < x.toInt := by
  rcases Int.lt_or_le x.toInt 0 with h | h
  · exact Or.inl h
  · rcases Int.lt_or_le 2 x.toInt with g | g
    · exact Or.inr g
    · rcases (show x.toInt = 0 ∨ x.toInt = 1 ∨ x.toInt = 2 by omega) with q | q | q
      · exact absurd (i32_of q) h0
      · exact absurd (i32_of q) h1
      · exact absurd (i32_of q) h2
theorem sw_out0_7 {x : Int32} (h0 : ¬ x = 0) (h1 : ¬ x = 1) (h2 : ¬ x = 2) (h3 : ¬ x = 3) (h4 : ¬ x = 4) (h5 : ¬ x = 5) (h6 : ¬ x = 6) (h7 : ¬ x = 7) : x.toInt < 0 ∨ 7 < x.toInt := by
  rcases Int.lt_or_le x.toInt 0 with h | h
  · exact Or.inl h
  · rcases Int.lt_or_le 7 x.toInt with g | g
    · exact Or.inr g
    · rcases (show x.toInt = 0 ∨ x.toInt = 1 ∨ x.toInt = 2 ∨ x.toInt = 3 ∨ x.toInt = 4 ∨ x.toInt = 5 ∨ x.toInt = 6 ∨ x.toInt = 7 by omega) with q | q | q | q | q | q | q | q
      · exact absurd (i32_of q) h0
      · exact absurd (i32_of q) h1
      · exact absurd (i32_of q) h2
      · exact absurd (i32_of q) h3
      · exact absurd (i32_of q) h4
      · exact absurd (i32_of q) h5
      · exact absurd (i32_of q) h6
      · exact absurd (i32_of q) h7
section B4
variable {p : Program} {l : Launch} {e : Env} {R : Room} {s : State} {m : MethodId} {args : Array Value} {below : List Frame} {meth : Method} {c : Code} {H : Heap} {locs : List Loc} {cells slots : Nat} {Q : State → Prop}
variable {D : vg} {tys : List (ClassId × FieldType)} {A : Nat → Prop} {H0 : Heap} {ws ws' wc wc' : va_W} {cc : ByteArray} {nL pc : Nat} {Ts : List Cond} {own : String} {ls : Array Slot} {rest st0 As : List Value}
variable {y : MethodName} {wsy : List Cond} {rm : Room} {bytes : ByteArray} {maxL n index : Nat} {ret : Option FieldType}
theorem call_Vi {r : Int32} {b : Nat} (C : CallFix p m c cc nL s args Ts own) (w : wd D tys s A H0 H locs ws) (hM : cti l y wsy rm D tys H.size (.ref b :: As) wc wc' r) {Cn : String} (cw : CallW R s args own Cn index y bytes maxL ret wsy rm 0 0 n) (isC isR : List Nat) (n0 : Nat) (hC : sameAt ws isC wc) (hC' : sameAt ws' isC wc') (hR : keepAt ws ws' isR) (hl0 : ws'.length = n0) (hnd : isC.Nodup) (hcov : ∀ k, k < n0 → k ∈ isC ∨ k ∈ isR) {ci q0 : Nat} {T : u_T} {N : Nat} {fs : List Value} (hc : vwCl[ci]? = some (Cn, T, N)) (he : ws[q0]? = some (b, .inr (ci, fs))) (hn : As.length = n) (hsize : ls.size = nL) (hst : st0 = As.reverse ++ .ref b :: rest) (hW : 2 * (F0 m pc ls st0).monitorRoom + (rest.map fun v => v.category).sum ≤ 8) (hdg : decode cc pc = .ok (.invokevirtual index, 3))
    (hcs : cells + 0 ≤ R.cells ∧ slots + 0 ≤ R.slots) (kk : ∀ (H1 : Heap) (locs1 : List Loc), wd D tys s A H0 H1 locs1 ws' → W p l e R s m args below meth c H1 locs1 cells slots Q (F0 m (pc + 3) ls (.int r :: rest))) : W p l e R s m args below meth c H locs cells slots Q (F0 m pc ls st0) := by
  exact aft_i w ⟨hC, hC', hR, hl0, hnd, hcov⟩ (va_runV (As := As) (rest := rest) C hM cw (prV w hnd hC hc he) rfl hn hsize hst hW hdg hcs) kk
theorem call_Si {r : Int32} (C : CallFix p m c cc nL s args Ts own) (w : wd D tys s A H0 H locs ws) (hM : cti l y wsy rm D tys H.size As wc wc' r) (cw : CallB R s args own index y bytes maxL ret wsy rm 0 0 n ∧ (Cond.static y).before args s = true) (isC isR : List Nat) (n0 : Nat) (hC : sameAt ws isC wc) (hC' : sameAt ws' isC wc') (hR : keepAt ws ws' isR) (hl0 : ws'.length = n0) (hnd : isC.Nodup) (hcov : ∀ k, k < n0 → k ∈ isC ∨ k ∈ isR) (hn : As.length = n) (hsize : ls.size = nL) (hst : st0 = As.reverse ++ rest) (hW : 2 * (F0 m pc ls st0).monitorRoom + (rest.map fun v => v.category).sum ≤ 8) (hdg : decode cc pc = .ok (.invokestatic index, 3))
    (hcs : cells + 0 ≤ R.cells ∧ slots + 0 ≤ R.slots) (kk : ∀ (H1 : Heap) (locs1 : List Loc), wd D tys s A H0 H1 locs1 ws' → W p l e R s m args below meth c H1 locs1 cells slots Q (F0 m (pc + 3) ls (.int r :: rest))) : W p l e R s m args below meth c H locs cells slots Q (F0 m pc ls st0) := by
  exact aft_i w ⟨hC, hC', hR, hl0, hnd, hcov⟩ (va_runS (As := As) (rest := rest) C hM cw (prS w hnd hC) rfl hn hsize hst hW hdg hcs) kk
theorem call_Ni {r : Int32} {host : String} (C : CallFix p m c cc nL s args Ts own) (w : wd D tys s A H0 H locs ws) (hM : cti l y wsy rm D tys H.size As wc wc' r) (cw : va_CN R s args own index y host bytes maxL ret wsy rm 0 0 n ∧ (Cond.static y).before args s = true ∧ True) (isC isR : List Nat) (n0 : Nat) (hC : sameAt ws isC wc) (hC' : sameAt ws' isC wc') (hR : keepAt ws ws' isR) (hl0 : ws'.length = n0) (hnd : isC.Nodup) (hcov : ∀ k, k < n0 → k ∈ isC ∨ k ∈ isR) (hn : As.length = n) (hsize : ls.size = nL) (hst : st0 = As.reverse ++ rest) (hW : 2 * (F0 m pc ls st0).monitorRoom + (rest.map fun v => v.category).sum ≤ 8) (hdg : decode cc pc = .ok (.invokestatic index, 3))
    (hcs : cells + 0 ≤ R.cells ∧ slots + 0 ≤ R.slots) (kk : ∀ (H1 : Heap) (locs1 : List Loc), wd D tys s A H0 H1 locs1 ws' → W p l e R s m args below meth c H1 locs1 cells slots Q (F0 m (pc + 3) ls (.int r :: rest))) : W p l e R s m args below meth c H locs cells slots Q (F0 m pc ls st0) := by
  exact aft_i w ⟨hC, hC', hR, hl0, hnd, hcov⟩ (va_runSN (As := As) (rest := rest) C hM cw (prS w hnd hC) rfl hn hsize hst hW hdg hcs) kk
theorem call_Vl {r : Int64} {b : Nat} (C : CallFix p m c cc nL s args Ts own) (w : wd D tys s A H0 H locs ws) (hM : ctl l y wsy rm D tys H.size (.ref b :: As) wc wc' r) {Cn : String} (cw : CallW R s args own Cn index y bytes maxL ret wsy rm 0 0 n) (isC isR : List Nat) (n0 : Nat) (hC : sameAt ws isC wc) (hC' : sameAt ws' isC wc') (hR : keepAt ws ws' isR) (hl0 : ws'.length = n0) (hnd : isC.Nodup) (hcov : ∀ k, k < n0 → k ∈ isC ∨ k ∈ isR) {ci q0 : Nat} {T : u_T} {N : Nat} {fs : List Value} (hc : vwCl[ci]? = some (Cn, T, N)) (he : ws[q0]? = some (b, .inr (ci, fs))) (hn : As.length = n) (hsize : ls.size = nL) (hst : st0 = As.reverse ++ .ref b :: rest) (hW : 2 * (F0 m pc ls st0).monitorRoom + (rest.map fun v => v.category).sum ≤ 8) (hdg : decode cc pc = .ok (.invokevirtual index, 3))
    (hcs : cells + 0 ≤ R.cells ∧ slots + 0 ≤ R.slots) (kk : ∀ (H1 : Heap) (locs1 : List Loc), wd D tys s A H0 H1 locs1 ws' → W p l e R s m args below meth c H1 locs1 cells slots Q (F0 m (pc + 3) ls (.long r :: rest))) : W p l e R s m args below meth c H locs cells slots Q (F0 m pc ls st0) := by
  exact aft_l w ⟨hC, hC', hR, hl0, hnd, hcov⟩ (va_runV (As := As) (rest := rest) C hM cw (prV w hnd hC hc he) rfl hn hsize hst hW hdg hcs) kk
theorem call_Sl {r : Int64} (C : CallFix p m c cc nL s args Ts own) (w : wd D tys s A H0 H locs ws) (hM : ctl l y wsy rm D tys H.size As wc wc' r) (cw : CallB R s args own index y bytes maxL ret wsy rm 0 0 n ∧ (Cond.static y).before args s = true) (isC isR : List Nat) (n0 : Nat) (hC : sameAt ws isC wc) (hC' : sameAt ws' isC wc') (hR : keepAt ws ws' isR) (hl0 : ws'.length = n0) (hnd : isC.Nodup) (hcov : ∀ k, k < n0 → k ∈ isC ∨ k ∈ isR) (hn : As.length = n) (hsize : ls.size = nL) (hst : st0 = As.reverse ++ rest) (hW : 2 * (F0 m pc ls st0).monitorRoom + (rest.map fun v => v.category).sum ≤ 8) (hdg : decode cc pc = .ok (.invokestatic index, 3))
    (hcs : cells + 0 ≤ R.cells ∧ slots + 0 ≤ R.slots) (kk : ∀ (H1 : Heap) (locs1 : List Loc), wd D tys s A H0 H1 locs1 ws' → W p l e R s m args below meth c H1 locs1 cells slots Q (F0 m (pc + 3) ls (.long r :: rest))) : W p l e R s m args below meth c H locs cells slots Q (F0 m pc ls st0) := by
  exact aft_l w ⟨hC, hC', hR, hl0, hnd, hcov⟩ (va_runS (As := As) (rest := rest) C hM cw (prS w hnd hC) rfl hn hsize hst hW hdg hcs) kk
theorem call_Nl {r : Int64} {host : String} (C : CallFix p m c cc nL s args Ts own) (w : wd D tys s A H0 H locs ws) (hM : ctl l y wsy rm D tys H.size As wc wc' r) (cw : va_CN R s args own index y host bytes maxL ret wsy rm 0 0 n ∧ (Cond.static y).before args s = true ∧ True) (isC isR : List Nat) (n0 : Nat) (hC : sameAt ws isC wc) (hC' : sameAt ws' isC wc') (hR : keepAt ws ws' isR) (hl0 : ws'.length = n0) (hnd : isC.Nodup) (hcov : ∀ k, k < n0 → k ∈ isC ∨ k ∈ isR) (hn : As.length = n) (hsize : ls.size = nL) (hst : st0 = As.reverse ++ rest) (hW : 2 * (F0 m pc ls st0).monitorRoom + (rest.map fun v => v.category).sum ≤ 8) (hdg : decode cc pc = .ok (.invokestatic index, 3))
    (hcs : cells + 0 ≤ R.cells ∧ slots + 0 ≤ R.slots) (kk : ∀ (H1 : Heap) (locs1 : List Loc), wd D tys s A H0 H1 locs1 ws' → W p l e R s m args below meth c H1 locs1 cells slots Q (F0 m (pc + 3) ls (.long r :: rest))) : W p l e R s m args below meth c H locs cells slots Q (F0 m pc ls st0) := by
  exact aft_l w ⟨hC, hC', hR, hl0, hnd, hcov⟩ (va_runSN (As := As) (rest := rest) C hM cw (prS w hnd hC) rfl hn hsize hst hW hdg hcs) kk
theorem call_Vv {b : Nat} (C : CallFix p m c cc nL s args Ts own) (w : wd D tys s A H0 H locs ws) (hM : ctv l y wsy rm D tys H.size (.ref b :: As) wc wc') {Cn : String} (cw : CallW R s args own Cn index y bytes maxL ret wsy rm 0 0 n) (isC isR : List Nat) (n0 : Nat) (hC : sameAt ws isC wc) (hC' : sameAt ws' isC wc') (hR : keepAt ws ws' isR) (hl0 : ws'.length = n0) (hnd : isC.Nodup) (hcov : ∀ k, k < n0 → k ∈ isC ∨ k ∈ isR) {ci q0 : Nat} {T : u_T} {N : Nat} {fs : List Value} (hc : vwCl[ci]? = some (Cn, T, N)) (he : ws[q0]? = some (b, .inr (ci, fs))) (hn : As.length = n) (hsize : ls.size = nL) (hst : st0 = As.reverse ++ .ref b :: rest) (hW : 2 * (F0 m pc ls st0).monitorRoom + (rest.map fun v => v.category).sum ≤ 8) (hdg : decode cc pc = .ok (.invokevirtual index, 3))
    (hcs : cells + 0 ≤ R.cells ∧ slots + 0 ≤ R.slots) (kk : ∀ (H1 : Heap) (locs1 : List Loc), wd D tys s A H0 H1 locs1 ws' → W p l e R s m args below meth c H1 locs1 cells slots Q (F0 m (pc + 3) ls (rest))) : W p l e R s m args below meth c H locs cells slots Q (F0 m pc ls st0) := by
  exact aft_v w ⟨hC, hC', hR, hl0, hnd, hcov⟩ (va_runV (As := As) (rest := rest) C hM cw (prV w hnd hC hc he) rfl hn hsize hst hW hdg hcs) kk
theorem call_Sv (C : CallFix p m c cc nL s args Ts own) (w : wd D tys s A H0 H locs ws) (hM : ctv l y wsy rm D tys H.size As wc wc') (cw : CallB R s args own index y bytes maxL ret wsy rm 0 0 n ∧ (Cond.static y).before args s = true) (isC isR : List Nat) (n0 : Nat) (hC : sameAt ws isC wc) (hC' : sameAt ws' isC wc') (hR : keepAt ws ws' isR) (hl0 : ws'.length = n0) (hnd : isC.Nodup) (hcov : ∀ k, k < n0 → k ∈ isC ∨ k ∈ isR) (hn : As.length = n) (hsize : ls.size = nL) (hst : st0 = As.reverse ++ rest) (hW : 2 * (F0 m pc ls st0).monitorRoom + (rest.map fun v => v.category).sum ≤ 8) (hdg : decode cc pc = .ok (.invokestatic index, 3))
    (hcs : cells + 0 ≤ R.cells ∧ slots + 0 ≤ R.slots) (kk : ∀ (H1 : Heap) (locs1 : List Loc), wd D tys s A H0 H1 locs1 ws' → W p l e R s m args below meth c H1 locs1 cells slots Q (F0 m (pc + 3) ls (rest))) : W p l e R s m args below meth c H locs cells slots Q (F0 m pc ls st0) := by
  exact aft_v w ⟨hC, hC', hR, hl0, hnd, hcov⟩ (va_runS (As := As) (rest := rest) C hM cw (prS w hnd hC) rfl hn hsize hst hW hdg hcs) kk
theorem call_Nv {host : String} (C : CallFix p m c cc nL s args Ts own) (w : wd D tys s A H0 H locs ws) (hM : ctv l y wsy rm D tys H.size As wc wc') (cw : va_CN R s args own index y host bytes maxL ret wsy rm 0 0 n ∧ (Cond.static y).before args s = true ∧ True) (isC isR : List Nat) (n0 : Nat) (hC : sameAt ws isC wc) (hC' : sameAt ws' isC wc') (hR : keepAt ws ws' isR) (hl0 : ws'.length = n0) (hnd : isC.Nodup) (hcov : ∀ k, k < n0 → k ∈ isC ∨ k ∈ isR) (hn : As.length = n) (hsize : ls.size = nL) (hst : st0 = As.reverse ++ rest) (hW : 2 * (F0 m pc ls st0).monitorRoom + (rest.map fun v => v.category).sum ≤ 8) (hdg : decode cc pc = .ok (.invokestatic index, 3))
    (hcs : cells + 0 ≤ R.cells ∧ slots + 0 ≤ R.slots) (kk : ∀ (H1 : Heap) (locs1 : List Loc), wd D tys s A H0 H1 locs1 ws' → W p l e R s m args below meth c H1 locs1 cells slots Q (F0 m (pc + 3) ls (rest))) : W p l e R s m args below meth c H locs cells slots Q (F0 m pc ls st0) := by
  exact aft_v w ⟨hC, hC', hR, hl0, hnd, hcov⟩ (va_runSN (As := As) (rest := rest) C hM cw (prS w hnd hC) rfl hn hsize hst hW hdg hcs) kk
theorem call_Vr {r : Nat} {b : Nat} (C : CallFix p m c cc nL s args Ts own) (w : wd D tys s A H0 H locs ws) (hM : ctr l y wsy rm D tys H.size (.ref b :: As) wc wc' r) {Cn : String} (cw : CallW R s args own Cn index y bytes maxL ret wsy rm 0 0 n) (isC isR : List Nat) (n0 : Nat) (hC : sameAt ws isC wc) (hC' : sameAt ws' isC wc') (hR : keepAt ws ws' isR) (hl0 : ws'.length = n0) (hnd : isC.Nodup) (hcov : ∀ k, k < n0 → k ∈ isC ∨ k ∈ isR) {ci q0 : Nat} {T : u_T} {N : Nat} {fs : List Value} (hc : vwCl[ci]? = some (Cn, T, N)) (he : ws[q0]? = some (b, .inr (ci, fs))) (hn : As.length = n) (hsize : ls.size = nL) (hst : st0 = As.reverse ++ .ref b :: rest) (hW : 2 * (F0 m pc ls st0).monitorRoom + (rest.map fun v => v.category).sum ≤ 8) (hdg : decode cc pc = .ok (.invokevirtual index, 3))
    (hcs : cells + 0 ≤ R.cells ∧ slots + 0 ≤ R.slots) (kk : ∀ (H1 : Heap) (locs1 : List Loc), wd D tys s A H0 H1 locs1 ws' → W p l e R s m args below meth c H1 locs1 cells slots Q (F0 m (pc + 3) ls (.ref r :: rest))) : W p l e R s m args below meth c H locs cells slots Q (F0 m pc ls st0) := by
  exact aft_r w ⟨hC, hC', hR, hl0, hnd, hcov⟩ (va_runV (As := As) (rest := rest) C hM cw (prV w hnd hC hc he) rfl hn hsize hst hW hdg hcs) kk
theorem call_Sr {r : Nat} (C : CallFix p m c cc nL s args Ts own) (w : wd D tys s A H0 H locs ws) (hM : ctr l y wsy rm D tys H.size As wc wc' r) (cw : CallB R s args own index y bytes maxL ret wsy rm 0 0 n ∧ (Cond.static y).before args s = true) (isC isR : List Nat) (n0 : Nat) (hC : sameAt ws isC wc) (hC' : sameAt ws' isC wc') (hR : keepAt ws ws' isR) (hl0 : ws'.length = n0) (hnd : isC.Nodup) (hcov : ∀ k, k < n0 → k ∈ isC ∨ k ∈ isR) (hn : As.length = n) (hsize : ls.size = nL) (hst : st0 = As.reverse ++ rest) (hW : 2 * (F0 m pc ls st0).monitorRoom + (rest.map fun v => v.category).sum ≤ 8) (hdg : decode cc pc = .ok (.invokestatic index, 3))
    (hcs : cells + 0 ≤ R.cells ∧ slots + 0 ≤ R.slots) (kk : ∀ (H1 : Heap) (locs1 : List Loc), wd D tys s A H0 H1 locs1 ws' → W p l e R s m args below meth c H1 locs1 cells slots Q (F0 m (pc + 3) ls (.ref r :: rest))) : W p l e R s m args below meth c H locs cells slots Q (F0 m pc ls st0) := by
  exact aft_r w ⟨hC, hC', hR, hl0, hnd, hcov⟩ (va_runS (As := As) (rest := rest) C hM cw (prS w hnd hC) rfl hn hsize hst hW hdg hcs) kk
theorem call_Nr {r : Nat} {host : String} (C : CallFix p m c cc nL s args Ts own) (w : wd D tys s A H0 H locs ws) (hM : ctr l y wsy rm D tys H.size As wc wc' r) (cw : va_CN R s args own index y host bytes maxL ret wsy rm 0 0 n ∧ (Cond.static y).before args s = true ∧ True) (isC isR : List Nat) (n0 : Nat) (hC : sameAt ws isC wc) (hC' : sameAt ws' isC wc') (hR : keepAt ws ws' isR) (hl0 : ws'.length = n0) (hnd : isC.Nodup) (hcov : ∀ k, k < n0 → k ∈ isC ∨ k ∈ isR) (hn : As.length = n) (hsize : ls.size = nL) (hst : st0 = As.reverse ++ rest) (hW : 2 * (F0 m pc ls st0).monitorRoom + (rest.map fun v => v.category).sum ≤ 8) (hdg : decode cc pc = .ok (.invokestatic index, 3))
    (hcs : cells + 0 ≤ R.cells ∧ slots + 0 ≤ R.slots) (kk : ∀ (H1 : Heap) (locs1 : List Loc), wd D tys s A H0 H1 locs1 ws' → W p l e R s m args below meth c H1 locs1 cells slots Q (F0 m (pc + 3) ls (.ref r :: rest))) : W p l e R s m args below meth c H locs cells slots Q (F0 m pc ls st0) := by
  exact aft_r w ⟨hC, hC', hR, hl0, hnd, hcov⟩ (va_runSN (As := As) (rest := rest) C hM cw (prS w hnd hC) rfl hn hsize hst hW hdg hcs) kk
end B4
