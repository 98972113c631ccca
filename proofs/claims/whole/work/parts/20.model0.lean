abbrev wX8_in (cI cL cS cH : ClassId) : va_W := []
def fX8_in  (x0 : Int64) (x2 : Int64) (x4 : Int64) : Option (Int32) := (if (lg_cmp x0 x2) < 0 then some (0 : Int32) else (if 0 < (lg_cmp x0 x4) then some (0 : Int32) else some (1 : Int32)))
set_option maxHeartbeats 4000000 in
set_option maxRecDepth 100000 in
theorem mX8_in (l : Launch) (D : vg) (cI cL cS cH : ClassId) (sz : Nat) (x0 : Int64) (x2 : Int64) (x4 : Int64) {res : Int32} (hf : fX8_in x0 x2 x4 = some res) : cti l yX8_in wsX8_in ({ frames := 0, cells := 0, slots := 0, locals := 0 }) D (ty4 cI cL cS cH) sz [.long x0, .long x2, .long x4] (wX8_in cI cL cS cH ) (wX8_in cI cL cS cH ) res := by
  refine Met.ofW (cc := cX8_in) (maxL := 6) (ret := (some .boolean)) (by decide) rfl ?_
  intro p e s m args below meth c s₁ B hml hv
  obtain ⟨rfl, hpre⟩ := hv
  obtain rfl := hpre.1
  have C : CallFix p m c cX8_in 6 s _ wsX8_in RX8 := ⟨B.exec, B.bytes, hml, findClass_of_methodNamed B.named, atoms_spec (ws := wsX8_in) B.pre⟩
  have hr := B.returns
  have hlocks := B.notSynchronized
  have w := wd_start hpre
  clear hpre B
  have hl := lv_entry ([.long x0, .long x2, .long x4]) (n := 6) (Nat.le_of_ble_eq_true rfl)
  rw [lg_entry_eq]
  generalize (lg_sl ([.long x0, .long x2, .long x4]) ++ List.replicate (6 - (lg_sl ([.long x0, .long x2, .long x4])).length) Slot.unset).toArray = ls at hl ⊢
  have hl : lv_has ls 6 [(0, .long x0), (2, .long x2), (4, .long x4)] := hl
  unfold fX8_in at hf
  refine lv_lload_n C.1 C.2.1 dX8_in_0 rfl (lv_at hl 0 rfl) ?_
  refine lv_lload_n C.1 C.2.1 dX8_in_1 rfl (lv_at hl 1 rfl) ?_
  refine W.lcmp C.1 C.2.1 dX8_in_2 ?_
  refine lv_if_lt (tgt := 17) C.1 C.2.1 dX8_in_3 (by decide) (fun hq1 => ?_) (fun hq1 => ?_)
  · have hf := ite_t hf hq1
    refine lv_iconst (v := (0 : Int32)) C.1 C.2.1 dX8_in_17 (by decide) ?_
    have hres := Option.some.inj hf
    subst hres
    exact ret_z C hr hlocks w (by decide) rfl dX8_in_18
  · have hf := ite_f hf hq1
    refine lv_lload_n C.1 C.2.1 dX8_in_6 rfl (lv_at hl 0 rfl) ?_
    refine lv_lload C.1 C.2.1 dX8_in_7 (lv_at hl 2 rfl) ?_
    refine W.lcmp C.1 C.2.1 dX8_in_9 ?_
    refine lv_if_gt (tgt := 17) C.1 C.2.1 dX8_in_10 (by decide) (fun hq2 => ?_) (fun hq2 => ?_)
    · have hf := ite_t hf hq2
      refine lv_iconst (v := (0 : Int32)) C.1 C.2.1 dX8_in_17 (by decide) ?_
      have hres := Option.some.inj hf
      subst hres
      exact ret_z C hr hlocks w (by decide) rfl dX8_in_18
    · have hf := ite_f hf hq2
      refine lv_iconst (v := (1 : Int32)) C.1 C.2.1 dX8_in_13 (by decide) ?_
      refine lv_goto (tgt := 18) C.1 C.2.1 dX8_in_14 (by decide) ?_
      have hres := Option.some.inj hf
      subst hres
      exact ret_z C hr hlocks w (by decide) rfl dX8_in_18

abbrev wX8_bring (cI cL cS cH : ClassId) (n_p0 : Nat) (n_p2 : Nat) (a_p0 : Nat) (a_p2 : Nat) (q_p0 : Nat → Int32) (q_p2 : Nat → Int32) : va_W := [(a_p0, .inl (cI, n_p0, .inl q_p0)),
  (a_p2, .inl (cI, n_p2, .inl q_p2))]
def bX8_bring_3 (n_p0 : Nat) (n_p2 : Nat) (q_p0 : Nat → Int32) (y3_1 : Int32) (y3_3 : Int32) (y3_4 : Int32) (v3 : Int32 × (Nat → Int32)) : Option ((Int32 × (Nat → Int32)) ⊕ (Int32 × (Nat → Int32))) := (if y3_4 ≤ v3.1 then some (.inr (v3.1, v3.2)) else Option.bind (rd q_p0 n_p0 (y3_1 + v3.1)) (fun y2 => Option.bind (wi v3.2 n_p2 (y3_3 + v3.1) y2) (fun g4 => some (.inl ((v3.1 + (1 : Int32)), g4)))))
def fX8_bring (n_p0 : Nat) (n_p2 : Nat) (q_p0 : Nat → Int32) (q_p2 : Nat → Int32) (x1 : Int32) (x3 : Int32) (x4 : Int32) : Option (Nat → Int32) := Option.bind (itL (bX8_bring_3 n_p0 n_p2 q_p0 x1 x3 x4) fu ((0 : Int32), q_p2)) (fun ex6 => some ex6.2)
abbrev gX8_bring (p : Program) (l : Launch) (e : Env) (s : State) (m : MethodId) (below : List Frame) (meth : Method) (c : Code) (D : vg) (cI cL cS cH : ClassId) (n_p0 : Nat) (n_p2 : Nat) (a_p0 : Nat) (a_p2 : Nat) (q_p0 : Nat → Int32) (q_p2 : Nat → Int32) (x1 : Int32) (x3 : Int32) (x4 : Int32) (res : Nat → Int32) (H : Heap) (locs : List Loc) (g : JFrame) : Prop := W p l e (headSpec wsX8_bring ({ frames := 0, cells := 0, slots := 0, locals := 0 })).room s m ([.ref a_p0, .int x1, .ref a_p2, .int x3, .int x4] : List Value).toArray below meth c H locs 0 0 (MQ below (va_Qv (fun (_ : Unit) => True) (fun _ t => pos1 D s.heap.size (wX8_bring cI cL cS cH n_p0 n_p2 a_p0 a_p2 q_p0 q_p2) (wX8_bring cI cL cS cH n_p0 n_p2 a_p0 a_p2 q_p0 res) t) (va_A (wX8_bring cI cL cS cH n_p0 n_p2 a_p0 a_p2 q_p0 q_p2) s.heap.size)) ([.ref a_p0, .int x1, .ref a_p2, .int x3, .int x4] : List Value).toArray s 0 0 (va_A (wX8_bring cI cL cS cH n_p0 n_p2 a_p0 a_p2 q_p0 q_p2) s.heap.size)) g
set_option maxHeartbeats 4000000 in
set_option maxRecDepth 100000 in
theorem mX8_bring (l : Launch) (D : vg) (cI cL cS cH : ClassId) (sz : Nat) (n_p0 : Nat) (n_p2 : Nat) (a_p0 : Nat) (a_p2 : Nat) (q_p0 : Nat → Int32) (q_p2 : Nat → Int32) (x1 : Int32) (x3 : Int32) (x4 : Int32) {res : Nat → Int32} (hf : fX8_bring n_p0 n_p2 q_p0 q_p2 x1 x3 x4 = some res) : ctv l yX8_bring wsX8_bring ({ frames := 0, cells := 0, slots := 0, locals := 0 }) D (ty4 cI cL cS cH) sz [.ref a_p0, .int x1, .ref a_p2, .int x3, .int x4] (wX8_bring cI cL cS cH n_p0 n_p2 a_p0 a_p2 q_p0 q_p2) (wX8_bring cI cL cS cH n_p0 n_p2 a_p0 a_p2 q_p0 res) := by
  refine Met.ofW (cc := cX8_bring) (maxL := 6) (ret := none) (by decide) rfl ?_
  intro p e s m args below meth c s₁ B hml hv
  obtain ⟨rfl, hpre⟩ := hv
  obtain rfl := hpre.1
  have C : CallFix p m c cX8_bring 6 s _ wsX8_bring RX8 := ⟨B.exec, B.bytes, hml, findClass_of_methodNamed B.named, atoms_spec (ws := wsX8_bring) B.pre⟩
  have hr := B.returns
  have hlocks := B.notSynchronized
  have w := wd_start hpre
  clear hpre B
  have hl := lv_entry ([.ref a_p0, .int x1, .ref a_p2, .int x3, .int x4]) (n := 6) (Nat.le_of_ble_eq_true rfl)
  rw [lg_entry_eq]
  generalize (lg_sl ([.ref a_p0, .int x1, .ref a_p2, .int x3, .int x4]) ++ List.replicate (6 - (lg_sl ([.ref a_p0, .int x1, .ref a_p2, .int x3, .int x4])).length) Slot.unset).toArray = ls at hl ⊢
  have hl : lv_has ls 6 [(0, .ref a_p0), (1, .int x1), (2, .ref a_p2), (3, .int x3), (4, .int x4)] := hl
  unfold fX8_bring at hf
  have hlp3 : ∀ (y3_1 : Int32) (y3_3 : Int32) (y3_4 : Int32) (ex3 : Int32 × (Nat → Int32)) (hk : (∀ (H : Heap) (locs : List Loc) (ls : Array Slot), wd D (ty4 cI cL cS cH) s (va_A (wX8_bring cI cL cS cH n_p0 n_p2 a_p0 a_p2 q_p0 q_p2) s.heap.size) s.heap H locs (wX8_bring cI cL cS cH n_p0 n_p2 a_p0 a_p2 q_p0 ex3.2) → lv_has ls 6 [] → gX8_bring p l e s m below meth c D cI cL cS cH n_p0 n_p2 a_p0 a_p2 q_p0 q_p2 x1 x3 x4 res H locs (F0 m 28 ls []))) (n : Nat) (v3 : Int32 × (Nat → Int32)) (H : Heap) (locs : List Loc) (ls : Array Slot), itL (bX8_bring_3 n_p0 n_p2 q_p0 y3_1 y3_3 y3_4) n v3 = some ex3 → wd D (ty4 cI cL cS cH) s (va_A (wX8_bring cI cL cS cH n_p0 n_p2 a_p0 a_p2 q_p0 q_p2) s.heap.size) s.heap H locs (wX8_bring cI cL cS cH n_p0 n_p2 a_p0 a_p2 q_p0 v3.2) → lv_has ls 6 [(0, .ref a_p0), (1, .int y3_1), (2, .ref a_p2), (3, .int y3_3), (4, .int y3_4), (5, .int v3.1)] → gX8_bring p l e s m below meth c D cI cL cS cH n_p0 n_p2 a_p0 a_p2 q_p0 q_p2 x1 x3 x4 res H locs (F0 m 3 ls []) := by
    intro y3_1 y3_3 y3_4 ex3 hk n
    induction n with
    | zero => intro v3 H locs ls hi w hl; exact (itL_zero hi).elim
    | succ n ih =>
      intro v3 H locs ls hi w hl
      obtain ⟨o, hf, hn⟩ := itL_succ hi
      unfold bX8_bring_3 at hf
      refine lv_iload C.1 C.2.1 dX8_bring_3 (lv_at hl 5 rfl) ?_
      refine lv_iload C.1 C.2.1 dX8_bring_5 (lv_at hl 4 rfl) ?_
      refine lv_icmp_ge (tgt := 28) C.1 C.2.1 dX8_bring_7 (by decide) (fun hq1 => ?_) (fun hq1 => ?_)
      · have hf := ite_t hf hq1
        obtain rfl := Option.some.inj hf
        obtain rfl := hn
        exact hk _ _ _ w (lv_sub hl [] rfl)
      · have hf := ite_f hf hq1
        refine lv_aload_n C.1 C.2.1 dX8_bring_10 rfl (lv_at hl 2 rfl) ?_
        refine lv_iload_n C.1 C.2.1 dX8_bring_11 rfl (lv_at hl 3 rfl) ?_
        refine lv_iload C.1 C.2.1 dX8_bring_12 (lv_at hl 5 rfl) ?_
        refine lv_iadd C.1 C.2.1 dX8_bring_14 ?_
        refine lv_aload_n C.1 C.2.1 dX8_bring_15 rfl (lv_at hl 0 rfl) ?_
        refine lv_iload_n C.1 C.2.1 dX8_bring_16 rfl (lv_at hl 1 rfl) ?_
        refine lv_iload C.1 C.2.1 dX8_bring_17 (lv_at hl 5 rfl) ?_
        refine lv_iadd C.1 C.2.1 dX8_bring_19 ?_
        obtain ⟨y2, hy3, hf⟩ := bd hf
        refine r_iald C w 0 0 rfl rfl (rd_in hy3) dX8_bring_20 ?_
        obtain ⟨g4, hg5, hf⟩ := bd hf
        refine r_iast (ws' := (wX8_bring cI cL cS cH n_p0 n_p2 a_p0 a_p2 q_p0 g4)) C w 1 0 rfl rfl (wi_in hg5) rfl dX8_bring_21 (fun H locs w => ?_)
        refine lv_iinc (v := (v3.1 + (1 : Int32))) (lv' := [(5, .int (v3.1 + (1 : Int32))), (0, .ref a_p0), (1, .int y3_1), (2, .ref a_p2), (3, .int y3_3), (4, .int y3_4)]) C.1 C.2.1 dX8_bring_22 hl (k := 5) rfl rfl (by decide) rfl (fun ls hl => ?_)
        refine lv_goto (tgt := 3) C.1 C.2.1 dX8_bring_25 (by decide) ?_
        obtain rfl := Option.some.inj hf
        exact ih ((v3.1 + (1 : Int32)), g4) _ _ _ hn w (lv_sub hl [1, 2, 3, 4, 5, 0] rfl)
  refine lv_iconst (v := (0 : Int32)) C.1 C.2.1 dX8_bring_0 (by decide) ?_
  refine lv_istore (lv' := [(5, .int (0 : Int32)), (0, .ref a_p0), (1, .int x1), (2, .ref a_p2), (3, .int x3), (4, .int x4)]) C.1 C.2.1 dX8_bring_1 hl (by decide) rfl (fun ls hl => ?_)
  obtain ⟨ex6, hx7, hf⟩ := bd hf
  refine hlp3 x1 x3 x4 ex6 ?_ fu ((0 : Int32), q_p2) _ _ _ hx7 w (lv_sub hl [1, 2, 3, 4, 5, 0] rfl)
  intro H locs ls w hl
  have hres := Option.some.inj hf
  subst hres
  exact ret_v C hr hlocks w dX8_bring_28

abbrev wX8_bringS (cI cL cS cH : ClassId) (n_p0 : Nat) (a_p0 : Nat) (q_p0 : Nat → Int32) : va_W := [(a_p0, .inl (cI, n_p0, .inl q_p0))]
def bX8_bringS_3 (n_p0 : Nat) (y3_1 : Int32) (y3_3 : Int32) (y3_4 : Int32) (v3 : Int32 × (Nat → Int32)) : Option ((Int32 × (Nat → Int32)) ⊕ (Int32 × (Nat → Int32))) := (if y3_4 ≤ v3.1 then some (.inr (v3.1, v3.2)) else Option.bind (rd v3.2 n_p0 (y3_1 + v3.1)) (fun y2 => Option.bind (wi v3.2 n_p0 (y3_3 + v3.1) y2) (fun g4 => some (.inl ((v3.1 + (1 : Int32)), g4)))))
def fX8_bringS (n_p0 : Nat) (q_p0 : Nat → Int32) (x1 : Int32) (x3 : Int32) (x4 : Int32) : Option (Nat → Int32) := Option.bind (itL (bX8_bringS_3 n_p0 x1 x3 x4) fu ((0 : Int32), q_p0)) (fun ex6 => some ex6.2)
abbrev gX8_bringS (p : Program) (l : Launch) (e : Env) (s : State) (m : MethodId) (below : List Frame) (meth : Method) (c : Code) (D : vg) (cI cL cS cH : ClassId) (n_p0 : Nat) (a_p0 : Nat) (q_p0 : Nat → Int32) (x1 : Int32) (x3 : Int32) (x4 : Int32) (res : Nat → Int32) (H : Heap) (locs : List Loc) (g : JFrame) : Prop := W p l e (headSpec wsX8_bring ({ frames := 0, cells := 0, slots := 0, locals := 0 })).room s m ([.ref a_p0, .int x1, .ref a_p0, .int x3, .int x4] : List Value).toArray below meth c H locs 0 0 (MQ below (va_Qv (fun (_ : Unit) => True) (fun _ t => pos1 D s.heap.size (wX8_bringS cI cL cS cH n_p0 a_p0 q_p0) (wX8_bringS cI cL cS cH n_p0 a_p0 res) t) (va_A (wX8_bringS cI cL cS cH n_p0 a_p0 q_p0) s.heap.size)) ([.ref a_p0, .int x1, .ref a_p0, .int x3, .int x4] : List Value).toArray s 0 0 (va_A (wX8_bringS cI cL cS cH n_p0 a_p0 q_p0) s.heap.size)) g
set_option maxHeartbeats 4000000 in
set_option maxRecDepth 100000 in
theorem mX8_bringS (l : Launch) (D : vg) (cI cL cS cH : ClassId) (sz : Nat) (n_p0 : Nat) (a_p0 : Nat) (q_p0 : Nat → Int32) (x1 : Int32) (x3 : Int32) (x4 : Int32) {res : Nat → Int32} (hf : fX8_bringS n_p0 q_p0 x1 x3 x4 = some res) : ctv l yX8_bring wsX8_bring ({ frames := 0, cells := 0, slots := 0, locals := 0 }) D (ty4 cI cL cS cH) sz [.ref a_p0, .int x1, .ref a_p0, .int x3, .int x4] (wX8_bringS cI cL cS cH n_p0 a_p0 q_p0) (wX8_bringS cI cL cS cH n_p0 a_p0 res) := by
  refine Met.ofW (cc := cX8_bring) (maxL := 6) (ret := none) (by decide) rfl ?_
  intro p e s m args below meth c s₁ B hml hv
  obtain ⟨rfl, hpre⟩ := hv
  obtain rfl := hpre.1
  have C : CallFix p m c cX8_bring 6 s _ wsX8_bring RX8 := ⟨B.exec, B.bytes, hml, findClass_of_methodNamed B.named, atoms_spec (ws := wsX8_bring) B.pre⟩
  have hr := B.returns
  have hlocks := B.notSynchronized
  have w := wd_start hpre
  clear hpre B
  have hl := lv_entry ([.ref a_p0, .int x1, .ref a_p0, .int x3, .int x4]) (n := 6) (Nat.le_of_ble_eq_true rfl)
  rw [lg_entry_eq]
  generalize (lg_sl ([.ref a_p0, .int x1, .ref a_p0, .int x3, .int x4]) ++ List.replicate (6 - (lg_sl ([.ref a_p0, .int x1, .ref a_p0, .int x3, .int x4])).length) Slot.unset).toArray = ls at hl ⊢
  have hl : lv_has ls 6 [(0, .ref a_p0), (1, .int x1), (2, .ref a_p0), (3, .int x3), (4, .int x4)] := hl
  unfold fX8_bringS at hf
  have hlp3 : ∀ (y3_1 : Int32) (y3_3 : Int32) (y3_4 : Int32) (ex3 : Int32 × (Nat → Int32)) (hk : (∀ (H : Heap) (locs : List Loc) (ls : Array Slot), wd D (ty4 cI cL cS cH) s (va_A (wX8_bringS cI cL cS cH n_p0 a_p0 q_p0) s.heap.size) s.heap H locs (wX8_bringS cI cL cS cH n_p0 a_p0 ex3.2) → lv_has ls 6 [] → gX8_bringS p l e s m below meth c D cI cL cS cH n_p0 a_p0 q_p0 x1 x3 x4 res H locs (F0 m 28 ls []))) (n : Nat) (v3 : Int32 × (Nat → Int32)) (H : Heap) (locs : List Loc) (ls : Array Slot), itL (bX8_bringS_3 n_p0 y3_1 y3_3 y3_4) n v3 = some ex3 → wd D (ty4 cI cL cS cH) s (va_A (wX8_bringS cI cL cS cH n_p0 a_p0 q_p0) s.heap.size) s.heap H locs (wX8_bringS cI cL cS cH n_p0 a_p0 v3.2) → lv_has ls 6 [(0, .ref a_p0), (1, .int y3_1), (2, .ref a_p0), (3, .int y3_3), (4, .int y3_4), (5, .int v3.1)] → gX8_bringS p l e s m below meth c D cI cL cS cH n_p0 a_p0 q_p0 x1 x3 x4 res H locs (F0 m 3 ls []) := by
    intro y3_1 y3_3 y3_4 ex3 hk n
    induction n with
    | zero => intro v3 H locs ls hi w hl; exact (itL_zero hi).elim
    | succ n ih =>
      intro v3 H locs ls hi w hl
      obtain ⟨o, hf, hn⟩ := itL_succ hi
      unfold bX8_bringS_3 at hf
      refine lv_iload C.1 C.2.1 dX8_bring_3 (lv_at hl 5 rfl) ?_
      refine lv_iload C.1 C.2.1 dX8_bring_5 (lv_at hl 4 rfl) ?_
      refine lv_icmp_ge (tgt := 28) C.1 C.2.1 dX8_bring_7 (by decide) (fun hq1 => ?_) (fun hq1 => ?_)
      · have hf := ite_t hf hq1
        obtain rfl := Option.some.inj hf
        obtain rfl := hn
        exact hk _ _ _ w (lv_sub hl [] rfl)
      · have hf := ite_f hf hq1
        refine lv_aload_n C.1 C.2.1 dX8_bring_10 rfl (lv_at hl 2 rfl) ?_
        refine lv_iload_n C.1 C.2.1 dX8_bring_11 rfl (lv_at hl 3 rfl) ?_
        refine lv_iload C.1 C.2.1 dX8_bring_12 (lv_at hl 5 rfl) ?_
        refine lv_iadd C.1 C.2.1 dX8_bring_14 ?_
        refine lv_aload_n C.1 C.2.1 dX8_bring_15 rfl (lv_at hl 0 rfl) ?_
        refine lv_iload_n C.1 C.2.1 dX8_bring_16 rfl (lv_at hl 1 rfl) ?_
        refine lv_iload C.1 C.2.1 dX8_bring_17 (lv_at hl 5 rfl) ?_
        refine lv_iadd C.1 C.2.1 dX8_bring_19 ?_
        obtain ⟨y2, hy3, hf⟩ := bd hf
        refine r_iald C w 0 0 rfl rfl (rd_in hy3) dX8_bring_20 ?_
        obtain ⟨g4, hg5, hf⟩ := bd hf
        refine r_iast (ws' := (wX8_bringS cI cL cS cH n_p0 a_p0 g4)) C w 0 0 rfl rfl (wi_in hg5) rfl dX8_bring_21 (fun H locs w => ?_)
        refine lv_iinc (v := (v3.1 + (1 : Int32))) (lv' := [(5, .int (v3.1 + (1 : Int32))), (0, .ref a_p0), (1, .int y3_1), (2, .ref a_p0), (3, .int y3_3), (4, .int y3_4)]) C.1 C.2.1 dX8_bring_22 hl (k := 5) rfl rfl (by decide) rfl (fun ls hl => ?_)
        refine lv_goto (tgt := 3) C.1 C.2.1 dX8_bring_25 (by decide) ?_
        obtain rfl := Option.some.inj hf
        exact ih ((v3.1 + (1 : Int32)), g4) _ _ _ hn w (lv_sub hl [1, 2, 3, 4, 5, 0] rfl)
  refine lv_iconst (v := (0 : Int32)) C.1 C.2.1 dX8_bring_0 (by decide) ?_
  refine lv_istore (lv' := [(5, .int (0 : Int32)), (0, .ref a_p0), (1, .int x1), (2, .ref a_p0), (3, .int x3), (4, .int x4)]) C.1 C.2.1 dX8_bring_1 hl (by decide) rfl (fun ls hl => ?_)
  obtain ⟨ex6, hx7, hf⟩ := bd hf
  refine hlp3 x1 x3 x4 ex6 ?_ fu ((0 : Int32), q_p0) _ _ _ hx7 w (lv_sub hl [1, 2, 3, 4, 5, 0] rfl)
  intro H locs ls w hl
  have hres := Option.some.inj hf
  subst hres
  exact ret_v C hr hlocks w dX8_bring_28

abbrev wX8_has (cI cL cS cH : ClassId) : va_W := []
def fX8_has  (x0 : Int32) (x1 : Int32) : Option (Int32) := (if ((x0 >>> (x1 &&& 31)) &&& (1 : Int32)) = (1 : Int32) then some (1 : Int32) else some (0 : Int32))
set_option maxHeartbeats 4000000 in
set_option maxRecDepth 100000 in
theorem mX8_has (l : Launch) (D : vg) (cI cL cS cH : ClassId) (sz : Nat) (x0 : Int32) (x1 : Int32) {res : Int32} (hf : fX8_has x0 x1 = some res) : cti l yX8_has wsX8_has ({ frames := 0, cells := 0, slots := 0, locals := 0 }) D (ty4 cI cL cS cH) sz [.int x0, .int x1] (wX8_has cI cL cS cH ) (wX8_has cI cL cS cH ) res := by
  refine Met.ofW (cc := cX8_has) (maxL := 2) (ret := (some .boolean)) (by decide) rfl ?_
  intro p e s m args below meth c s₁ B hml hv
  obtain ⟨rfl, hpre⟩ := hv
  obtain rfl := hpre.1
  have C : CallFix p m c cX8_has 2 s _ wsX8_has RX8 := ⟨B.exec, B.bytes, hml, findClass_of_methodNamed B.named, atoms_spec (ws := wsX8_has) B.pre⟩
  have hr := B.returns
  have hlocks := B.notSynchronized
  have w := wd_start hpre
  clear hpre B
  have hl := lv_entry ([.int x0, .int x1]) (n := 2) (Nat.le_of_ble_eq_true rfl)
  rw [lg_entry_eq]
  generalize (lg_sl ([.int x0, .int x1]) ++ List.replicate (2 - (lg_sl ([.int x0, .int x1])).length) Slot.unset).toArray = ls at hl ⊢
  have hl : lv_has ls 2 [(0, .int x0), (1, .int x1)] := hl
  unfold fX8_has at hf
  refine lv_iload_n C.1 C.2.1 dX8_has_0 rfl (lv_at hl 0 rfl) ?_
  refine lv_iload_n C.1 C.2.1 dX8_has_1 rfl (lv_at hl 1 rfl) ?_
  refine lv_ishr C.1 C.2.1 dX8_has_2 ?_
  refine lv_iconst (v := (1 : Int32)) C.1 C.2.1 dX8_has_3 (by decide) ?_
  refine lv_iand C.1 C.2.1 dX8_has_4 ?_
  refine lv_iconst (v := (1 : Int32)) C.1 C.2.1 dX8_has_5 (by decide) ?_
  refine lv_icmp_ne (tgt := 13) C.1 C.2.1 dX8_has_6 (by decide) (fun hq1 => ?_) (fun hq1 => ?_)
  · have hf := ite_f hf hq1
    refine lv_iconst (v := (0 : Int32)) C.1 C.2.1 dX8_has_13 (by decide) ?_
    have hres := Option.some.inj hf
    subst hres
    exact ret_z C hr hlocks w (by decide) rfl dX8_has_14
  · have hf := ite_t hf hq1
    refine lv_iconst (v := (1 : Int32)) C.1 C.2.1 dX8_has_9 (by decide) ?_
    refine lv_goto (tgt := 14) C.1 C.2.1 dX8_has_10 (by decide) ?_
    have hres := Option.some.inj hf
    subst hres
    exact ret_z C hr hlocks w (by decide) rfl dX8_has_14

abbrev wX8_sizeIn (cI cL cS cH : ClassId) : va_W := []
def jX8_sizeIn_24  (y4_0 : Int32) (y24_2 : Int32) (z24_0 : Int32) (z24_1 : Int32) : Option ((Int32 × Int32) ⊕ (Int32 × Int32)) := some (.inl ((z24_1 + z24_0), (y24_2 + (1 : Int32))))
def bX8_sizeIn_4  (y4_0 : Int32) (v4 : Int32 × Int32) : Option ((Int32 × Int32) ⊕ (Int32 × Int32)) := (if (7 : Int32) ≤ v4.2 then some (.inr (v4.1, v4.2)) else Option.bind (fX8_has y4_0 v4.2) (fun r2 => (if r2 = 0 then jX8_sizeIn_24 y4_0 v4.2 (0 : Int32) v4.1 else jX8_sizeIn_24 y4_0 v4.2 (1 : Int32) v4.1)))
def fX8_sizeIn  (x0 : Int32) : Option (Int32) := Option.bind (itL (bX8_sizeIn_4 x0) fu ((0 : Int32), (0 : Int32))) (fun ex5 => some ex5.1)
abbrev gX8_sizeIn (p : Program) (l : Launch) (e : Env) (s : State) (m : MethodId) (below : List Frame) (meth : Method) (c : Code) (D : vg) (cI cL cS cH : ClassId) (x0 : Int32) (res : Int32) (H : Heap) (locs : List Loc) (g : JFrame) : Prop := W p l e (headSpec wsX8_sizeIn ({ frames := 1, cells := 0, slots := 0, locals := 21 })).room s m ([.int x0] : List Value).toArray below meth c H locs 0 0 (MQ below (va_Qi (fun r' (_ : Unit) => r' = res) (fun _ t => pos1 D s.heap.size (wX8_sizeIn cI cL cS cH ) (wX8_sizeIn cI cL cS cH ) t) (va_A (wX8_sizeIn cI cL cS cH ) s.heap.size)) ([.int x0] : List Value).toArray s 0 0 (va_A (wX8_sizeIn cI cL cS cH ) s.heap.size)) g
set_option maxHeartbeats 4000000 in
set_option maxRecDepth 100000 in
theorem mX8_sizeIn (l : Launch) (D : vg) (cI cL cS cH : ClassId) (sz : Nat) (x0 : Int32) {res : Int32} (hf : fX8_sizeIn x0 = some res) : cti l yX8_sizeIn wsX8_sizeIn ({ frames := 1, cells := 0, slots := 0, locals := 21 }) D (ty4 cI cL cS cH) sz [.int x0] (wX8_sizeIn cI cL cS cH ) (wX8_sizeIn cI cL cS cH ) res := by
  refine Met.ofW (cc := cX8_sizeIn) (maxL := 3) (ret := (some .int)) (by decide) rfl ?_
  intro p e s m args below meth c s₁ B hml hv
  obtain ⟨rfl, hpre⟩ := hv
  obtain rfl := hpre.1
  have C : CallFix p m c cX8_sizeIn 3 s _ wsX8_sizeIn RX8 := ⟨B.exec, B.bytes, hml, findClass_of_methodNamed B.named, atoms_spec (ws := wsX8_sizeIn) B.pre⟩
  have hr := B.returns
  have hlocks := B.notSynchronized
  have w := wd_start hpre
  clear hpre B
  have hl := lv_entry ([.int x0]) (n := 3) (Nat.le_of_ble_eq_true rfl)
  rw [lg_entry_eq]
  generalize (lg_sl ([.int x0]) ++ List.replicate (3 - (lg_sl ([.int x0])).length) Slot.unset).toArray = ls at hl ⊢
  have hl : lv_has ls 3 [(0, .int x0)] := hl
  unfold fX8_sizeIn at hf
  have hlp4 : ∀ (y4_0 : Int32) (ex4 : Int32 × Int32) (hk : (∀ (H : Heap) (locs : List Loc) (ls : Array Slot), wd D (ty4 cI cL cS cH) s (va_A (wX8_sizeIn cI cL cS cH ) s.heap.size) s.heap H locs (wX8_sizeIn cI cL cS cH ) → lv_has ls 3 [(1, .int ex4.1)] → gX8_sizeIn p l e s m below meth c D cI cL cS cH x0 res H locs (F0 m 32 ls []))) (n : Nat) (v4 : Int32 × Int32) (H : Heap) (locs : List Loc) (ls : Array Slot), itL (bX8_sizeIn_4 y4_0) n v4 = some ex4 → wd D (ty4 cI cL cS cH) s (va_A (wX8_sizeIn cI cL cS cH ) s.heap.size) s.heap H locs (wX8_sizeIn cI cL cS cH ) → lv_has ls 3 [(0, .int y4_0), (1, .int v4.1), (2, .int v4.2)] → gX8_sizeIn p l e s m below meth c D cI cL cS cH x0 res H locs (F0 m 4 ls []) := by
    intro y4_0 ex4 hk n
    induction n with
    | zero => intro v4 H locs ls hi w hl; exact (itL_zero hi).elim
    | succ n ih =>
      intro v4 H locs ls hi w hl
      obtain ⟨o, hf, hn⟩ := itL_succ hi
      unfold bX8_sizeIn_4 at hf
      have hj24 : ∀ (y24_2 : Int32) (z24_0 : Int32) (z24_1 : Int32) (H : Heap) (locs : List Loc) (ls : Array Slot), wd D (ty4 cI cL cS cH) s (va_A (wX8_sizeIn cI cL cS cH ) s.heap.size) s.heap H locs (wX8_sizeIn cI cL cS cH ) → lv_has ls 3 [(0, .int y4_0), (2, .int y24_2)] → jX8_sizeIn_24 y4_0 y24_2 z24_0 z24_1 = some o → gX8_sizeIn p l e s m below meth c D cI cL cS cH x0 res H locs (F0 m 24 ls [.int z24_0, .int z24_1]) := by
        intro y24_2 z24_0 z24_1 H locs ls w hl hf
        unfold jX8_sizeIn_24 at hf
        refine lv_iadd C.1 C.2.1 dX8_sizeIn_24 ?_
        refine lv_istore_n (lv' := [(1, .int (z24_1 + z24_0)), (0, .int y4_0), (2, .int y24_2)]) C.1 C.2.1 dX8_sizeIn_25 rfl hl (by decide) rfl (fun ls hl => ?_)
        refine lv_iinc (v := (y24_2 + (1 : Int32))) (lv' := [(2, .int (y24_2 + (1 : Int32))), (1, .int (z24_1 + z24_0)), (0, .int y4_0)]) C.1 C.2.1 dX8_sizeIn_26 hl (k := 2) rfl rfl (by decide) rfl (fun ls hl => ?_)
        refine lv_goto (tgt := 4) C.1 C.2.1 dX8_sizeIn_29 (by decide) ?_
        obtain rfl := Option.some.inj hf
        exact ih ((z24_1 + z24_0), (y24_2 + (1 : Int32))) _ _ _ hn w (lv_sub hl [2, 1, 0] rfl)
      refine lv_iload_n C.1 C.2.1 dX8_sizeIn_4 rfl (lv_at hl 2 rfl) ?_
      refine lv_bipush (v := (7 : Int32)) C.1 C.2.1 dX8_sizeIn_5 (by decide) ?_
      refine lv_icmp_ge (tgt := 32) C.1 C.2.1 dX8_sizeIn_7 (by decide) (fun hq1 => ?_) (fun hq1 => ?_)
      · have hf := ite_t hf hq1
        obtain rfl := Option.some.inj hf
        obtain rfl := hn
        exact hk _ _ _ w (lv_sub hl [1] rfl)
      · have hf := ite_f hf hq1
        refine lv_iload_n C.1 C.2.1 dX8_sizeIn_10 rfl (lv_at hl 1 rfl) ?_
        refine lv_iload_n C.1 C.2.1 dX8_sizeIn_11 rfl (lv_at hl 0 rfl) ?_
        refine lv_iload_n C.1 C.2.1 dX8_sizeIn_12 rfl (lv_at hl 2 rfl) ?_
        obtain ⟨r2, hc3, hf⟩ := bd hf
        refine call_Si (ws' := (wX8_sizeIn cI cL cS cH )) (rest := [.int v4.1]) C w (mX8_has l D cI cL cS cH _ y4_0 v4.2 hc3) (va_cwS 2 C.2.2.2.2 gX8_sizeIn_X8_has rfl rfl rfl (by decide +kernel) ⟨Nat.le_of_ble_eq_true rfl, Nat.le_of_ble_eq_true rfl⟩) [] [] 0 trivial trivial trivial rfl (by decide) (by decide) rfl hl.1 rfl (lv_room (Nat.le_of_ble_eq_true rfl)) dX8_sizeIn_13 ⟨Nat.zero_le _, Nat.zero_le _⟩ (fun H locs w => ?_)
        refine lv_if_eq (tgt := 23) C.1 C.2.1 dX8_sizeIn_16 (by decide) (fun hq4 => ?_) (fun hq4 => ?_)
        · have hf := ite_t hf hq4
          refine lv_iconst (v := (0 : Int32)) C.1 C.2.1 dX8_sizeIn_23 (by decide) ?_
          exact hj24 v4.2 (0 : Int32) v4.1 _ _ _ w (lv_sub hl [0, 2] rfl) hf
        · have hf := ite_f hf hq4
          refine lv_iconst (v := (1 : Int32)) C.1 C.2.1 dX8_sizeIn_19 (by decide) ?_
          refine lv_goto (tgt := 24) C.1 C.2.1 dX8_sizeIn_20 (by decide) ?_
          exact hj24 v4.2 (1 : Int32) v4.1 _ _ _ w (lv_sub hl [0, 2] rfl) hf
  refine lv_iconst (v := (0 : Int32)) C.1 C.2.1 dX8_sizeIn_0 (by decide) ?_
  refine lv_istore_n (lv' := [(1, .int (0 : Int32)), (0, .int x0)]) C.1 C.2.1 dX8_sizeIn_1 rfl hl (by decide) rfl (fun ls hl => ?_)
  refine lv_iconst (v := (0 : Int32)) C.1 C.2.1 dX8_sizeIn_2 (by decide) ?_
  refine lv_istore_n (lv' := [(2, .int (0 : Int32)), (1, .int (0 : Int32)), (0, .int x0)]) C.1 C.2.1 dX8_sizeIn_3 rfl hl (by decide) rfl (fun ls hl => ?_)
  obtain ⟨ex5, hx6, hf⟩ := bd hf
  refine hlp4 x0 ex5 ?_ fu ((0 : Int32), (0 : Int32)) _ _ _ hx6 w (lv_sub hl [2, 1, 0] rfl)
  intro H locs ls w hl
  refine lv_iload_n C.1 C.2.1 dX8_sizeIn_32 rfl (lv_at hl 0 rfl) ?_
  have hres := Option.some.inj hf
  subst hres
  exact ret_i C hr hlocks w rfl dX8_sizeIn_33

set_option maxRecDepth 100000 in
theorem inX8_all_X8 : ∀ w ∈ u_ws RX8 TX8 22, w ∈ wsX8_all := by decide +kernel
set_option maxRecDepth 100000 in
theorem lkX8_all_7 : Cond.fieldLink RX8 7 "CleanNetsModel" "st" "[I" ∈ wsX8_all := by decide +kernel
abbrev wX8_all (cI cL cS cH : ClassId) (a_this : Nat) (a_this_st : Nat) (a_this_past : Nat) (a_this_image : Nat) (a_this_imagePast : Nat) (a_this_tape : Nat) (a_this_laneOf : Nat) (a_this_sizeOf : Nat) (a_this_items : Nat) (a_this_code : Nat) (a_this_from : Nat) (a_this_by : Nat) (a_this_far : Nat) (a_this_met : Nat) (a_this_told : Nat) (q_acts : Int32) (q_imageActs : Int32) (q_tapeMany : Int32) (q_many : Int32) (q_round : Int32) (q_readAt : Int32) (q_isFault : Int32) (q_toldMany : Int32) (q_st : Nat → Int32) : va_W := [(a_this, .inr (8, [.ref a_this_st, .ref a_this_past, .int q_acts, .ref a_this_image, .ref a_this_imagePast, .int q_imageActs, .ref a_this_tape, .int q_tapeMany, .ref a_this_laneOf, .ref a_this_sizeOf, .ref a_this_items, .ref a_this_code, .ref a_this_from, .ref a_this_by, .ref a_this_far, .int q_many, .ref a_this_met, .int q_round, .int q_readAt, .int q_isFault, .int q_toldMany, .ref a_this_told])),
  (a_this_st, .inl (cI, 13, .inl q_st))]
def fX8_all (q_st : Nat → Int32)  : Option (Int32) := Option.bind (rd q_st 13 (0 : Int32)) (fun y1 => some (((1 : Int32) <<< (y1 &&& 31)) - (1 : Int32)))
set_option maxHeartbeats 4000000 in
set_option maxRecDepth 100000 in
theorem mX8_all (l : Launch) (D : vg) (cI cL cS cH : ClassId) (sz : Nat) (a_this : Nat) (a_this_st : Nat) (a_this_past : Nat) (a_this_image : Nat) (a_this_imagePast : Nat) (a_this_tape : Nat) (a_this_laneOf : Nat) (a_this_sizeOf : Nat) (a_this_items : Nat) (a_this_code : Nat) (a_this_from : Nat) (a_this_by : Nat) (a_this_far : Nat) (a_this_met : Nat) (a_this_told : Nat) (q_acts : Int32) (q_imageActs : Int32) (q_tapeMany : Int32) (q_many : Int32) (q_round : Int32) (q_readAt : Int32) (q_isFault : Int32) (q_toldMany : Int32) (q_st : Nat → Int32) {res : Int32} (hf : fX8_all q_st = some res) : cti l yX8_all wsX8_all ({ frames := 0, cells := 0, slots := 0, locals := 0 }) D (ty4 cI cL cS cH) sz [.ref a_this] (wX8_all cI cL cS cH a_this a_this_st a_this_past a_this_image a_this_imagePast a_this_tape a_this_laneOf a_this_sizeOf a_this_items a_this_code a_this_from a_this_by a_this_far a_this_met a_this_told q_acts q_imageActs q_tapeMany q_many q_round q_readAt q_isFault q_toldMany q_st) (wX8_all cI cL cS cH a_this a_this_st a_this_past a_this_image a_this_imagePast a_this_tape a_this_laneOf a_this_sizeOf a_this_items a_this_code a_this_from a_this_by a_this_far a_this_met a_this_told q_acts q_imageActs q_tapeMany q_many q_round q_readAt q_isFault q_toldMany q_st) res := by
  refine Met.ofW (cc := cX8_all) (maxL := 1) (ret := (some .int)) (by decide) rfl ?_
  intro p e s m args below meth c s₁ B hml hv
  obtain ⟨rfl, hpre⟩ := hv
  obtain rfl := hpre.1
  have C : CallFix p m c cX8_all 1 s _ wsX8_all RX8 := ⟨B.exec, B.bytes, hml, findClass_of_methodNamed B.named, atoms_spec (ws := wsX8_all) B.pre⟩
  have hr := B.returns
  have hlocks := B.notSynchronized
  have w := wd_start hpre
  clear hpre B
  have hl := lv_entry ([.ref a_this]) (n := 1) (Nat.le_of_ble_eq_true rfl)
  rw [lg_entry_eq]
  generalize (lg_sl ([.ref a_this]) ++ List.replicate (1 - (lg_sl ([.ref a_this])).length) Slot.unset).toArray = ls at hl ⊢
  have hl : lv_has ls 1 [(0, .ref a_this)] := hl
  unfold fX8_all at hf
  refine lv_iconst (v := (1 : Int32)) C.1 C.2.1 dX8_all_0 (by decide) ?_
  refine lv_aload_n C.1 C.2.1 dX8_all_1 rfl (lv_at hl 0 rfl) ?_
  refine r_get C w inX8_all_X8 0 rfl rfl 0 (by decide) lkX8_all_7 rfl dX8_all_2 ?_
  refine lv_iconst (v := (0 : Int32)) C.1 C.2.1 dX8_all_5 (by decide) ?_
  obtain ⟨y1, hy2, hf⟩ := bd hf
  refine r_iald C w 1 0 rfl rfl (rd_in hy2) dX8_all_6 ?_
  refine lv_ishl C.1 C.2.1 dX8_all_7 ?_
  refine lv_iconst (v := (1 : Int32)) C.1 C.2.1 dX8_all_8 (by decide) ?_
  refine lv_isub C.1 C.2.1 dX8_all_9 ?_
  have hres := Option.some.inj hf
  subst hres
  exact ret_i C hr hlocks w rfl dX8_all_10

set_option maxRecDepth 100000 in
theorem inX8_isNode_X8 : ∀ w ∈ u_ws RX8 TX8 22, w ∈ wsX8_isNode := by decide +kernel
set_option maxRecDepth 100000 in
theorem lkX8_isNode_7 : Cond.fieldLink RX8 7 "CleanNetsModel" "st" "[I" ∈ wsX8_isNode := by decide +kernel
abbrev wX8_isNode (cI cL cS cH : ClassId) (a_this : Nat) (a_this_st : Nat) (a_this_past : Nat) (a_this_image : Nat) (a_this_imagePast : Nat) (a_this_tape : Nat) (a_this_laneOf : Nat) (a_this_sizeOf : Nat) (a_this_items : Nat) (a_this_code : Nat) (a_this_from : Nat) (a_this_by : Nat) (a_this_far : Nat) (a_this_met : Nat) (a_this_told : Nat) (q_acts : Int32) (q_imageActs : Int32) (q_tapeMany : Int32) (q_many : Int32) (q_round : Int32) (q_readAt : Int32) (q_isFault : Int32) (q_toldMany : Int32) (q_st : Nat → Int32) : va_W := [(a_this, .inr (8, [.ref a_this_st, .ref a_this_past, .int q_acts, .ref a_this_image, .ref a_this_imagePast, .int q_imageActs, .ref a_this_tape, .int q_tapeMany, .ref a_this_laneOf, .ref a_this_sizeOf, .ref a_this_items, .ref a_this_code, .ref a_this_from, .ref a_this_by, .ref a_this_far, .int q_many, .ref a_this_met, .int q_round, .int q_readAt, .int q_isFault, .int q_toldMany, .ref a_this_told])),
  (a_this_st, .inl (cI, 13, .inl q_st))]
def fX8_isNode (q_st : Nat → Int32) (x1 : Int32) : Option (Int32) := Option.bind (rd q_st 13 (0 : Int32)) (fun y1 => Option.bind (fX8_in ((x1).toInt64) (0 : Int64) (((y1 - (1 : Int32))).toInt64)) (fun r3 => Option.bind (bz r3) (fun _ => some r3)))
set_option maxHeartbeats 4000000 in
set_option maxRecDepth 100000 in
theorem mX8_isNode (l : Launch) (D : vg) (cI cL cS cH : ClassId) (sz : Nat) (a_this : Nat) (a_this_st : Nat) (a_this_past : Nat) (a_this_image : Nat) (a_this_imagePast : Nat) (a_this_tape : Nat) (a_this_laneOf : Nat) (a_this_sizeOf : Nat) (a_this_items : Nat) (a_this_code : Nat) (a_this_from : Nat) (a_this_by : Nat) (a_this_far : Nat) (a_this_met : Nat) (a_this_told : Nat) (q_acts : Int32) (q_imageActs : Int32) (q_tapeMany : Int32) (q_many : Int32) (q_round : Int32) (q_readAt : Int32) (q_isFault : Int32) (q_toldMany : Int32) (q_st : Nat → Int32) (x1 : Int32) {res : Int32} (hf : fX8_isNode q_st x1 = some res) : cti l yX8_isNode wsX8_isNode ({ frames := 1, cells := 0, slots := 0, locals := 25 }) D (ty4 cI cL cS cH) sz [.ref a_this, .int x1] (wX8_isNode cI cL cS cH a_this a_this_st a_this_past a_this_image a_this_imagePast a_this_tape a_this_laneOf a_this_sizeOf a_this_items a_this_code a_this_from a_this_by a_this_far a_this_met a_this_told q_acts q_imageActs q_tapeMany q_many q_round q_readAt q_isFault q_toldMany q_st) (wX8_isNode cI cL cS cH a_this a_this_st a_this_past a_this_image a_this_imagePast a_this_tape a_this_laneOf a_this_sizeOf a_this_items a_this_code a_this_from a_this_by a_this_far a_this_met a_this_told q_acts q_imageActs q_tapeMany q_many q_round q_readAt q_isFault q_toldMany q_st) res := by
  refine Met.ofW (cc := cX8_isNode) (maxL := 2) (ret := (some .boolean)) (by decide) rfl ?_
  intro p e s m args below meth c s₁ B hml hv
  obtain ⟨rfl, hpre⟩ := hv
  obtain rfl := hpre.1
  have C : CallFix p m c cX8_isNode 2 s _ wsX8_isNode RX8 := ⟨B.exec, B.bytes, hml, findClass_of_methodNamed B.named, atoms_spec (ws := wsX8_isNode) B.pre⟩
  have hr := B.returns
  have hlocks := B.notSynchronized
  have w := wd_start hpre
  clear hpre B
  have hl := lv_entry ([.ref a_this, .int x1]) (n := 2) (Nat.le_of_ble_eq_true rfl)
  rw [lg_entry_eq]
  generalize (lg_sl ([.ref a_this, .int x1]) ++ List.replicate (2 - (lg_sl ([.ref a_this, .int x1])).length) Slot.unset).toArray = ls at hl ⊢
  have hl : lv_has ls 2 [(0, .ref a_this), (1, .int x1)] := hl
  unfold fX8_isNode at hf
  refine lv_iload_n C.1 C.2.1 dX8_isNode_0 rfl (lv_at hl 1 rfl) ?_
  refine lv_i2l C.1 C.2.1 dX8_isNode_1 rfl ?_
  refine lv_lconst (v := (0 : Int64)) C.1 C.2.1 dX8_isNode_2 (by decide) ?_
  refine lv_aload_n C.1 C.2.1 dX8_isNode_3 rfl (lv_at hl 0 rfl) ?_
  refine r_get C w inX8_isNode_X8 0 rfl rfl 0 (by decide) lkX8_isNode_7 rfl dX8_isNode_4 ?_
  refine lv_iconst (v := (0 : Int32)) C.1 C.2.1 dX8_isNode_7 (by decide) ?_
  obtain ⟨y1, hy2, hf⟩ := bd hf
  refine r_iald C w 1 0 rfl rfl (rd_in hy2) dX8_isNode_8 ?_
  refine lv_iconst (v := (1 : Int32)) C.1 C.2.1 dX8_isNode_9 (by decide) ?_
  refine lv_isub C.1 C.2.1 dX8_isNode_10 ?_
  refine lv_i2l C.1 C.2.1 dX8_isNode_11 rfl ?_
  obtain ⟨r3, hc4, hf⟩ := bd hf
  refine call_Si (ws' := (wX8_isNode cI cL cS cH a_this a_this_st a_this_past a_this_image a_this_imagePast a_this_tape a_this_laneOf a_this_sizeOf a_this_items a_this_code a_this_from a_this_by a_this_far a_this_met a_this_told q_acts q_imageActs q_tapeMany q_many q_round q_readAt q_isFault q_toldMany q_st)) (rest := []) C w (mX8_in l D cI cL cS cH _ ((x1).toInt64) (0 : Int64) (((y1 - (1 : Int32))).toInt64) hc4) (va_cwS 3 C.2.2.2.2 gX8_isNode_X8_in rfl rfl rfl (by decide +kernel) ⟨Nat.le_of_ble_eq_true rfl, Nat.le_of_ble_eq_true rfl⟩) [] [0, 1] 2 trivial trivial ⟨⟨_, rfl, rfl⟩, ⟨_, rfl, rfl⟩, trivial⟩ rfl (by decide) (by decide) rfl hl.1 rfl (lv_room (Nat.le_of_ble_eq_true rfl)) dX8_isNode_12 ⟨Nat.zero_le _, Nat.zero_le _⟩ (fun H locs w => ?_)
  obtain ⟨_, hb5, hf⟩ := bd hf
  have hres := Option.some.inj hf
  subst hres
  exact ret_z C hr hlocks w (bz_in hb5).1 rfl dX8_isNode_15

set_option maxRecDepth 100000 in
theorem inX8_areLinked_X8 : ∀ w ∈ u_ws RX8 TX8 22, w ∈ wsX8_areLinked := by decide +kernel
set_option maxRecDepth 100000 in
theorem lkX8_areLinked_7 : Cond.fieldLink RX8 7 "CleanNetsModel" "st" "[I" ∈ wsX8_areLinked := by decide +kernel
abbrev wX8_areLinked (cI cL cS cH : ClassId) (a_this : Nat) (a_this_st : Nat) (a_this_past : Nat) (a_this_image : Nat) (a_this_imagePast : Nat) (a_this_tape : Nat) (a_this_laneOf : Nat) (a_this_sizeOf : Nat) (a_this_items : Nat) (a_this_code : Nat) (a_this_from : Nat) (a_this_by : Nat) (a_this_far : Nat) (a_this_met : Nat) (a_this_told : Nat) (q_acts : Int32) (q_imageActs : Int32) (q_tapeMany : Int32) (q_many : Int32) (q_round : Int32) (q_readAt : Int32) (q_isFault : Int32) (q_toldMany : Int32) (q_st : Nat → Int32) : va_W := [(a_this, .inr (8, [.ref a_this_st, .ref a_this_past, .int q_acts, .ref a_this_image, .ref a_this_imagePast, .int q_imageActs, .ref a_this_tape, .int q_tapeMany, .ref a_this_laneOf, .ref a_this_sizeOf, .ref a_this_items, .ref a_this_code, .ref a_this_from, .ref a_this_by, .ref a_this_far, .int q_many, .ref a_this_met, .int q_round, .int q_readAt, .int q_isFault, .int q_toldMany, .ref a_this_told])),
  (a_this_st, .inl (cI, 13, .inl q_st))]
def fX8_areLinked (q_st : Nat → Int32) (x1 : Int32) (x2 : Int32) : Option (Int32) := Option.bind (rd q_st 13 ((1 : Int32) + x1)) (fun y1 => Option.bind (fX8_has y1 x2) (fun r3 => Option.bind (bz r3) (fun _ => some r3)))
set_option maxHeartbeats 4000000 in
set_option maxRecDepth 100000 in
theorem mX8_areLinked (l : Launch) (D : vg) (cI cL cS cH : ClassId) (sz : Nat) (a_this : Nat) (a_this_st : Nat) (a_this_past : Nat) (a_this_image : Nat) (a_this_imagePast : Nat) (a_this_tape : Nat) (a_this_laneOf : Nat) (a_this_sizeOf : Nat) (a_this_items : Nat) (a_this_code : Nat) (a_this_from : Nat) (a_this_by : Nat) (a_this_far : Nat) (a_this_met : Nat) (a_this_told : Nat) (q_acts : Int32) (q_imageActs : Int32) (q_tapeMany : Int32) (q_many : Int32) (q_round : Int32) (q_readAt : Int32) (q_isFault : Int32) (q_toldMany : Int32) (q_st : Nat → Int32) (x1 : Int32) (x2 : Int32) {res : Int32} (hf : fX8_areLinked q_st x1 x2 = some res) : cti l yX8_areLinked wsX8_areLinked ({ frames := 1, cells := 0, slots := 0, locals := 21 }) D (ty4 cI cL cS cH) sz [.ref a_this, .int x1, .int x2] (wX8_areLinked cI cL cS cH a_this a_this_st a_this_past a_this_image a_this_imagePast a_this_tape a_this_laneOf a_this_sizeOf a_this_items a_this_code a_this_from a_this_by a_this_far a_this_met a_this_told q_acts q_imageActs q_tapeMany q_many q_round q_readAt q_isFault q_toldMany q_st) (wX8_areLinked cI cL cS cH a_this a_this_st a_this_past a_this_image a_this_imagePast a_this_tape a_this_laneOf a_this_sizeOf a_this_items a_this_code a_this_from a_this_by a_this_far a_this_met a_this_told q_acts q_imageActs q_tapeMany q_many q_round q_readAt q_isFault q_toldMany q_st) res := by
  refine Met.ofW (cc := cX8_areLinked) (maxL := 3) (ret := (some .boolean)) (by decide) rfl ?_
  intro p e s m args below meth c s₁ B hml hv
  obtain ⟨rfl, hpre⟩ := hv
  obtain rfl := hpre.1
  have C : CallFix p m c cX8_areLinked 3 s _ wsX8_areLinked RX8 := ⟨B.exec, B.bytes, hml, findClass_of_methodNamed B.named, atoms_spec (ws := wsX8_areLinked) B.pre⟩
  have hr := B.returns
  have hlocks := B.notSynchronized
  have w := wd_start hpre
  clear hpre B
  have hl := lv_entry ([.ref a_this, .int x1, .int x2]) (n := 3) (Nat.le_of_ble_eq_true rfl)
  rw [lg_entry_eq]
  generalize (lg_sl ([.ref a_this, .int x1, .int x2]) ++ List.replicate (3 - (lg_sl ([.ref a_this, .int x1, .int x2])).length) Slot.unset).toArray = ls at hl ⊢
  have hl : lv_has ls 3 [(0, .ref a_this), (1, .int x1), (2, .int x2)] := hl
  unfold fX8_areLinked at hf
  refine lv_aload_n C.1 C.2.1 dX8_areLinked_0 rfl (lv_at hl 0 rfl) ?_
  refine r_get C w inX8_areLinked_X8 0 rfl rfl 0 (by decide) lkX8_areLinked_7 rfl dX8_areLinked_1 ?_
  refine lv_iconst (v := (1 : Int32)) C.1 C.2.1 dX8_areLinked_4 (by decide) ?_
  refine lv_iload_n C.1 C.2.1 dX8_areLinked_5 rfl (lv_at hl 1 rfl) ?_
  refine lv_iadd C.1 C.2.1 dX8_areLinked_6 ?_
  obtain ⟨y1, hy2, hf⟩ := bd hf
  refine r_iald C w 1 0 rfl rfl (rd_in hy2) dX8_areLinked_7 ?_
  refine lv_iload_n C.1 C.2.1 dX8_areLinked_8 rfl (lv_at hl 2 rfl) ?_
  obtain ⟨r3, hc4, hf⟩ := bd hf
  refine call_Si (ws' := (wX8_areLinked cI cL cS cH a_this a_this_st a_this_past a_this_image a_this_imagePast a_this_tape a_this_laneOf a_this_sizeOf a_this_items a_this_code a_this_from a_this_by a_this_far a_this_met a_this_told q_acts q_imageActs q_tapeMany q_many q_round q_readAt q_isFault q_toldMany q_st)) (rest := []) C w (mX8_has l D cI cL cS cH _ y1 x2 hc4) (va_cwS 2 C.2.2.2.2 gX8_areLinked_X8_has rfl rfl rfl (by decide +kernel) ⟨Nat.le_of_ble_eq_true rfl, Nat.le_of_ble_eq_true rfl⟩) [] [0, 1] 2 trivial trivial ⟨⟨_, rfl, rfl⟩, ⟨_, rfl, rfl⟩, trivial⟩ rfl (by decide) (by decide) rfl hl.1 rfl (lv_room (Nat.le_of_ble_eq_true rfl)) dX8_areLinked_9 ⟨Nat.zero_le _, Nat.zero_le _⟩ (fun H locs w => ?_)
  obtain ⟨_, hb5, hf⟩ := bd hf
  have hres := Option.some.inj hf
  subst hres
  exact ret_z C hr hlocks w (bz_in hb5).1 rfl dX8_areLinked_12

set_option maxRecDepth 100000 in
theorem inX8_linksOf_X8 : ∀ w ∈ u_ws RX8 TX8 22, w ∈ wsX8_linksOf := by decide +kernel
set_option maxRecDepth 100000 in
theorem lkX8_linksOf_7 : Cond.fieldLink RX8 7 "CleanNetsModel" "st" "[I" ∈ wsX8_linksOf := by decide +kernel
abbrev wX8_linksOf (cI cL cS cH : ClassId) (a_this : Nat) (a_this_st : Nat) (a_this_past : Nat) (a_this_image : Nat) (a_this_imagePast : Nat) (a_this_tape : Nat) (a_this_laneOf : Nat) (a_this_sizeOf : Nat) (a_this_items : Nat) (a_this_code : Nat) (a_this_from : Nat) (a_this_by : Nat) (a_this_far : Nat) (a_this_met : Nat) (a_this_told : Nat) (q_acts : Int32) (q_imageActs : Int32) (q_tapeMany : Int32) (q_many : Int32) (q_round : Int32) (q_readAt : Int32) (q_isFault : Int32) (q_toldMany : Int32) (q_st : Nat → Int32) : va_W := [(a_this, .inr (8, [.ref a_this_st, .ref a_this_past, .int q_acts, .ref a_this_image, .ref a_this_imagePast, .int q_imageActs, .ref a_this_tape, .int q_tapeMany, .ref a_this_laneOf, .ref a_this_sizeOf, .ref a_this_items, .ref a_this_code, .ref a_this_from, .ref a_this_by, .ref a_this_far, .int q_many, .ref a_this_met, .int q_round, .int q_readAt, .int q_isFault, .int q_toldMany, .ref a_this_told])),
  (a_this_st, .inl (cI, 13, .inl q_st))]
def jX8_linksOf_35 (q_st : Nat → Int32) (y4_1 : Int32) (y35_3 : Int32) (z35_0 : Int32) (z35_1 : Int32) : Option ((Int32 × Int32) ⊕ (Int32 × Int32)) := some (.inl ((z35_1 ||| z35_0), (y35_3 + (1 : Int32))))
def bX8_linksOf_4 (q_st : Nat → Int32) (y4_1 : Int32) (v4 : Int32 × Int32) : Option ((Int32 × Int32) ⊕ (Int32 × Int32)) := Option.bind (rd q_st 13 (0 : Int32)) (fun y1 => (if y1 ≤ v4.2 then some (.inr (v4.1, v4.2)) else Option.bind (fX8_has y4_1 v4.2) (fun r4 => (if r4 = 0 then jX8_linksOf_35 q_st y4_1 v4.2 (0 : Int32) v4.1 else Option.bind (rd q_st 13 ((1 : Int32) + v4.2)) (fun y7 => jX8_linksOf_35 q_st y4_1 v4.2 y7 v4.1)))))
def fX8_linksOf (q_st : Nat → Int32) (x1 : Int32) : Option (Int32) := Option.bind (itL (bX8_linksOf_4 q_st x1) fu ((0 : Int32), (0 : Int32))) (fun ex9 => some ex9.1)
abbrev gX8_linksOf (p : Program) (l : Launch) (e : Env) (s : State) (m : MethodId) (below : List Frame) (meth : Method) (c : Code) (D : vg) (cI cL cS cH : ClassId) (a_this : Nat) (a_this_st : Nat) (a_this_past : Nat) (a_this_image : Nat) (a_this_imagePast : Nat) (a_this_tape : Nat) (a_this_laneOf : Nat) (a_this_sizeOf : Nat) (a_this_items : Nat) (a_this_code : Nat) (a_this_from : Nat) (a_this_by : Nat) (a_this_far : Nat) (a_this_met : Nat) (a_this_told : Nat) (q_acts : Int32) (q_imageActs : Int32) (q_tapeMany : Int32) (q_many : Int32) (q_round : Int32) (q_readAt : Int32) (q_isFault : Int32) (q_toldMany : Int32) (q_st : Nat → Int32) (x1 : Int32) (res : Int32) (H : Heap) (locs : List Loc) (g : JFrame) : Prop := W p l e (headSpec wsX8_linksOf ({ frames := 1, cells := 0, slots := 0, locals := 21 })).room s m ([.ref a_this, .int x1] : List Value).toArray below meth c H locs 0 0 (MQ below (va_Qi (fun r' (_ : Unit) => r' = res) (fun _ t => pos1 D s.heap.size (wX8_linksOf cI cL cS cH a_this a_this_st a_this_past a_this_image a_this_imagePast a_this_tape a_this_laneOf a_this_sizeOf a_this_items a_this_code a_this_from a_this_by a_this_far a_this_met a_this_told q_acts q_imageActs q_tapeMany q_many q_round q_readAt q_isFault q_toldMany q_st) (wX8_linksOf cI cL cS cH a_this a_this_st a_this_past a_this_image a_this_imagePast a_this_tape a_this_laneOf a_this_sizeOf a_this_items a_this_code a_this_from a_this_by a_this_far a_this_met a_this_told q_acts q_imageActs q_tapeMany q_many q_round q_readAt q_isFault q_toldMany q_st) t) (va_A (wX8_linksOf cI cL cS cH a_this a_this_st a_this_past a_this_image a_this_imagePast a_this_tape a_this_laneOf a_this_sizeOf a_this_items a_this_code a_this_from a_this_by a_this_far a_this_met a_this_told q_acts q_imageActs q_tapeMany q_many q_round q_readAt q_isFault q_toldMany q_st) s.heap.size)) ([.ref a_this, .int x1] : List Value).toArray s 0 0 (va_A (wX8_linksOf cI cL cS cH a_this a_this_st a_this_past a_this_image a_this_imagePast a_this_tape a_this_laneOf a_this_sizeOf a_this_items a_this_code a_this_from a_this_by a_this_far a_this_met a_this_told q_acts q_imageActs q_tapeMany q_many q_round q_readAt q_isFault q_toldMany q_st) s.heap.size)) g
set_option maxHeartbeats 4000000 in
set_option maxRecDepth 100000 in
theorem mX8_linksOf (l : Launch) (D : vg) (cI cL cS cH : ClassId) (sz : Nat) (a_this : Nat) (a_this_st : Nat) (a_this_past : Nat) (a_this_image : Nat) (a_this_imagePast : Nat) (a_this_tape : Nat) (a_this_laneOf : Nat) (a_this_sizeOf : Nat) (a_this_items : Nat) (a_this_code : Nat) (a_this_from : Nat) (a_this_by : Nat) (a_this_far : Nat) (a_this_met : Nat) (a_this_told : Nat) (q_acts : Int32) (q_imageActs : Int32) (q_tapeMany : Int32) (q_many : Int32) (q_round : Int32) (q_readAt : Int32) (q_isFault : Int32) (q_toldMany : Int32) (q_st : Nat → Int32) (x1 : Int32) {res : Int32} (hf : fX8_linksOf q_st x1 = some res) : cti l yX8_linksOf wsX8_linksOf ({ frames := 1, cells := 0, slots := 0, locals := 21 }) D (ty4 cI cL cS cH) sz [.ref a_this, .int x1] (wX8_linksOf cI cL cS cH a_this a_this_st a_this_past a_this_image a_this_imagePast a_this_tape a_this_laneOf a_this_sizeOf a_this_items a_this_code a_this_from a_this_by a_this_far a_this_met a_this_told q_acts q_imageActs q_tapeMany q_many q_round q_readAt q_isFault q_toldMany q_st) (wX8_linksOf cI cL cS cH a_this a_this_st a_this_past a_this_image a_this_imagePast a_this_tape a_this_laneOf a_this_sizeOf a_this_items a_this_code a_this_from a_this_by a_this_far a_this_met a_this_told q_acts q_imageActs q_tapeMany q_many q_round q_readAt q_isFault q_toldMany q_st) res := by
  refine Met.ofW (cc := cX8_linksOf) (maxL := 4) (ret := (some .int)) (by decide) rfl ?_
  intro p e s m args below meth c s₁ B hml hv
  obtain ⟨rfl, hpre⟩ := hv
  obtain rfl := hpre.1
  have C : CallFix p m c cX8_linksOf 4 s _ wsX8_linksOf RX8 := ⟨B.exec, B.bytes, hml, findClass_of_methodNamed B.named, atoms_spec (ws := wsX8_linksOf) B.pre⟩
  have hr := B.returns
  have hlocks := B.notSynchronized
  have w := wd_start hpre
  clear hpre B
  have hl := lv_entry ([.ref a_this, .int x1]) (n := 4) (Nat.le_of_ble_eq_true rfl)
  rw [lg_entry_eq]
  generalize (lg_sl ([.ref a_this, .int x1]) ++ List.replicate (4 - (lg_sl ([.ref a_this, .int x1])).length) Slot.unset).toArray = ls at hl ⊢
  have hl : lv_has ls 4 [(0, .ref a_this), (1, .int x1)] := hl
  unfold fX8_linksOf at hf
  have hlp4 : ∀ (y4_1 : Int32) (ex4 : Int32 × Int32) (hk : (∀ (H : Heap) (locs : List Loc) (ls : Array Slot), wd D (ty4 cI cL cS cH) s (va_A (wX8_linksOf cI cL cS cH a_this a_this_st a_this_past a_this_image a_this_imagePast a_this_tape a_this_laneOf a_this_sizeOf a_this_items a_this_code a_this_from a_this_by a_this_far a_this_met a_this_told q_acts q_imageActs q_tapeMany q_many q_round q_readAt q_isFault q_toldMany q_st) s.heap.size) s.heap H locs (wX8_linksOf cI cL cS cH a_this a_this_st a_this_past a_this_image a_this_imagePast a_this_tape a_this_laneOf a_this_sizeOf a_this_items a_this_code a_this_from a_this_by a_this_far a_this_met a_this_told q_acts q_imageActs q_tapeMany q_many q_round q_readAt q_isFault q_toldMany q_st) → lv_has ls 4 [(2, .int ex4.1)] → gX8_linksOf p l e s m below meth c D cI cL cS cH a_this a_this_st a_this_past a_this_image a_this_imagePast a_this_tape a_this_laneOf a_this_sizeOf a_this_items a_this_code a_this_from a_this_by a_this_far a_this_met a_this_told q_acts q_imageActs q_tapeMany q_many q_round q_readAt q_isFault q_toldMany q_st x1 res H locs (F0 m 43 ls []))) (n : Nat) (v4 : Int32 × Int32) (H : Heap) (locs : List Loc) (ls : Array Slot), itL (bX8_linksOf_4 q_st y4_1) n v4 = some ex4 → wd D (ty4 cI cL cS cH) s (va_A (wX8_linksOf cI cL cS cH a_this a_this_st a_this_past a_this_image a_this_imagePast a_this_tape a_this_laneOf a_this_sizeOf a_this_items a_this_code a_this_from a_this_by a_this_far a_this_met a_this_told q_acts q_imageActs q_tapeMany q_many q_round q_readAt q_isFault q_toldMany q_st) s.heap.size) s.heap H locs (wX8_linksOf cI cL cS cH a_this a_this_st a_this_past a_this_image a_this_imagePast a_this_tape a_this_laneOf a_this_sizeOf a_this_items a_this_code a_this_from a_this_by a_this_far a_this_met a_this_told q_acts q_imageActs q_tapeMany q_many q_round q_readAt q_isFault q_toldMany q_st) → lv_has ls 4 [(0, .ref a_this), (1, .int y4_1), (2, .int v4.1), (3, .int v4.2)] → gX8_linksOf p l e s m below meth c D cI cL cS cH a_this a_this_st a_this_past a_this_image a_this_imagePast a_this_tape a_this_laneOf a_this_sizeOf a_this_items a_this_code a_this_from a_this_by a_this_far a_this_met a_this_told q_acts q_imageActs q_tapeMany q_many q_round q_readAt q_isFault q_toldMany q_st x1 res H locs (F0 m 4 ls []) := by
    intro y4_1 ex4 hk n
    induction n with
    | zero => intro v4 H locs ls hi w hl; exact (itL_zero hi).elim
    | succ n ih =>
      intro v4 H locs ls hi w hl
      obtain ⟨o, hf, hn⟩ := itL_succ hi
      unfold bX8_linksOf_4 at hf
      have hj35 : ∀ (y35_3 : Int32) (z35_0 : Int32) (z35_1 : Int32) (H : Heap) (locs : List Loc) (ls : Array Slot), wd D (ty4 cI cL cS cH) s (va_A (wX8_linksOf cI cL cS cH a_this a_this_st a_this_past a_this_image a_this_imagePast a_this_tape a_this_laneOf a_this_sizeOf a_this_items a_this_code a_this_from a_this_by a_this_far a_this_met a_this_told q_acts q_imageActs q_tapeMany q_many q_round q_readAt q_isFault q_toldMany q_st) s.heap.size) s.heap H locs (wX8_linksOf cI cL cS cH a_this a_this_st a_this_past a_this_image a_this_imagePast a_this_tape a_this_laneOf a_this_sizeOf a_this_items a_this_code a_this_from a_this_by a_this_far a_this_met a_this_told q_acts q_imageActs q_tapeMany q_many q_round q_readAt q_isFault q_toldMany q_st) → lv_has ls 4 [(0, .ref a_this), (1, .int y4_1), (3, .int y35_3)] → jX8_linksOf_35 q_st y4_1 y35_3 z35_0 z35_1 = some o → gX8_linksOf p l e s m below meth c D cI cL cS cH a_this a_this_st a_this_past a_this_image a_this_imagePast a_this_tape a_this_laneOf a_this_sizeOf a_this_items a_this_code a_this_from a_this_by a_this_far a_this_met a_this_told q_acts q_imageActs q_tapeMany q_many q_round q_readAt q_isFault q_toldMany q_st x1 res H locs (F0 m 35 ls [.int z35_0, .int z35_1]) := by
        intro y35_3 z35_0 z35_1 H locs ls w hl hf
        unfold jX8_linksOf_35 at hf
        refine lv_ior C.1 C.2.1 dX8_linksOf_35 ?_
        refine lv_istore_n (lv' := [(2, .int (z35_1 ||| z35_0)), (0, .ref a_this), (1, .int y4_1), (3, .int y35_3)]) C.1 C.2.1 dX8_linksOf_36 rfl hl (by decide) rfl (fun ls hl => ?_)
        refine lv_iinc (v := (y35_3 + (1 : Int32))) (lv' := [(3, .int (y35_3 + (1 : Int32))), (2, .int (z35_1 ||| z35_0)), (0, .ref a_this), (1, .int y4_1)]) C.1 C.2.1 dX8_linksOf_37 hl (k := 3) rfl rfl (by decide) rfl (fun ls hl => ?_)
        refine lv_goto (tgt := 4) C.1 C.2.1 dX8_linksOf_40 (by decide) ?_
        obtain rfl := Option.some.inj hf
        exact ih ((z35_1 ||| z35_0), (y35_3 + (1 : Int32))) _ _ _ hn w (lv_sub hl [2, 3, 1, 0] rfl)
      refine lv_iload_n C.1 C.2.1 dX8_linksOf_4 rfl (lv_at hl 3 rfl) ?_
      refine lv_aload_n C.1 C.2.1 dX8_linksOf_5 rfl (lv_at hl 0 rfl) ?_
      refine r_get C w inX8_linksOf_X8 0 rfl rfl 0 (by decide) lkX8_linksOf_7 rfl dX8_linksOf_6 ?_
      refine lv_iconst (v := (0 : Int32)) C.1 C.2.1 dX8_linksOf_9 (by decide) ?_
      obtain ⟨y1, hy2, hf⟩ := bd hf
      refine r_iald C w 1 0 rfl rfl (rd_in hy2) dX8_linksOf_10 ?_
      refine lv_icmp_ge (tgt := 43) C.1 C.2.1 dX8_linksOf_11 (by decide) (fun hq3 => ?_) (fun hq3 => ?_)
      · have hf := ite_t hf hq3
        obtain rfl := Option.some.inj hf
        obtain rfl := hn
        exact hk _ _ _ w (lv_sub hl [2] rfl)
      · have hf := ite_f hf hq3
        refine lv_iload_n C.1 C.2.1 dX8_linksOf_14 rfl (lv_at hl 2 rfl) ?_
        refine lv_iload_n C.1 C.2.1 dX8_linksOf_15 rfl (lv_at hl 1 rfl) ?_
        refine lv_iload_n C.1 C.2.1 dX8_linksOf_16 rfl (lv_at hl 3 rfl) ?_
        obtain ⟨r4, hc5, hf⟩ := bd hf
        refine call_Si (ws' := (wX8_linksOf cI cL cS cH a_this a_this_st a_this_past a_this_image a_this_imagePast a_this_tape a_this_laneOf a_this_sizeOf a_this_items a_this_code a_this_from a_this_by a_this_far a_this_met a_this_told q_acts q_imageActs q_tapeMany q_many q_round q_readAt q_isFault q_toldMany q_st)) (rest := [.int v4.1]) C w (mX8_has l D cI cL cS cH _ y4_1 v4.2 hc5) (va_cwS 2 C.2.2.2.2 gX8_linksOf_X8_has rfl rfl rfl (by decide +kernel) ⟨Nat.le_of_ble_eq_true rfl, Nat.le_of_ble_eq_true rfl⟩) [] [0, 1] 2 trivial trivial ⟨⟨_, rfl, rfl⟩, ⟨_, rfl, rfl⟩, trivial⟩ rfl (by decide) (by decide) rfl hl.1 rfl (lv_room (Nat.le_of_ble_eq_true rfl)) dX8_linksOf_17 ⟨Nat.zero_le _, Nat.zero_le _⟩ (fun H locs w => ?_)
        refine lv_if_eq (tgt := 34) C.1 C.2.1 dX8_linksOf_20 (by decide) (fun hq6 => ?_) (fun hq6 => ?_)
        · have hf := ite_t hf hq6
          refine lv_iconst (v := (0 : Int32)) C.1 C.2.1 dX8_linksOf_34 (by decide) ?_
          exact hj35 v4.2 (0 : Int32) v4.1 _ _ _ w (lv_sub hl [0, 1, 3] rfl) hf
        · have hf := ite_f hf hq6
          refine lv_aload_n C.1 C.2.1 dX8_linksOf_23 rfl (lv_at hl 0 rfl) ?_
          refine r_get C w inX8_linksOf_X8 0 rfl rfl 0 (by decide) lkX8_linksOf_7 rfl dX8_linksOf_24 ?_
          refine lv_iconst (v := (1 : Int32)) C.1 C.2.1 dX8_linksOf_27 (by decide) ?_
          refine lv_iload_n C.1 C.2.1 dX8_linksOf_28 rfl (lv_at hl 3 rfl) ?_
          refine lv_iadd C.1 C.2.1 dX8_linksOf_29 ?_
          obtain ⟨y7, hy8, hf⟩ := bd hf
          refine r_iald C w 1 0 rfl rfl (rd_in hy8) dX8_linksOf_30 ?_
          refine lv_goto (tgt := 35) C.1 C.2.1 dX8_linksOf_31 (by decide) ?_
          exact hj35 v4.2 y7 v4.1 _ _ _ w (lv_sub hl [0, 1, 3] rfl) hf
  refine lv_iconst (v := (0 : Int32)) C.1 C.2.1 dX8_linksOf_0 (by decide) ?_
  refine lv_istore_n (lv' := [(2, .int (0 : Int32)), (0, .ref a_this), (1, .int x1)]) C.1 C.2.1 dX8_linksOf_1 rfl hl (by decide) rfl (fun ls hl => ?_)
  refine lv_iconst (v := (0 : Int32)) C.1 C.2.1 dX8_linksOf_2 (by decide) ?_
  refine lv_istore_n (lv' := [(3, .int (0 : Int32)), (2, .int (0 : Int32)), (0, .ref a_this), (1, .int x1)]) C.1 C.2.1 dX8_linksOf_3 rfl hl (by decide) rfl (fun ls hl => ?_)
  obtain ⟨ex9, hx10, hf⟩ := bd hf
  refine hlp4 x1 ex9 ?_ fu ((0 : Int32), (0 : Int32)) _ _ _ hx10 w (lv_sub hl [2, 3, 1, 0] rfl)
  intro H locs ls w hl
  refine lv_iload_n C.1 C.2.1 dX8_linksOf_43 rfl (lv_at hl 0 rfl) ?_
  have hres := Option.some.inj hf
  subst hres
  exact ret_i C hr hlocks w rfl dX8_linksOf_44

abbrev wX8_fouled (cI cL cS cH : ClassId) (a_this : Nat) (a_this_st : Nat) (a_this_past : Nat) (a_this_image : Nat) (a_this_imagePast : Nat) (a_this_tape : Nat) (a_this_laneOf : Nat) (a_this_sizeOf : Nat) (a_this_items : Nat) (a_this_code : Nat) (a_this_from : Nat) (a_this_by : Nat) (a_this_far : Nat) (a_this_met : Nat) (a_this_told : Nat) (q_acts : Int32) (q_imageActs : Int32) (q_tapeMany : Int32) (q_many : Int32) (q_round : Int32) (q_readAt : Int32) (q_isFault : Int32) (q_toldMany : Int32) (q_st : Nat → Int32) : va_W := [(a_this, .inr (8, [.ref a_this_st, .ref a_this_past, .int q_acts, .ref a_this_image, .ref a_this_imagePast, .int q_imageActs, .ref a_this_tape, .int q_tapeMany, .ref a_this_laneOf, .ref a_this_sizeOf, .ref a_this_items, .ref a_this_code, .ref a_this_from, .ref a_this_by, .ref a_this_far, .int q_many, .ref a_this_met, .int q_round, .int q_readAt, .int q_isFault, .int q_toldMany, .ref a_this_told])),
  (a_this_st, .inl (cI, 13, .inl q_st))]
def bX8_fouled_22 (q_st : Nat → Int32) (y22_2 : Int32) (v22 : Int32 × Int32) : Option ((Int32 × Int32) ⊕ (Int32 × Int32)) := (if v22.2 = 0 then some (.inr (v22.1, v22.2)) else bnd (v22.1 &&& (v22.2 ^^^ (-1 : Int32))) (fun y2 => Option.bind (fX8_all q_st) (fun r4 => Option.bind (fX8_linksOf q_st (r4 &&& (y2 ^^^ (-1 : Int32)))) (fun r6 => bnd ((r6 &&& y2) &&& (y22_2 ^^^ (-1 : Int32))) (fun y8 => some (.inl (y2, y8)))))))
def fX8_fouled (q_st : Nat → Int32) (x1 : Int32) (x2 : Int32) : Option (Int32) := Option.bind (fX8_all q_st) (fun r10 => Option.bind (fX8_linksOf q_st (r10 &&& (x1 ^^^ (-1 : Int32)))) (fun r12 => bnd ((r12 &&& x1) &&& (x2 ^^^ (-1 : Int32))) (fun y14 => Option.bind (itL (bX8_fouled_22 q_st x2) fu (x1, y14)) (fun ex16 => some ex16.1))))
abbrev gX8_fouled (p : Program) (l : Launch) (e : Env) (s : State) (m : MethodId) (below : List Frame) (meth : Method) (c : Code) (D : vg) (cI cL cS cH : ClassId) (a_this : Nat) (a_this_st : Nat) (a_this_past : Nat) (a_this_image : Nat) (a_this_imagePast : Nat) (a_this_tape : Nat) (a_this_laneOf : Nat) (a_this_sizeOf : Nat) (a_this_items : Nat) (a_this_code : Nat) (a_this_from : Nat) (a_this_by : Nat) (a_this_far : Nat) (a_this_met : Nat) (a_this_told : Nat) (q_acts : Int32) (q_imageActs : Int32) (q_tapeMany : Int32) (q_many : Int32) (q_round : Int32) (q_readAt : Int32) (q_isFault : Int32) (q_toldMany : Int32) (q_st : Nat → Int32) (x1 : Int32) (x2 : Int32) (res : Int32) (H : Heap) (locs : List Loc) (g : JFrame) : Prop := W p l e (headSpec wsX8_fouled ({ frames := 2, cells := 0, slots := 0, locals := 44 })).room s m ([.ref a_this, .int x1, .int x2] : List Value).toArray below meth c H locs 0 0 (MQ below (va_Qi (fun r' (_ : Unit) => r' = res) (fun _ t => pos1 D s.heap.size (wX8_fouled cI cL cS cH a_this a_this_st a_this_past a_this_image a_this_imagePast a_this_tape a_this_laneOf a_this_sizeOf a_this_items a_this_code a_this_from a_this_by a_this_far a_this_met a_this_told q_acts q_imageActs q_tapeMany q_many q_round q_readAt q_isFault q_toldMany q_st) (wX8_fouled cI cL cS cH a_this a_this_st a_this_past a_this_image a_this_imagePast a_this_tape a_this_laneOf a_this_sizeOf a_this_items a_this_code a_this_from a_this_by a_this_far a_this_met a_this_told q_acts q_imageActs q_tapeMany q_many q_round q_readAt q_isFault q_toldMany q_st) t) (va_A (wX8_fouled cI cL cS cH a_this a_this_st a_this_past a_this_image a_this_imagePast a_this_tape a_this_laneOf a_this_sizeOf a_this_items a_this_code a_this_from a_this_by a_this_far a_this_met a_this_told q_acts q_imageActs q_tapeMany q_many q_round q_readAt q_isFault q_toldMany q_st) s.heap.size)) ([.ref a_this, .int x1, .int x2] : List Value).toArray s 0 0 (va_A (wX8_fouled cI cL cS cH a_this a_this_st a_this_past a_this_image a_this_imagePast a_this_tape a_this_laneOf a_this_sizeOf a_this_items a_this_code a_this_from a_this_by a_this_far a_this_met a_this_told q_acts q_imageActs q_tapeMany q_many q_round q_readAt q_isFault q_toldMany q_st) s.heap.size)) g
set_option maxHeartbeats 4000000 in
set_option maxRecDepth 100000 in
theorem mX8_fouled (l : Launch) (D : vg) (cI cL cS cH : ClassId) (sz : Nat) (a_this : Nat) (a_this_st : Nat) (a_this_past : Nat) (a_this_image : Nat) (a_this_imagePast : Nat) (a_this_tape : Nat) (a_this_laneOf : Nat) (a_this_sizeOf : Nat) (a_this_items : Nat) (a_this_code : Nat) (a_this_from : Nat) (a_this_by : Nat) (a_this_far : Nat) (a_this_met : Nat) (a_this_told : Nat) (q_acts : Int32) (q_imageActs : Int32) (q_tapeMany : Int32) (q_many : Int32) (q_round : Int32) (q_readAt : Int32) (q_isFault : Int32) (q_toldMany : Int32) (q_st : Nat → Int32) (x1 : Int32) (x2 : Int32) {res : Int32} (hf : fX8_fouled q_st x1 x2 = some res) : cti l yX8_fouled wsX8_fouled ({ frames := 2, cells := 0, slots := 0, locals := 44 }) D (ty4 cI cL cS cH) sz [.ref a_this, .int x1, .int x2] (wX8_fouled cI cL cS cH a_this a_this_st a_this_past a_this_image a_this_imagePast a_this_tape a_this_laneOf a_this_sizeOf a_this_items a_this_code a_this_from a_this_by a_this_far a_this_met a_this_told q_acts q_imageActs q_tapeMany q_many q_round q_readAt q_isFault q_toldMany q_st) (wX8_fouled cI cL cS cH a_this a_this_st a_this_past a_this_image a_this_imagePast a_this_tape a_this_laneOf a_this_sizeOf a_this_items a_this_code a_this_from a_this_by a_this_far a_this_met a_this_told q_acts q_imageActs q_tapeMany q_many q_round q_readAt q_isFault q_toldMany q_st) res := by
  refine Met.ofW (cc := cX8_fouled) (maxL := 5) (ret := (some .int)) (by decide) rfl ?_
  intro p e s m args below meth c s₁ B hml hv
  obtain ⟨rfl, hpre⟩ := hv
  obtain rfl := hpre.1
  have C : CallFix p m c cX8_fouled 5 s _ wsX8_fouled RX8 := ⟨B.exec, B.bytes, hml, findClass_of_methodNamed B.named, atoms_spec (ws := wsX8_fouled) B.pre⟩
  have hr := B.returns
  have hlocks := B.notSynchronized
  have w := wd_start hpre
  clear hpre B
  have hl := lv_entry ([.ref a_this, .int x1, .int x2]) (n := 5) (Nat.le_of_ble_eq_true rfl)
  rw [lg_entry_eq]
  generalize (lg_sl ([.ref a_this, .int x1, .int x2]) ++ List.replicate (5 - (lg_sl ([.ref a_this, .int x1, .int x2])).length) Slot.unset).toArray = ls at hl ⊢
  have hl : lv_has ls 5 [(0, .ref a_this), (1, .int x1), (2, .int x2)] := hl
  unfold fX8_fouled at hf
  have hlp22 : ∀ (y22_2 : Int32) (ex22 : Int32 × Int32) (hk : (∀ (H : Heap) (locs : List Loc) (ls : Array Slot), wd D (ty4 cI cL cS cH) s (va_A (wX8_fouled cI cL cS cH a_this a_this_st a_this_past a_this_image a_this_imagePast a_this_tape a_this_laneOf a_this_sizeOf a_this_items a_this_code a_this_from a_this_by a_this_far a_this_met a_this_told q_acts q_imageActs q_tapeMany q_many q_round q_readAt q_isFault q_toldMany q_st) s.heap.size) s.heap H locs (wX8_fouled cI cL cS cH a_this a_this_st a_this_past a_this_image a_this_imagePast a_this_tape a_this_laneOf a_this_sizeOf a_this_items a_this_code a_this_from a_this_by a_this_far a_this_met a_this_told q_acts q_imageActs q_tapeMany q_many q_round q_readAt q_isFault q_toldMany q_st) → lv_has ls 5 [(3, .int ex22.1)] → gX8_fouled p l e s m below meth c D cI cL cS cH a_this a_this_st a_this_past a_this_image a_this_imagePast a_this_tape a_this_laneOf a_this_sizeOf a_this_items a_this_code a_this_from a_this_by a_this_far a_this_met a_this_told q_acts q_imageActs q_tapeMany q_many q_round q_readAt q_isFault q_toldMany q_st x1 x2 res H locs (F0 m 57 ls []))) (n : Nat) (v22 : Int32 × Int32) (H : Heap) (locs : List Loc) (ls : Array Slot), itL (bX8_fouled_22 q_st y22_2) n v22 = some ex22 → wd D (ty4 cI cL cS cH) s (va_A (wX8_fouled cI cL cS cH a_this a_this_st a_this_past a_this_image a_this_imagePast a_this_tape a_this_laneOf a_this_sizeOf a_this_items a_this_code a_this_from a_this_by a_this_far a_this_met a_this_told q_acts q_imageActs q_tapeMany q_many q_round q_readAt q_isFault q_toldMany q_st) s.heap.size) s.heap H locs (wX8_fouled cI cL cS cH a_this a_this_st a_this_past a_this_image a_this_imagePast a_this_tape a_this_laneOf a_this_sizeOf a_this_items a_this_code a_this_from a_this_by a_this_far a_this_met a_this_told q_acts q_imageActs q_tapeMany q_many q_round q_readAt q_isFault q_toldMany q_st) → lv_has ls 5 [(0, .ref a_this), (2, .int y22_2), (3, .int v22.1), (4, .int v22.2)] → gX8_fouled p l e s m below meth c D cI cL cS cH a_this a_this_st a_this_past a_this_image a_this_imagePast a_this_tape a_this_laneOf a_this_sizeOf a_this_items a_this_code a_this_from a_this_by a_this_far a_this_met a_this_told q_acts q_imageActs q_tapeMany q_many q_round q_readAt q_isFault q_toldMany q_st x1 x2 res H locs (F0 m 22 ls []) := by
    intro y22_2 ex22 hk n
    induction n with
    | zero => intro v22 H locs ls hi w hl; exact (itL_zero hi).elim
    | succ n ih =>
      intro v22 H locs ls hi w hl
      obtain ⟨o, hf, hn⟩ := itL_succ hi
      unfold bX8_fouled_22 at hf
      refine lv_iload C.1 C.2.1 dX8_fouled_22 (lv_at hl 3 rfl) ?_
      refine lv_if_eq (tgt := 57) C.1 C.2.1 dX8_fouled_24 (by decide) (fun hq1 => ?_) (fun hq1 => ?_)
      · have hf := ite_t hf hq1
        obtain rfl := Option.some.inj hf
        obtain rfl := hn
        exact hk _ _ _ w (lv_sub hl [2] rfl)
      · have hf := ite_f hf hq1
        refine lv_iload_n C.1 C.2.1 dX8_fouled_27 rfl (lv_at hl 2 rfl) ?_
        refine lv_iload C.1 C.2.1 dX8_fouled_28 (lv_at hl 3 rfl) ?_
        refine lv_iconst (v := (-1 : Int32)) C.1 C.2.1 dX8_fouled_30 (by decide) ?_
        refine lv_ixor C.1 C.2.1 dX8_fouled_31 ?_
        refine lv_iand C.1 C.2.1 dX8_fouled_32 ?_
        obtain ⟨y2, hy3, hf⟩ := bnd_e hf
        refine lt_topi hy3 ?_
        refine lv_istore_n (lv' := [(3, .int y2), (0, .ref a_this), (2, .int y22_2), (4, .int v22.2)]) C.1 C.2.1 dX8_fouled_33 rfl hl (by decide) rfl (fun ls hl => ?_)
        refine lv_aload_n C.1 C.2.1 dX8_fouled_34 rfl (lv_at hl 1 rfl) ?_
        refine lv_aload_n C.1 C.2.1 dX8_fouled_35 rfl (lv_at hl 1 rfl) ?_
        obtain ⟨r4, hc5, hf⟩ := bd hf
        refine call_Vi (ws' := (wX8_fouled cI cL cS cH a_this a_this_st a_this_past a_this_image a_this_imagePast a_this_tape a_this_laneOf a_this_sizeOf a_this_items a_this_code a_this_from a_this_by a_this_far a_this_met a_this_told q_acts q_imageActs q_tapeMany q_many q_round q_readAt q_isFault q_toldMany q_st)) (rest := [.ref a_this]) C w (mX8_all l D cI cL cS cH _ a_this a_this_st a_this_past a_this_image a_this_imagePast a_this_tape a_this_laneOf a_this_sizeOf a_this_items a_this_code a_this_from a_this_by a_this_far a_this_met a_this_told q_acts q_imageActs q_tapeMany q_many q_round q_readAt q_isFault q_toldMany q_st hc5) (cwV 0 C.2.2.2.2 gX8_fouled_X8_all rfl rfl rfl (by decide +kernel) ⟨Nat.le_of_ble_eq_true rfl, Nat.le_of_ble_eq_true rfl⟩) [0, 1] [] 2 ⟨rfl, rfl, trivial⟩ ⟨rfl, rfl, trivial⟩ trivial rfl (by decide) (by decide) (ci := 8) (q0 := 0) rfl rfl rfl hl.1 rfl (lv_room (Nat.le_of_ble_eq_true rfl)) dX8_fouled_36 ⟨Nat.zero_le _, Nat.zero_le _⟩ (fun H locs w => ?_)
        refine lv_iload_n C.1 C.2.1 dX8_fouled_39 rfl (lv_at hl 0 rfl) ?_
        refine lv_iconst (v := (-1 : Int32)) C.1 C.2.1 dX8_fouled_40 (by decide) ?_
        refine lv_ixor C.1 C.2.1 dX8_fouled_41 ?_
        refine lv_iand C.1 C.2.1 dX8_fouled_42 ?_
        obtain ⟨r6, hc7, hf⟩ := bd hf
        refine call_Vi (ws' := (wX8_fouled cI cL cS cH a_this a_this_st a_this_past a_this_image a_this_imagePast a_this_tape a_this_laneOf a_this_sizeOf a_this_items a_this_code a_this_from a_this_by a_this_far a_this_met a_this_told q_acts q_imageActs q_tapeMany q_many q_round q_readAt q_isFault q_toldMany q_st)) (rest := []) C w (mX8_linksOf l D cI cL cS cH _ a_this a_this_st a_this_past a_this_image a_this_imagePast a_this_tape a_this_laneOf a_this_sizeOf a_this_items a_this_code a_this_from a_this_by a_this_far a_this_met a_this_told q_acts q_imageActs q_tapeMany q_many q_round q_readAt q_isFault q_toldMany q_st (r4 &&& (y2 ^^^ (-1 : Int32))) hc7) (cwV 1 C.2.2.2.2 gX8_fouled_X8_linksOf rfl rfl rfl (by decide +kernel) ⟨Nat.le_of_ble_eq_true rfl, Nat.le_of_ble_eq_true rfl⟩) [0, 1] [] 2 ⟨rfl, rfl, trivial⟩ ⟨rfl, rfl, trivial⟩ trivial rfl (by decide) (by decide) (ci := 8) (q0 := 0) rfl rfl rfl hl.1 rfl (lv_room (Nat.le_of_ble_eq_true rfl)) dX8_fouled_43 ⟨Nat.zero_le _, Nat.zero_le _⟩ (fun H locs w => ?_)
        refine lv_iload_n C.1 C.2.1 dX8_fouled_46 rfl (lv_at hl 0 rfl) ?_
        refine lv_iand C.1 C.2.1 dX8_fouled_47 ?_
        refine lv_iload_n C.1 C.2.1 dX8_fouled_48 rfl (lv_at hl 2 rfl) ?_
        refine lv_iconst (v := (-1 : Int32)) C.1 C.2.1 dX8_fouled_49 (by decide) ?_
        refine lv_ixor C.1 C.2.1 dX8_fouled_50 ?_
        refine lv_iand C.1 C.2.1 dX8_fouled_51 ?_
        obtain ⟨y8, hy9, hf⟩ := bnd_e hf
        refine lt_topi hy9 ?_
        refine lv_istore (lv' := [(4, .int y8), (3, .int y2), (0, .ref a_this), (2, .int y22_2)]) C.1 C.2.1 dX8_fouled_52 hl (by decide) rfl (fun ls hl => ?_)
        refine lv_goto (tgt := 22) C.1 C.2.1 dX8_fouled_54 (by decide) ?_
        obtain rfl := Option.some.inj hf
        exact ih (y2, y8) _ _ _ hn w (lv_sub hl [2, 3, 1, 0] rfl)
  refine lv_iload_n C.1 C.2.1 dX8_fouled_0 rfl (lv_at hl 1 rfl) ?_
  refine lv_istore_n (lv' := [(3, .int x1), (0, .ref a_this), (1, .int x1), (2, .int x2)]) C.1 C.2.1 dX8_fouled_1 rfl hl (by decide) rfl (fun ls hl => ?_)
  refine lv_aload_n C.1 C.2.1 dX8_fouled_2 rfl (lv_at hl 1 rfl) ?_
  refine lv_aload_n C.1 C.2.1 dX8_fouled_3 rfl (lv_at hl 1 rfl) ?_
  obtain ⟨r10, hc11, hf⟩ := bd hf
  refine call_Vi (ws' := (wX8_fouled cI cL cS cH a_this a_this_st a_this_past a_this_image a_this_imagePast a_this_tape a_this_laneOf a_this_sizeOf a_this_items a_this_code a_this_from a_this_by a_this_far a_this_met a_this_told q_acts q_imageActs q_tapeMany q_many q_round q_readAt q_isFault q_toldMany q_st)) (rest := [.ref a_this]) C w (mX8_all l D cI cL cS cH _ a_this a_this_st a_this_past a_this_image a_this_imagePast a_this_tape a_this_laneOf a_this_sizeOf a_this_items a_this_code a_this_from a_this_by a_this_far a_this_met a_this_told q_acts q_imageActs q_tapeMany q_many q_round q_readAt q_isFault q_toldMany q_st hc11) (cwV 0 C.2.2.2.2 gX8_fouled_X8_all rfl rfl rfl (by decide +kernel) ⟨Nat.le_of_ble_eq_true rfl, Nat.le_of_ble_eq_true rfl⟩) [0, 1] [] 2 ⟨rfl, rfl, trivial⟩ ⟨rfl, rfl, trivial⟩ trivial rfl (by decide) (by decide) (ci := 8) (q0 := 0) rfl rfl rfl hl.1 rfl (lv_room (Nat.le_of_ble_eq_true rfl)) dX8_fouled_4 ⟨Nat.zero_le _, Nat.zero_le _⟩ (fun H locs w => ?_)
  refine lv_iload_n C.1 C.2.1 dX8_fouled_7 rfl (lv_at hl 0 rfl) ?_
  refine lv_iconst (v := (-1 : Int32)) C.1 C.2.1 dX8_fouled_8 (by decide) ?_
  refine lv_ixor C.1 C.2.1 dX8_fouled_9 ?_
  refine lv_iand C.1 C.2.1 dX8_fouled_10 ?_
  obtain ⟨r12, hc13, hf⟩ := bd hf
  refine call_Vi (ws' := (wX8_fouled cI cL cS cH a_this a_this_st a_this_past a_this_image a_this_imagePast a_this_tape a_this_laneOf a_this_sizeOf a_this_items a_this_code a_this_from a_this_by a_this_far a_this_met a_this_told q_acts q_imageActs q_tapeMany q_many q_round q_readAt q_isFault q_toldMany q_st)) (rest := []) C w (mX8_linksOf l D cI cL cS cH _ a_this a_this_st a_this_past a_this_image a_this_imagePast a_this_tape a_this_laneOf a_this_sizeOf a_this_items a_this_code a_this_from a_this_by a_this_far a_this_met a_this_told q_acts q_imageActs q_tapeMany q_many q_round q_readAt q_isFault q_toldMany q_st (r10 &&& (x1 ^^^ (-1 : Int32))) hc13) (cwV 1 C.2.2.2.2 gX8_fouled_X8_linksOf rfl rfl rfl (by decide +kernel) ⟨Nat.le_of_ble_eq_true rfl, Nat.le_of_ble_eq_true rfl⟩) [0, 1] [] 2 ⟨rfl, rfl, trivial⟩ ⟨rfl, rfl, trivial⟩ trivial rfl (by decide) (by decide) (ci := 8) (q0 := 0) rfl rfl rfl hl.1 rfl (lv_room (Nat.le_of_ble_eq_true rfl)) dX8_fouled_11 ⟨Nat.zero_le _, Nat.zero_le _⟩ (fun H locs w => ?_)
  refine lv_iload_n C.1 C.2.1 dX8_fouled_14 rfl (lv_at hl 0 rfl) ?_
  refine lv_iand C.1 C.2.1 dX8_fouled_15 ?_
  refine lv_iload_n C.1 C.2.1 dX8_fouled_16 rfl (lv_at hl 3 rfl) ?_
  refine lv_iconst (v := (-1 : Int32)) C.1 C.2.1 dX8_fouled_17 (by decide) ?_
  refine lv_ixor C.1 C.2.1 dX8_fouled_18 ?_
  refine lv_iand C.1 C.2.1 dX8_fouled_19 ?_
  obtain ⟨y14, hy15, hf⟩ := bnd_e hf
  refine lt_topi hy15 ?_
  refine lv_istore (lv' := [(4, .int y14), (3, .int x1), (0, .ref a_this), (1, .int x1), (2, .int x2)]) C.1 C.2.1 dX8_fouled_20 hl (by decide) rfl (fun ls hl => ?_)
  obtain ⟨ex16, hx17, hf⟩ := bd hf
  refine hlp22 x2 ex16 ?_ fu (x1, y14) _ _ _ hx17 w (lv_sub hl [2, 4, 1, 0] rfl)
  intro H locs ls w hl
  refine lv_iload_n C.1 C.2.1 dX8_fouled_57 rfl (lv_at hl 0 rfl) ?_
  have hres := Option.some.inj hf
  subst hres
  exact ret_i C hr hlocks w rfl dX8_fouled_58

set_option maxRecDepth 100000 in
theorem inX8_fouls_X8 : ∀ w ∈ u_ws RX8 TX8 22, w ∈ wsX8_fouls := by decide +kernel
set_option maxRecDepth 100000 in
theorem lkX8_fouls_7 : Cond.fieldLink RX8 7 "CleanNetsModel" "st" "[I" ∈ wsX8_fouls := by decide +kernel
abbrev wX8_fouls (cI cL cS cH : ClassId) (a_this : Nat) (a_this_st : Nat) (a_this_past : Nat) (a_this_image : Nat) (a_this_imagePast : Nat) (a_this_tape : Nat) (a_this_laneOf : Nat) (a_this_sizeOf : Nat) (a_this_items : Nat) (a_this_code : Nat) (a_this_from : Nat) (a_this_by : Nat) (a_this_far : Nat) (a_this_met : Nat) (a_this_told : Nat) (q_acts : Int32) (q_imageActs : Int32) (q_tapeMany : Int32) (q_many : Int32) (q_round : Int32) (q_readAt : Int32) (q_isFault : Int32) (q_toldMany : Int32) (q_st : Nat → Int32) : va_W := [(a_this, .inr (8, [.ref a_this_st, .ref a_this_past, .int q_acts, .ref a_this_image, .ref a_this_imagePast, .int q_imageActs, .ref a_this_tape, .int q_tapeMany, .ref a_this_laneOf, .ref a_this_sizeOf, .ref a_this_items, .ref a_this_code, .ref a_this_from, .ref a_this_by, .ref a_this_far, .int q_many, .ref a_this_met, .int q_round, .int q_readAt, .int q_isFault, .int q_toldMany, .ref a_this_told])),
  (a_this_st, .inl (cI, 13, .inl q_st))]
def fX8_fouls (q_st : Nat → Int32)  : Option (Nat → Int32) := Option.bind (rd q_st 13 (8 : Int32)) (fun y1 => Option.bind (rd q_st 13 (9 : Int32)) (fun y3 => Option.bind (fX8_fouled q_st y1 y3) (fun r5 => Option.bind (wi q_st 13 (8 : Int32) r5) (fun g7 => some g7))))
set_option maxHeartbeats 4000000 in
set_option maxRecDepth 100000 in
theorem mX8_fouls (l : Launch) (D : vg) (cI cL cS cH : ClassId) (sz : Nat) (a_this : Nat) (a_this_st : Nat) (a_this_past : Nat) (a_this_image : Nat) (a_this_imagePast : Nat) (a_this_tape : Nat) (a_this_laneOf : Nat) (a_this_sizeOf : Nat) (a_this_items : Nat) (a_this_code : Nat) (a_this_from : Nat) (a_this_by : Nat) (a_this_far : Nat) (a_this_met : Nat) (a_this_told : Nat) (q_acts : Int32) (q_imageActs : Int32) (q_tapeMany : Int32) (q_many : Int32) (q_round : Int32) (q_readAt : Int32) (q_isFault : Int32) (q_toldMany : Int32) (q_st : Nat → Int32) {res : Nat → Int32} (hf : fX8_fouls q_st = some res) : ctv l yX8_fouls wsX8_fouls ({ frames := 3, cells := 0, slots := 0, locals := 68 }) D (ty4 cI cL cS cH) sz [.ref a_this] (wX8_fouls cI cL cS cH a_this a_this_st a_this_past a_this_image a_this_imagePast a_this_tape a_this_laneOf a_this_sizeOf a_this_items a_this_code a_this_from a_this_by a_this_far a_this_met a_this_told q_acts q_imageActs q_tapeMany q_many q_round q_readAt q_isFault q_toldMany q_st) (wX8_fouls cI cL cS cH a_this a_this_st a_this_past a_this_image a_this_imagePast a_this_tape a_this_laneOf a_this_sizeOf a_this_items a_this_code a_this_from a_this_by a_this_far a_this_met a_this_told q_acts q_imageActs q_tapeMany q_many q_round q_readAt q_isFault q_toldMany res) := by
  refine Met.ofW (cc := cX8_fouls) (maxL := 1) (ret := none) (by decide) rfl ?_
  intro p e s m args below meth c s₁ B hml hv
  obtain ⟨rfl, hpre⟩ := hv
  obtain rfl := hpre.1
  have C : CallFix p m c cX8_fouls 1 s _ wsX8_fouls RX8 := ⟨B.exec, B.bytes, hml, findClass_of_methodNamed B.named, atoms_spec (ws := wsX8_fouls) B.pre⟩
  have hr := B.returns
  have hlocks := B.notSynchronized
  have w := wd_start hpre
  clear hpre B
  have hl := lv_entry ([.ref a_this]) (n := 1) (Nat.le_of_ble_eq_true rfl)
  rw [lg_entry_eq]
  generalize (lg_sl ([.ref a_this]) ++ List.replicate (1 - (lg_sl ([.ref a_this])).length) Slot.unset).toArray = ls at hl ⊢
  have hl : lv_has ls 1 [(0, .ref a_this)] := hl
  unfold fX8_fouls at hf
  refine lv_aload_n C.1 C.2.1 dX8_fouls_0 rfl (lv_at hl 0 rfl) ?_
  refine r_get C w inX8_fouls_X8 0 rfl rfl 0 (by decide) lkX8_fouls_7 rfl dX8_fouls_1 ?_
  refine lv_bipush (v := (8 : Int32)) C.1 C.2.1 dX8_fouls_4 (by decide) ?_
  refine lv_aload_n C.1 C.2.1 dX8_fouls_6 rfl (lv_at hl 0 rfl) ?_
  refine lv_aload_n C.1 C.2.1 dX8_fouls_7 rfl (lv_at hl 0 rfl) ?_
  refine r_get C w inX8_fouls_X8 0 rfl rfl 0 (by decide) lkX8_fouls_7 rfl dX8_fouls_8 ?_
  refine lv_bipush (v := (8 : Int32)) C.1 C.2.1 dX8_fouls_11 (by decide) ?_
  obtain ⟨y1, hy2, hf⟩ := bd hf
  refine r_iald C w 1 0 rfl rfl (rd_in hy2) dX8_fouls_13 ?_
  refine lv_aload_n C.1 C.2.1 dX8_fouls_14 rfl (lv_at hl 0 rfl) ?_
  refine r_get C w inX8_fouls_X8 0 rfl rfl 0 (by decide) lkX8_fouls_7 rfl dX8_fouls_15 ?_
  refine lv_bipush (v := (9 : Int32)) C.1 C.2.1 dX8_fouls_18 (by decide) ?_
  obtain ⟨y3, hy4, hf⟩ := bd hf
  refine r_iald C w 1 0 rfl rfl (rd_in hy4) dX8_fouls_20 ?_
  obtain ⟨r5, hc6, hf⟩ := bd hf
  refine call_Vi (ws' := (wX8_fouls cI cL cS cH a_this a_this_st a_this_past a_this_image a_this_imagePast a_this_tape a_this_laneOf a_this_sizeOf a_this_items a_this_code a_this_from a_this_by a_this_far a_this_met a_this_told q_acts q_imageActs q_tapeMany q_many q_round q_readAt q_isFault q_toldMany q_st)) (rest := [.int (8 : Int32), .ref a_this_st]) C w (mX8_fouled l D cI cL cS cH _ a_this a_this_st a_this_past a_this_image a_this_imagePast a_this_tape a_this_laneOf a_this_sizeOf a_this_items a_this_code a_this_from a_this_by a_this_far a_this_met a_this_told q_acts q_imageActs q_tapeMany q_many q_round q_readAt q_isFault q_toldMany q_st y1 y3 hc6) (cwV 2 C.2.2.2.2 gX8_fouls_X8_fouled rfl rfl rfl (by decide +kernel) ⟨Nat.le_of_ble_eq_true rfl, Nat.le_of_ble_eq_true rfl⟩) [0, 1] [] 2 ⟨rfl, rfl, trivial⟩ ⟨rfl, rfl, trivial⟩ trivial rfl (by decide) (by decide) (ci := 8) (q0 := 0) rfl rfl rfl hl.1 rfl (lv_room (Nat.le_of_ble_eq_true rfl)) dX8_fouls_21 ⟨Nat.zero_le _, Nat.zero_le _⟩ (fun H locs w => ?_)
  obtain ⟨g7, hg8, hf⟩ := bd hf
  refine r_iast (ws' := (wX8_fouls cI cL cS cH a_this a_this_st a_this_past a_this_image a_this_imagePast a_this_tape a_this_laneOf a_this_sizeOf a_this_items a_this_code a_this_from a_this_by a_this_far a_this_met a_this_told q_acts q_imageActs q_tapeMany q_many q_round q_readAt q_isFault q_toldMany g7)) C w 1 0 rfl rfl (wi_in hg8) rfl dX8_fouls_24 (fun H locs w => ?_)
  have hres := Option.some.inj hf
  subst hres
  exact ret_v C hr hlocks w dX8_fouls_25

set_option maxRecDepth 100000 in
theorem inX8_linkMany_X8 : ∀ w ∈ u_ws RX8 TX8 22, w ∈ wsX8_linkMany := by decide +kernel
set_option maxRecDepth 100000 in
theorem lkX8_linkMany_7 : Cond.fieldLink RX8 7 "CleanNetsModel" "st" "[I" ∈ wsX8_linkMany := by decide +kernel
abbrev wX8_linkMany (cI cL cS cH : ClassId) (a_this : Nat) (a_this_st : Nat) (a_this_past : Nat) (a_this_image : Nat) (a_this_imagePast : Nat) (a_this_tape : Nat) (a_this_laneOf : Nat) (a_this_sizeOf : Nat) (a_this_items : Nat) (a_this_code : Nat) (a_this_from : Nat) (a_this_by : Nat) (a_this_far : Nat) (a_this_met : Nat) (a_this_told : Nat) (q_acts : Int32) (q_imageActs : Int32) (q_tapeMany : Int32) (q_many : Int32) (q_round : Int32) (q_readAt : Int32) (q_isFault : Int32) (q_toldMany : Int32) (q_st : Nat → Int32) : va_W := [(a_this, .inr (8, [.ref a_this_st, .ref a_this_past, .int q_acts, .ref a_this_image, .ref a_this_imagePast, .int q_imageActs, .ref a_this_tape, .int q_tapeMany, .ref a_this_laneOf, .ref a_this_sizeOf, .ref a_this_items, .ref a_this_code, .ref a_this_from, .ref a_this_by, .ref a_this_far, .int q_many, .ref a_this_met, .int q_round, .int q_readAt, .int q_isFault, .int q_toldMany, .ref a_this_told])),
  (a_this_st, .inl (cI, 13, .inl q_st))]
def bX8_linkMany_4 (q_st : Nat → Int32)  (v4 : Int32 × Int32) : Option ((Int32 × Int32) ⊕ (Int32 × Int32)) := Option.bind (rd q_st 13 (0 : Int32)) (fun y1 => (if y1 ≤ v4.2 then some (.inr (v4.1, v4.2)) else Option.bind (rd q_st 13 ((1 : Int32) + v4.2)) (fun y4 => Option.bind (fX8_sizeIn y4) (fun r6 => some (.inl ((v4.1 + r6), (v4.2 + (1 : Int32))))))))
def fX8_linkMany (q_st : Nat → Int32)  : Option (Int32) := Option.bind (itL (bX8_linkMany_4 q_st) fu ((0 : Int32), (0 : Int32))) (fun ex8 => some (ex8.1 / (2 : Int32)))
abbrev gX8_linkMany (p : Program) (l : Launch) (e : Env) (s : State) (m : MethodId) (below : List Frame) (meth : Method) (c : Code) (D : vg) (cI cL cS cH : ClassId) (a_this : Nat) (a_this_st : Nat) (a_this_past : Nat) (a_this_image : Nat) (a_this_imagePast : Nat) (a_this_tape : Nat) (a_this_laneOf : Nat) (a_this_sizeOf : Nat) (a_this_items : Nat) (a_this_code : Nat) (a_this_from : Nat) (a_this_by : Nat) (a_this_far : Nat) (a_this_met : Nat) (a_this_told : Nat) (q_acts : Int32) (q_imageActs : Int32) (q_tapeMany : Int32) (q_many : Int32) (q_round : Int32) (q_readAt : Int32) (q_isFault : Int32) (q_toldMany : Int32) (q_st : Nat → Int32) (res : Int32) (H : Heap) (locs : List Loc) (g : JFrame) : Prop := W p l e (headSpec wsX8_linkMany ({ frames := 2, cells := 0, slots := 0, locals := 43 })).room s m ([.ref a_this] : List Value).toArray below meth c H locs 0 0 (MQ below (va_Qi (fun r' (_ : Unit) => r' = res) (fun _ t => pos1 D s.heap.size (wX8_linkMany cI cL cS cH a_this a_this_st a_this_past a_this_image a_this_imagePast a_this_tape a_this_laneOf a_this_sizeOf a_this_items a_this_code a_this_from a_this_by a_this_far a_this_met a_this_told q_acts q_imageActs q_tapeMany q_many q_round q_readAt q_isFault q_toldMany q_st) (wX8_linkMany cI cL cS cH a_this a_this_st a_this_past a_this_image a_this_imagePast a_this_tape a_this_laneOf a_this_sizeOf a_this_items a_this_code a_this_from a_this_by a_this_far a_this_met a_this_told q_acts q_imageActs q_tapeMany q_many q_round q_readAt q_isFault q_toldMany q_st) t) (va_A (wX8_linkMany cI cL cS cH a_this a_this_st a_this_past a_this_image a_this_imagePast a_this_tape a_this_laneOf a_this_sizeOf a_this_items a_this_code a_this_from a_this_by a_this_far a_this_met a_this_told q_acts q_imageActs q_tapeMany q_many q_round q_readAt q_isFault q_toldMany q_st) s.heap.size)) ([.ref a_this] : List Value).toArray s 0 0 (va_A (wX8_linkMany cI cL cS cH a_this a_this_st a_this_past a_this_image a_this_imagePast a_this_tape a_this_laneOf a_this_sizeOf a_this_items a_this_code a_this_from a_this_by a_this_far a_this_met a_this_told q_acts q_imageActs q_tapeMany q_many q_round q_readAt q_isFault q_toldMany q_st) s.heap.size)) g
set_option maxHeartbeats 4000000 in
set_option maxRecDepth 100000 in
theorem mX8_linkMany (l : Launch) (D : vg) (cI cL cS cH : ClassId) (sz : Nat) (a_this : Nat) (a_this_st : Nat) (a_this_past : Nat) (a_this_image : Nat) (a_this_imagePast : Nat) (a_this_tape : Nat) (a_this_laneOf : Nat) (a_this_sizeOf : Nat) (a_this_items : Nat) (a_this_code : Nat) (a_this_from : Nat) (a_this_by : Nat) (a_this_far : Nat) (a_this_met : Nat) (a_this_told : Nat) (q_acts : Int32) (q_imageActs : Int32) (q_tapeMany : Int32) (q_many : Int32) (q_round : Int32) (q_readAt : Int32) (q_isFault : Int32) (q_toldMany : Int32) (q_st : Nat → Int32) {res : Int32} (hf : fX8_linkMany q_st = some res) : cti l yX8_linkMany wsX8_linkMany ({ frames := 2, cells := 0, slots := 0, locals := 43 }) D (ty4 cI cL cS cH) sz [.ref a_this] (wX8_linkMany cI cL cS cH a_this a_this_st a_this_past a_this_image a_this_imagePast a_this_tape a_this_laneOf a_this_sizeOf a_this_items a_this_code a_this_from a_this_by a_this_far a_this_met a_this_told q_acts q_imageActs q_tapeMany q_many q_round q_readAt q_isFault q_toldMany q_st) (wX8_linkMany cI cL cS cH a_this a_this_st a_this_past a_this_image a_this_imagePast a_this_tape a_this_laneOf a_this_sizeOf a_this_items a_this_code a_this_from a_this_by a_this_far a_this_met a_this_told q_acts q_imageActs q_tapeMany q_many q_round q_readAt q_isFault q_toldMany q_st) res := by
  refine Met.ofW (cc := cX8_linkMany) (maxL := 3) (ret := (some .int)) (by decide) rfl ?_
  intro p e s m args below meth c s₁ B hml hv
  obtain ⟨rfl, hpre⟩ := hv
  obtain rfl := hpre.1
  have C : CallFix p m c cX8_linkMany 3 s _ wsX8_linkMany RX8 := ⟨B.exec, B.bytes, hml, findClass_of_methodNamed B.named, atoms_spec (ws := wsX8_linkMany) B.pre⟩
  have hr := B.returns
  have hlocks := B.notSynchronized
  have w := wd_start hpre
  clear hpre B
  have hl := lv_entry ([.ref a_this]) (n := 3) (Nat.le_of_ble_eq_true rfl)
  rw [lg_entry_eq]
  generalize (lg_sl ([.ref a_this]) ++ List.replicate (3 - (lg_sl ([.ref a_this])).length) Slot.unset).toArray = ls at hl ⊢
  have hl : lv_has ls 3 [(0, .ref a_this)] := hl
  unfold fX8_linkMany at hf
  have hlp4 : ∀  (ex4 : Int32 × Int32) (hk : (∀ (H : Heap) (locs : List Loc) (ls : Array Slot), wd D (ty4 cI cL cS cH) s (va_A (wX8_linkMany cI cL cS cH a_this a_this_st a_this_past a_this_image a_this_imagePast a_this_tape a_this_laneOf a_this_sizeOf a_this_items a_this_code a_this_from a_this_by a_this_far a_this_met a_this_told q_acts q_imageActs q_tapeMany q_many q_round q_readAt q_isFault q_toldMany q_st) s.heap.size) s.heap H locs (wX8_linkMany cI cL cS cH a_this a_this_st a_this_past a_this_image a_this_imagePast a_this_tape a_this_laneOf a_this_sizeOf a_this_items a_this_code a_this_from a_this_by a_this_far a_this_met a_this_told q_acts q_imageActs q_tapeMany q_many q_round q_readAt q_isFault q_toldMany q_st) → lv_has ls 3 [(1, .int ex4.1)] → gX8_linkMany p l e s m below meth c D cI cL cS cH a_this a_this_st a_this_past a_this_image a_this_imagePast a_this_tape a_this_laneOf a_this_sizeOf a_this_items a_this_code a_this_from a_this_by a_this_far a_this_met a_this_told q_acts q_imageActs q_tapeMany q_many q_round q_readAt q_isFault q_toldMany q_st res H locs (F0 m 34 ls []))) (n : Nat) (v4 : Int32 × Int32) (H : Heap) (locs : List Loc) (ls : Array Slot), itL (bX8_linkMany_4 q_st) n v4 = some ex4 → wd D (ty4 cI cL cS cH) s (va_A (wX8_linkMany cI cL cS cH a_this a_this_st a_this_past a_this_image a_this_imagePast a_this_tape a_this_laneOf a_this_sizeOf a_this_items a_this_code a_this_from a_this_by a_this_far a_this_met a_this_told q_acts q_imageActs q_tapeMany q_many q_round q_readAt q_isFault q_toldMany q_st) s.heap.size) s.heap H locs (wX8_linkMany cI cL cS cH a_this a_this_st a_this_past a_this_image a_this_imagePast a_this_tape a_this_laneOf a_this_sizeOf a_this_items a_this_code a_this_from a_this_by a_this_far a_this_met a_this_told q_acts q_imageActs q_tapeMany q_many q_round q_readAt q_isFault q_toldMany q_st) → lv_has ls 3 [(0, .ref a_this), (1, .int v4.1), (2, .int v4.2)] → gX8_linkMany p l e s m below meth c D cI cL cS cH a_this a_this_st a_this_past a_this_image a_this_imagePast a_this_tape a_this_laneOf a_this_sizeOf a_this_items a_this_code a_this_from a_this_by a_this_far a_this_met a_this_told q_acts q_imageActs q_tapeMany q_many q_round q_readAt q_isFault q_toldMany q_st res H locs (F0 m 4 ls []) := by
    intro  ex4 hk n
    induction n with
    | zero => intro v4 H locs ls hi w hl; exact (itL_zero hi).elim
    | succ n ih =>
      intro v4 H locs ls hi w hl
      obtain ⟨o, hf, hn⟩ := itL_succ hi
      unfold bX8_linkMany_4 at hf
      refine lv_iload_n C.1 C.2.1 dX8_linkMany_4 rfl (lv_at hl 2 rfl) ?_
      refine lv_aload_n C.1 C.2.1 dX8_linkMany_5 rfl (lv_at hl 0 rfl) ?_
      refine r_get C w inX8_linkMany_X8 0 rfl rfl 0 (by decide) lkX8_linkMany_7 rfl dX8_linkMany_6 ?_
      refine lv_iconst (v := (0 : Int32)) C.1 C.2.1 dX8_linkMany_9 (by decide) ?_
      obtain ⟨y1, hy2, hf⟩ := bd hf
      refine r_iald C w 1 0 rfl rfl (rd_in hy2) dX8_linkMany_10 ?_
      refine lv_icmp_ge (tgt := 34) C.1 C.2.1 dX8_linkMany_11 (by decide) (fun hq3 => ?_) (fun hq3 => ?_)
      · have hf := ite_t hf hq3
        obtain rfl := Option.some.inj hf
        obtain rfl := hn
        exact hk _ _ _ w (lv_sub hl [1] rfl)
      · have hf := ite_f hf hq3
        refine lv_iload_n C.1 C.2.1 dX8_linkMany_14 rfl (lv_at hl 1 rfl) ?_
        refine lv_aload_n C.1 C.2.1 dX8_linkMany_15 rfl (lv_at hl 0 rfl) ?_
        refine r_get C w inX8_linkMany_X8 0 rfl rfl 0 (by decide) lkX8_linkMany_7 rfl dX8_linkMany_16 ?_
        refine lv_iconst (v := (1 : Int32)) C.1 C.2.1 dX8_linkMany_19 (by decide) ?_
        refine lv_iload_n C.1 C.2.1 dX8_linkMany_20 rfl (lv_at hl 2 rfl) ?_
        refine lv_iadd C.1 C.2.1 dX8_linkMany_21 ?_
        obtain ⟨y4, hy5, hf⟩ := bd hf
        refine r_iald C w 1 0 rfl rfl (rd_in hy5) dX8_linkMany_22 ?_
        obtain ⟨r6, hc7, hf⟩ := bd hf
        refine call_Si (ws' := (wX8_linkMany cI cL cS cH a_this a_this_st a_this_past a_this_image a_this_imagePast a_this_tape a_this_laneOf a_this_sizeOf a_this_items a_this_code a_this_from a_this_by a_this_far a_this_met a_this_told q_acts q_imageActs q_tapeMany q_many q_round q_readAt q_isFault q_toldMany q_st)) (rest := [.int v4.1]) C w (mX8_sizeIn l D cI cL cS cH _ y4 hc7) (va_cwS 1 C.2.2.2.2 gX8_linkMany_X8_sizeIn rfl rfl rfl (by decide +kernel) ⟨Nat.le_of_ble_eq_true rfl, Nat.le_of_ble_eq_true rfl⟩) [] [0, 1] 2 trivial trivial ⟨⟨_, rfl, rfl⟩, ⟨_, rfl, rfl⟩, trivial⟩ rfl (by decide) (by decide) rfl hl.1 rfl (lv_room (Nat.le_of_ble_eq_true rfl)) dX8_linkMany_23 ⟨Nat.zero_le _, Nat.zero_le _⟩ (fun H locs w => ?_)
        refine lv_iadd C.1 C.2.1 dX8_linkMany_26 ?_
        refine lv_istore_n (lv' := [(1, .int (v4.1 + r6)), (0, .ref a_this), (2, .int v4.2)]) C.1 C.2.1 dX8_linkMany_27 rfl hl (by decide) rfl (fun ls hl => ?_)
        refine lv_iinc (v := (v4.2 + (1 : Int32))) (lv' := [(2, .int (v4.2 + (1 : Int32))), (1, .int (v4.1 + r6)), (0, .ref a_this)]) C.1 C.2.1 dX8_linkMany_28 hl (k := 2) rfl rfl (by decide) rfl (fun ls hl => ?_)
        refine lv_goto (tgt := 4) C.1 C.2.1 dX8_linkMany_31 (by decide) ?_
        obtain rfl := Option.some.inj hf
        exact ih ((v4.1 + r6), (v4.2 + (1 : Int32))) _ _ _ hn w (lv_sub hl [2, 1, 0] rfl)
  refine lv_iconst (v := (0 : Int32)) C.1 C.2.1 dX8_linkMany_0 (by decide) ?_
  refine lv_istore_n (lv' := [(1, .int (0 : Int32)), (0, .ref a_this)]) C.1 C.2.1 dX8_linkMany_1 rfl hl (by decide) rfl (fun ls hl => ?_)
  refine lv_iconst (v := (0 : Int32)) C.1 C.2.1 dX8_linkMany_2 (by decide) ?_
  refine lv_istore_n (lv' := [(2, .int (0 : Int32)), (1, .int (0 : Int32)), (0, .ref a_this)]) C.1 C.2.1 dX8_linkMany_3 rfl hl (by decide) rfl (fun ls hl => ?_)
  obtain ⟨ex8, hx9, hf⟩ := bd hf
  refine hlp4  ex8 ?_ fu ((0 : Int32), (0 : Int32)) _ _ _ hx9 w (lv_sub hl [2, 1, 0] rfl)
  intro H locs ls w hl
  refine lv_iload_n C.1 C.2.1 dX8_linkMany_34 rfl (lv_at hl 0 rfl) ?_
  refine lv_iconst (v := (2 : Int32)) C.1 C.2.1 dX8_linkMany_35 (by decide) ?_
  refine lv_idiv C.1 C.2.1 dX8_linkMany_36 (by decide) ?_
  have hres := Option.some.inj hf
  subst hres
  exact ret_i C hr hlocks w rfl dX8_linkMany_37

abbrev wX8_around (cI cL cS cH : ClassId) (a_this : Nat) (a_this_st : Nat) (a_this_past : Nat) (a_this_image : Nat) (a_this_imagePast : Nat) (a_this_tape : Nat) (a_this_laneOf : Nat) (a_this_sizeOf : Nat) (a_this_items : Nat) (a_this_code : Nat) (a_this_from : Nat) (a_this_by : Nat) (a_this_far : Nat) (a_this_met : Nat) (a_this_told : Nat) (q_acts : Int32) (q_imageActs : Int32) (q_tapeMany : Int32) (q_many : Int32) (q_round : Int32) (q_readAt : Int32) (q_isFault : Int32) (q_toldMany : Int32) (q_st : Nat → Int32) : va_W := [(a_this, .inr (8, [.ref a_this_st, .ref a_this_past, .int q_acts, .ref a_this_image, .ref a_this_imagePast, .int q_imageActs, .ref a_this_tape, .int q_tapeMany, .ref a_this_laneOf, .ref a_this_sizeOf, .ref a_this_items, .ref a_this_code, .ref a_this_from, .ref a_this_by, .ref a_this_far, .int q_many, .ref a_this_met, .int q_round, .int q_readAt, .int q_isFault, .int q_toldMany, .ref a_this_told])),
  (a_this_st, .inl (cI, 13, .inl q_st))]
def bX8_around_6 (q_st : Nat → Int32)  (v6 : Int32 × Int32) : Option ((Int32 × Int32) ⊕ (Int32 × Int32)) := (if (7 : Int32) ≤ v6.2 then some (.inr (v6.1, v6.2)) else Option.bind (fX8_linksOf q_st v6.1) (fun r2 => some (.inl ((v6.1 ||| r2), (v6.2 + (1 : Int32))))))
def fX8_around (q_st : Nat → Int32) (x1 : Int32) : Option (Int32) := bnd ((1 : Int32) <<< (x1 &&& 31)) (fun y4 => Option.bind (itL (bX8_around_6 q_st) fu (y4, (0 : Int32))) (fun ex6 => some ex6.1))
abbrev gX8_around (p : Program) (l : Launch) (e : Env) (s : State) (m : MethodId) (below : List Frame) (meth : Method) (c : Code) (D : vg) (cI cL cS cH : ClassId) (a_this : Nat) (a_this_st : Nat) (a_this_past : Nat) (a_this_image : Nat) (a_this_imagePast : Nat) (a_this_tape : Nat) (a_this_laneOf : Nat) (a_this_sizeOf : Nat) (a_this_items : Nat) (a_this_code : Nat) (a_this_from : Nat) (a_this_by : Nat) (a_this_far : Nat) (a_this_met : Nat) (a_this_told : Nat) (q_acts : Int32) (q_imageActs : Int32) (q_tapeMany : Int32) (q_many : Int32) (q_round : Int32) (q_readAt : Int32) (q_isFault : Int32) (q_toldMany : Int32) (q_st : Nat → Int32) (x1 : Int32) (res : Int32) (H : Heap) (locs : List Loc) (g : JFrame) : Prop := W p l e (headSpec wsX8_around ({ frames := 2, cells := 0, slots := 0, locals := 44 })).room s m ([.ref a_this, .int x1] : List Value).toArray below meth c H locs 0 0 (MQ below (va_Qi (fun r' (_ : Unit) => r' = res) (fun _ t => pos1 D s.heap.size (wX8_around cI cL cS cH a_this a_this_st a_this_past a_this_image a_this_imagePast a_this_tape a_this_laneOf a_this_sizeOf a_this_items a_this_code a_this_from a_this_by a_this_far a_this_met a_this_told q_acts q_imageActs q_tapeMany q_many q_round q_readAt q_isFault q_toldMany q_st) (wX8_around cI cL cS cH a_this a_this_st a_this_past a_this_image a_this_imagePast a_this_tape a_this_laneOf a_this_sizeOf a_this_items a_this_code a_this_from a_this_by a_this_far a_this_met a_this_told q_acts q_imageActs q_tapeMany q_many q_round q_readAt q_isFault q_toldMany q_st) t) (va_A (wX8_around cI cL cS cH a_this a_this_st a_this_past a_this_image a_this_imagePast a_this_tape a_this_laneOf a_this_sizeOf a_this_items a_this_code a_this_from a_this_by a_this_far a_this_met a_this_told q_acts q_imageActs q_tapeMany q_many q_round q_readAt q_isFault q_toldMany q_st) s.heap.size)) ([.ref a_this, .int x1] : List Value).toArray s 0 0 (va_A (wX8_around cI cL cS cH a_this a_this_st a_this_past a_this_image a_this_imagePast a_this_tape a_this_laneOf a_this_sizeOf a_this_items a_this_code a_this_from a_this_by a_this_far a_this_met a_this_told q_acts q_imageActs q_tapeMany q_many q_round q_readAt q_isFault q_toldMany q_st) s.heap.size)) g
set_option maxHeartbeats 4000000 in
set_option maxRecDepth 100000 in
theorem mX8_around (l : Launch) (D : vg) (cI cL cS cH : ClassId) (sz : Nat) (a_this : Nat) (a_this_st : Nat) (a_this_past : Nat) (a_this_image : Nat) (a_this_imagePast : Nat) (a_this_tape : Nat) (a_this_laneOf : Nat) (a_this_sizeOf : Nat) (a_this_items : Nat) (a_this_code : Nat) (a_this_from : Nat) (a_this_by : Nat) (a_this_far : Nat) (a_this_met : Nat) (a_this_told : Nat) (q_acts : Int32) (q_imageActs : Int32) (q_tapeMany : Int32) (q_many : Int32) (q_round : Int32) (q_readAt : Int32) (q_isFault : Int32) (q_toldMany : Int32) (q_st : Nat → Int32) (x1 : Int32) {res : Int32} (hf : fX8_around q_st x1 = some res) : cti l yX8_around wsX8_around ({ frames := 2, cells := 0, slots := 0, locals := 44 }) D (ty4 cI cL cS cH) sz [.ref a_this, .int x1] (wX8_around cI cL cS cH a_this a_this_st a_this_past a_this_image a_this_imagePast a_this_tape a_this_laneOf a_this_sizeOf a_this_items a_this_code a_this_from a_this_by a_this_far a_this_met a_this_told q_acts q_imageActs q_tapeMany q_many q_round q_readAt q_isFault q_toldMany q_st) (wX8_around cI cL cS cH a_this a_this_st a_this_past a_this_image a_this_imagePast a_this_tape a_this_laneOf a_this_sizeOf a_this_items a_this_code a_this_from a_this_by a_this_far a_this_met a_this_told q_acts q_imageActs q_tapeMany q_many q_round q_readAt q_isFault q_toldMany q_st) res := by
  refine Met.ofW (cc := cX8_around) (maxL := 4) (ret := (some .int)) (by decide) rfl ?_
  intro p e s m args below meth c s₁ B hml hv
  obtain ⟨rfl, hpre⟩ := hv
  obtain rfl := hpre.1
  have C : CallFix p m c cX8_around 4 s _ wsX8_around RX8 := ⟨B.exec, B.bytes, hml, findClass_of_methodNamed B.named, atoms_spec (ws := wsX8_around) B.pre⟩
  have hr := B.returns
  have hlocks := B.notSynchronized
  have w := wd_start hpre
  clear hpre B
  have hl := lv_entry ([.ref a_this, .int x1]) (n := 4) (Nat.le_of_ble_eq_true rfl)
  rw [lg_entry_eq]
  generalize (lg_sl ([.ref a_this, .int x1]) ++ List.replicate (4 - (lg_sl ([.ref a_this, .int x1])).length) Slot.unset).toArray = ls at hl ⊢
  have hl : lv_has ls 4 [(0, .ref a_this), (1, .int x1)] := hl
  unfold fX8_around at hf
  have hlp6 : ∀  (ex6 : Int32 × Int32) (hk : (∀ (H : Heap) (locs : List Loc) (ls : Array Slot), wd D (ty4 cI cL cS cH) s (va_A (wX8_around cI cL cS cH a_this a_this_st a_this_past a_this_image a_this_imagePast a_this_tape a_this_laneOf a_this_sizeOf a_this_items a_this_code a_this_from a_this_by a_this_far a_this_met a_this_told q_acts q_imageActs q_tapeMany q_many q_round q_readAt q_isFault q_toldMany q_st) s.heap.size) s.heap H locs (wX8_around cI cL cS cH a_this a_this_st a_this_past a_this_image a_this_imagePast a_this_tape a_this_laneOf a_this_sizeOf a_this_items a_this_code a_this_from a_this_by a_this_far a_this_met a_this_told q_acts q_imageActs q_tapeMany q_many q_round q_readAt q_isFault q_toldMany q_st) → lv_has ls 4 [(2, .int ex6.1)] → gX8_around p l e s m below meth c D cI cL cS cH a_this a_this_st a_this_past a_this_image a_this_imagePast a_this_tape a_this_laneOf a_this_sizeOf a_this_items a_this_code a_this_from a_this_by a_this_far a_this_met a_this_told q_acts q_imageActs q_tapeMany q_many q_round q_readAt q_isFault q_toldMany q_st x1 res H locs (F0 m 26 ls []))) (n : Nat) (v6 : Int32 × Int32) (H : Heap) (locs : List Loc) (ls : Array Slot), itL (bX8_around_6 q_st) n v6 = some ex6 → wd D (ty4 cI cL cS cH) s (va_A (wX8_around cI cL cS cH a_this a_this_st a_this_past a_this_image a_this_imagePast a_this_tape a_this_laneOf a_this_sizeOf a_this_items a_this_code a_this_from a_this_by a_this_far a_this_met a_this_told q_acts q_imageActs q_tapeMany q_many q_round q_readAt q_isFault q_toldMany q_st) s.heap.size) s.heap H locs (wX8_around cI cL cS cH a_this a_this_st a_this_past a_this_image a_this_imagePast a_this_tape a_this_laneOf a_this_sizeOf a_this_items a_this_code a_this_from a_this_by a_this_far a_this_met a_this_told q_acts q_imageActs q_tapeMany q_many q_round q_readAt q_isFault q_toldMany q_st) → lv_has ls 4 [(0, .ref a_this), (2, .int v6.1), (3, .int v6.2)] → gX8_around p l e s m below meth c D cI cL cS cH a_this a_this_st a_this_past a_this_image a_this_imagePast a_this_tape a_this_laneOf a_this_sizeOf a_this_items a_this_code a_this_from a_this_by a_this_far a_this_met a_this_told q_acts q_imageActs q_tapeMany q_many q_round q_readAt q_isFault q_toldMany q_st x1 res H locs (F0 m 6 ls []) := by
    intro  ex6 hk n
    induction n with
    | zero => intro v6 H locs ls hi w hl; exact (itL_zero hi).elim
    | succ n ih =>
      intro v6 H locs ls hi w hl
      obtain ⟨o, hf, hn⟩ := itL_succ hi
      unfold bX8_around_6 at hf
      refine lv_iload_n C.1 C.2.1 dX8_around_6 rfl (lv_at hl 2 rfl) ?_
      refine lv_bipush (v := (7 : Int32)) C.1 C.2.1 dX8_around_7 (by decide) ?_
      refine lv_icmp_ge (tgt := 26) C.1 C.2.1 dX8_around_9 (by decide) (fun hq1 => ?_) (fun hq1 => ?_)
      · have hf := ite_t hf hq1
        obtain rfl := Option.some.inj hf
        obtain rfl := hn
        exact hk _ _ _ w (lv_sub hl [1] rfl)
      · have hf := ite_f hf hq1
        refine lv_iload_n C.1 C.2.1 dX8_around_12 rfl (lv_at hl 1 rfl) ?_
        refine lv_aload_n C.1 C.2.1 dX8_around_13 rfl (lv_at hl 0 rfl) ?_
        refine lv_iload_n C.1 C.2.1 dX8_around_14 rfl (lv_at hl 1 rfl) ?_
        obtain ⟨r2, hc3, hf⟩ := bd hf
        refine call_Vi (ws' := (wX8_around cI cL cS cH a_this a_this_st a_this_past a_this_image a_this_imagePast a_this_tape a_this_laneOf a_this_sizeOf a_this_items a_this_code a_this_from a_this_by a_this_far a_this_met a_this_told q_acts q_imageActs q_tapeMany q_many q_round q_readAt q_isFault q_toldMany q_st)) (rest := [.int v6.1]) C w (mX8_linksOf l D cI cL cS cH _ a_this a_this_st a_this_past a_this_image a_this_imagePast a_this_tape a_this_laneOf a_this_sizeOf a_this_items a_this_code a_this_from a_this_by a_this_far a_this_met a_this_told q_acts q_imageActs q_tapeMany q_many q_round q_readAt q_isFault q_toldMany q_st v6.1 hc3) (cwV 1 C.2.2.2.2 gX8_around_X8_linksOf rfl rfl rfl (by decide +kernel) ⟨Nat.le_of_ble_eq_true rfl, Nat.le_of_ble_eq_true rfl⟩) [0, 1] [] 2 ⟨rfl, rfl, trivial⟩ ⟨rfl, rfl, trivial⟩ trivial rfl (by decide) (by decide) (ci := 8) (q0 := 0) rfl rfl rfl hl.1 rfl (lv_room (Nat.le_of_ble_eq_true rfl)) dX8_around_15 ⟨Nat.zero_le _, Nat.zero_le _⟩ (fun H locs w => ?_)
        refine lv_ior C.1 C.2.1 dX8_around_18 ?_
        refine lv_istore_n (lv' := [(2, .int (v6.1 ||| r2)), (0, .ref a_this), (3, .int v6.2)]) C.1 C.2.1 dX8_around_19 rfl hl (by decide) rfl (fun ls hl => ?_)
        refine lv_iinc (v := (v6.2 + (1 : Int32))) (lv' := [(3, .int (v6.2 + (1 : Int32))), (2, .int (v6.1 ||| r2)), (0, .ref a_this)]) C.1 C.2.1 dX8_around_20 hl (k := 2) rfl rfl (by decide) rfl (fun ls hl => ?_)
        refine lv_goto (tgt := 6) C.1 C.2.1 dX8_around_23 (by decide) ?_
        obtain rfl := Option.some.inj hf
        exact ih ((v6.1 ||| r2), (v6.2 + (1 : Int32))) _ _ _ hn w (lv_sub hl [2, 1, 0] rfl)
  refine lv_iconst (v := (1 : Int32)) C.1 C.2.1 dX8_around_0 (by decide) ?_
  refine lv_iload_n C.1 C.2.1 dX8_around_1 rfl (lv_at hl 1 rfl) ?_
  refine lv_ishl C.1 C.2.1 dX8_around_2 ?_
  obtain ⟨y4, hy5, hf⟩ := bnd_e hf
  refine lt_topi hy5 ?_
  refine lv_istore_n (lv' := [(2, .int y4), (0, .ref a_this), (1, .int x1)]) C.1 C.2.1 dX8_around_3 rfl hl (by decide) rfl (fun ls hl => ?_)
  refine lv_iconst (v := (0 : Int32)) C.1 C.2.1 dX8_around_4 (by decide) ?_
  refine lv_istore_n (lv' := [(3, .int (0 : Int32)), (2, .int y4), (0, .ref a_this), (1, .int x1)]) C.1 C.2.1 dX8_around_5 rfl hl (by decide) rfl (fun ls hl => ?_)
  obtain ⟨ex6, hx7, hf⟩ := bd hf
  refine hlp6  ex6 ?_ fu (y4, (0 : Int32)) _ _ _ hx7 w (lv_sub hl [2, 1, 0] rfl)
  intro H locs ls w hl
  refine lv_iload_n C.1 C.2.1 dX8_around_26 rfl (lv_at hl 0 rfl) ?_
  have hres := Option.some.inj hf
  subst hres
  exact ret_i C hr hlocks w rfl dX8_around_27
