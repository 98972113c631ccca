set_option maxRecDepth 100000 in
theorem inX6_takes_X6 : ∀ w ∈ u_ws RX6 TX6 6, w ∈ wsX6_takes := by decide +kernel
set_option maxRecDepth 100000 in
theorem lkX6_takes_9 : Cond.fieldLink RX6 9 "CleanNets$Tape" "length" "I" ∈ wsX6_takes := by decide +kernel
set_option maxRecDepth 100000 in
theorem lkX6_takes_22 : Cond.fieldLink RX6 22 "CleanNets$Tape" "letters" "[I" ∈ wsX6_takes := by decide +kernel
abbrev wX6_takes (cI cL cS cH : ClassId) (a_this : Nat) (a_this_near : Nat) (a_this_letters : Nat) (q_length : Int32) (q_nodes : Int32) (q_at : Int32) (q_fault : Int32) (q_letters : Nat → Int32) : va_W := [(a_this, .inr (6, [.int q_length, .int q_nodes, .ref a_this_near, .ref a_this_letters, .int q_at, .int q_fault])),
  (a_this_letters, .inl (cI, 90, .inl q_letters))]
def fX6_takes (q_length : Int32) (q_letters : Nat → Int32) (x1 : Int32) : Option (Int32 × Int32 × (Nat → Int32)) := (if q_length < (90 : Int32) then Option.bind (wi q_letters 90 q_length x1) (fun g2 => some ((1 : Int32), (q_length + (1 : Int32)), g2)) else some ((0 : Int32), q_length, q_letters))
set_option maxHeartbeats 4000000 in
set_option maxRecDepth 100000 in
theorem mX6_takes (l : Launch) (D : vg) (cI cL cS cH : ClassId) (sz : Nat) (a_this : Nat) (a_this_near : Nat) (a_this_letters : Nat) (q_length : Int32) (q_nodes : Int32) (q_at : Int32) (q_fault : Int32) (q_letters : Nat → Int32) (x1 : Int32) {res : Int32 × Int32 × (Nat → Int32)} (hf : fX6_takes q_length q_letters x1 = some res) : cti l yX6_takes wsX6_takes ({ frames := 0, cells := 0, slots := 0, locals := 0 }) D (ty4 cI cL cS cH) sz [.ref a_this, .int x1] (wX6_takes cI cL cS cH a_this a_this_near a_this_letters q_length q_nodes q_at q_fault q_letters) (wX6_takes cI cL cS cH a_this a_this_near a_this_letters res.2.1 q_nodes q_at q_fault res.2.2) res.1 := by
  refine Met.ofW (cc := cX6_takes) (maxL := 2) (ret := (some .boolean)) (by decide) rfl ?_
  intro p e s m args below meth c s₁ B hml hv
  obtain ⟨rfl, hpre⟩ := hv
  obtain rfl := hpre.1
  have C : CallFix p m c cX6_takes 2 s _ wsX6_takes RX6 := ⟨B.exec, B.bytes, hml, findClass_of_methodNamed B.named, atoms_spec (ws := wsX6_takes) B.pre⟩
  have hr := B.returns
  have hlocks := B.notSynchronized
  have w := wd_start hpre
  clear hpre B
  have hl := lv_entry ([.ref a_this, .int x1]) (n := 2) (Nat.le_of_ble_eq_true rfl)
  rw [lg_entry_eq]
  generalize (lg_sl ([.ref a_this, .int x1]) ++ List.replicate (2 - (lg_sl ([.ref a_this, .int x1])).length) Slot.unset).toArray = ls at hl ⊢
  have hl : lv_has ls 2 [(0, .ref a_this), (1, .int x1)] := hl
  unfold fX6_takes at hf
  refine lv_aload_n C.1 C.2.1 dX6_takes_0 rfl (lv_at hl 0 rfl) ?_
  refine r_get C w inX6_takes_X6 0 rfl rfl 0 (by decide) lkX6_takes_9 rfl dX6_takes_1 ?_
  refine lv_bipush (v := (90 : Int32)) C.1 C.2.1 dX6_takes_4 (by decide) ?_
  refine lv_icmp_lt (tgt := 11) C.1 C.2.1 dX6_takes_6 (by decide) (fun hq1 => ?_) (fun hq1 => ?_)
  · have hf := ite_t hf hq1
    refine lv_aload_n C.1 C.2.1 dX6_takes_11 rfl (lv_at hl 0 rfl) ?_
    refine r_get C w inX6_takes_X6 0 rfl rfl 3 (by decide) lkX6_takes_22 rfl dX6_takes_12 ?_
    refine lv_aload_n C.1 C.2.1 dX6_takes_15 rfl (lv_at hl 0 rfl) ?_
    refine r_get C w inX6_takes_X6 0 rfl rfl 0 (by decide) lkX6_takes_9 rfl dX6_takes_16 ?_
    refine lv_iload_n C.1 C.2.1 dX6_takes_19 rfl (lv_at hl 1 rfl) ?_
    obtain ⟨g2, hg3, hf⟩ := bd hf
    refine r_iast (ws' := (wX6_takes cI cL cS cH a_this a_this_near a_this_letters q_length q_nodes q_at q_fault g2)) C w 1 0 rfl rfl (wi_in hg3) rfl dX6_takes_20 (fun H locs w => ?_)
    refine lv_aload_n C.1 C.2.1 dX6_takes_21 rfl (lv_at hl 0 rfl) ?_
    refine lv_dup C.1 C.2.1 dX6_takes_22 rfl ?_
    refine r_get C w inX6_takes_X6 0 rfl rfl 0 (by decide) lkX6_takes_9 rfl dX6_takes_23 ?_
    refine lv_iconst (v := (1 : Int32)) C.1 C.2.1 dX6_takes_26 (by decide) ?_
    refine lv_iadd C.1 C.2.1 dX6_takes_27 ?_
    refine r_put (ws' := (wX6_takes cI cL cS cH a_this a_this_near a_this_letters (q_length + (1 : Int32)) q_nodes q_at q_fault g2)) C w inX6_takes_X6 tyX6 tyX6_ok nmX6 0 rfl rfl 0 (by decide) lkX6_takes_9 rfl rfl rfl (Nat.le_of_ble_eq_true rfl) rfl dX6_takes_28 (fun H locs w => ?_)
    refine lv_iconst (v := (1 : Int32)) C.1 C.2.1 dX6_takes_31 (by decide) ?_
    have hres := Option.some.inj hf
    subst hres
    exact ret_z C hr hlocks w (by decide) rfl dX6_takes_32
  · have hf := ite_f hf hq1
    refine lv_iconst (v := (0 : Int32)) C.1 C.2.1 dX6_takes_9 (by decide) ?_
    have hres := Option.some.inj hf
    subst hres
    exact ret_z C hr hlocks w (by decide) rfl dX6_takes_10

set_option maxRecDepth 100000 in
theorem inX6_skipBlanks_X6 : ∀ w ∈ u_ws RX6 TX6 6, w ∈ wsX6_skipBlanks := by decide +kernel
set_option maxRecDepth 100000 in
theorem lkX6_skipBlanks_25 : Cond.fieldLink RX6 25 "CleanNets$Tape" "at" "I" ∈ wsX6_skipBlanks := by decide +kernel
set_option maxRecDepth 100000 in
theorem lkX6_skipBlanks_9 : Cond.fieldLink RX6 9 "CleanNets$Tape" "length" "I" ∈ wsX6_skipBlanks := by decide +kernel
set_option maxRecDepth 100000 in
theorem lkX6_skipBlanks_22 : Cond.fieldLink RX6 22 "CleanNets$Tape" "letters" "[I" ∈ wsX6_skipBlanks := by decide +kernel
abbrev wX6_skipBlanks (cI cL cS cH : ClassId) (a_this : Nat) (a_this_near : Nat) (a_this_letters : Nat) (q_length : Int32) (q_nodes : Int32) (q_at : Int32) (q_fault : Int32) (q_letters : Nat → Int32) : va_W := [(a_this, .inr (6, [.int q_length, .int q_nodes, .ref a_this_near, .ref a_this_letters, .int q_at, .int q_fault])),
  (a_this_letters, .inl (cI, 90, .inl q_letters))]
def bX6_skipBlanks_0 (q_length : Int32) (q_letters : Nat → Int32)  (v0 : Int32) : Option ((Int32) ⊕ (Int32)) := (if q_length ≤ v0 then some (.inr v0) else Option.bind (rd q_letters 90 v0) (fun y2 => (if y2 = (32 : Int32) then some (.inl (v0 + (1 : Int32))) else some (.inr v0))))
def fX6_skipBlanks (q_length : Int32) (q_at : Int32) (q_letters : Nat → Int32)  : Option (Int32) := (if q_length ≤ q_at then some q_at else Option.bind (rd q_letters 90 q_at) (fun y6 => (if y6 = (32 : Int32) then Option.bind (itL (bX6_skipBlanks_0 q_length q_letters) fu (q_at + (1 : Int32))) (fun ex9 => some ex9) else some q_at)))
abbrev gX6_skipBlanks (p : Program) (l : Launch) (e : Env) (s : State) (m : MethodId) (below : List Frame) (meth : Method) (c : Code) (D : vg) (cI cL cS cH : ClassId) (a_this : Nat) (a_this_near : Nat) (a_this_letters : Nat) (q_length : Int32) (q_nodes : Int32) (q_at : Int32) (q_fault : Int32) (q_letters : Nat → Int32) (res : Int32) (H : Heap) (locs : List Loc) (g : JFrame) : Prop := W p l e (headSpec wsX6_skipBlanks ({ frames := 0, cells := 0, slots := 0, locals := 0 })).room s m ([.ref a_this] : List Value).toArray below meth c H locs 0 0 (MQ below (va_Qv (fun (_ : Unit) => True) (fun _ t => pos1 D s.heap.size (wX6_skipBlanks cI cL cS cH a_this a_this_near a_this_letters q_length q_nodes q_at q_fault q_letters) (wX6_skipBlanks cI cL cS cH a_this a_this_near a_this_letters q_length q_nodes res q_fault q_letters) t) (va_A (wX6_skipBlanks cI cL cS cH a_this a_this_near a_this_letters q_length q_nodes q_at q_fault q_letters) s.heap.size)) ([.ref a_this] : List Value).toArray s 0 0 (va_A (wX6_skipBlanks cI cL cS cH a_this a_this_near a_this_letters q_length q_nodes q_at q_fault q_letters) s.heap.size)) g
set_option maxHeartbeats 4000000 in
set_option maxRecDepth 100000 in
theorem mX6_skipBlanks (l : Launch) (D : vg) (cI cL cS cH : ClassId) (sz : Nat) (a_this : Nat) (a_this_near : Nat) (a_this_letters : Nat) (q_length : Int32) (q_nodes : Int32) (q_at : Int32) (q_fault : Int32) (q_letters : Nat → Int32) {res : Int32} (hf : fX6_skipBlanks q_length q_at q_letters = some res) : ctv l yX6_skipBlanks wsX6_skipBlanks ({ frames := 0, cells := 0, slots := 0, locals := 0 }) D (ty4 cI cL cS cH) sz [.ref a_this] (wX6_skipBlanks cI cL cS cH a_this a_this_near a_this_letters q_length q_nodes q_at q_fault q_letters) (wX6_skipBlanks cI cL cS cH a_this a_this_near a_this_letters q_length q_nodes res q_fault q_letters) := by
  refine Met.ofW (cc := cX6_skipBlanks) (maxL := 1) (ret := none) (by decide) rfl ?_
  intro p e s m args below meth c s₁ B hml hv
  obtain ⟨rfl, hpre⟩ := hv
  obtain rfl := hpre.1
  have C : CallFix p m c cX6_skipBlanks 1 s _ wsX6_skipBlanks RX6 := ⟨B.exec, B.bytes, hml, findClass_of_methodNamed B.named, atoms_spec (ws := wsX6_skipBlanks) B.pre⟩
  have hr := B.returns
  have hlocks := B.notSynchronized
  have w := wd_start hpre
  clear hpre B
  have hl := lv_entry ([.ref a_this]) (n := 1) (Nat.le_of_ble_eq_true rfl)
  rw [lg_entry_eq]
  generalize (lg_sl ([.ref a_this]) ++ List.replicate (1 - (lg_sl ([.ref a_this])).length) Slot.unset).toArray = ls at hl ⊢
  have hl : lv_has ls 1 [(0, .ref a_this)] := hl
  unfold fX6_skipBlanks at hf
  have hlp0 : ∀  (ex0 : Int32) (hk : (∀ (H : Heap) (locs : List Loc) (ls : Array Slot), wd D (ty4 cI cL cS cH) s (va_A (wX6_skipBlanks cI cL cS cH a_this a_this_near a_this_letters q_length q_nodes q_at q_fault q_letters) s.heap.size) s.heap H locs (wX6_skipBlanks cI cL cS cH a_this a_this_near a_this_letters q_length q_nodes ex0 q_fault q_letters) → lv_has ls 1 [] → gX6_skipBlanks p l e s m below meth c D cI cL cS cH a_this a_this_near a_this_letters q_length q_nodes q_at q_fault q_letters res H locs (F0 m 38 ls []))) (n : Nat) (v0 : Int32) (H : Heap) (locs : List Loc) (ls : Array Slot), itL (bX6_skipBlanks_0 q_length q_letters) n v0 = some ex0 → wd D (ty4 cI cL cS cH) s (va_A (wX6_skipBlanks cI cL cS cH a_this a_this_near a_this_letters q_length q_nodes q_at q_fault q_letters) s.heap.size) s.heap H locs (wX6_skipBlanks cI cL cS cH a_this a_this_near a_this_letters q_length q_nodes v0 q_fault q_letters) → lv_has ls 1 [(0, .ref a_this)] → gX6_skipBlanks p l e s m below meth c D cI cL cS cH a_this a_this_near a_this_letters q_length q_nodes q_at q_fault q_letters res H locs (F0 m 0 ls []) := by
    intro  ex0 hk n
    induction n with
    | zero => intro v0 H locs ls hi w hl; exact (itL_zero hi).elim
    | succ n ih =>
      intro v0 H locs ls hi w hl
      obtain ⟨o, hf, hn⟩ := itL_succ hi
      unfold bX6_skipBlanks_0 at hf
      refine lv_aload_n C.1 C.2.1 dX6_skipBlanks_0 rfl (lv_at hl 0 rfl) ?_
      refine r_get C w inX6_skipBlanks_X6 0 rfl rfl 4 (by decide) lkX6_skipBlanks_25 rfl dX6_skipBlanks_1 ?_
      refine lv_aload_n C.1 C.2.1 dX6_skipBlanks_4 rfl (lv_at hl 0 rfl) ?_
      refine r_get C w inX6_skipBlanks_X6 0 rfl rfl 0 (by decide) lkX6_skipBlanks_9 rfl dX6_skipBlanks_5 ?_
      refine lv_icmp_ge (tgt := 38) C.1 C.2.1 dX6_skipBlanks_8 (by decide) (fun hq1 => ?_) (fun hq1 => ?_)
      · have hf := ite_t hf hq1
        obtain rfl := Option.some.inj hf
        obtain rfl := hn
        exact hk _ _ _ w (lv_sub hl [] rfl)
      · have hf := ite_f hf hq1
        refine lv_aload_n C.1 C.2.1 dX6_skipBlanks_11 rfl (lv_at hl 0 rfl) ?_
        refine r_get C w inX6_skipBlanks_X6 0 rfl rfl 3 (by decide) lkX6_skipBlanks_22 rfl dX6_skipBlanks_12 ?_
        refine lv_aload_n C.1 C.2.1 dX6_skipBlanks_15 rfl (lv_at hl 0 rfl) ?_
        refine r_get C w inX6_skipBlanks_X6 0 rfl rfl 4 (by decide) lkX6_skipBlanks_25 rfl dX6_skipBlanks_16 ?_
        obtain ⟨y2, hy3, hf⟩ := bd hf
        refine r_iald C w 1 0 rfl rfl (rd_in hy3) dX6_skipBlanks_19 ?_
        refine lv_bipush (v := (32 : Int32)) C.1 C.2.1 dX6_skipBlanks_20 (by decide) ?_
        refine lv_icmp_ne (tgt := 38) C.1 C.2.1 dX6_skipBlanks_22 (by decide) (fun hq4 => ?_) (fun hq4 => ?_)
        · have hf := ite_f hf hq4
          obtain rfl := Option.some.inj hf
          obtain rfl := hn
          exact hk _ _ _ w (lv_sub hl [] rfl)
        · have hf := ite_t hf hq4
          refine lv_aload_n C.1 C.2.1 dX6_skipBlanks_25 rfl (lv_at hl 0 rfl) ?_
          refine lv_dup C.1 C.2.1 dX6_skipBlanks_26 rfl ?_
          refine r_get C w inX6_skipBlanks_X6 0 rfl rfl 4 (by decide) lkX6_skipBlanks_25 rfl dX6_skipBlanks_27 ?_
          refine lv_iconst (v := (1 : Int32)) C.1 C.2.1 dX6_skipBlanks_30 (by decide) ?_
          refine lv_iadd C.1 C.2.1 dX6_skipBlanks_31 ?_
          refine r_put (ws' := (wX6_skipBlanks cI cL cS cH a_this a_this_near a_this_letters q_length q_nodes (v0 + (1 : Int32)) q_fault q_letters)) C w inX6_skipBlanks_X6 tyX6 tyX6_ok nmX6 0 rfl rfl 4 (by decide) lkX6_skipBlanks_25 rfl rfl rfl (Nat.le_of_ble_eq_true rfl) rfl dX6_skipBlanks_32 (fun H locs w => ?_)
          refine lv_goto (tgt := 0) C.1 C.2.1 dX6_skipBlanks_35 (by decide) ?_
          obtain rfl := Option.some.inj hf
          exact ih (v0 + (1 : Int32)) _ _ _ hn w (lv_sub hl [0] rfl)
  refine lv_aload_n C.1 C.2.1 dX6_skipBlanks_0 rfl (lv_at hl 0 rfl) ?_
  refine r_get C w inX6_skipBlanks_X6 0 rfl rfl 4 (by decide) lkX6_skipBlanks_25 rfl dX6_skipBlanks_1 ?_
  refine lv_aload_n C.1 C.2.1 dX6_skipBlanks_4 rfl (lv_at hl 0 rfl) ?_
  refine r_get C w inX6_skipBlanks_X6 0 rfl rfl 0 (by decide) lkX6_skipBlanks_9 rfl dX6_skipBlanks_5 ?_
  refine lv_icmp_ge (tgt := 38) C.1 C.2.1 dX6_skipBlanks_8 (by decide) (fun hq5 => ?_) (fun hq5 => ?_)
  · have hf := ite_t hf hq5
    have hres := Option.some.inj hf
    subst hres
    exact ret_v C hr hlocks w dX6_skipBlanks_38
  · have hf := ite_f hf hq5
    refine lv_aload_n C.1 C.2.1 dX6_skipBlanks_11 rfl (lv_at hl 0 rfl) ?_
    refine r_get C w inX6_skipBlanks_X6 0 rfl rfl 3 (by decide) lkX6_skipBlanks_22 rfl dX6_skipBlanks_12 ?_
    refine lv_aload_n C.1 C.2.1 dX6_skipBlanks_15 rfl (lv_at hl 0 rfl) ?_
    refine r_get C w inX6_skipBlanks_X6 0 rfl rfl 4 (by decide) lkX6_skipBlanks_25 rfl dX6_skipBlanks_16 ?_
    obtain ⟨y6, hy7, hf⟩ := bd hf
    refine r_iald C w 1 0 rfl rfl (rd_in hy7) dX6_skipBlanks_19 ?_
    refine lv_bipush (v := (32 : Int32)) C.1 C.2.1 dX6_skipBlanks_20 (by decide) ?_
    refine lv_icmp_ne (tgt := 38) C.1 C.2.1 dX6_skipBlanks_22 (by decide) (fun hq8 => ?_) (fun hq8 => ?_)
    · have hf := ite_f hf hq8
      have hres := Option.some.inj hf
      subst hres
      exact ret_v C hr hlocks w dX6_skipBlanks_38
    · have hf := ite_t hf hq8
      refine lv_aload_n C.1 C.2.1 dX6_skipBlanks_25 rfl (lv_at hl 0 rfl) ?_
      refine lv_dup C.1 C.2.1 dX6_skipBlanks_26 rfl ?_
      refine r_get C w inX6_skipBlanks_X6 0 rfl rfl 4 (by decide) lkX6_skipBlanks_25 rfl dX6_skipBlanks_27 ?_
      refine lv_iconst (v := (1 : Int32)) C.1 C.2.1 dX6_skipBlanks_30 (by decide) ?_
      refine lv_iadd C.1 C.2.1 dX6_skipBlanks_31 ?_
      refine r_put (ws' := (wX6_skipBlanks cI cL cS cH a_this a_this_near a_this_letters q_length q_nodes (q_at + (1 : Int32)) q_fault q_letters)) C w inX6_skipBlanks_X6 tyX6 tyX6_ok nmX6 0 rfl rfl 4 (by decide) lkX6_skipBlanks_25 rfl rfl rfl (Nat.le_of_ble_eq_true rfl) rfl dX6_skipBlanks_32 (fun H locs w => ?_)
      refine lv_goto (tgt := 0) C.1 C.2.1 dX6_skipBlanks_35 (by decide) ?_
      obtain ⟨ex9, hx10, hf⟩ := bd hf
      refine hlp0  ex9 ?_ fu (q_at + (1 : Int32)) _ _ _ hx10 w (lv_sub hl [0] rfl)
      intro H locs ls w hl
      have hres := Option.some.inj hf
      subst hres
      exact ret_v C hr hlocks w dX6_skipBlanks_38

set_option maxRecDepth 100000 in
theorem inX6_isNameFrom_X6 : ∀ w ∈ u_ws RX6 TX6 6, w ∈ wsX6_isNameFrom := by decide +kernel
set_option maxRecDepth 100000 in
theorem lkX6_isNameFrom_22 : Cond.fieldLink RX6 22 "CleanNets$Tape" "letters" "[I" ∈ wsX6_isNameFrom := by decide +kernel
set_option maxRecDepth 100000 in
theorem lkX6_isNameFrom_25 : Cond.fieldLink RX6 25 "CleanNets$Tape" "at" "I" ∈ wsX6_isNameFrom := by decide +kernel
abbrev wX6_isNameFrom (cI cL cS cH : ClassId) (x2 : Nat) (a_this : Nat) (a_this_near : Nat) (a_this_letters : Nat) (q_length : Int32) (q_nodes : Int32) (q_at : Int32) (q_fault : Int32) (q_letters : Nat → Int32) : va_W := [(a_this, .inr (6, [.int q_length, .int q_nodes, .ref a_this_near, .ref a_this_letters, .int q_at, .int q_fault])),
  (a_this_letters, .inl (cI, 90, .inl q_letters))]
def jX6_isNameFrom_58 (x2 : Nat) (q_at : Int32) (q_letters : Nat → Int32) (y22_1 : Int32) (y58_4 : Int32) (z58_0 : Int32) : Option ((Int32 × Int32) ⊕ (Int32 × Int32)) := some (.inl (z58_0, (y58_4 + (1 : Int32))))
def bX6_isNameFrom_22 (x2 : Nat) (q_at : Int32) (q_letters : Nat → Int32) (y22_1 : Int32) (v22 : Int32 × Int32) : Option ((Int32 × Int32) ⊕ (Int32 × Int32)) := (if v22.1 = 0 then some (.inr (v22.1, v22.2)) else (if (nI (lenT.getD x2 0)) ≤ v22.2 then some (.inr (v22.1, v22.2)) else Option.bind (rd q_letters 90 (y22_1 + v22.2)) (fun y3 => Option.bind (fJ0_charAt x2 v22.2) (fun r5 => (if y3 = r5 then jX6_isNameFrom_58 x2 q_at q_letters y22_1 v22.2 (1 : Int32) else jX6_isNameFrom_58 x2 q_at q_letters y22_1 v22.2 (0 : Int32))))))
def jX6_isNameFrom_18 (x2 : Nat) (q_at : Int32) (q_letters : Nat → Int32) (x1 : Int32) (z18_0 : Int32) : Option (Int32) := Option.bind (itL (bX6_isNameFrom_22 x2 q_at q_letters x1) fu (z18_0, (0 : Int32))) (fun ex8 => Option.bind (bz ex8.1) (fun _ => some ex8.1))
def fX6_isNameFrom (x2 : Nat) (q_at : Int32) (q_letters : Nat → Int32) (x1 : Int32) : Option (Int32) := (if (q_at - x1) = (nI (lenT.getD x2 0)) then jX6_isNameFrom_18 x2 q_at q_letters x1 (1 : Int32) else jX6_isNameFrom_18 x2 q_at q_letters x1 (0 : Int32))
abbrev gX6_isNameFrom (p : Program) (l : Launch) (e : Env) (s : State) (m : MethodId) (below : List Frame) (meth : Method) (c : Code) (D : vg) (cI cL cS cH : ClassId) (x2 : Nat) (a_this : Nat) (a_this_near : Nat) (a_this_letters : Nat) (q_length : Int32) (q_nodes : Int32) (q_at : Int32) (q_fault : Int32) (q_letters : Nat → Int32) (x1 : Int32) (res : Int32) (H : Heap) (locs : List Loc) (g : JFrame) : Prop := W p l e (headSpec wsX6_isNameFrom ({ frames := 4, cells := 0, slots := 0, locals := 85 })).room s m ([.ref a_this, .int x1, .ref (D.2.1 x2)] : List Value).toArray below meth c H locs 0 0 (MQ below (va_Qi (fun r' (_ : Unit) => r' = res) (fun _ t => pos1 D s.heap.size (wX6_isNameFrom cI cL cS cH x2 a_this a_this_near a_this_letters q_length q_nodes q_at q_fault q_letters) (wX6_isNameFrom cI cL cS cH x2 a_this a_this_near a_this_letters q_length q_nodes q_at q_fault q_letters) t) (va_A (wX6_isNameFrom cI cL cS cH x2 a_this a_this_near a_this_letters q_length q_nodes q_at q_fault q_letters) s.heap.size)) ([.ref a_this, .int x1, .ref (D.2.1 x2)] : List Value).toArray s 0 0 (va_A (wX6_isNameFrom cI cL cS cH x2 a_this a_this_near a_this_letters q_length q_nodes q_at q_fault q_letters) s.heap.size)) g
set_option maxHeartbeats 4000000 in
set_option maxRecDepth 100000 in
theorem mX6_isNameFrom (l : Launch) (D : vg) (cI cL cS cH : ClassId) (sz : Nat) (x2 : Nat) (hx2 : x2 < 6) (a_this : Nat) (a_this_near : Nat) (a_this_letters : Nat) (q_length : Int32) (q_nodes : Int32) (q_at : Int32) (q_fault : Int32) (q_letters : Nat → Int32) (x1 : Int32) {res : Int32} (hf : fX6_isNameFrom x2 q_at q_letters x1 = some res) : cti l yX6_isNameFrom wsX6_isNameFrom ({ frames := 4, cells := 0, slots := 0, locals := 85 }) D (ty4 cI cL cS cH) sz [.ref a_this, .int x1, .ref (D.2.1 x2)] (wX6_isNameFrom cI cL cS cH x2 a_this a_this_near a_this_letters q_length q_nodes q_at q_fault q_letters) (wX6_isNameFrom cI cL cS cH x2 a_this a_this_near a_this_letters q_length q_nodes q_at q_fault q_letters) res := by
  refine Met.ofW (cc := cX6_isNameFrom) (maxL := 5) (ret := (some .boolean)) (by decide) rfl ?_
  intro p e s m args below meth c s₁ B hml hv
  obtain ⟨rfl, hpre⟩ := hv
  obtain rfl := hpre.1
  have C : CallFix p m c cX6_isNameFrom 5 s _ wsX6_isNameFrom RX6 := ⟨B.exec, B.bytes, hml, findClass_of_methodNamed B.named, atoms_spec (ws := wsX6_isNameFrom) B.pre⟩
  have hr := B.returns
  have hlocks := B.notSynchronized
  have w := wd_start hpre
  clear hpre B
  have hl := lv_entry ([.ref a_this, .int x1, .ref (D.2.1 x2)]) (n := 5) (Nat.le_of_ble_eq_true rfl)
  rw [lg_entry_eq]
  generalize (lg_sl ([.ref a_this, .int x1, .ref (D.2.1 x2)]) ++ List.replicate (5 - (lg_sl ([.ref a_this, .int x1, .ref (D.2.1 x2)])).length) Slot.unset).toArray = ls at hl ⊢
  have hl : lv_has ls 5 [(0, .ref a_this), (1, .int x1), (2, .ref (D.2.1 x2))] := hl
  unfold fX6_isNameFrom at hf
  have hlp22 : ∀ (y22_1 : Int32) (ex22 : Int32 × Int32) (hk : (∀ (H : Heap) (locs : List Loc) (ls : Array Slot), wd D (ty4 cI cL cS cH) s (va_A (wX6_isNameFrom cI cL cS cH x2 a_this a_this_near a_this_letters q_length q_nodes q_at q_fault q_letters) s.heap.size) s.heap H locs (wX6_isNameFrom cI cL cS cH x2 a_this a_this_near a_this_letters q_length q_nodes q_at q_fault q_letters) → lv_has ls 5 [(3, .int ex22.1)] → gX6_isNameFrom p l e s m below meth c D cI cL cS cH x2 a_this a_this_near a_this_letters q_length q_nodes q_at q_fault q_letters x1 res H locs (F0 m 65 ls []))) (n : Nat) (v22 : Int32 × Int32) (H : Heap) (locs : List Loc) (ls : Array Slot), itL (bX6_isNameFrom_22 x2 q_at q_letters y22_1) n v22 = some ex22 → wd D (ty4 cI cL cS cH) s (va_A (wX6_isNameFrom cI cL cS cH x2 a_this a_this_near a_this_letters q_length q_nodes q_at q_fault q_letters) s.heap.size) s.heap H locs (wX6_isNameFrom cI cL cS cH x2 a_this a_this_near a_this_letters q_length q_nodes q_at q_fault q_letters) → lv_has ls 5 [(0, .ref a_this), (1, .int y22_1), (2, .ref (D.2.1 x2)), (3, .int v22.1), (4, .int v22.2)] → gX6_isNameFrom p l e s m below meth c D cI cL cS cH x2 a_this a_this_near a_this_letters q_length q_nodes q_at q_fault q_letters x1 res H locs (F0 m 22 ls []) := by
    intro y22_1 ex22 hk n
    induction n with
    | zero => intro v22 H locs ls hi w hl; exact (itL_zero hi).elim
    | succ n ih =>
      intro v22 H locs ls hi w hl
      obtain ⟨o, hf, hn⟩ := itL_succ hi
      unfold bX6_isNameFrom_22 at hf
      have hj58 : ∀ (y58_4 : Int32) (z58_0 : Int32) (H : Heap) (locs : List Loc) (ls : Array Slot), wd D (ty4 cI cL cS cH) s (va_A (wX6_isNameFrom cI cL cS cH x2 a_this a_this_near a_this_letters q_length q_nodes q_at q_fault q_letters) s.heap.size) s.heap H locs (wX6_isNameFrom cI cL cS cH x2 a_this a_this_near a_this_letters q_length q_nodes q_at q_fault q_letters) → lv_has ls 5 [(0, .ref a_this), (1, .int y22_1), (2, .ref (D.2.1 x2)), (4, .int y58_4)] → jX6_isNameFrom_58 x2 q_at q_letters y22_1 y58_4 z58_0 = some o → gX6_isNameFrom p l e s m below meth c D cI cL cS cH x2 a_this a_this_near a_this_letters q_length q_nodes q_at q_fault q_letters x1 res H locs (F0 m 58 ls [.int z58_0]) := by
        intro y58_4 z58_0 H locs ls w hl hf
        unfold jX6_isNameFrom_58 at hf
        refine lv_istore_n (lv' := [(3, .int z58_0), (0, .ref a_this), (1, .int y22_1), (2, .ref (D.2.1 x2)), (4, .int y58_4)]) C.1 C.2.1 dX6_isNameFrom_58 rfl hl (by decide) rfl (fun ls hl => ?_)
        refine lv_iinc (v := (y58_4 + (1 : Int32))) (lv' := [(4, .int (y58_4 + (1 : Int32))), (3, .int z58_0), (0, .ref a_this), (1, .int y22_1), (2, .ref (D.2.1 x2))]) C.1 C.2.1 dX6_isNameFrom_59 hl (k := 4) rfl rfl (by decide) rfl (fun ls hl => ?_)
        refine lv_goto (tgt := 22) C.1 C.2.1 dX6_isNameFrom_62 (by decide) ?_
        obtain rfl := Option.some.inj hf
        exact ih (z58_0, (y58_4 + (1 : Int32))) _ _ _ hn w (lv_sub hl [2, 3, 4, 1, 0] rfl)
      refine lv_iload_n C.1 C.2.1 dX6_isNameFrom_22 rfl (lv_at hl 3 rfl) ?_
      refine lv_if_eq (tgt := 65) C.1 C.2.1 dX6_isNameFrom_23 (by decide) (fun hq1 => ?_) (fun hq1 => ?_)
      · have hf := ite_t hf hq1
        obtain rfl := Option.some.inj hf
        obtain rfl := hn
        exact hk _ _ _ w (lv_sub hl [3] rfl)
      · have hf := ite_f hf hq1
        refine lv_iload C.1 C.2.1 dX6_isNameFrom_26 (lv_at hl 4 rfl) ?_
        refine lv_aload_n C.1 C.2.1 dX6_isNameFrom_28 rfl (lv_at hl 2 rfl) ?_
        refine call_Ki (rest := [.int v22.2]) C w (mJ0_length_8abf5 l D cI cL cS cH _ x2 hx2) (cwV 0 C.2.2.2.2 gX6_isNameFrom_J0_length_8abf5 rfl rfl rfl (by decide +kernel) ⟨Nat.le_of_ble_eq_true rfl, Nat.le_of_ble_eq_true rfl⟩) hx2 rfl hl.1 rfl (lv_room (Nat.le_of_ble_eq_true rfl)) dX6_isNameFrom_29 ⟨Nat.zero_le _, Nat.zero_le _⟩ (fun H locs w => ?_)
        refine lv_icmp_ge (tgt := 65) C.1 C.2.1 dX6_isNameFrom_32 (by decide) (fun hq2 => ?_) (fun hq2 => ?_)
        · have hf := ite_t hf hq2
          obtain rfl := Option.some.inj hf
          obtain rfl := hn
          exact hk _ _ _ w (lv_sub hl [3] rfl)
        · have hf := ite_f hf hq2
          refine lv_aload_n C.1 C.2.1 dX6_isNameFrom_35 rfl (lv_at hl 0 rfl) ?_
          refine r_get C w inX6_isNameFrom_X6 0 rfl rfl 3 (by decide) lkX6_isNameFrom_22 rfl dX6_isNameFrom_36 ?_
          refine lv_iload_n C.1 C.2.1 dX6_isNameFrom_39 rfl (lv_at hl 1 rfl) ?_
          refine lv_iload C.1 C.2.1 dX6_isNameFrom_40 (lv_at hl 4 rfl) ?_
          refine lv_iadd C.1 C.2.1 dX6_isNameFrom_42 ?_
          obtain ⟨y3, hy4, hf⟩ := bd hf
          refine r_iald C w 1 0 rfl rfl (rd_in hy4) dX6_isNameFrom_43 ?_
          refine lv_aload_n C.1 C.2.1 dX6_isNameFrom_44 rfl (lv_at hl 2 rfl) ?_
          refine lv_iload C.1 C.2.1 dX6_isNameFrom_45 (lv_at hl 4 rfl) ?_
          obtain ⟨r5, hc6, hf⟩ := bd hf
          refine call_Ki (rest := [.int y3]) C w (mJ0_charAt_5068e l D cI cL cS cH _ x2 v22.2 hx2 hc6) (cwV 1 C.2.2.2.2 gX6_isNameFrom_J0_charAt_5068e rfl rfl rfl (by decide +kernel) ⟨Nat.le_of_ble_eq_true rfl, Nat.le_of_ble_eq_true rfl⟩) hx2 rfl hl.1 rfl (lv_room (Nat.le_of_ble_eq_true rfl)) dX6_isNameFrom_47 ⟨Nat.zero_le _, Nat.zero_le _⟩ (fun H locs w => ?_)
          refine lv_icmp_ne (tgt := 57) C.1 C.2.1 dX6_isNameFrom_50 (by decide) (fun hq7 => ?_) (fun hq7 => ?_)
          · have hf := ite_f hf hq7
            refine lv_iconst (v := (0 : Int32)) C.1 C.2.1 dX6_isNameFrom_57 (by decide) ?_
            exact hj58 v22.2 (0 : Int32) _ _ _ w (lv_sub hl [0, 1, 2, 4] rfl) hf
          · have hf := ite_t hf hq7
            refine lv_iconst (v := (1 : Int32)) C.1 C.2.1 dX6_isNameFrom_53 (by decide) ?_
            refine lv_goto (tgt := 58) C.1 C.2.1 dX6_isNameFrom_54 (by decide) ?_
            exact hj58 v22.2 (1 : Int32) _ _ _ w (lv_sub hl [0, 1, 2, 4] rfl) hf
  have hj18 : ∀ (z18_0 : Int32) (H : Heap) (locs : List Loc) (ls : Array Slot), wd D (ty4 cI cL cS cH) s (va_A (wX6_isNameFrom cI cL cS cH x2 a_this a_this_near a_this_letters q_length q_nodes q_at q_fault q_letters) s.heap.size) s.heap H locs (wX6_isNameFrom cI cL cS cH x2 a_this a_this_near a_this_letters q_length q_nodes q_at q_fault q_letters) → lv_has ls 5 [(0, .ref a_this), (1, .int x1), (2, .ref (D.2.1 x2))] → jX6_isNameFrom_18 x2 q_at q_letters x1 z18_0 = some res → gX6_isNameFrom p l e s m below meth c D cI cL cS cH x2 a_this a_this_near a_this_letters q_length q_nodes q_at q_fault q_letters x1 res H locs (F0 m 18 ls [.int z18_0]) := by
    intro z18_0 H locs ls w hl hf
    unfold jX6_isNameFrom_18 at hf
    refine lv_istore_n (lv' := [(3, .int z18_0), (0, .ref a_this), (1, .int x1), (2, .ref (D.2.1 x2))]) C.1 C.2.1 dX6_isNameFrom_18 rfl hl (by decide) rfl (fun ls hl => ?_)
    refine lv_iconst (v := (0 : Int32)) C.1 C.2.1 dX6_isNameFrom_19 (by decide) ?_
    refine lv_istore (lv' := [(4, .int (0 : Int32)), (3, .int z18_0), (0, .ref a_this), (1, .int x1), (2, .ref (D.2.1 x2))]) C.1 C.2.1 dX6_isNameFrom_20 hl (by decide) rfl (fun ls hl => ?_)
    obtain ⟨ex8, hx9, hf⟩ := bd hf
    refine hlp22 x1 ex8 ?_ fu (z18_0, (0 : Int32)) _ _ _ hx9 w (lv_sub hl [2, 3, 4, 1, 0] rfl)
    intro H locs ls w hl
    refine lv_iload_n C.1 C.2.1 dX6_isNameFrom_65 rfl (lv_at hl 0 rfl) ?_
    obtain ⟨_, hb10, hf⟩ := bd hf
    have hres := Option.some.inj hf
    subst hres
    exact ret_z C hr hlocks w (bz_in hb10).1 rfl dX6_isNameFrom_66
  refine lv_aload_n C.1 C.2.1 dX6_isNameFrom_0 rfl (lv_at hl 0 rfl) ?_
  refine r_get C w inX6_isNameFrom_X6 0 rfl rfl 4 (by decide) lkX6_isNameFrom_25 rfl dX6_isNameFrom_1 ?_
  refine lv_iload_n C.1 C.2.1 dX6_isNameFrom_4 rfl (lv_at hl 1 rfl) ?_
  refine lv_isub C.1 C.2.1 dX6_isNameFrom_5 ?_
  refine lv_aload_n C.1 C.2.1 dX6_isNameFrom_6 rfl (lv_at hl 2 rfl) ?_
  refine call_Ki (rest := [.int (q_at - x1)]) C w (mJ0_length_8abf5 l D cI cL cS cH _ x2 hx2) (cwV 0 C.2.2.2.2 gX6_isNameFrom_J0_length_8abf5 rfl rfl rfl (by decide +kernel) ⟨Nat.le_of_ble_eq_true rfl, Nat.le_of_ble_eq_true rfl⟩) hx2 rfl hl.1 rfl (lv_room (Nat.le_of_ble_eq_true rfl)) dX6_isNameFrom_7 ⟨Nat.zero_le _, Nat.zero_le _⟩ (fun H locs w => ?_)
  refine lv_icmp_ne (tgt := 17) C.1 C.2.1 dX6_isNameFrom_10 (by decide) (fun hq11 => ?_) (fun hq11 => ?_)
  · have hf := ite_f hf hq11
    refine lv_iconst (v := (0 : Int32)) C.1 C.2.1 dX6_isNameFrom_17 (by decide) ?_
    exact hj18 (0 : Int32) _ _ _ w (lv_sub hl [0, 1, 2] rfl) hf
  · have hf := ite_t hf hq11
    refine lv_iconst (v := (1 : Int32)) C.1 C.2.1 dX6_isNameFrom_13 (by decide) ?_
    refine lv_goto (tgt := 18) C.1 C.2.1 dX6_isNameFrom_14 (by decide) ?_
    exact hj18 (1 : Int32) _ _ _ w (lv_sub hl [0, 1, 2] rfl) hf

abbrev wX6_shapeNamedFrom (cI cL cS cH : ClassId) (a_this : Nat) (a_this_near : Nat) (a_this_letters : Nat) (q_length : Int32) (q_nodes : Int32) (q_at : Int32) (q_fault : Int32) (q_letters : Nat → Int32) : va_W := [(a_this, .inr (6, [.int q_length, .int q_nodes, .ref a_this_near, .ref a_this_letters, .int q_at, .int q_fault])),
  (a_this_letters, .inl (cI, 90, .inl q_letters))]
def fX6_shapeNamedFrom (q_at : Int32) (q_letters : Nat → Int32) (x1 : Int32) : Option (Int32) := Option.bind (fX6_isNameFrom 0 q_at q_letters x1) (fun r1 => (if r1 = 0 then Option.bind (fX6_isNameFrom 1 q_at q_letters x1) (fun r4 => (if r4 = 0 then Option.bind (fX6_isNameFrom 2 q_at q_letters x1) (fun r7 => (if r7 = 0 then Option.bind (fX6_isNameFrom 3 q_at q_letters x1) (fun r10 => (if r10 = 0 then Option.bind (fX6_isNameFrom 4 q_at q_letters x1) (fun r13 => (if r13 = 0 then Option.bind (fX6_isNameFrom 5 q_at q_letters x1) (fun r16 => (if r16 = 0 then some (0 : Int32) else some (6 : Int32))) else some (5 : Int32))) else some (4 : Int32))) else some (3 : Int32))) else some (2 : Int32))) else some (1 : Int32)))
set_option maxHeartbeats 4000000 in
set_option maxRecDepth 100000 in
theorem mX6_shapeNamedFrom (l : Launch) (D : vg) (cI cL cS cH : ClassId) (sz : Nat) (a_this : Nat) (a_this_near : Nat) (a_this_letters : Nat) (q_length : Int32) (q_nodes : Int32) (q_at : Int32) (q_fault : Int32) (q_letters : Nat → Int32) (x1 : Int32) {res : Int32} (hf : fX6_shapeNamedFrom q_at q_letters x1 = some res) : cti l yX6_shapeNamedFrom wsX6_shapeNamedFrom ({ frames := 5, cells := 0, slots := 0, locals := 109 }) D (ty4 cI cL cS cH) sz [.ref a_this, .int x1] (wX6_shapeNamedFrom cI cL cS cH a_this a_this_near a_this_letters q_length q_nodes q_at q_fault q_letters) (wX6_shapeNamedFrom cI cL cS cH a_this a_this_near a_this_letters q_length q_nodes q_at q_fault q_letters) res := by
  refine Met.ofW (cc := cX6_shapeNamedFrom) (maxL := 2) (ret := (some .int)) (by decide) rfl ?_
  intro p e s m args below meth c s₁ B hml hv
  obtain ⟨rfl, hpre⟩ := hv
  obtain rfl := hpre.1
  have C : CallFix p m c cX6_shapeNamedFrom 2 s _ wsX6_shapeNamedFrom RX6 := ⟨B.exec, B.bytes, hml, findClass_of_methodNamed B.named, atoms_spec (ws := wsX6_shapeNamedFrom) B.pre⟩
  have hr := B.returns
  have hlocks := B.notSynchronized
  have w := wd_start hpre
  clear hpre B
  have hl := lv_entry ([.ref a_this, .int x1]) (n := 2) (Nat.le_of_ble_eq_true rfl)
  rw [lg_entry_eq]
  generalize (lg_sl ([.ref a_this, .int x1]) ++ List.replicate (2 - (lg_sl ([.ref a_this, .int x1])).length) Slot.unset).toArray = ls at hl ⊢
  have hl : lv_has ls 2 [(0, .ref a_this), (1, .int x1)] := hl
  unfold fX6_shapeNamedFrom at hf
  refine lv_aload_n C.1 C.2.1 dX6_shapeNamedFrom_0 rfl (lv_at hl 0 rfl) ?_
  refine lv_iload_n C.1 C.2.1 dX6_shapeNamedFrom_1 rfl (lv_at hl 1 rfl) ?_
  refine va_ldcS C.1 C.2.1 C.2.2.2.1 (w.1.2.2.2.1 0 (by decide)) dX6_shapeNamedFrom_2 ?_
  obtain ⟨r1, hc2, hf⟩ := bd hf
  refine call_Vi (ws' := (wX6_shapeNamedFrom cI cL cS cH a_this a_this_near a_this_letters q_length q_nodes q_at q_fault q_letters)) (rest := []) C w (mX6_isNameFrom l D cI cL cS cH _ 0 (by decide) a_this a_this_near a_this_letters q_length q_nodes q_at q_fault q_letters x1 hc2) (cwV 2 C.2.2.2.2 gX6_shapeNamedFrom_X6_isNameFrom rfl rfl rfl (by decide +kernel) ⟨Nat.le_of_ble_eq_true rfl, Nat.le_of_ble_eq_true rfl⟩) [0, 1] [] 2 ⟨rfl, rfl, trivial⟩ ⟨rfl, rfl, trivial⟩ trivial rfl (by decide) (by decide) (ci := 6) (q0 := 0) rfl rfl rfl hl.1 rfl (lv_room (Nat.le_of_ble_eq_true rfl)) dX6_shapeNamedFrom_4 ⟨Nat.zero_le _, Nat.zero_le _⟩ (fun H locs w => ?_)
  refine lv_if_eq (tgt := 12) C.1 C.2.1 dX6_shapeNamedFrom_7 (by decide) (fun hq3 => ?_) (fun hq3 => ?_)
  · have hf := ite_t hf hq3
    refine lv_aload_n C.1 C.2.1 dX6_shapeNamedFrom_12 rfl (lv_at hl 0 rfl) ?_
    refine lv_iload_n C.1 C.2.1 dX6_shapeNamedFrom_13 rfl (lv_at hl 1 rfl) ?_
    refine va_ldcS C.1 C.2.1 C.2.2.2.1 (w.1.2.2.2.1 1 (by decide)) dX6_shapeNamedFrom_14 ?_
    obtain ⟨r4, hc5, hf⟩ := bd hf
    refine call_Vi (ws' := (wX6_shapeNamedFrom cI cL cS cH a_this a_this_near a_this_letters q_length q_nodes q_at q_fault q_letters)) (rest := []) C w (mX6_isNameFrom l D cI cL cS cH _ 1 (by decide) a_this a_this_near a_this_letters q_length q_nodes q_at q_fault q_letters x1 hc5) (cwV 2 C.2.2.2.2 gX6_shapeNamedFrom_X6_isNameFrom rfl rfl rfl (by decide +kernel) ⟨Nat.le_of_ble_eq_true rfl, Nat.le_of_ble_eq_true rfl⟩) [0, 1] [] 2 ⟨rfl, rfl, trivial⟩ ⟨rfl, rfl, trivial⟩ trivial rfl (by decide) (by decide) (ci := 6) (q0 := 0) rfl rfl rfl hl.1 rfl (lv_room (Nat.le_of_ble_eq_true rfl)) dX6_shapeNamedFrom_16 ⟨Nat.zero_le _, Nat.zero_le _⟩ (fun H locs w => ?_)
    refine lv_if_eq (tgt := 24) C.1 C.2.1 dX6_shapeNamedFrom_19 (by decide) (fun hq6 => ?_) (fun hq6 => ?_)
    · have hf := ite_t hf hq6
      refine lv_aload_n C.1 C.2.1 dX6_shapeNamedFrom_24 rfl (lv_at hl 0 rfl) ?_
      refine lv_iload_n C.1 C.2.1 dX6_shapeNamedFrom_25 rfl (lv_at hl 1 rfl) ?_
      refine va_ldcS C.1 C.2.1 C.2.2.2.1 (w.1.2.2.2.1 2 (by decide)) dX6_shapeNamedFrom_26 ?_
      obtain ⟨r7, hc8, hf⟩ := bd hf
      refine call_Vi (ws' := (wX6_shapeNamedFrom cI cL cS cH a_this a_this_near a_this_letters q_length q_nodes q_at q_fault q_letters)) (rest := []) C w (mX6_isNameFrom l D cI cL cS cH _ 2 (by decide) a_this a_this_near a_this_letters q_length q_nodes q_at q_fault q_letters x1 hc8) (cwV 2 C.2.2.2.2 gX6_shapeNamedFrom_X6_isNameFrom rfl rfl rfl (by decide +kernel) ⟨Nat.le_of_ble_eq_true rfl, Nat.le_of_ble_eq_true rfl⟩) [0, 1] [] 2 ⟨rfl, rfl, trivial⟩ ⟨rfl, rfl, trivial⟩ trivial rfl (by decide) (by decide) (ci := 6) (q0 := 0) rfl rfl rfl hl.1 rfl (lv_room (Nat.le_of_ble_eq_true rfl)) dX6_shapeNamedFrom_28 ⟨Nat.zero_le _, Nat.zero_le _⟩ (fun H locs w => ?_)
      refine lv_if_eq (tgt := 36) C.1 C.2.1 dX6_shapeNamedFrom_31 (by decide) (fun hq9 => ?_) (fun hq9 => ?_)
      · have hf := ite_t hf hq9
        refine lv_aload_n C.1 C.2.1 dX6_shapeNamedFrom_36 rfl (lv_at hl 0 rfl) ?_
        refine lv_iload_n C.1 C.2.1 dX6_shapeNamedFrom_37 rfl (lv_at hl 1 rfl) ?_
        refine va_ldcS C.1 C.2.1 C.2.2.2.1 (w.1.2.2.2.1 3 (by decide)) dX6_shapeNamedFrom_38 ?_
        obtain ⟨r10, hc11, hf⟩ := bd hf
        refine call_Vi (ws' := (wX6_shapeNamedFrom cI cL cS cH a_this a_this_near a_this_letters q_length q_nodes q_at q_fault q_letters)) (rest := []) C w (mX6_isNameFrom l D cI cL cS cH _ 3 (by decide) a_this a_this_near a_this_letters q_length q_nodes q_at q_fault q_letters x1 hc11) (cwV 2 C.2.2.2.2 gX6_shapeNamedFrom_X6_isNameFrom rfl rfl rfl (by decide +kernel) ⟨Nat.le_of_ble_eq_true rfl, Nat.le_of_ble_eq_true rfl⟩) [0, 1] [] 2 ⟨rfl, rfl, trivial⟩ ⟨rfl, rfl, trivial⟩ trivial rfl (by decide) (by decide) (ci := 6) (q0 := 0) rfl rfl rfl hl.1 rfl (lv_room (Nat.le_of_ble_eq_true rfl)) dX6_shapeNamedFrom_40 ⟨Nat.zero_le _, Nat.zero_le _⟩ (fun H locs w => ?_)
        refine lv_if_eq (tgt := 48) C.1 C.2.1 dX6_shapeNamedFrom_43 (by decide) (fun hq12 => ?_) (fun hq12 => ?_)
        · have hf := ite_t hf hq12
          refine lv_aload_n C.1 C.2.1 dX6_shapeNamedFrom_48 rfl (lv_at hl 0 rfl) ?_
          refine lv_iload_n C.1 C.2.1 dX6_shapeNamedFrom_49 rfl (lv_at hl 1 rfl) ?_
          refine va_ldcS C.1 C.2.1 C.2.2.2.1 (w.1.2.2.2.1 4 (by decide)) dX6_shapeNamedFrom_50 ?_
          obtain ⟨r13, hc14, hf⟩ := bd hf
          refine call_Vi (ws' := (wX6_shapeNamedFrom cI cL cS cH a_this a_this_near a_this_letters q_length q_nodes q_at q_fault q_letters)) (rest := []) C w (mX6_isNameFrom l D cI cL cS cH _ 4 (by decide) a_this a_this_near a_this_letters q_length q_nodes q_at q_fault q_letters x1 hc14) (cwV 2 C.2.2.2.2 gX6_shapeNamedFrom_X6_isNameFrom rfl rfl rfl (by decide +kernel) ⟨Nat.le_of_ble_eq_true rfl, Nat.le_of_ble_eq_true rfl⟩) [0, 1] [] 2 ⟨rfl, rfl, trivial⟩ ⟨rfl, rfl, trivial⟩ trivial rfl (by decide) (by decide) (ci := 6) (q0 := 0) rfl rfl rfl hl.1 rfl (lv_room (Nat.le_of_ble_eq_true rfl)) dX6_shapeNamedFrom_52 ⟨Nat.zero_le _, Nat.zero_le _⟩ (fun H locs w => ?_)
          refine lv_if_eq (tgt := 60) C.1 C.2.1 dX6_shapeNamedFrom_55 (by decide) (fun hq15 => ?_) (fun hq15 => ?_)
          · have hf := ite_t hf hq15
            refine lv_aload_n C.1 C.2.1 dX6_shapeNamedFrom_60 rfl (lv_at hl 0 rfl) ?_
            refine lv_iload_n C.1 C.2.1 dX6_shapeNamedFrom_61 rfl (lv_at hl 1 rfl) ?_
            refine va_ldcS C.1 C.2.1 C.2.2.2.1 (w.1.2.2.2.1 5 (by decide)) dX6_shapeNamedFrom_62 ?_
            obtain ⟨r16, hc17, hf⟩ := bd hf
            refine call_Vi (ws' := (wX6_shapeNamedFrom cI cL cS cH a_this a_this_near a_this_letters q_length q_nodes q_at q_fault q_letters)) (rest := []) C w (mX6_isNameFrom l D cI cL cS cH _ 5 (by decide) a_this a_this_near a_this_letters q_length q_nodes q_at q_fault q_letters x1 hc17) (cwV 2 C.2.2.2.2 gX6_shapeNamedFrom_X6_isNameFrom rfl rfl rfl (by decide +kernel) ⟨Nat.le_of_ble_eq_true rfl, Nat.le_of_ble_eq_true rfl⟩) [0, 1] [] 2 ⟨rfl, rfl, trivial⟩ ⟨rfl, rfl, trivial⟩ trivial rfl (by decide) (by decide) (ci := 6) (q0 := 0) rfl rfl rfl hl.1 rfl (lv_room (Nat.le_of_ble_eq_true rfl)) dX6_shapeNamedFrom_64 ⟨Nat.zero_le _, Nat.zero_le _⟩ (fun H locs w => ?_)
            refine lv_if_eq (tgt := 75) C.1 C.2.1 dX6_shapeNamedFrom_67 (by decide) (fun hq18 => ?_) (fun hq18 => ?_)
            · have hf := ite_t hf hq18
              refine lv_iconst (v := (0 : Int32)) C.1 C.2.1 dX6_shapeNamedFrom_75 (by decide) ?_
              have hres := Option.some.inj hf
              subst hres
              exact ret_i C hr hlocks w rfl dX6_shapeNamedFrom_76
            · have hf := ite_f hf hq18
              refine lv_bipush (v := (6 : Int32)) C.1 C.2.1 dX6_shapeNamedFrom_70 (by decide) ?_
              refine lv_goto (tgt := 76) C.1 C.2.1 dX6_shapeNamedFrom_72 (by decide) ?_
              have hres := Option.some.inj hf
              subst hres
              exact ret_i C hr hlocks w rfl dX6_shapeNamedFrom_76
          · have hf := ite_f hf hq15
            refine lv_iconst (v := (5 : Int32)) C.1 C.2.1 dX6_shapeNamedFrom_58 (by decide) ?_
            have hres := Option.some.inj hf
            subst hres
            exact ret_i C hr hlocks w rfl dX6_shapeNamedFrom_59
        · have hf := ite_f hf hq12
          refine lv_iconst (v := (4 : Int32)) C.1 C.2.1 dX6_shapeNamedFrom_46 (by decide) ?_
          have hres := Option.some.inj hf
          subst hres
          exact ret_i C hr hlocks w rfl dX6_shapeNamedFrom_47
      · have hf := ite_f hf hq9
        refine lv_iconst (v := (3 : Int32)) C.1 C.2.1 dX6_shapeNamedFrom_34 (by decide) ?_
        have hres := Option.some.inj hf
        subst hres
        exact ret_i C hr hlocks w rfl dX6_shapeNamedFrom_35
    · have hf := ite_f hf hq6
      refine lv_iconst (v := (2 : Int32)) C.1 C.2.1 dX6_shapeNamedFrom_22 (by decide) ?_
      have hres := Option.some.inj hf
      subst hres
      exact ret_i C hr hlocks w rfl dX6_shapeNamedFrom_23
  · have hf := ite_f hf hq3
    refine lv_iconst (v := (1 : Int32)) C.1 C.2.1 dX6_shapeNamedFrom_10 (by decide) ?_
    have hres := Option.some.inj hf
    subst hres
    exact ret_i C hr hlocks w rfl dX6_shapeNamedFrom_11

set_option maxRecDepth 100000 in
theorem inX6_readName_X6 : ∀ w ∈ u_ws RX6 TX6 6, w ∈ wsX6_readName := by decide +kernel
set_option maxRecDepth 100000 in
theorem lkX6_readName_25 : Cond.fieldLink RX6 25 "CleanNets$Tape" "at" "I" ∈ wsX6_readName := by decide +kernel
set_option maxRecDepth 100000 in
theorem lkX6_readName_9 : Cond.fieldLink RX6 9 "CleanNets$Tape" "length" "I" ∈ wsX6_readName := by decide +kernel
set_option maxRecDepth 100000 in
theorem lkX6_readName_22 : Cond.fieldLink RX6 22 "CleanNets$Tape" "letters" "[I" ∈ wsX6_readName := by decide +kernel
set_option maxRecDepth 100000 in
theorem lkX6_readName_28 : Cond.fieldLink RX6 28 "CleanNets$Tape" "fault" "I" ∈ wsX6_readName := by decide +kernel
abbrev wX6_readName (cI cL cS cH : ClassId) (a_this : Nat) (a_this_near : Nat) (a_this_letters : Nat) (q_length : Int32) (q_nodes : Int32) (q_at : Int32) (q_fault : Int32) (q_letters : Nat → Int32) : va_W := [(a_this, .inr (6, [.int q_length, .int q_nodes, .ref a_this_near, .ref a_this_letters, .int q_at, .int q_fault])),
  (a_this_letters, .inl (cI, 90, .inl q_letters))]
def bX6_readName_9 (q_length : Int32) (q_letters : Nat → Int32) (y9_1 : Int32) (k9_q_fault : Int32) (v9 : Int32) : Option ((Int32) ⊕ (Int32)) := (if q_length ≤ v9 then some (.inr v9) else Option.bind (rd q_letters 90 v9) (fun y2 => (if y2 < (97 : Int32) then some (.inr v9) else Option.bind (rd q_letters 90 v9) (fun y5 => (if (122 : Int32) < y5 then some (.inr v9) else some (.inl (v9 + (1 : Int32))))))))
def fX6_readName (q_length : Int32) (q_at : Int32) (q_fault : Int32) (q_letters : Nat → Int32)  : Option (Int32 × Int32 × Int32) := Option.bind (fX6_skipBlanks q_length q_at q_letters) (fun r8 => Option.bind (itL (bX6_readName_9 q_length q_letters r8 q_fault) fu r8) (fun ex10 => Option.bind (fX6_shapeNamedFrom ex10 q_letters r8) (fun r12 => (if r12 = 0 then some (r12, ex10, r8) else some (r12, ex10, q_fault)))))
abbrev gX6_readName (p : Program) (l : Launch) (e : Env) (s : State) (m : MethodId) (below : List Frame) (meth : Method) (c : Code) (D : vg) (cI cL cS cH : ClassId) (a_this : Nat) (a_this_near : Nat) (a_this_letters : Nat) (q_length : Int32) (q_nodes : Int32) (q_at : Int32) (q_fault : Int32) (q_letters : Nat → Int32) (res : Int32 × Int32 × Int32) (H : Heap) (locs : List Loc) (g : JFrame) : Prop := W p l e (headSpec wsX6_readName ({ frames := 6, cells := 0, slots := 0, locals := 130 })).room s m ([.ref a_this] : List Value).toArray below meth c H locs 0 0 (MQ below (va_Qi (fun r' (_ : Unit) => r' = res.1) (fun _ t => pos1 D s.heap.size (wX6_readName cI cL cS cH a_this a_this_near a_this_letters q_length q_nodes q_at q_fault q_letters) (wX6_readName cI cL cS cH a_this a_this_near a_this_letters q_length q_nodes res.2.1 res.2.2 q_letters) t) (va_A (wX6_readName cI cL cS cH a_this a_this_near a_this_letters q_length q_nodes q_at q_fault q_letters) s.heap.size)) ([.ref a_this] : List Value).toArray s 0 0 (va_A (wX6_readName cI cL cS cH a_this a_this_near a_this_letters q_length q_nodes q_at q_fault q_letters) s.heap.size)) g
set_option maxHeartbeats 4000000 in
set_option maxRecDepth 100000 in
theorem mX6_readName (l : Launch) (D : vg) (cI cL cS cH : ClassId) (sz : Nat) (a_this : Nat) (a_this_near : Nat) (a_this_letters : Nat) (q_length : Int32) (q_nodes : Int32) (q_at : Int32) (q_fault : Int32) (q_letters : Nat → Int32) {res : Int32 × Int32 × Int32} (hf : fX6_readName q_length q_at q_fault q_letters = some res) : cti l yX6_readName wsX6_readName ({ frames := 6, cells := 0, slots := 0, locals := 130 }) D (ty4 cI cL cS cH) sz [.ref a_this] (wX6_readName cI cL cS cH a_this a_this_near a_this_letters q_length q_nodes q_at q_fault q_letters) (wX6_readName cI cL cS cH a_this a_this_near a_this_letters q_length q_nodes res.2.1 res.2.2 q_letters) res.1 := by
  refine Met.ofW (cc := cX6_readName) (maxL := 3) (ret := (some .int)) (by decide) rfl ?_
  intro p e s m args below meth c s₁ B hml hv
  obtain ⟨rfl, hpre⟩ := hv
  obtain rfl := hpre.1
  have C : CallFix p m c cX6_readName 3 s _ wsX6_readName RX6 := ⟨B.exec, B.bytes, hml, findClass_of_methodNamed B.named, atoms_spec (ws := wsX6_readName) B.pre⟩
  have hr := B.returns
  have hlocks := B.notSynchronized
  have w := wd_start hpre
  clear hpre B
  have hl := lv_entry ([.ref a_this]) (n := 3) (Nat.le_of_ble_eq_true rfl)
  rw [lg_entry_eq]
  generalize (lg_sl ([.ref a_this]) ++ List.replicate (3 - (lg_sl ([.ref a_this])).length) Slot.unset).toArray = ls at hl ⊢
  have hl : lv_has ls 3 [(0, .ref a_this)] := hl
  unfold fX6_readName at hf
  have hlp9 : ∀ (y9_1 : Int32) (k9_q_fault : Int32) (ex9 : Int32) (hk : (∀ (H : Heap) (locs : List Loc) (ls : Array Slot), wd D (ty4 cI cL cS cH) s (va_A (wX6_readName cI cL cS cH a_this a_this_near a_this_letters q_length q_nodes q_at q_fault q_letters) s.heap.size) s.heap H locs (wX6_readName cI cL cS cH a_this a_this_near a_this_letters q_length q_nodes ex9 k9_q_fault q_letters) → lv_has ls 3 [(0, .ref a_this), (1, .int y9_1)] → gX6_readName p l e s m below meth c D cI cL cS cH a_this a_this_near a_this_letters q_length q_nodes q_at q_fault q_letters res H locs (F0 m 61 ls []))) (n : Nat) (v9 : Int32) (H : Heap) (locs : List Loc) (ls : Array Slot), itL (bX6_readName_9 q_length q_letters y9_1 k9_q_fault) n v9 = some ex9 → wd D (ty4 cI cL cS cH) s (va_A (wX6_readName cI cL cS cH a_this a_this_near a_this_letters q_length q_nodes q_at q_fault q_letters) s.heap.size) s.heap H locs (wX6_readName cI cL cS cH a_this a_this_near a_this_letters q_length q_nodes v9 k9_q_fault q_letters) → lv_has ls 3 [(0, .ref a_this), (1, .int y9_1)] → gX6_readName p l e s m below meth c D cI cL cS cH a_this a_this_near a_this_letters q_length q_nodes q_at q_fault q_letters res H locs (F0 m 9 ls []) := by
    intro y9_1 k9_q_fault ex9 hk n
    induction n with
    | zero => intro v9 H locs ls hi w hl; exact (itL_zero hi).elim
    | succ n ih =>
      intro v9 H locs ls hi w hl
      obtain ⟨o, hf, hn⟩ := itL_succ hi
      unfold bX6_readName_9 at hf
      refine lv_aload_n C.1 C.2.1 dX6_readName_9 rfl (lv_at hl 0 rfl) ?_
      refine r_get C w inX6_readName_X6 0 rfl rfl 4 (by decide) lkX6_readName_25 rfl dX6_readName_10 ?_
      refine lv_aload_n C.1 C.2.1 dX6_readName_13 rfl (lv_at hl 0 rfl) ?_
      refine r_get C w inX6_readName_X6 0 rfl rfl 0 (by decide) lkX6_readName_9 rfl dX6_readName_14 ?_
      refine lv_icmp_ge (tgt := 61) C.1 C.2.1 dX6_readName_17 (by decide) (fun hq1 => ?_) (fun hq1 => ?_)
      · have hf := ite_t hf hq1
        obtain rfl := Option.some.inj hf
        obtain rfl := hn
        exact hk _ _ _ w (lv_sub hl [0, 1] rfl)
      · have hf := ite_f hf hq1
        refine lv_aload_n C.1 C.2.1 dX6_readName_20 rfl (lv_at hl 0 rfl) ?_
        refine r_get C w inX6_readName_X6 0 rfl rfl 3 (by decide) lkX6_readName_22 rfl dX6_readName_21 ?_
        refine lv_aload_n C.1 C.2.1 dX6_readName_24 rfl (lv_at hl 0 rfl) ?_
        refine r_get C w inX6_readName_X6 0 rfl rfl 4 (by decide) lkX6_readName_25 rfl dX6_readName_25 ?_
        obtain ⟨y2, hy3, hf⟩ := bd hf
        refine r_iald C w 1 0 rfl rfl (rd_in hy3) dX6_readName_28 ?_
        refine lv_bipush (v := (97 : Int32)) C.1 C.2.1 dX6_readName_29 (by decide) ?_
        refine lv_icmp_lt (tgt := 61) C.1 C.2.1 dX6_readName_31 (by decide) (fun hq4 => ?_) (fun hq4 => ?_)
        · have hf := ite_t hf hq4
          obtain rfl := Option.some.inj hf
          obtain rfl := hn
          exact hk _ _ _ w (lv_sub hl [0, 1] rfl)
        · have hf := ite_f hf hq4
          refine lv_aload_n C.1 C.2.1 dX6_readName_34 rfl (lv_at hl 0 rfl) ?_
          refine r_get C w inX6_readName_X6 0 rfl rfl 3 (by decide) lkX6_readName_22 rfl dX6_readName_35 ?_
          refine lv_aload_n C.1 C.2.1 dX6_readName_38 rfl (lv_at hl 0 rfl) ?_
          refine r_get C w inX6_readName_X6 0 rfl rfl 4 (by decide) lkX6_readName_25 rfl dX6_readName_39 ?_
          obtain ⟨y5, hy6, hf⟩ := bd hf
          refine r_iald C w 1 0 rfl rfl (rd_in hy6) dX6_readName_42 ?_
          refine lv_bipush (v := (122 : Int32)) C.1 C.2.1 dX6_readName_43 (by decide) ?_
          refine lv_icmp_gt (tgt := 61) C.1 C.2.1 dX6_readName_45 (by decide) (fun hq7 => ?_) (fun hq7 => ?_)
          · have hf := ite_t hf hq7
            obtain rfl := Option.some.inj hf
            obtain rfl := hn
            exact hk _ _ _ w (lv_sub hl [0, 1] rfl)
          · have hf := ite_f hf hq7
            refine lv_aload_n C.1 C.2.1 dX6_readName_48 rfl (lv_at hl 0 rfl) ?_
            refine lv_dup C.1 C.2.1 dX6_readName_49 rfl ?_
            refine r_get C w inX6_readName_X6 0 rfl rfl 4 (by decide) lkX6_readName_25 rfl dX6_readName_50 ?_
            refine lv_iconst (v := (1 : Int32)) C.1 C.2.1 dX6_readName_53 (by decide) ?_
            refine lv_iadd C.1 C.2.1 dX6_readName_54 ?_
            refine r_put (ws' := (wX6_readName cI cL cS cH a_this a_this_near a_this_letters q_length q_nodes (v9 + (1 : Int32)) k9_q_fault q_letters)) C w inX6_readName_X6 tyX6 tyX6_ok nmX6 0 rfl rfl 4 (by decide) lkX6_readName_25 rfl rfl rfl (Nat.le_of_ble_eq_true rfl) rfl dX6_readName_55 (fun H locs w => ?_)
            refine lv_goto (tgt := 9) C.1 C.2.1 dX6_readName_58 (by decide) ?_
            obtain rfl := Option.some.inj hf
            exact ih (v9 + (1 : Int32)) _ _ _ hn w (lv_sub hl [0, 1] rfl)
  refine lv_aload_n C.1 C.2.1 dX6_readName_0 rfl (lv_at hl 0 rfl) ?_
  obtain ⟨r8, hc9, hf⟩ := bd hf
  refine call_Vv (ws' := (wX6_readName cI cL cS cH a_this a_this_near a_this_letters q_length q_nodes r8 q_fault q_letters)) (rest := []) C w (mX6_skipBlanks l D cI cL cS cH _ a_this a_this_near a_this_letters q_length q_nodes q_at q_fault q_letters hc9) (cwV 0 C.2.2.2.2 gX6_readName_X6_skipBlanks rfl rfl rfl (by decide +kernel) ⟨Nat.le_of_ble_eq_true rfl, Nat.le_of_ble_eq_true rfl⟩) [0, 1] [] 2 ⟨rfl, rfl, trivial⟩ ⟨rfl, rfl, trivial⟩ trivial rfl (by decide) (by decide) (ci := 6) (q0 := 0) rfl rfl rfl hl.1 rfl (lv_room (Nat.le_of_ble_eq_true rfl)) dX6_readName_1 ⟨Nat.zero_le _, Nat.zero_le _⟩ (fun H locs w => ?_)
  refine lv_aload_n C.1 C.2.1 dX6_readName_4 rfl (lv_at hl 0 rfl) ?_
  refine r_get C w inX6_readName_X6 0 rfl rfl 4 (by decide) lkX6_readName_25 rfl dX6_readName_5 ?_
  refine lv_istore_n (lv' := [(1, .int r8), (0, .ref a_this)]) C.1 C.2.1 dX6_readName_8 rfl hl (by decide) rfl (fun ls hl => ?_)
  obtain ⟨ex10, hx11, hf⟩ := bd hf
  refine hlp9 r8 q_fault ex10 ?_ fu r8 _ _ _ hx11 w (lv_sub hl [1, 0] rfl)
  intro H locs ls w hl
  refine lv_aload_n C.1 C.2.1 dX6_readName_61 rfl (lv_at hl 0 rfl) ?_
  refine lv_iload_n C.1 C.2.1 dX6_readName_62 rfl (lv_at hl 1 rfl) ?_
  obtain ⟨r12, hc13, hf⟩ := bd hf
  refine call_Vi (ws' := (wX6_readName cI cL cS cH a_this a_this_near a_this_letters q_length q_nodes ex10 q_fault q_letters)) (rest := []) C w (mX6_shapeNamedFrom l D cI cL cS cH _ a_this a_this_near a_this_letters q_length q_nodes ex10 q_fault q_letters r8 hc13) (cwV 1 C.2.2.2.2 gX6_readName_X6_shapeNamedFrom rfl rfl rfl (by decide +kernel) ⟨Nat.le_of_ble_eq_true rfl, Nat.le_of_ble_eq_true rfl⟩) [0, 1] [] 2 ⟨rfl, rfl, trivial⟩ ⟨rfl, rfl, trivial⟩ trivial rfl (by decide) (by decide) (ci := 6) (q0 := 0) rfl rfl rfl hl.1 rfl (lv_room (Nat.le_of_ble_eq_true rfl)) dX6_readName_63 ⟨Nat.zero_le _, Nat.zero_le _⟩ (fun H locs w => ?_)
  refine lv_istore_n (lv' := [(2, .int r12), (0, .ref a_this), (1, .int r8)]) C.1 C.2.1 dX6_readName_66 rfl hl (by decide) rfl (fun ls hl => ?_)
  refine lv_iload_n C.1 C.2.1 dX6_readName_67 rfl (lv_at hl 0 rfl) ?_
  refine lv_if_ne (tgt := 76) C.1 C.2.1 dX6_readName_68 (by decide) (fun hq14 => ?_) (fun hq14 => ?_)
  · have hf := ite_f hf hq14
    refine lv_iload_n C.1 C.2.1 dX6_readName_76 rfl (lv_at hl 0 rfl) ?_
    have hres := Option.some.inj hf
    subst hres
    exact ret_i C hr hlocks w rfl dX6_readName_77
  · have hf := ite_t hf hq14
    refine lv_aload_n C.1 C.2.1 dX6_readName_71 rfl (lv_at hl 1 rfl) ?_
    refine lv_iload_n C.1 C.2.1 dX6_readName_72 rfl (lv_at hl 2 rfl) ?_
    refine r_put (ws' := (wX6_readName cI cL cS cH a_this a_this_near a_this_letters q_length q_nodes ex10 r8 q_letters)) C w inX6_readName_X6 tyX6 tyX6_ok nmX6 0 rfl rfl 5 (by decide) lkX6_readName_28 rfl rfl rfl (Nat.le_of_ble_eq_true rfl) rfl dX6_readName_73 (fun H locs w => ?_)
    refine lv_iload_n C.1 C.2.1 dX6_readName_76 rfl (lv_at hl 0 rfl) ?_
    have hres := Option.some.inj hf
    subst hres
    exact ret_i C hr hlocks w rfl dX6_readName_77

set_option maxRecDepth 100000 in
theorem inX6_readFigure_X6 : ∀ w ∈ u_ws RX6 TX6 6, w ∈ wsX6_readFigure := by decide +kernel
set_option maxRecDepth 100000 in
theorem lkX6_readFigure_25 : Cond.fieldLink RX6 25 "CleanNets$Tape" "at" "I" ∈ wsX6_readFigure := by decide +kernel
set_option maxRecDepth 100000 in
theorem lkX6_readFigure_28 : Cond.fieldLink RX6 28 "CleanNets$Tape" "fault" "I" ∈ wsX6_readFigure := by decide +kernel
set_option maxRecDepth 100000 in
theorem lkX6_readFigure_9 : Cond.fieldLink RX6 9 "CleanNets$Tape" "length" "I" ∈ wsX6_readFigure := by decide +kernel
set_option maxRecDepth 100000 in
theorem lkX6_readFigure_22 : Cond.fieldLink RX6 22 "CleanNets$Tape" "letters" "[I" ∈ wsX6_readFigure := by decide +kernel
abbrev wX6_readFigure (cI cL cS cH : ClassId) (a_this : Nat) (a_this_near : Nat) (a_this_letters : Nat) (q_length : Int32) (q_nodes : Int32) (q_at : Int32) (q_fault : Int32) (q_letters : Nat → Int32) : va_W := [(a_this, .inr (6, [.int q_length, .int q_nodes, .ref a_this_near, .ref a_this_letters, .int q_at, .int q_fault])),
  (a_this_letters, .inl (cI, 90, .inl q_letters))]
def jX6_readFigure_47 (q_length : Int32) (q_letters : Nat → Int32) (k47_q_at : Int32) (k47_q_fault : Int32) : Option (Int32 × Int32 × Int32) := some ((-1 : Int32), k47_q_at, k47_q_at)
def fX6_readFigure (q_length : Int32) (q_at : Int32) (q_fault : Int32) (q_letters : Nat → Int32) (x1 : Int32) (x2 : Int32) : Option (Int32 × Int32 × Int32) := Option.bind (fX6_skipBlanks q_length q_at q_letters) (fun r1 => (if q_length ≤ r1 then jX6_readFigure_47 q_length q_letters r1 q_fault else Option.bind (rd q_letters 90 r1) (fun y4 => (if y4 < ((48 : Int32) + x1) then jX6_readFigure_47 q_length q_letters r1 q_fault else Option.bind (rd q_letters 90 r1) (fun y7 => (if y7 ≤ ((48 : Int32) + x2) then Option.bind (rd q_letters 90 ((r1 + (1 : Int32)) - (1 : Int32))) (fun y10 => some ((y10 - (48 : Int32)), (r1 + (1 : Int32)), q_fault)) else jX6_readFigure_47 q_length q_letters r1 q_fault))))))
abbrev gX6_readFigure (p : Program) (l : Launch) (e : Env) (s : State) (m : MethodId) (below : List Frame) (meth : Method) (c : Code) (D : vg) (cI cL cS cH : ClassId) (a_this : Nat) (a_this_near : Nat) (a_this_letters : Nat) (q_length : Int32) (q_nodes : Int32) (q_at : Int32) (q_fault : Int32) (q_letters : Nat → Int32) (x1 : Int32) (x2 : Int32) (res : Int32 × Int32 × Int32) (H : Heap) (locs : List Loc) (g : JFrame) : Prop := W p l e (headSpec wsX6_readFigure ({ frames := 1, cells := 0, slots := 0, locals := 20 })).room s m ([.ref a_this, .int x1, .int x2] : List Value).toArray below meth c H locs 0 0 (MQ below (va_Qi (fun r' (_ : Unit) => r' = res.1) (fun _ t => pos1 D s.heap.size (wX6_readFigure cI cL cS cH a_this a_this_near a_this_letters q_length q_nodes q_at q_fault q_letters) (wX6_readFigure cI cL cS cH a_this a_this_near a_this_letters q_length q_nodes res.2.1 res.2.2 q_letters) t) (va_A (wX6_readFigure cI cL cS cH a_this a_this_near a_this_letters q_length q_nodes q_at q_fault q_letters) s.heap.size)) ([.ref a_this, .int x1, .int x2] : List Value).toArray s 0 0 (va_A (wX6_readFigure cI cL cS cH a_this a_this_near a_this_letters q_length q_nodes q_at q_fault q_letters) s.heap.size)) g
set_option maxHeartbeats 4000000 in
set_option maxRecDepth 100000 in
theorem mX6_readFigure (l : Launch) (D : vg) (cI cL cS cH : ClassId) (sz : Nat) (a_this : Nat) (a_this_near : Nat) (a_this_letters : Nat) (q_length : Int32) (q_nodes : Int32) (q_at : Int32) (q_fault : Int32) (q_letters : Nat → Int32) (x1 : Int32) (x2 : Int32) {res : Int32 × Int32 × Int32} (hf : fX6_readFigure q_length q_at q_fault q_letters x1 x2 = some res) : cti l yX6_readFigure wsX6_readFigure ({ frames := 1, cells := 0, slots := 0, locals := 20 }) D (ty4 cI cL cS cH) sz [.ref a_this, .int x1, .int x2] (wX6_readFigure cI cL cS cH a_this a_this_near a_this_letters q_length q_nodes q_at q_fault q_letters) (wX6_readFigure cI cL cS cH a_this a_this_near a_this_letters q_length q_nodes res.2.1 res.2.2 q_letters) res.1 := by
  refine Met.ofW (cc := cX6_readFigure) (maxL := 3) (ret := (some .int)) (by decide) rfl ?_
  intro p e s m args below meth c s₁ B hml hv
  obtain ⟨rfl, hpre⟩ := hv
  obtain rfl := hpre.1
  have C : CallFix p m c cX6_readFigure 3 s _ wsX6_readFigure RX6 := ⟨B.exec, B.bytes, hml, findClass_of_methodNamed B.named, atoms_spec (ws := wsX6_readFigure) B.pre⟩
  have hr := B.returns
  have hlocks := B.notSynchronized
  have w := wd_start hpre
  clear hpre B
  have hl := lv_entry ([.ref a_this, .int x1, .int x2]) (n := 3) (Nat.le_of_ble_eq_true rfl)
  rw [lg_entry_eq]
  generalize (lg_sl ([.ref a_this, .int x1, .int x2]) ++ List.replicate (3 - (lg_sl ([.ref a_this, .int x1, .int x2])).length) Slot.unset).toArray = ls at hl ⊢
  have hl : lv_has ls 3 [(0, .ref a_this), (1, .int x1), (2, .int x2)] := hl
  unfold fX6_readFigure at hf
  have hj47 : ∀ (k47_q_at : Int32) (k47_q_fault : Int32) (H : Heap) (locs : List Loc) (ls : Array Slot), wd D (ty4 cI cL cS cH) s (va_A (wX6_readFigure cI cL cS cH a_this a_this_near a_this_letters q_length q_nodes q_at q_fault q_letters) s.heap.size) s.heap H locs (wX6_readFigure cI cL cS cH a_this a_this_near a_this_letters q_length q_nodes k47_q_at k47_q_fault q_letters) → lv_has ls 3 [(0, .ref a_this)] → jX6_readFigure_47 q_length q_letters k47_q_at k47_q_fault = some res → gX6_readFigure p l e s m below meth c D cI cL cS cH a_this a_this_near a_this_letters q_length q_nodes q_at q_fault q_letters x1 x2 res H locs (F0 m 47 ls []) := by
    intro k47_q_at k47_q_fault H locs ls w hl hf
    unfold jX6_readFigure_47 at hf
    refine lv_aload_n C.1 C.2.1 dX6_readFigure_47 rfl (lv_at hl 0 rfl) ?_
    refine lv_aload_n C.1 C.2.1 dX6_readFigure_48 rfl (lv_at hl 0 rfl) ?_
    refine r_get C w inX6_readFigure_X6 0 rfl rfl 4 (by decide) lkX6_readFigure_25 rfl dX6_readFigure_49 ?_
    refine r_put (ws' := (wX6_readFigure cI cL cS cH a_this a_this_near a_this_letters q_length q_nodes k47_q_at k47_q_at q_letters)) C w inX6_readFigure_X6 tyX6 tyX6_ok nmX6 0 rfl rfl 5 (by decide) lkX6_readFigure_28 rfl rfl rfl (Nat.le_of_ble_eq_true rfl) rfl dX6_readFigure_52 (fun H locs w => ?_)
    refine lv_iconst (v := (-1 : Int32)) C.1 C.2.1 dX6_readFigure_55 (by decide) ?_
    have hres := Option.some.inj hf
    subst hres
    exact ret_i C hr hlocks w rfl dX6_readFigure_56
  refine lv_aload_n C.1 C.2.1 dX6_readFigure_0 rfl (lv_at hl 0 rfl) ?_
  obtain ⟨r1, hc2, hf⟩ := bd hf
  refine call_Vv (ws' := (wX6_readFigure cI cL cS cH a_this a_this_near a_this_letters q_length q_nodes r1 q_fault q_letters)) (rest := []) C w (mX6_skipBlanks l D cI cL cS cH _ a_this a_this_near a_this_letters q_length q_nodes q_at q_fault q_letters hc2) (cwV 0 C.2.2.2.2 gX6_readFigure_X6_skipBlanks rfl rfl rfl (by decide +kernel) ⟨Nat.le_of_ble_eq_true rfl, Nat.le_of_ble_eq_true rfl⟩) [0, 1] [] 2 ⟨rfl, rfl, trivial⟩ ⟨rfl, rfl, trivial⟩ trivial rfl (by decide) (by decide) (ci := 6) (q0 := 0) rfl rfl rfl hl.1 rfl (lv_room (Nat.le_of_ble_eq_true rfl)) dX6_readFigure_1 ⟨Nat.zero_le _, Nat.zero_le _⟩ (fun H locs w => ?_)
  refine lv_aload_n C.1 C.2.1 dX6_readFigure_4 rfl (lv_at hl 0 rfl) ?_
  refine r_get C w inX6_readFigure_X6 0 rfl rfl 4 (by decide) lkX6_readFigure_25 rfl dX6_readFigure_5 ?_
  refine lv_aload_n C.1 C.2.1 dX6_readFigure_8 rfl (lv_at hl 0 rfl) ?_
  refine r_get C w inX6_readFigure_X6 0 rfl rfl 0 (by decide) lkX6_readFigure_9 rfl dX6_readFigure_9 ?_
  refine lv_icmp_ge (tgt := 47) C.1 C.2.1 dX6_readFigure_12 (by decide) (fun hq3 => ?_) (fun hq3 => ?_)
  · have hf := ite_t hf hq3
    exact hj47 r1 q_fault _ _ _ w (lv_sub hl [0] rfl) hf
  · have hf := ite_f hf hq3
    refine lv_aload_n C.1 C.2.1 dX6_readFigure_15 rfl (lv_at hl 0 rfl) ?_
    refine r_get C w inX6_readFigure_X6 0 rfl rfl 3 (by decide) lkX6_readFigure_22 rfl dX6_readFigure_16 ?_
    refine lv_aload_n C.1 C.2.1 dX6_readFigure_19 rfl (lv_at hl 0 rfl) ?_
    refine r_get C w inX6_readFigure_X6 0 rfl rfl 4 (by decide) lkX6_readFigure_25 rfl dX6_readFigure_20 ?_
    obtain ⟨y4, hy5, hf⟩ := bd hf
    refine r_iald C w 1 0 rfl rfl (rd_in hy5) dX6_readFigure_23 ?_
    refine lv_bipush (v := (48 : Int32)) C.1 C.2.1 dX6_readFigure_24 (by decide) ?_
    refine lv_iload_n C.1 C.2.1 dX6_readFigure_26 rfl (lv_at hl 1 rfl) ?_
    refine lv_iadd C.1 C.2.1 dX6_readFigure_27 ?_
    refine lv_icmp_lt (tgt := 47) C.1 C.2.1 dX6_readFigure_28 (by decide) (fun hq6 => ?_) (fun hq6 => ?_)
    · have hf := ite_t hf hq6
      exact hj47 r1 q_fault _ _ _ w (lv_sub hl [0] rfl) hf
    · have hf := ite_f hf hq6
      refine lv_aload_n C.1 C.2.1 dX6_readFigure_31 rfl (lv_at hl 0 rfl) ?_
      refine r_get C w inX6_readFigure_X6 0 rfl rfl 3 (by decide) lkX6_readFigure_22 rfl dX6_readFigure_32 ?_
      refine lv_aload_n C.1 C.2.1 dX6_readFigure_35 rfl (lv_at hl 0 rfl) ?_
      refine r_get C w inX6_readFigure_X6 0 rfl rfl 4 (by decide) lkX6_readFigure_25 rfl dX6_readFigure_36 ?_
      obtain ⟨y7, hy8, hf⟩ := bd hf
      refine r_iald C w 1 0 rfl rfl (rd_in hy8) dX6_readFigure_39 ?_
      refine lv_bipush (v := (48 : Int32)) C.1 C.2.1 dX6_readFigure_40 (by decide) ?_
      refine lv_iload_n C.1 C.2.1 dX6_readFigure_42 rfl (lv_at hl 2 rfl) ?_
      refine lv_iadd C.1 C.2.1 dX6_readFigure_43 ?_
      refine lv_icmp_le (tgt := 57) C.1 C.2.1 dX6_readFigure_44 (by decide) (fun hq9 => ?_) (fun hq9 => ?_)
      · have hf := ite_t hf hq9
        refine lv_aload_n C.1 C.2.1 dX6_readFigure_57 rfl (lv_at hl 0 rfl) ?_
        refine lv_dup C.1 C.2.1 dX6_readFigure_58 rfl ?_
        refine r_get C w inX6_readFigure_X6 0 rfl rfl 4 (by decide) lkX6_readFigure_25 rfl dX6_readFigure_59 ?_
        refine lv_iconst (v := (1 : Int32)) C.1 C.2.1 dX6_readFigure_62 (by decide) ?_
        refine lv_iadd C.1 C.2.1 dX6_readFigure_63 ?_
        refine r_put (ws' := (wX6_readFigure cI cL cS cH a_this a_this_near a_this_letters q_length q_nodes (r1 + (1 : Int32)) q_fault q_letters)) C w inX6_readFigure_X6 tyX6 tyX6_ok nmX6 0 rfl rfl 4 (by decide) lkX6_readFigure_25 rfl rfl rfl (Nat.le_of_ble_eq_true rfl) rfl dX6_readFigure_64 (fun H locs w => ?_)
        refine lv_aload_n C.1 C.2.1 dX6_readFigure_67 rfl (lv_at hl 0 rfl) ?_
        refine r_get C w inX6_readFigure_X6 0 rfl rfl 3 (by decide) lkX6_readFigure_22 rfl dX6_readFigure_68 ?_
        refine lv_aload_n C.1 C.2.1 dX6_readFigure_71 rfl (lv_at hl 0 rfl) ?_
        refine r_get C w inX6_readFigure_X6 0 rfl rfl 4 (by decide) lkX6_readFigure_25 rfl dX6_readFigure_72 ?_
        refine lv_iconst (v := (1 : Int32)) C.1 C.2.1 dX6_readFigure_75 (by decide) ?_
        refine lv_isub C.1 C.2.1 dX6_readFigure_76 ?_
        obtain ⟨y10, hy11, hf⟩ := bd hf
        refine r_iald C w 1 0 rfl rfl (rd_in hy11) dX6_readFigure_77 ?_
        refine lv_bipush (v := (48 : Int32)) C.1 C.2.1 dX6_readFigure_78 (by decide) ?_
        refine lv_isub C.1 C.2.1 dX6_readFigure_80 ?_
        have hres := Option.some.inj hf
        subst hres
        exact ret_i C hr hlocks w rfl dX6_readFigure_81
      · have hf := ite_f hf hq9
        exact hj47 r1 q_fault _ _ _ w (lv_sub hl [0] rfl) hf

set_option maxRecDepth 100000 in
theorem inX6_skipsSign_X6 : ∀ w ∈ u_ws RX6 TX6 6, w ∈ wsX6_skipsSign := by decide +kernel
set_option maxRecDepth 100000 in
theorem lkX6_skipsSign_25 : Cond.fieldLink RX6 25 "CleanNets$Tape" "at" "I" ∈ wsX6_skipsSign := by decide +kernel
set_option maxRecDepth 100000 in
theorem lkX6_skipsSign_9 : Cond.fieldLink RX6 9 "CleanNets$Tape" "length" "I" ∈ wsX6_skipsSign := by decide +kernel
set_option maxRecDepth 100000 in
theorem lkX6_skipsSign_22 : Cond.fieldLink RX6 22 "CleanNets$Tape" "letters" "[I" ∈ wsX6_skipsSign := by decide +kernel
abbrev wX6_skipsSign (cI cL cS cH : ClassId) (a_this : Nat) (a_this_near : Nat) (a_this_letters : Nat) (q_length : Int32) (q_nodes : Int32) (q_at : Int32) (q_fault : Int32) (q_letters : Nat → Int32) : va_W := [(a_this, .inr (6, [.int q_length, .int q_nodes, .ref a_this_near, .ref a_this_letters, .int q_at, .int q_fault])),
  (a_this_letters, .inl (cI, 90, .inl q_letters))]
def jX6_skipsSign_33 (q_length : Int32) (q_letters : Nat → Int32) (z33_0 : Int32) (k33_q_at : Int32) : Option (Int32 × Int32) := (if z33_0 = 0 then Option.bind (bz z33_0) (fun _ => some (z33_0, k33_q_at)) else Option.bind (bz z33_0) (fun _ => some (z33_0, (k33_q_at + (1 : Int32)))))
def jX6_skipsSign_32 (q_length : Int32) (q_letters : Nat → Int32) (k32_q_at : Int32) : Option (Int32 × Int32) := jX6_skipsSign_33 q_length q_letters (0 : Int32) k32_q_at
def fX6_skipsSign (q_length : Int32) (q_at : Int32) (q_letters : Nat → Int32) (x1 : Int32) : Option (Int32 × Int32) := Option.bind (fX6_skipBlanks q_length q_at q_letters) (fun r4 => (if q_length ≤ r4 then jX6_skipsSign_32 q_length q_letters r4 else Option.bind (rd q_letters 90 r4) (fun y7 => (if y7 = x1 then jX6_skipsSign_33 q_length q_letters (1 : Int32) r4 else jX6_skipsSign_32 q_length q_letters r4))))
abbrev gX6_skipsSign (p : Program) (l : Launch) (e : Env) (s : State) (m : MethodId) (below : List Frame) (meth : Method) (c : Code) (D : vg) (cI cL cS cH : ClassId) (a_this : Nat) (a_this_near : Nat) (a_this_letters : Nat) (q_length : Int32) (q_nodes : Int32) (q_at : Int32) (q_fault : Int32) (q_letters : Nat → Int32) (x1 : Int32) (res : Int32 × Int32) (H : Heap) (locs : List Loc) (g : JFrame) : Prop := W p l e (headSpec wsX6_skipsSign ({ frames := 1, cells := 0, slots := 0, locals := 20 })).room s m ([.ref a_this, .int x1] : List Value).toArray below meth c H locs 0 0 (MQ below (va_Qi (fun r' (_ : Unit) => r' = res.1) (fun _ t => pos1 D s.heap.size (wX6_skipsSign cI cL cS cH a_this a_this_near a_this_letters q_length q_nodes q_at q_fault q_letters) (wX6_skipsSign cI cL cS cH a_this a_this_near a_this_letters q_length q_nodes res.2 q_fault q_letters) t) (va_A (wX6_skipsSign cI cL cS cH a_this a_this_near a_this_letters q_length q_nodes q_at q_fault q_letters) s.heap.size)) ([.ref a_this, .int x1] : List Value).toArray s 0 0 (va_A (wX6_skipsSign cI cL cS cH a_this a_this_near a_this_letters q_length q_nodes q_at q_fault q_letters) s.heap.size)) g
set_option maxHeartbeats 4000000 in
set_option maxRecDepth 100000 in
theorem mX6_skipsSign (l : Launch) (D : vg) (cI cL cS cH : ClassId) (sz : Nat) (a_this : Nat) (a_this_near : Nat) (a_this_letters : Nat) (q_length : Int32) (q_nodes : Int32) (q_at : Int32) (q_fault : Int32) (q_letters : Nat → Int32) (x1 : Int32) {res : Int32 × Int32} (hf : fX6_skipsSign q_length q_at q_letters x1 = some res) : cti l yX6_skipsSign wsX6_skipsSign ({ frames := 1, cells := 0, slots := 0, locals := 20 }) D (ty4 cI cL cS cH) sz [.ref a_this, .int x1] (wX6_skipsSign cI cL cS cH a_this a_this_near a_this_letters q_length q_nodes q_at q_fault q_letters) (wX6_skipsSign cI cL cS cH a_this a_this_near a_this_letters q_length q_nodes res.2 q_fault q_letters) res.1 := by
  refine Met.ofW (cc := cX6_skipsSign) (maxL := 3) (ret := (some .boolean)) (by decide) rfl ?_
  intro p e s m args below meth c s₁ B hml hv
  obtain ⟨rfl, hpre⟩ := hv
  obtain rfl := hpre.1
  have C : CallFix p m c cX6_skipsSign 3 s _ wsX6_skipsSign RX6 := ⟨B.exec, B.bytes, hml, findClass_of_methodNamed B.named, atoms_spec (ws := wsX6_skipsSign) B.pre⟩
  have hr := B.returns
  have hlocks := B.notSynchronized
  have w := wd_start hpre
  clear hpre B
  have hl := lv_entry ([.ref a_this, .int x1]) (n := 3) (Nat.le_of_ble_eq_true rfl)
  rw [lg_entry_eq]
  generalize (lg_sl ([.ref a_this, .int x1]) ++ List.replicate (3 - (lg_sl ([.ref a_this, .int x1])).length) Slot.unset).toArray = ls at hl ⊢
  have hl : lv_has ls 3 [(0, .ref a_this), (1, .int x1)] := hl
  unfold fX6_skipsSign at hf
  have hj33 : ∀ (z33_0 : Int32) (k33_q_at : Int32) (H : Heap) (locs : List Loc) (ls : Array Slot), wd D (ty4 cI cL cS cH) s (va_A (wX6_skipsSign cI cL cS cH a_this a_this_near a_this_letters q_length q_nodes q_at q_fault q_letters) s.heap.size) s.heap H locs (wX6_skipsSign cI cL cS cH a_this a_this_near a_this_letters q_length q_nodes k33_q_at q_fault q_letters) → lv_has ls 3 [(0, .ref a_this)] → jX6_skipsSign_33 q_length q_letters z33_0 k33_q_at = some res → gX6_skipsSign p l e s m below meth c D cI cL cS cH a_this a_this_near a_this_letters q_length q_nodes q_at q_fault q_letters x1 res H locs (F0 m 33 ls [.int z33_0]) := by
    intro z33_0 k33_q_at H locs ls w hl hf
    unfold jX6_skipsSign_33 at hf
    refine lv_istore_n (lv' := [(2, .int z33_0), (0, .ref a_this)]) C.1 C.2.1 dX6_skipsSign_33 rfl hl (by decide) rfl (fun ls hl => ?_)
    refine lv_iload_n C.1 C.2.1 dX6_skipsSign_34 rfl (lv_at hl 0 rfl) ?_
    refine lv_if_eq (tgt := 48) C.1 C.2.1 dX6_skipsSign_35 (by decide) (fun hq1 => ?_) (fun hq1 => ?_)
    · have hf := ite_t hf hq1
      refine lv_iload_n C.1 C.2.1 dX6_skipsSign_48 rfl (lv_at hl 0 rfl) ?_
      obtain ⟨_, hb2, hf⟩ := bd hf
      have hres := Option.some.inj hf
      subst hres
      exact ret_z C hr hlocks w (bz_in hb2).1 rfl dX6_skipsSign_49
    · have hf := ite_f hf hq1
      refine lv_aload_n C.1 C.2.1 dX6_skipsSign_38 rfl (lv_at hl 1 rfl) ?_
      refine lv_dup C.1 C.2.1 dX6_skipsSign_39 rfl ?_
      refine r_get C w inX6_skipsSign_X6 0 rfl rfl 4 (by decide) lkX6_skipsSign_25 rfl dX6_skipsSign_40 ?_
      refine lv_iconst (v := (1 : Int32)) C.1 C.2.1 dX6_skipsSign_43 (by decide) ?_
      refine lv_iadd C.1 C.2.1 dX6_skipsSign_44 ?_
      refine r_put (ws' := (wX6_skipsSign cI cL cS cH a_this a_this_near a_this_letters q_length q_nodes (k33_q_at + (1 : Int32)) q_fault q_letters)) C w inX6_skipsSign_X6 tyX6 tyX6_ok nmX6 0 rfl rfl 4 (by decide) lkX6_skipsSign_25 rfl rfl rfl (Nat.le_of_ble_eq_true rfl) rfl dX6_skipsSign_45 (fun H locs w => ?_)
      refine lv_iload_n C.1 C.2.1 dX6_skipsSign_48 rfl (lv_at hl 0 rfl) ?_
      obtain ⟨_, hb3, hf⟩ := bd hf
      have hres := Option.some.inj hf
      subst hres
      exact ret_z C hr hlocks w (bz_in hb3).1 rfl dX6_skipsSign_49
  have hj32 : ∀ (k32_q_at : Int32) (H : Heap) (locs : List Loc) (ls : Array Slot), wd D (ty4 cI cL cS cH) s (va_A (wX6_skipsSign cI cL cS cH a_this a_this_near a_this_letters q_length q_nodes q_at q_fault q_letters) s.heap.size) s.heap H locs (wX6_skipsSign cI cL cS cH a_this a_this_near a_this_letters q_length q_nodes k32_q_at q_fault q_letters) → lv_has ls 3 [(0, .ref a_this)] → jX6_skipsSign_32 q_length q_letters k32_q_at = some res → gX6_skipsSign p l e s m below meth c D cI cL cS cH a_this a_this_near a_this_letters q_length q_nodes q_at q_fault q_letters x1 res H locs (F0 m 32 ls []) := by
    intro k32_q_at H locs ls w hl hf
    unfold jX6_skipsSign_32 at hf
    refine lv_iconst (v := (0 : Int32)) C.1 C.2.1 dX6_skipsSign_32 (by decide) ?_
    exact hj33 (0 : Int32) k32_q_at _ _ _ w (lv_sub hl [0] rfl) hf
  refine lv_aload_n C.1 C.2.1 dX6_skipsSign_0 rfl (lv_at hl 0 rfl) ?_
  obtain ⟨r4, hc5, hf⟩ := bd hf
  refine call_Vv (ws' := (wX6_skipsSign cI cL cS cH a_this a_this_near a_this_letters q_length q_nodes r4 q_fault q_letters)) (rest := []) C w (mX6_skipBlanks l D cI cL cS cH _ a_this a_this_near a_this_letters q_length q_nodes q_at q_fault q_letters hc5) (cwV 0 C.2.2.2.2 gX6_skipsSign_X6_skipBlanks rfl rfl rfl (by decide +kernel) ⟨Nat.le_of_ble_eq_true rfl, Nat.le_of_ble_eq_true rfl⟩) [0, 1] [] 2 ⟨rfl, rfl, trivial⟩ ⟨rfl, rfl, trivial⟩ trivial rfl (by decide) (by decide) (ci := 6) (q0 := 0) rfl rfl rfl hl.1 rfl (lv_room (Nat.le_of_ble_eq_true rfl)) dX6_skipsSign_1 ⟨Nat.zero_le _, Nat.zero_le _⟩ (fun H locs w => ?_)
  refine lv_aload_n C.1 C.2.1 dX6_skipsSign_4 rfl (lv_at hl 0 rfl) ?_
  refine r_get C w inX6_skipsSign_X6 0 rfl rfl 4 (by decide) lkX6_skipsSign_25 rfl dX6_skipsSign_5 ?_
  refine lv_aload_n C.1 C.2.1 dX6_skipsSign_8 rfl (lv_at hl 0 rfl) ?_
  refine r_get C w inX6_skipsSign_X6 0 rfl rfl 0 (by decide) lkX6_skipsSign_9 rfl dX6_skipsSign_9 ?_
  refine lv_icmp_ge (tgt := 32) C.1 C.2.1 dX6_skipsSign_12 (by decide) (fun hq6 => ?_) (fun hq6 => ?_)
  · have hf := ite_t hf hq6
    exact hj32 r4 _ _ _ w (lv_sub hl [0] rfl) hf
  · have hf := ite_f hf hq6
    refine lv_aload_n C.1 C.2.1 dX6_skipsSign_15 rfl (lv_at hl 0 rfl) ?_
    refine r_get C w inX6_skipsSign_X6 0 rfl rfl 3 (by decide) lkX6_skipsSign_22 rfl dX6_skipsSign_16 ?_
    refine lv_aload_n C.1 C.2.1 dX6_skipsSign_19 rfl (lv_at hl 0 rfl) ?_
    refine r_get C w inX6_skipsSign_X6 0 rfl rfl 4 (by decide) lkX6_skipsSign_25 rfl dX6_skipsSign_20 ?_
    obtain ⟨y7, hy8, hf⟩ := bd hf
    refine r_iald C w 1 0 rfl rfl (rd_in hy8) dX6_skipsSign_23 ?_
    refine lv_iload_n C.1 C.2.1 dX6_skipsSign_24 rfl (lv_at hl 1 rfl) ?_
    refine lv_icmp_ne (tgt := 32) C.1 C.2.1 dX6_skipsSign_25 (by decide) (fun hq9 => ?_) (fun hq9 => ?_)
    · have hf := ite_f hf hq9
      exact hj32 r4 _ _ _ w (lv_sub hl [0] rfl) hf
    · have hf := ite_t hf hq9
      refine lv_iconst (v := (1 : Int32)) C.1 C.2.1 dX6_skipsSign_28 (by decide) ?_
      refine lv_goto (tgt := 33) C.1 C.2.1 dX6_skipsSign_29 (by decide) ?_
      exact hj33 (1 : Int32) r4 _ _ _ w (lv_sub hl [0] rfl) hf

set_option maxRecDepth 100000 in
theorem inX6_join_X6 : ∀ w ∈ u_ws RX6 TX6 6, w ∈ wsX6_join := by decide +kernel
set_option maxRecDepth 100000 in
theorem lkX6_join_18 : Cond.fieldLink RX6 18 "CleanNets$Tape" "near" "[I" ∈ wsX6_join := by decide +kernel
abbrev wX6_join (cI cL cS cH : ClassId) (a_this : Nat) (a_this_near : Nat) (a_this_letters : Nat) (q_length : Int32) (q_nodes : Int32) (q_at : Int32) (q_fault : Int32) (q_near : Nat → Int32) : va_W := [(a_this, .inr (6, [.int q_length, .int q_nodes, .ref a_this_near, .ref a_this_letters, .int q_at, .int q_fault])),
  (a_this_near, .inl (cI, 7, .inl q_near))]
def fX6_join (q_near : Nat → Int32) (x1 : Int32) (x2 : Int32) : Option (Nat → Int32) := Option.bind (rd q_near 7 x1) (fun y1 => Option.bind (wi q_near 7 x1 (y1 ||| ((1 : Int32) <<< (x2 &&& 31)))) (fun g3 => Option.bind (rd g3 7 x2) (fun y5 => Option.bind (wi g3 7 x2 (y5 ||| ((1 : Int32) <<< (x1 &&& 31)))) (fun g7 => some g7))))
set_option maxHeartbeats 4000000 in
set_option maxRecDepth 100000 in
theorem mX6_join (l : Launch) (D : vg) (cI cL cS cH : ClassId) (sz : Nat) (a_this : Nat) (a_this_near : Nat) (a_this_letters : Nat) (q_length : Int32) (q_nodes : Int32) (q_at : Int32) (q_fault : Int32) (q_near : Nat → Int32) (x1 : Int32) (x2 : Int32) {res : Nat → Int32} (hf : fX6_join q_near x1 x2 = some res) : ctv l yX6_join wsX6_join ({ frames := 0, cells := 0, slots := 0, locals := 0 }) D (ty4 cI cL cS cH) sz [.ref a_this, .int x1, .int x2] (wX6_join cI cL cS cH a_this a_this_near a_this_letters q_length q_nodes q_at q_fault q_near) (wX6_join cI cL cS cH a_this a_this_near a_this_letters q_length q_nodes q_at q_fault res) := by
  refine Met.ofW (cc := cX6_join) (maxL := 3) (ret := none) (by decide) rfl ?_
  intro p e s m args below meth c s₁ B hml hv
  obtain ⟨rfl, hpre⟩ := hv
  obtain rfl := hpre.1
  have C : CallFix p m c cX6_join 3 s _ wsX6_join RX6 := ⟨B.exec, B.bytes, hml, findClass_of_methodNamed B.named, atoms_spec (ws := wsX6_join) B.pre⟩
  have hr := B.returns
  have hlocks := B.notSynchronized
  have w := wd_start hpre
  clear hpre B
  have hl := lv_entry ([.ref a_this, .int x1, .int x2]) (n := 3) (Nat.le_of_ble_eq_true rfl)
  rw [lg_entry_eq]
  generalize (lg_sl ([.ref a_this, .int x1, .int x2]) ++ List.replicate (3 - (lg_sl ([.ref a_this, .int x1, .int x2])).length) Slot.unset).toArray = ls at hl ⊢
  have hl : lv_has ls 3 [(0, .ref a_this), (1, .int x1), (2, .int x2)] := hl
  unfold fX6_join at hf
  refine lv_aload_n C.1 C.2.1 dX6_join_0 rfl (lv_at hl 0 rfl) ?_
  refine r_get C w inX6_join_X6 0 rfl rfl 2 (by decide) lkX6_join_18 rfl dX6_join_1 ?_
  refine lv_iload_n C.1 C.2.1 dX6_join_4 rfl (lv_at hl 1 rfl) ?_
  refine lv_dup2_11 C.1 C.2.1 dX6_join_5 rfl rfl ?_
  obtain ⟨y1, hy2, hf⟩ := bd hf
  refine r_iald C w 1 0 rfl rfl (rd_in hy2) dX6_join_6 ?_
  refine lv_iconst (v := (1 : Int32)) C.1 C.2.1 dX6_join_7 (by decide) ?_
  refine lv_iload_n C.1 C.2.1 dX6_join_8 rfl (lv_at hl 2 rfl) ?_
  refine lv_ishl C.1 C.2.1 dX6_join_9 ?_
  refine lv_ior C.1 C.2.1 dX6_join_10 ?_
  obtain ⟨g3, hg4, hf⟩ := bd hf
  refine r_iast (ws' := (wX6_join cI cL cS cH a_this a_this_near a_this_letters q_length q_nodes q_at q_fault g3)) C w 1 0 rfl rfl (wi_in hg4) rfl dX6_join_11 (fun H locs w => ?_)
  refine lv_aload_n C.1 C.2.1 dX6_join_12 rfl (lv_at hl 0 rfl) ?_
  refine r_get C w inX6_join_X6 0 rfl rfl 2 (by decide) lkX6_join_18 rfl dX6_join_13 ?_
  refine lv_iload_n C.1 C.2.1 dX6_join_16 rfl (lv_at hl 2 rfl) ?_
  refine lv_dup2_11 C.1 C.2.1 dX6_join_17 rfl rfl ?_
  obtain ⟨y5, hy6, hf⟩ := bd hf
  refine r_iald C w 1 0 rfl rfl (rd_in hy6) dX6_join_18 ?_
  refine lv_iconst (v := (1 : Int32)) C.1 C.2.1 dX6_join_19 (by decide) ?_
  refine lv_iload_n C.1 C.2.1 dX6_join_20 rfl (lv_at hl 1 rfl) ?_
  refine lv_ishl C.1 C.2.1 dX6_join_21 ?_
  refine lv_ior C.1 C.2.1 dX6_join_22 ?_
  obtain ⟨g7, hg8, hf⟩ := bd hf
  refine r_iast (ws' := (wX6_join cI cL cS cH a_this a_this_near a_this_letters q_length q_nodes q_at q_fault g7)) C w 1 0 rfl rfl (wi_in hg8) rfl dX6_join_23 (fun H locs w => ?_)
  have hres := Option.some.inj hf
  subst hres
  exact ret_v C hr hlocks w dX6_join_24

set_option maxRecDepth 100000 in
theorem inX6_readGrid_X6 : ∀ w ∈ u_ws RX6 TX6 6, w ∈ wsX6_readGrid := by decide +kernel
set_option maxRecDepth 100000 in
theorem lkX6_readGrid_15 : Cond.fieldLink RX6 15 "CleanNets$Tape" "nodes" "I" ∈ wsX6_readGrid := by decide +kernel
set_option maxRecDepth 100000 in
theorem lkX6_readGrid_25 : Cond.fieldLink RX6 25 "CleanNets$Tape" "at" "I" ∈ wsX6_readGrid := by decide +kernel
set_option maxRecDepth 100000 in
theorem lkX6_readGrid_28 : Cond.fieldLink RX6 28 "CleanNets$Tape" "fault" "I" ∈ wsX6_readGrid := by decide +kernel
abbrev wX6_readGrid (cI cL cS cH : ClassId) (a_this : Nat) (a_this_near : Nat) (a_this_letters : Nat) (q_length : Int32) (q_nodes : Int32) (q_at : Int32) (q_fault : Int32) (q_letters : Nat → Int32) (q_near : Nat → Int32) : va_W := [(a_this, .inr (6, [.int q_length, .int q_nodes, .ref a_this_near, .ref a_this_letters, .int q_at, .int q_fault])),
  (a_this_letters, .inl (cI, 90, .inl q_letters)),
  (a_this_near, .inl (cI, 7, .inl q_near))]
def jX6_readGrid_101 (q_length : Int32) (q_letters : Nat → Int32) (y66_1 : Int32) (y101_3 : Int32) (k66_q_nodes : Int32) (k66_q_at : Int32) (k66_q_fault : Int32) (k101_q_near : Nat → Int32) : Option ((Int32 × (Nat → Int32)) ⊕ (Int32 × (Nat → Int32))) := some (.inl ((y101_3 + (1 : Int32)), k101_q_near))
def jX6_readGrid_88 (q_length : Int32) (q_letters : Nat → Int32) (y66_1 : Int32) (y88_3 : Int32) (k66_q_nodes : Int32) (k66_q_at : Int32) (k66_q_fault : Int32) (k88_q_near : Nat → Int32) : Option ((Int32 × (Nat → Int32)) ⊕ (Int32 × (Nat → Int32))) := (if y88_3 < y66_1 then jX6_readGrid_101 q_length q_letters y66_1 y88_3 k66_q_nodes k66_q_at k66_q_fault k88_q_near else Option.bind (fX6_join k88_q_near (y88_3 - y66_1) y88_3) (fun r2 => jX6_readGrid_101 q_length q_letters y66_1 y88_3 k66_q_nodes k66_q_at k66_q_fault r2))
def bX6_readGrid_66 (q_length : Int32) (q_letters : Nat → Int32) (y66_1 : Int32) (k66_q_nodes : Int32) (k66_q_at : Int32) (k66_q_fault : Int32) (v66 : Int32 × (Nat → Int32)) : Option ((Int32 × (Nat → Int32)) ⊕ (Int32 × (Nat → Int32))) := (if k66_q_nodes ≤ v66.1 then some (.inr (v66.1, v66.2)) else Option.bind (rmd v66.1 y66_1) (fun y5 => (if y5 = 0 then jX6_readGrid_88 q_length q_letters y66_1 v66.1 k66_q_nodes k66_q_at k66_q_fault v66.2 else Option.bind (fX6_join v66.2 (v66.1 - (1 : Int32)) v66.1) (fun r8 => jX6_readGrid_88 q_length q_letters y66_1 v66.1 k66_q_nodes k66_q_at k66_q_fault r8))))
def jX6_readGrid_43 (q_length : Int32) (q_letters : Nat → Int32) (y43_1 : Int32) (z43_0 : Int32) (k43_q_nodes : Int32) (k43_q_at : Int32) (k43_q_fault : Int32) (k43_q_near : Nat → Int32) : Option (Int32 × Int32 × Int32 × (Nat → Int32)) := Option.bind (dv (7 : Int32) y43_1) (fun y10 => Option.bind (fX6_readFigure q_length k43_q_at k43_q_fault q_letters z43_0 y10) (fun r12 => (if r12.1 = (-1 : Int32) then some (k43_q_nodes, r12.2.1, r12.2.2, k43_q_near) else Option.bind (itL (bX6_readGrid_66 q_length q_letters y43_1 (y43_1 * r12.1) r12.2.1 r12.2.2) fu ((0 : Int32), k43_q_near)) (fun ex15 => some ((y43_1 * r12.1), r12.2.1, r12.2.2, ex15.2)))))
def fX6_readGrid (q_length : Int32) (q_nodes : Int32) (q_at : Int32) (q_fault : Int32) (q_letters : Nat → Int32) (q_near : Nat → Int32)  : Option (Int32 × Int32 × Int32 × (Nat → Int32)) := Option.bind (fX6_readFigure q_length q_at q_fault q_letters (1 : Int32) (7 : Int32)) (fun r17 => (if (1 : Int32) ≤ r17.1 then Option.bind (fX6_skipsSign q_length r17.2.1 q_letters (42 : Int32)) (fun r20 => (if r20.1 = 0 then some (q_nodes, r20.2, r20.2, q_near) else (if r17.1 = (1 : Int32) then jX6_readGrid_43 q_length q_letters r17.1 (2 : Int32) q_nodes r20.2 r17.2.2 q_near else jX6_readGrid_43 q_length q_letters r17.1 (1 : Int32) q_nodes r20.2 r17.2.2 q_near))) else some (q_nodes, r17.2.1, r17.2.2, q_near)))
abbrev gX6_readGrid (p : Program) (l : Launch) (e : Env) (s : State) (m : MethodId) (below : List Frame) (meth : Method) (c : Code) (D : vg) (cI cL cS cH : ClassId) (a_this : Nat) (a_this_near : Nat) (a_this_letters : Nat) (q_length : Int32) (q_nodes : Int32) (q_at : Int32) (q_fault : Int32) (q_letters : Nat → Int32) (q_near : Nat → Int32) (res : Int32 × Int32 × Int32 × (Nat → Int32)) (H : Heap) (locs : List Loc) (g : JFrame) : Prop := W p l e (headSpec wsX6_readGrid ({ frames := 2, cells := 0, slots := 0, locals := 42 })).room s m ([.ref a_this] : List Value).toArray below meth c H locs 0 0 (MQ below (va_Qv (fun (_ : Unit) => True) (fun _ t => pos1 D s.heap.size (wX6_readGrid cI cL cS cH a_this a_this_near a_this_letters q_length q_nodes q_at q_fault q_letters q_near) (wX6_readGrid cI cL cS cH a_this a_this_near a_this_letters q_length res.1 res.2.1 res.2.2.1 q_letters res.2.2.2) t) (va_A (wX6_readGrid cI cL cS cH a_this a_this_near a_this_letters q_length q_nodes q_at q_fault q_letters q_near) s.heap.size)) ([.ref a_this] : List Value).toArray s 0 0 (va_A (wX6_readGrid cI cL cS cH a_this a_this_near a_this_letters q_length q_nodes q_at q_fault q_letters q_near) s.heap.size)) g
set_option maxHeartbeats 4000000 in
set_option maxRecDepth 100000 in
theorem mX6_readGrid (l : Launch) (D : vg) (cI cL cS cH : ClassId) (sz : Nat) (a_this : Nat) (a_this_near : Nat) (a_this_letters : Nat) (q_length : Int32) (q_nodes : Int32) (q_at : Int32) (q_fault : Int32) (q_letters : Nat → Int32) (q_near : Nat → Int32) {res : Int32 × Int32 × Int32 × (Nat → Int32)} (hf : fX6_readGrid q_length q_nodes q_at q_fault q_letters q_near = some res) : ctv l yX6_readGrid wsX6_readGrid ({ frames := 2, cells := 0, slots := 0, locals := 42 }) D (ty4 cI cL cS cH) sz [.ref a_this] (wX6_readGrid cI cL cS cH a_this a_this_near a_this_letters q_length q_nodes q_at q_fault q_letters q_near) (wX6_readGrid cI cL cS cH a_this a_this_near a_this_letters q_length res.1 res.2.1 res.2.2.1 q_letters res.2.2.2) := by
  refine Met.ofW (cc := cX6_readGrid) (maxL := 4) (ret := none) (by decide) rfl ?_
  intro p e s m args below meth c s₁ B hml hv
  obtain ⟨rfl, hpre⟩ := hv
  obtain rfl := hpre.1
  have C : CallFix p m c cX6_readGrid 4 s _ wsX6_readGrid RX6 := ⟨B.exec, B.bytes, hml, findClass_of_methodNamed B.named, atoms_spec (ws := wsX6_readGrid) B.pre⟩
  have hr := B.returns
  have hlocks := B.notSynchronized
  have w := wd_start hpre
  clear hpre B
  have hl := lv_entry ([.ref a_this]) (n := 4) (Nat.le_of_ble_eq_true rfl)
  rw [lg_entry_eq]
  generalize (lg_sl ([.ref a_this]) ++ List.replicate (4 - (lg_sl ([.ref a_this])).length) Slot.unset).toArray = ls at hl ⊢
  have hl : lv_has ls 4 [(0, .ref a_this)] := hl
  unfold fX6_readGrid at hf
  have hlp66 : ∀ (y66_1 : Int32) (k66_q_nodes : Int32) (k66_q_at : Int32) (k66_q_fault : Int32) (ex66 : Int32 × (Nat → Int32)) (hk : (∀ (H : Heap) (locs : List Loc) (ls : Array Slot), wd D (ty4 cI cL cS cH) s (va_A (wX6_readGrid cI cL cS cH a_this a_this_near a_this_letters q_length q_nodes q_at q_fault q_letters q_near) s.heap.size) s.heap H locs (wX6_readGrid cI cL cS cH a_this a_this_near a_this_letters q_length k66_q_nodes k66_q_at k66_q_fault q_letters ex66.2) → lv_has ls 4 [] → gX6_readGrid p l e s m below meth c D cI cL cS cH a_this a_this_near a_this_letters q_length q_nodes q_at q_fault q_letters q_near res H locs (F0 m 107 ls []))) (n : Nat) (v66 : Int32 × (Nat → Int32)) (H : Heap) (locs : List Loc) (ls : Array Slot), itL (bX6_readGrid_66 q_length q_letters y66_1 k66_q_nodes k66_q_at k66_q_fault) n v66 = some ex66 → wd D (ty4 cI cL cS cH) s (va_A (wX6_readGrid cI cL cS cH a_this a_this_near a_this_letters q_length q_nodes q_at q_fault q_letters q_near) s.heap.size) s.heap H locs (wX6_readGrid cI cL cS cH a_this a_this_near a_this_letters q_length k66_q_nodes k66_q_at k66_q_fault q_letters v66.2) → lv_has ls 4 [(0, .ref a_this), (1, .int y66_1), (3, .int v66.1)] → gX6_readGrid p l e s m below meth c D cI cL cS cH a_this a_this_near a_this_letters q_length q_nodes q_at q_fault q_letters q_near res H locs (F0 m 66 ls []) := by
    intro y66_1 k66_q_nodes k66_q_at k66_q_fault ex66 hk n
    induction n with
    | zero => intro v66 H locs ls hi w hl; exact (itL_zero hi).elim
    | succ n ih =>
      intro v66 H locs ls hi w hl
      obtain ⟨o, hf, hn⟩ := itL_succ hi
      unfold bX6_readGrid_66 at hf
      have hj101 : ∀ (y101_3 : Int32) (k101_q_near : Nat → Int32) (H : Heap) (locs : List Loc) (ls : Array Slot), wd D (ty4 cI cL cS cH) s (va_A (wX6_readGrid cI cL cS cH a_this a_this_near a_this_letters q_length q_nodes q_at q_fault q_letters q_near) s.heap.size) s.heap H locs (wX6_readGrid cI cL cS cH a_this a_this_near a_this_letters q_length k66_q_nodes k66_q_at k66_q_fault q_letters k101_q_near) → lv_has ls 4 [(0, .ref a_this), (1, .int y66_1), (3, .int y101_3)] → jX6_readGrid_101 q_length q_letters y66_1 y101_3 k66_q_nodes k66_q_at k66_q_fault k101_q_near = some o → gX6_readGrid p l e s m below meth c D cI cL cS cH a_this a_this_near a_this_letters q_length q_nodes q_at q_fault q_letters q_near res H locs (F0 m 101 ls []) := by
        intro y101_3 k101_q_near H locs ls w hl hf
        unfold jX6_readGrid_101 at hf
        refine lv_iinc (v := (y101_3 + (1 : Int32))) (lv' := [(3, .int (y101_3 + (1 : Int32))), (0, .ref a_this), (1, .int y66_1)]) C.1 C.2.1 dX6_readGrid_101 hl (k := 2) rfl rfl (by decide) rfl (fun ls hl => ?_)
        refine lv_goto (tgt := 66) C.1 C.2.1 dX6_readGrid_104 (by decide) ?_
        obtain rfl := Option.some.inj hf
        exact ih ((y101_3 + (1 : Int32)), k101_q_near) _ _ _ hn w (lv_sub hl [1, 2, 0] rfl)
      have hj88 : ∀ (y88_3 : Int32) (k88_q_near : Nat → Int32) (H : Heap) (locs : List Loc) (ls : Array Slot), wd D (ty4 cI cL cS cH) s (va_A (wX6_readGrid cI cL cS cH a_this a_this_near a_this_letters q_length q_nodes q_at q_fault q_letters q_near) s.heap.size) s.heap H locs (wX6_readGrid cI cL cS cH a_this a_this_near a_this_letters q_length k66_q_nodes k66_q_at k66_q_fault q_letters k88_q_near) → lv_has ls 4 [(0, .ref a_this), (1, .int y66_1), (3, .int y88_3)] → jX6_readGrid_88 q_length q_letters y66_1 y88_3 k66_q_nodes k66_q_at k66_q_fault k88_q_near = some o → gX6_readGrid p l e s m below meth c D cI cL cS cH a_this a_this_near a_this_letters q_length q_nodes q_at q_fault q_letters q_near res H locs (F0 m 88 ls []) := by
        intro y88_3 k88_q_near H locs ls w hl hf
        unfold jX6_readGrid_88 at hf
        refine lv_iload_n C.1 C.2.1 dX6_readGrid_88 rfl (lv_at hl 2 rfl) ?_
        refine lv_iload_n C.1 C.2.1 dX6_readGrid_89 rfl (lv_at hl 1 rfl) ?_
        refine lv_icmp_lt (tgt := 101) C.1 C.2.1 dX6_readGrid_90 (by decide) (fun hq1 => ?_) (fun hq1 => ?_)
        · have hf := ite_t hf hq1
          exact hj101 y88_3 k88_q_near _ _ _ w (lv_sub hl [0, 1, 2] rfl) hf
        · have hf := ite_f hf hq1
          refine lv_aload_n C.1 C.2.1 dX6_readGrid_93 rfl (lv_at hl 0 rfl) ?_
          refine lv_iload_n C.1 C.2.1 dX6_readGrid_94 rfl (lv_at hl 2 rfl) ?_
          refine lv_iload_n C.1 C.2.1 dX6_readGrid_95 rfl (lv_at hl 1 rfl) ?_
          refine lv_isub C.1 C.2.1 dX6_readGrid_96 ?_
          refine lv_iload_n C.1 C.2.1 dX6_readGrid_97 rfl (lv_at hl 2 rfl) ?_
          obtain ⟨r2, hc3, hf⟩ := bd hf
          refine call_Vv (ws' := (wX6_readGrid cI cL cS cH a_this a_this_near a_this_letters q_length k66_q_nodes k66_q_at k66_q_fault q_letters r2)) (rest := []) C w (mX6_join l D cI cL cS cH _ a_this a_this_near a_this_letters q_length k66_q_nodes k66_q_at k66_q_fault k88_q_near (y88_3 - y66_1) y88_3 hc3) (cwV 2 C.2.2.2.2 gX6_readGrid_X6_join rfl rfl rfl (by decide +kernel) ⟨Nat.le_of_ble_eq_true rfl, Nat.le_of_ble_eq_true rfl⟩) [0, 2] [1] 3 ⟨rfl, rfl, trivial⟩ ⟨rfl, rfl, trivial⟩ ⟨⟨_, rfl, rfl⟩, trivial⟩ rfl (by decide) (by decide) (ci := 6) (q0 := 0) rfl rfl rfl hl.1 rfl (lv_room (Nat.le_of_ble_eq_true rfl)) dX6_readGrid_98 ⟨Nat.zero_le _, Nat.zero_le _⟩ (fun H locs w => ?_)
          exact hj101 y88_3 r2 _ _ _ w (lv_sub hl [0, 1, 2] rfl) hf
      refine lv_iload_n C.1 C.2.1 dX6_readGrid_66 rfl (lv_at hl 2 rfl) ?_
      refine lv_aload_n C.1 C.2.1 dX6_readGrid_67 rfl (lv_at hl 0 rfl) ?_
      refine r_get C w inX6_readGrid_X6 0 rfl rfl 1 (by decide) lkX6_readGrid_15 rfl dX6_readGrid_68 ?_
      refine lv_icmp_ge (tgt := 107) C.1 C.2.1 dX6_readGrid_71 (by decide) (fun hq4 => ?_) (fun hq4 => ?_)
      · have hf := ite_t hf hq4
        obtain rfl := Option.some.inj hf
        obtain rfl := hn
        exact hk _ _ _ w (lv_sub hl [] rfl)
      · have hf := ite_f hf hq4
        refine lv_iload_n C.1 C.2.1 dX6_readGrid_74 rfl (lv_at hl 2 rfl) ?_
        refine lv_iload_n C.1 C.2.1 dX6_readGrid_75 rfl (lv_at hl 1 rfl) ?_
        obtain ⟨y5, hy6, hf⟩ := bd hf
        refine lv_irem C.1 C.2.1 dX6_readGrid_76 (rmd_in hy6).1 ?_
        refine lt_topi (rmd_in hy6).2 ?_
        refine lv_if_eq (tgt := 88) C.1 C.2.1 dX6_readGrid_77 (by decide) (fun hq7 => ?_) (fun hq7 => ?_)
        · have hf := ite_t hf hq7
          exact hj88 v66.1 v66.2 _ _ _ w (lv_sub hl [0, 1, 2] rfl) hf
        · have hf := ite_f hf hq7
          refine lv_aload_n C.1 C.2.1 dX6_readGrid_80 rfl (lv_at hl 0 rfl) ?_
          refine lv_iload_n C.1 C.2.1 dX6_readGrid_81 rfl (lv_at hl 2 rfl) ?_
          refine lv_iconst (v := (1 : Int32)) C.1 C.2.1 dX6_readGrid_82 (by decide) ?_
          refine lv_isub C.1 C.2.1 dX6_readGrid_83 ?_
          refine lv_iload_n C.1 C.2.1 dX6_readGrid_84 rfl (lv_at hl 2 rfl) ?_
          obtain ⟨r8, hc9, hf⟩ := bd hf
          refine call_Vv (ws' := (wX6_readGrid cI cL cS cH a_this a_this_near a_this_letters q_length k66_q_nodes k66_q_at k66_q_fault q_letters r8)) (rest := []) C w (mX6_join l D cI cL cS cH _ a_this a_this_near a_this_letters q_length k66_q_nodes k66_q_at k66_q_fault v66.2 (v66.1 - (1 : Int32)) v66.1 hc9) (cwV 2 C.2.2.2.2 gX6_readGrid_X6_join rfl rfl rfl (by decide +kernel) ⟨Nat.le_of_ble_eq_true rfl, Nat.le_of_ble_eq_true rfl⟩) [0, 2] [1] 3 ⟨rfl, rfl, trivial⟩ ⟨rfl, rfl, trivial⟩ ⟨⟨_, rfl, rfl⟩, trivial⟩ rfl (by decide) (by decide) (ci := 6) (q0 := 0) rfl rfl rfl hl.1 rfl (lv_room (Nat.le_of_ble_eq_true rfl)) dX6_readGrid_85 ⟨Nat.zero_le _, Nat.zero_le _⟩ (fun H locs w => ?_)
          exact hj88 v66.1 r8 _ _ _ w (lv_sub hl [0, 1, 2] rfl) hf
  have hj43 : ∀ (y43_1 : Int32) (z43_0 : Int32) (k43_q_nodes : Int32) (k43_q_at : Int32) (k43_q_fault : Int32) (k43_q_near : Nat → Int32) (H : Heap) (locs : List Loc) (ls : Array Slot), wd D (ty4 cI cL cS cH) s (va_A (wX6_readGrid cI cL cS cH a_this a_this_near a_this_letters q_length q_nodes q_at q_fault q_letters q_near) s.heap.size) s.heap H locs (wX6_readGrid cI cL cS cH a_this a_this_near a_this_letters q_length k43_q_nodes k43_q_at k43_q_fault q_letters k43_q_near) → lv_has ls 4 [(0, .ref a_this), (1, .int y43_1)] → jX6_readGrid_43 q_length q_letters y43_1 z43_0 k43_q_nodes k43_q_at k43_q_fault k43_q_near = some res → gX6_readGrid p l e s m below meth c D cI cL cS cH a_this a_this_near a_this_letters q_length q_nodes q_at q_fault q_letters q_near res H locs (F0 m 43 ls [.int z43_0, .ref a_this]) := by
    intro y43_1 z43_0 k43_q_nodes k43_q_at k43_q_fault k43_q_near H locs ls w hl hf
    unfold jX6_readGrid_43 at hf
    refine lv_bipush (v := (7 : Int32)) C.1 C.2.1 dX6_readGrid_43 (by decide) ?_
    refine lv_iload_n C.1 C.2.1 dX6_readGrid_45 rfl (lv_at hl 1 rfl) ?_
    obtain ⟨y10, hy11, hf⟩ := bd hf
    refine lv_idiv C.1 C.2.1 dX6_readGrid_46 (dv_in hy11).1 ?_
    refine lt_topi (dv_in hy11).2 ?_
    obtain ⟨r12, hc13, hf⟩ := bd hf
    refine call_Vi (ws' := (wX6_readGrid cI cL cS cH a_this a_this_near a_this_letters q_length k43_q_nodes r12.2.1 r12.2.2 q_letters k43_q_near)) (rest := []) C w (mX6_readFigure l D cI cL cS cH _ a_this a_this_near a_this_letters q_length k43_q_nodes k43_q_at k43_q_fault q_letters z43_0 y10 hc13) (cwV 2 C.2.2.2.2 gX6_readGrid_X6_readFigure rfl rfl rfl (by decide +kernel) ⟨Nat.le_of_ble_eq_true rfl, Nat.le_of_ble_eq_true rfl⟩) [0, 1] [2] 3 ⟨rfl, rfl, trivial⟩ ⟨rfl, rfl, trivial⟩ ⟨⟨_, rfl, rfl⟩, trivial⟩ rfl (by decide) (by decide) (ci := 6) (q0 := 0) rfl rfl rfl hl.1 rfl (lv_room (Nat.le_of_ble_eq_true rfl)) dX6_readGrid_47 ⟨Nat.zero_le _, Nat.zero_le _⟩ (fun H locs w => ?_)
    refine lv_istore_n (lv' := [(2, .int r12.1), (0, .ref a_this), (1, .int y43_1)]) C.1 C.2.1 dX6_readGrid_50 rfl hl (by decide) rfl (fun ls hl => ?_)
    refine lv_iload_n C.1 C.2.1 dX6_readGrid_51 rfl (lv_at hl 0 rfl) ?_
    refine lv_iconst (v := (-1 : Int32)) C.1 C.2.1 dX6_readGrid_52 (by decide) ?_
    refine lv_icmp_ne (tgt := 57) C.1 C.2.1 dX6_readGrid_53 (by decide) (fun hq14 => ?_) (fun hq14 => ?_)
    · have hf := ite_f hf hq14
      refine lv_aload_n C.1 C.2.1 dX6_readGrid_57 rfl (lv_at hl 1 rfl) ?_
      refine lv_iload_n C.1 C.2.1 dX6_readGrid_58 rfl (lv_at hl 2 rfl) ?_
      refine lv_iload_n C.1 C.2.1 dX6_readGrid_59 rfl (lv_at hl 0 rfl) ?_
      refine lv_imul C.1 C.2.1 dX6_readGrid_60 ?_
      refine r_put (ws' := (wX6_readGrid cI cL cS cH a_this a_this_near a_this_letters q_length (y43_1 * r12.1) r12.2.1 r12.2.2 q_letters k43_q_near)) C w inX6_readGrid_X6 tyX6 tyX6_ok nmX6 0 rfl rfl 1 (by decide) lkX6_readGrid_15 rfl rfl rfl (Nat.le_of_ble_eq_true rfl) rfl dX6_readGrid_61 (fun H locs w => ?_)
      refine lv_iconst (v := (0 : Int32)) C.1 C.2.1 dX6_readGrid_64 (by decide) ?_
      refine lv_istore_n (lv' := [(3, .int (0 : Int32)), (2, .int r12.1), (0, .ref a_this), (1, .int y43_1)]) C.1 C.2.1 dX6_readGrid_65 rfl hl (by decide) rfl (fun ls hl => ?_)
      obtain ⟨ex15, hx16, hf⟩ := bd hf
      refine hlp66 y43_1 (y43_1 * r12.1) r12.2.1 r12.2.2 ex15 ?_ fu ((0 : Int32), k43_q_near) _ _ _ hx16 w (lv_sub hl [2, 3, 0] rfl)
      intro H locs ls w hl
      have hres := Option.some.inj hf
      subst hres
      exact ret_v C hr hlocks w dX6_readGrid_107
    · have hf := ite_t hf hq14
      have hres := Option.some.inj hf
      subst hres
      exact ret_v C hr hlocks w dX6_readGrid_56
  refine lv_aload_n C.1 C.2.1 dX6_readGrid_0 rfl (lv_at hl 0 rfl) ?_
  refine lv_iconst (v := (1 : Int32)) C.1 C.2.1 dX6_readGrid_1 (by decide) ?_
  refine lv_bipush (v := (7 : Int32)) C.1 C.2.1 dX6_readGrid_2 (by decide) ?_
  obtain ⟨r17, hc18, hf⟩ := bd hf
  refine call_Vi (ws' := (wX6_readGrid cI cL cS cH a_this a_this_near a_this_letters q_length q_nodes r17.2.1 r17.2.2 q_letters q_near)) (rest := []) C w (mX6_readFigure l D cI cL cS cH _ a_this a_this_near a_this_letters q_length q_nodes q_at q_fault q_letters (1 : Int32) (7 : Int32) hc18) (cwV 2 C.2.2.2.2 gX6_readGrid_X6_readFigure rfl rfl rfl (by decide +kernel) ⟨Nat.le_of_ble_eq_true rfl, Nat.le_of_ble_eq_true rfl⟩) [0, 1] [2] 3 ⟨rfl, rfl, trivial⟩ ⟨rfl, rfl, trivial⟩ ⟨⟨_, rfl, rfl⟩, trivial⟩ rfl (by decide) (by decide) (ci := 6) (q0 := 0) rfl rfl rfl hl.1 rfl (lv_room (Nat.le_of_ble_eq_true rfl)) dX6_readGrid_4 ⟨Nat.zero_le _, Nat.zero_le _⟩ (fun H locs w => ?_)
  refine lv_istore_n (lv' := [(1, .int r17.1), (0, .ref a_this)]) C.1 C.2.1 dX6_readGrid_7 rfl hl (by decide) rfl (fun ls hl => ?_)
  refine lv_iload_n C.1 C.2.1 dX6_readGrid_8 rfl (lv_at hl 0 rfl) ?_
  refine lv_iconst (v := (1 : Int32)) C.1 C.2.1 dX6_readGrid_9 (by decide) ?_
  refine lv_icmp_ge (tgt := 14) C.1 C.2.1 dX6_readGrid_10 (by decide) (fun hq19 => ?_) (fun hq19 => ?_)
  · have hf := ite_t hf hq19
    refine lv_aload_n C.1 C.2.1 dX6_readGrid_14 rfl (lv_at hl 1 rfl) ?_
    refine lv_bipush (v := (42 : Int32)) C.1 C.2.1 dX6_readGrid_15 (by decide) ?_
    obtain ⟨r20, hc21, hf⟩ := bd hf
    refine call_Vi (ws' := (wX6_readGrid cI cL cS cH a_this a_this_near a_this_letters q_length q_nodes r20.2 r17.2.2 q_letters q_near)) (rest := []) C w (mX6_skipsSign l D cI cL cS cH _ a_this a_this_near a_this_letters q_length q_nodes r17.2.1 r17.2.2 q_letters (42 : Int32) hc21) (cwV 1 C.2.2.2.2 gX6_readGrid_X6_skipsSign rfl rfl rfl (by decide +kernel) ⟨Nat.le_of_ble_eq_true rfl, Nat.le_of_ble_eq_true rfl⟩) [0, 1] [2] 3 ⟨rfl, rfl, trivial⟩ ⟨rfl, rfl, trivial⟩ ⟨⟨_, rfl, rfl⟩, trivial⟩ rfl (by decide) (by decide) (ci := 6) (q0 := 0) rfl rfl rfl hl.1 rfl (lv_room (Nat.le_of_ble_eq_true rfl)) dX6_readGrid_17 ⟨Nat.zero_le _, Nat.zero_le _⟩ (fun H locs w => ?_)
    refine lv_if_ne (tgt := 32) C.1 C.2.1 dX6_readGrid_20 (by decide) (fun hq22 => ?_) (fun hq22 => ?_)
    · have hf := ite_f hf hq22
      refine lv_aload_n C.1 C.2.1 dX6_readGrid_32 rfl (lv_at hl 1 rfl) ?_
      refine lv_iload_n C.1 C.2.1 dX6_readGrid_33 rfl (lv_at hl 0 rfl) ?_
      refine lv_iconst (v := (1 : Int32)) C.1 C.2.1 dX6_readGrid_34 (by decide) ?_
      refine lv_icmp_ne (tgt := 42) C.1 C.2.1 dX6_readGrid_35 (by decide) (fun hq23 => ?_) (fun hq23 => ?_)
      · have hf := ite_f hf hq23
        refine lv_iconst (v := (1 : Int32)) C.1 C.2.1 dX6_readGrid_42 (by decide) ?_
        exact hj43 r17.1 (1 : Int32) q_nodes r20.2 r17.2.2 q_near _ _ _ w (lv_sub hl [1, 0] rfl) hf
      · have hf := ite_t hf hq23
        refine lv_iconst (v := (2 : Int32)) C.1 C.2.1 dX6_readGrid_38 (by decide) ?_
        refine lv_goto (tgt := 43) C.1 C.2.1 dX6_readGrid_39 (by decide) ?_
        exact hj43 r17.1 (2 : Int32) q_nodes r20.2 r17.2.2 q_near _ _ _ w (lv_sub hl [1, 0] rfl) hf
    · have hf := ite_t hf hq22
      refine lv_aload_n C.1 C.2.1 dX6_readGrid_23 rfl (lv_at hl 1 rfl) ?_
      refine lv_aload_n C.1 C.2.1 dX6_readGrid_24 rfl (lv_at hl 1 rfl) ?_
      refine r_get C w inX6_readGrid_X6 0 rfl rfl 4 (by decide) lkX6_readGrid_25 rfl dX6_readGrid_25 ?_
      refine r_put (ws' := (wX6_readGrid cI cL cS cH a_this a_this_near a_this_letters q_length q_nodes r20.2 r20.2 q_letters q_near)) C w inX6_readGrid_X6 tyX6 tyX6_ok nmX6 0 rfl rfl 5 (by decide) lkX6_readGrid_28 rfl rfl rfl (Nat.le_of_ble_eq_true rfl) rfl dX6_readGrid_28 (fun H locs w => ?_)
      have hres := Option.some.inj hf
      subst hres
      exact ret_v C hr hlocks w dX6_readGrid_31
  · have hf := ite_f hf hq19
    have hres := Option.some.inj hf
    subst hres
    exact ret_v C hr hlocks w dX6_readGrid_13

set_option maxRecDepth 100000 in
theorem inX6_readLink_X6 : ∀ w ∈ u_ws RX6 TX6 6, w ∈ wsX6_readLink := by decide +kernel
set_option maxRecDepth 100000 in
theorem lkX6_readLink_25 : Cond.fieldLink RX6 25 "CleanNets$Tape" "at" "I" ∈ wsX6_readLink := by decide +kernel
set_option maxRecDepth 100000 in
theorem lkX6_readLink_28 : Cond.fieldLink RX6 28 "CleanNets$Tape" "fault" "I" ∈ wsX6_readLink := by decide +kernel
set_option maxRecDepth 100000 in
theorem lkX6_readLink_15 : Cond.fieldLink RX6 15 "CleanNets$Tape" "nodes" "I" ∈ wsX6_readLink := by decide +kernel
set_option maxRecDepth 100000 in
theorem lkX6_readLink_18 : Cond.fieldLink RX6 18 "CleanNets$Tape" "near" "[I" ∈ wsX6_readLink := by decide +kernel
abbrev wX6_readLink (cI cL cS cH : ClassId) (a_this : Nat) (a_this_near : Nat) (a_this_letters : Nat) (q_length : Int32) (q_nodes : Int32) (q_at : Int32) (q_fault : Int32) (q_letters : Nat → Int32) (q_near : Nat → Int32) : va_W := [(a_this, .inr (6, [.int q_length, .int q_nodes, .ref a_this_near, .ref a_this_letters, .int q_at, .int q_fault])),
  (a_this_letters, .inl (cI, 90, .inl q_letters)),
  (a_this_near, .inl (cI, 7, .inl q_near))]
def jX6_readLink_75 (q_length : Int32) (q_nodes : Int32) (q_letters : Nat → Int32) (k75_q_at : Int32) (k75_q_fault : Int32) (k75_q_near : Nat → Int32) : Option (Int32 × Int32 × Int32 × (Nat → Int32)) := some ((0 : Int32), k75_q_at, (k75_q_at - (1 : Int32)), k75_q_near)
def fX6_readLink (q_length : Int32) (q_nodes : Int32) (q_at : Int32) (q_fault : Int32) (q_letters : Nat → Int32) (q_near : Nat → Int32)  : Option (Int32 × Int32 × Int32 × (Nat → Int32)) := Option.bind (fX6_readFigure q_length q_at q_fault q_letters (0 : Int32) (q_nodes - (1 : Int32))) (fun r1 => (if r1.1 = (-1 : Int32) then some ((0 : Int32), r1.2.1, r1.2.2, q_near) else Option.bind (fX6_skipsSign q_length r1.2.1 q_letters (45 : Int32)) (fun r4 => (if r4.1 = 0 then some ((0 : Int32), r4.2, r4.2, q_near) else Option.bind (fX6_readFigure q_length r4.2 r1.2.2 q_letters (0 : Int32) (q_nodes - (1 : Int32))) (fun r7 => (if r7.1 = (-1 : Int32) then some ((0 : Int32), r7.2.1, r7.2.2, q_near) else (if r1.1 = r7.1 then jX6_readLink_75 q_length q_nodes q_letters r7.2.1 r7.2.2 q_near else Option.bind (rd q_near 7 r1.1) (fun y11 => Option.bind (fX7_has y11 r7.1) (fun r13 => (if r13 = 0 then Option.bind (fX6_join q_near r1.1 r7.1) (fun r16 => some ((1 : Int32), r7.2.1, r7.2.2, r16)) else jX6_readLink_75 q_length q_nodes q_letters r7.2.1 r7.2.2 q_near))))))))))
abbrev gX6_readLink (p : Program) (l : Launch) (e : Env) (s : State) (m : MethodId) (below : List Frame) (meth : Method) (c : Code) (D : vg) (cI cL cS cH : ClassId) (a_this : Nat) (a_this_near : Nat) (a_this_letters : Nat) (q_length : Int32) (q_nodes : Int32) (q_at : Int32) (q_fault : Int32) (q_letters : Nat → Int32) (q_near : Nat → Int32) (res : Int32 × Int32 × Int32 × (Nat → Int32)) (H : Heap) (locs : List Loc) (g : JFrame) : Prop := W p l e (headSpec wsX6_readLink ({ frames := 2, cells := 0, slots := 0, locals := 42 })).room s m ([.ref a_this] : List Value).toArray below meth c H locs 0 0 (MQ below (va_Qi (fun r' (_ : Unit) => r' = res.1) (fun _ t => pos1 D s.heap.size (wX6_readLink cI cL cS cH a_this a_this_near a_this_letters q_length q_nodes q_at q_fault q_letters q_near) (wX6_readLink cI cL cS cH a_this a_this_near a_this_letters q_length q_nodes res.2.1 res.2.2.1 q_letters res.2.2.2) t) (va_A (wX6_readLink cI cL cS cH a_this a_this_near a_this_letters q_length q_nodes q_at q_fault q_letters q_near) s.heap.size)) ([.ref a_this] : List Value).toArray s 0 0 (va_A (wX6_readLink cI cL cS cH a_this a_this_near a_this_letters q_length q_nodes q_at q_fault q_letters q_near) s.heap.size)) g
set_option maxHeartbeats 4000000 in
set_option maxRecDepth 100000 in
theorem mX6_readLink (l : Launch) (D : vg) (cI cL cS cH : ClassId) (sz : Nat) (a_this : Nat) (a_this_near : Nat) (a_this_letters : Nat) (q_length : Int32) (q_nodes : Int32) (q_at : Int32) (q_fault : Int32) (q_letters : Nat → Int32) (q_near : Nat → Int32) {res : Int32 × Int32 × Int32 × (Nat → Int32)} (hf : fX6_readLink q_length q_nodes q_at q_fault q_letters q_near = some res) : cti l yX6_readLink wsX6_readLink ({ frames := 2, cells := 0, slots := 0, locals := 42 }) D (ty4 cI cL cS cH) sz [.ref a_this] (wX6_readLink cI cL cS cH a_this a_this_near a_this_letters q_length q_nodes q_at q_fault q_letters q_near) (wX6_readLink cI cL cS cH a_this a_this_near a_this_letters q_length q_nodes res.2.1 res.2.2.1 q_letters res.2.2.2) res.1 := by
  refine Met.ofW (cc := cX6_readLink) (maxL := 3) (ret := (some .boolean)) (by decide) rfl ?_
  intro p e s m args below meth c s₁ B hml hv
  obtain ⟨rfl, hpre⟩ := hv
  obtain rfl := hpre.1
  have C : CallFix p m c cX6_readLink 3 s _ wsX6_readLink RX6 := ⟨B.exec, B.bytes, hml, findClass_of_methodNamed B.named, atoms_spec (ws := wsX6_readLink) B.pre⟩
  have hr := B.returns
  have hlocks := B.notSynchronized
  have w := wd_start hpre
  clear hpre B
  have hl := lv_entry ([.ref a_this]) (n := 3) (Nat.le_of_ble_eq_true rfl)
  rw [lg_entry_eq]
  generalize (lg_sl ([.ref a_this]) ++ List.replicate (3 - (lg_sl ([.ref a_this])).length) Slot.unset).toArray = ls at hl ⊢
  have hl : lv_has ls 3 [(0, .ref a_this)] := hl
  unfold fX6_readLink at hf
  have hj75 : ∀ (k75_q_at : Int32) (k75_q_fault : Int32) (k75_q_near : Nat → Int32) (H : Heap) (locs : List Loc) (ls : Array Slot), wd D (ty4 cI cL cS cH) s (va_A (wX6_readLink cI cL cS cH a_this a_this_near a_this_letters q_length q_nodes q_at q_fault q_letters q_near) s.heap.size) s.heap H locs (wX6_readLink cI cL cS cH a_this a_this_near a_this_letters q_length q_nodes k75_q_at k75_q_fault q_letters k75_q_near) → lv_has ls 3 [(0, .ref a_this)] → jX6_readLink_75 q_length q_nodes q_letters k75_q_at k75_q_fault k75_q_near = some res → gX6_readLink p l e s m below meth c D cI cL cS cH a_this a_this_near a_this_letters q_length q_nodes q_at q_fault q_letters q_near res H locs (F0 m 75 ls []) := by
    intro k75_q_at k75_q_fault k75_q_near H locs ls w hl hf
    unfold jX6_readLink_75 at hf
    refine lv_aload_n C.1 C.2.1 dX6_readLink_75 rfl (lv_at hl 0 rfl) ?_
    refine lv_aload_n C.1 C.2.1 dX6_readLink_76 rfl (lv_at hl 0 rfl) ?_
    refine r_get C w inX6_readLink_X6 0 rfl rfl 4 (by decide) lkX6_readLink_25 rfl dX6_readLink_77 ?_
    refine lv_iconst (v := (1 : Int32)) C.1 C.2.1 dX6_readLink_80 (by decide) ?_
    refine lv_isub C.1 C.2.1 dX6_readLink_81 ?_
    refine r_put (ws' := (wX6_readLink cI cL cS cH a_this a_this_near a_this_letters q_length q_nodes k75_q_at (k75_q_at - (1 : Int32)) q_letters k75_q_near)) C w inX6_readLink_X6 tyX6 tyX6_ok nmX6 0 rfl rfl 5 (by decide) lkX6_readLink_28 rfl rfl rfl (Nat.le_of_ble_eq_true rfl) rfl dX6_readLink_82 (fun H locs w => ?_)
    refine lv_iconst (v := (0 : Int32)) C.1 C.2.1 dX6_readLink_85 (by decide) ?_
    have hres := Option.some.inj hf
    subst hres
    exact ret_z C hr hlocks w (by decide) rfl dX6_readLink_86
  refine lv_aload_n C.1 C.2.1 dX6_readLink_0 rfl (lv_at hl 0 rfl) ?_
  refine lv_iconst (v := (0 : Int32)) C.1 C.2.1 dX6_readLink_1 (by decide) ?_
  refine lv_aload_n C.1 C.2.1 dX6_readLink_2 rfl (lv_at hl 0 rfl) ?_
  refine r_get C w inX6_readLink_X6 0 rfl rfl 1 (by decide) lkX6_readLink_15 rfl dX6_readLink_3 ?_
  refine lv_iconst (v := (1 : Int32)) C.1 C.2.1 dX6_readLink_6 (by decide) ?_
  refine lv_isub C.1 C.2.1 dX6_readLink_7 ?_
  obtain ⟨r1, hc2, hf⟩ := bd hf
  refine call_Vi (ws' := (wX6_readLink cI cL cS cH a_this a_this_near a_this_letters q_length q_nodes r1.2.1 r1.2.2 q_letters q_near)) (rest := []) C w (mX6_readFigure l D cI cL cS cH _ a_this a_this_near a_this_letters q_length q_nodes q_at q_fault q_letters (0 : Int32) (q_nodes - (1 : Int32)) hc2) (cwV 2 C.2.2.2.2 gX6_readLink_X6_readFigure rfl rfl rfl (by decide +kernel) ⟨Nat.le_of_ble_eq_true rfl, Nat.le_of_ble_eq_true rfl⟩) [0, 1] [2] 3 ⟨rfl, rfl, trivial⟩ ⟨rfl, rfl, trivial⟩ ⟨⟨_, rfl, rfl⟩, trivial⟩ rfl (by decide) (by decide) (ci := 6) (q0 := 0) rfl rfl rfl hl.1 rfl (lv_room (Nat.le_of_ble_eq_true rfl)) dX6_readLink_8 ⟨Nat.zero_le _, Nat.zero_le _⟩ (fun H locs w => ?_)
  refine lv_istore_n (lv' := [(1, .int r1.1), (0, .ref a_this)]) C.1 C.2.1 dX6_readLink_11 rfl hl (by decide) rfl (fun ls hl => ?_)
  refine lv_iload_n C.1 C.2.1 dX6_readLink_12 rfl (lv_at hl 0 rfl) ?_
  refine lv_iconst (v := (-1 : Int32)) C.1 C.2.1 dX6_readLink_13 (by decide) ?_
  refine lv_icmp_ne (tgt := 19) C.1 C.2.1 dX6_readLink_14 (by decide) (fun hq3 => ?_) (fun hq3 => ?_)
  · have hf := ite_f hf hq3
    refine lv_aload_n C.1 C.2.1 dX6_readLink_19 rfl (lv_at hl 1 rfl) ?_
    refine lv_bipush (v := (45 : Int32)) C.1 C.2.1 dX6_readLink_20 (by decide) ?_
    obtain ⟨r4, hc5, hf⟩ := bd hf
    refine call_Vi (ws' := (wX6_readLink cI cL cS cH a_this a_this_near a_this_letters q_length q_nodes r4.2 r1.2.2 q_letters q_near)) (rest := []) C w (mX6_skipsSign l D cI cL cS cH _ a_this a_this_near a_this_letters q_length q_nodes r1.2.1 r1.2.2 q_letters (45 : Int32) hc5) (cwV 1 C.2.2.2.2 gX6_readLink_X6_skipsSign rfl rfl rfl (by decide +kernel) ⟨Nat.le_of_ble_eq_true rfl, Nat.le_of_ble_eq_true rfl⟩) [0, 1] [2] 3 ⟨rfl, rfl, trivial⟩ ⟨rfl, rfl, trivial⟩ ⟨⟨_, rfl, rfl⟩, trivial⟩ rfl (by decide) (by decide) (ci := 6) (q0 := 0) rfl rfl rfl hl.1 rfl (lv_room (Nat.le_of_ble_eq_true rfl)) dX6_readLink_22 ⟨Nat.zero_le _, Nat.zero_le _⟩ (fun H locs w => ?_)
    refine lv_if_ne (tgt := 38) C.1 C.2.1 dX6_readLink_25 (by decide) (fun hq6 => ?_) (fun hq6 => ?_)
    · have hf := ite_f hf hq6
      refine lv_aload_n C.1 C.2.1 dX6_readLink_38 rfl (lv_at hl 1 rfl) ?_
      refine lv_iconst (v := (0 : Int32)) C.1 C.2.1 dX6_readLink_39 (by decide) ?_
      refine lv_aload_n C.1 C.2.1 dX6_readLink_40 rfl (lv_at hl 1 rfl) ?_
      refine r_get C w inX6_readLink_X6 0 rfl rfl 1 (by decide) lkX6_readLink_15 rfl dX6_readLink_41 ?_
      refine lv_iconst (v := (1 : Int32)) C.1 C.2.1 dX6_readLink_44 (by decide) ?_
      refine lv_isub C.1 C.2.1 dX6_readLink_45 ?_
      obtain ⟨r7, hc8, hf⟩ := bd hf
      refine call_Vi (ws' := (wX6_readLink cI cL cS cH a_this a_this_near a_this_letters q_length q_nodes r7.2.1 r7.2.2 q_letters q_near)) (rest := []) C w (mX6_readFigure l D cI cL cS cH _ a_this a_this_near a_this_letters q_length q_nodes r4.2 r1.2.2 q_letters (0 : Int32) (q_nodes - (1 : Int32)) hc8) (cwV 2 C.2.2.2.2 gX6_readLink_X6_readFigure rfl rfl rfl (by decide +kernel) ⟨Nat.le_of_ble_eq_true rfl, Nat.le_of_ble_eq_true rfl⟩) [0, 1] [2] 3 ⟨rfl, rfl, trivial⟩ ⟨rfl, rfl, trivial⟩ ⟨⟨_, rfl, rfl⟩, trivial⟩ rfl (by decide) (by decide) (ci := 6) (q0 := 0) rfl rfl rfl hl.1 rfl (lv_room (Nat.le_of_ble_eq_true rfl)) dX6_readLink_46 ⟨Nat.zero_le _, Nat.zero_le _⟩ (fun H locs w => ?_)
      refine lv_istore_n (lv' := [(2, .int r7.1), (1, .int r1.1), (0, .ref a_this)]) C.1 C.2.1 dX6_readLink_49 rfl hl (by decide) rfl (fun ls hl => ?_)
      refine lv_iload_n C.1 C.2.1 dX6_readLink_50 rfl (lv_at hl 0 rfl) ?_
      refine lv_iconst (v := (-1 : Int32)) C.1 C.2.1 dX6_readLink_51 (by decide) ?_
      refine lv_icmp_ne (tgt := 57) C.1 C.2.1 dX6_readLink_52 (by decide) (fun hq9 => ?_) (fun hq9 => ?_)
      · have hf := ite_f hf hq9
        refine lv_iload_n C.1 C.2.1 dX6_readLink_57 rfl (lv_at hl 1 rfl) ?_
        refine lv_iload_n C.1 C.2.1 dX6_readLink_58 rfl (lv_at hl 0 rfl) ?_
        refine lv_icmp_eq (tgt := 75) C.1 C.2.1 dX6_readLink_59 (by decide) (fun hq10 => ?_) (fun hq10 => ?_)
        · have hf := ite_t hf hq10
          exact hj75 r7.2.1 r7.2.2 q_near _ _ _ w (lv_sub hl [2] rfl) hf
        · have hf := ite_f hf hq10
          refine lv_aload_n C.1 C.2.1 dX6_readLink_62 rfl (lv_at hl 2 rfl) ?_
          refine r_get C w inX6_readLink_X6 0 rfl rfl 2 (by decide) lkX6_readLink_18 rfl dX6_readLink_63 ?_
          refine lv_iload_n C.1 C.2.1 dX6_readLink_66 rfl (lv_at hl 1 rfl) ?_
          obtain ⟨y11, hy12, hf⟩ := bd hf
          refine r_iald C w 2 0 rfl rfl (rd_in hy12) dX6_readLink_67 ?_
          refine lv_iload_n C.1 C.2.1 dX6_readLink_68 rfl (lv_at hl 0 rfl) ?_
          obtain ⟨r13, hc14, hf⟩ := bd hf
          refine call_Ni (ws' := (wX6_readLink cI cL cS cH a_this a_this_near a_this_letters q_length q_nodes r7.2.1 r7.2.2 q_letters q_near)) (rest := []) C w (mX7_has l D cI cL cS cH _ y11 r7.1 hc14) ⟨va_cnB 2 C.2.2.2.2 gX6_readLink_X7_has_n95 rfl rfl rfl (w.1.2.1 (RX6, 95, yX7_has) (by decide +kernel)) (C.2.2.2.2 (.initialized RX7) (by decide +kernel)) (by decide +kernel) ⟨Nat.le_of_ble_eq_true rfl, Nat.le_of_ble_eq_true rfl⟩, C.2.2.2.2 (.static yX7_has) (by decide +kernel), trivial⟩ [] [0, 1, 2] 3 trivial trivial ⟨⟨_, rfl, rfl⟩, ⟨_, rfl, rfl⟩, ⟨_, rfl, rfl⟩, trivial⟩ rfl (by decide) (by decide) rfl hl.1 rfl (lv_room (Nat.le_of_ble_eq_true rfl)) dX6_readLink_69 ⟨Nat.zero_le _, Nat.zero_le _⟩ (fun H locs w => ?_)
          refine lv_if_eq (tgt := 87) C.1 C.2.1 dX6_readLink_72 (by decide) (fun hq15 => ?_) (fun hq15 => ?_)
          · have hf := ite_t hf hq15
            refine lv_aload_n C.1 C.2.1 dX6_readLink_87 rfl (lv_at hl 2 rfl) ?_
            refine lv_iload_n C.1 C.2.1 dX6_readLink_88 rfl (lv_at hl 1 rfl) ?_
            refine lv_iload_n C.1 C.2.1 dX6_readLink_89 rfl (lv_at hl 0 rfl) ?_
            obtain ⟨r16, hc17, hf⟩ := bd hf
            refine call_Vv (ws' := (wX6_readLink cI cL cS cH a_this a_this_near a_this_letters q_length q_nodes r7.2.1 r7.2.2 q_letters r16)) (rest := []) C w (mX6_join l D cI cL cS cH _ a_this a_this_near a_this_letters q_length q_nodes r7.2.1 r7.2.2 q_near r1.1 r7.1 hc17) (cwV 2 C.2.2.2.2 gX6_readLink_X6_join rfl rfl rfl (by decide +kernel) ⟨Nat.le_of_ble_eq_true rfl, Nat.le_of_ble_eq_true rfl⟩) [0, 2] [1] 3 ⟨rfl, rfl, trivial⟩ ⟨rfl, rfl, trivial⟩ ⟨⟨_, rfl, rfl⟩, trivial⟩ rfl (by decide) (by decide) (ci := 6) (q0 := 0) rfl rfl rfl hl.1 rfl (lv_room (Nat.le_of_ble_eq_true rfl)) dX6_readLink_90 ⟨Nat.zero_le _, Nat.zero_le _⟩ (fun H locs w => ?_)
            refine lv_iconst (v := (1 : Int32)) C.1 C.2.1 dX6_readLink_93 (by decide) ?_
            have hres := Option.some.inj hf
            subst hres
            exact ret_z C hr hlocks w (by decide) rfl dX6_readLink_94
          · have hf := ite_f hf hq15
            exact hj75 r7.2.1 r7.2.2 q_near _ _ _ w (lv_sub hl [2] rfl) hf
      · have hf := ite_t hf hq9
        refine lv_iconst (v := (0 : Int32)) C.1 C.2.1 dX6_readLink_55 (by decide) ?_
        have hres := Option.some.inj hf
        subst hres
        exact ret_z C hr hlocks w (by decide) rfl dX6_readLink_56
    · have hf := ite_t hf hq6
      refine lv_aload_n C.1 C.2.1 dX6_readLink_28 rfl (lv_at hl 1 rfl) ?_
      refine lv_aload_n C.1 C.2.1 dX6_readLink_29 rfl (lv_at hl 1 rfl) ?_
      refine r_get C w inX6_readLink_X6 0 rfl rfl 4 (by decide) lkX6_readLink_25 rfl dX6_readLink_30 ?_
      refine r_put (ws' := (wX6_readLink cI cL cS cH a_this a_this_near a_this_letters q_length q_nodes r4.2 r4.2 q_letters q_near)) C w inX6_readLink_X6 tyX6 tyX6_ok nmX6 0 rfl rfl 5 (by decide) lkX6_readLink_28 rfl rfl rfl (Nat.le_of_ble_eq_true rfl) rfl dX6_readLink_33 (fun H locs w => ?_)
      refine lv_iconst (v := (0 : Int32)) C.1 C.2.1 dX6_readLink_36 (by decide) ?_
      have hres := Option.some.inj hf
      subst hres
      exact ret_z C hr hlocks w (by decide) rfl dX6_readLink_37
  · have hf := ite_t hf hq3
    refine lv_iconst (v := (0 : Int32)) C.1 C.2.1 dX6_readLink_17 (by decide) ?_
    have hres := Option.some.inj hf
    subst hres
    exact ret_z C hr hlocks w (by decide) rfl dX6_readLink_18

abbrev wX6_readLinks (cI cL cS cH : ClassId) (a_this : Nat) (a_this_near : Nat) (a_this_letters : Nat) (q_length : Int32) (q_nodes : Int32) (q_at : Int32) (q_fault : Int32) (q_letters : Nat → Int32) (q_near : Nat → Int32) : va_W := [(a_this, .inr (6, [.int q_length, .int q_nodes, .ref a_this_near, .ref a_this_letters, .int q_at, .int q_fault])),
  (a_this_letters, .inl (cI, 90, .inl q_letters)),
  (a_this_near, .inl (cI, 7, .inl q_near))]
def jX6_readLinks_40 (q_length : Int32) (q_nodes : Int32) (q_letters : Nat → Int32) (y40_2 : Int32) (z40_0 : Int32) (k40_q_at : Int32) (k40_q_fault : Int32) (k40_q_near : Nat → Int32) : Option ((Int32 × Int32 × Int32 × Int32 × (Nat → Int32)) ⊕ (Int32 × Int32 × Int32 × Int32 × (Nat → Int32))) := some (.inl (z40_0, (y40_2 + (1 : Int32)), k40_q_at, k40_q_fault, k40_q_near))
def jX6_readLinks_39 (q_length : Int32) (q_nodes : Int32) (q_letters : Nat → Int32) (y39_2 : Int32) (k39_q_at : Int32) (k39_q_fault : Int32) (k39_q_near : Nat → Int32) : Option ((Int32 × Int32 × Int32 × Int32 × (Nat → Int32)) ⊕ (Int32 × Int32 × Int32 × Int32 × (Nat → Int32))) := jX6_readLinks_40 q_length q_nodes q_letters y39_2 (0 : Int32) k39_q_at k39_q_fault k39_q_near
def bX6_readLinks_9 (q_length : Int32) (q_nodes : Int32) (q_letters : Nat → Int32)  (v9 : Int32 × Int32 × Int32 × Int32 × (Nat → Int32)) : Option ((Int32 × Int32 × Int32 × Int32 × (Nat → Int32)) ⊕ (Int32 × Int32 × Int32 × Int32 × (Nat → Int32))) := (if (90 : Int32) ≤ v9.2.1 then some (.inr (v9.1, v9.2.1, v9.2.2.1, v9.2.2.2.1, v9.2.2.2.2)) else (if v9.1 = 0 then some (.inr (v9.1, v9.2.1, v9.2.2.1, v9.2.2.2.1, v9.2.2.2.2)) else Option.bind (fX6_readLink q_length q_nodes v9.2.2.1 v9.2.2.2.1 q_letters v9.2.2.2.2) (fun r3 => (if r3.1 = 0 then jX6_readLinks_39 q_length q_nodes q_letters v9.2.1 r3.2.1 r3.2.2.1 r3.2.2.2 else Option.bind (fX6_skipsSign q_length r3.2.1 q_letters (44 : Int32)) (fun r6 => (if r6.1 = 0 then jX6_readLinks_39 q_length q_nodes q_letters v9.2.1 r6.2 r3.2.2.1 r3.2.2.2 else jX6_readLinks_40 q_length q_nodes q_letters v9.2.1 (1 : Int32) r6.2 r3.2.2.1 r3.2.2.2))))))
def fX6_readLinks (q_length : Int32) (q_nodes : Int32) (q_at : Int32) (q_fault : Int32) (q_letters : Nat → Int32) (q_near : Nat → Int32)  : Option (Int32 × Int32 × (Nat → Int32)) := Option.bind (fX6_skipsSign q_length q_at q_letters (58 : Int32)) (fun r9 => Option.bind (itL (bX6_readLinks_9 q_length q_nodes q_letters) fu (r9.1, (0 : Int32), r9.2, q_fault, q_near)) (fun ex11 => some (ex11.2.2.1, ex11.2.2.2.1, ex11.2.2.2.2)))
abbrev gX6_readLinks (p : Program) (l : Launch) (e : Env) (s : State) (m : MethodId) (below : List Frame) (meth : Method) (c : Code) (D : vg) (cI cL cS cH : ClassId) (a_this : Nat) (a_this_near : Nat) (a_this_letters : Nat) (q_length : Int32) (q_nodes : Int32) (q_at : Int32) (q_fault : Int32) (q_letters : Nat → Int32) (q_near : Nat → Int32) (res : Int32 × Int32 × (Nat → Int32)) (H : Heap) (locs : List Loc) (g : JFrame) : Prop := W p l e (headSpec wsX6_readLinks ({ frames := 3, cells := 0, slots := 0, locals := 64 })).room s m ([.ref a_this] : List Value).toArray below meth c H locs 0 0 (MQ below (va_Qv (fun (_ : Unit) => True) (fun _ t => pos1 D s.heap.size (wX6_readLinks cI cL cS cH a_this a_this_near a_this_letters q_length q_nodes q_at q_fault q_letters q_near) (wX6_readLinks cI cL cS cH a_this a_this_near a_this_letters q_length q_nodes res.1 res.2.1 q_letters res.2.2) t) (va_A (wX6_readLinks cI cL cS cH a_this a_this_near a_this_letters q_length q_nodes q_at q_fault q_letters q_near) s.heap.size)) ([.ref a_this] : List Value).toArray s 0 0 (va_A (wX6_readLinks cI cL cS cH a_this a_this_near a_this_letters q_length q_nodes q_at q_fault q_letters q_near) s.heap.size)) g
set_option maxHeartbeats 4000000 in
set_option maxRecDepth 100000 in
theorem mX6_readLinks (l : Launch) (D : vg) (cI cL cS cH : ClassId) (sz : Nat) (a_this : Nat) (a_this_near : Nat) (a_this_letters : Nat) (q_length : Int32) (q_nodes : Int32) (q_at : Int32) (q_fault : Int32) (q_letters : Nat → Int32) (q_near : Nat → Int32) {res : Int32 × Int32 × (Nat → Int32)} (hf : fX6_readLinks q_length q_nodes q_at q_fault q_letters q_near = some res) : ctv l yX6_readLinks wsX6_readLinks ({ frames := 3, cells := 0, slots := 0, locals := 64 }) D (ty4 cI cL cS cH) sz [.ref a_this] (wX6_readLinks cI cL cS cH a_this a_this_near a_this_letters q_length q_nodes q_at q_fault q_letters q_near) (wX6_readLinks cI cL cS cH a_this a_this_near a_this_letters q_length q_nodes res.1 res.2.1 q_letters res.2.2) := by
  refine Met.ofW (cc := cX6_readLinks) (maxL := 3) (ret := none) (by decide) rfl ?_
  intro p e s m args below meth c s₁ B hml hv
  obtain ⟨rfl, hpre⟩ := hv
  obtain rfl := hpre.1
  have C : CallFix p m c cX6_readLinks 3 s _ wsX6_readLinks RX6 := ⟨B.exec, B.bytes, hml, findClass_of_methodNamed B.named, atoms_spec (ws := wsX6_readLinks) B.pre⟩
  have hr := B.returns
  have hlocks := B.notSynchronized
  have w := wd_start hpre
  clear hpre B
  have hl := lv_entry ([.ref a_this]) (n := 3) (Nat.le_of_ble_eq_true rfl)
  rw [lg_entry_eq]
  generalize (lg_sl ([.ref a_this]) ++ List.replicate (3 - (lg_sl ([.ref a_this])).length) Slot.unset).toArray = ls at hl ⊢
  have hl : lv_has ls 3 [(0, .ref a_this)] := hl
  unfold fX6_readLinks at hf
  have hlp9 : ∀  (ex9 : Int32 × Int32 × Int32 × Int32 × (Nat → Int32)) (hk : (∀ (H : Heap) (locs : List Loc) (ls : Array Slot), wd D (ty4 cI cL cS cH) s (va_A (wX6_readLinks cI cL cS cH a_this a_this_near a_this_letters q_length q_nodes q_at q_fault q_letters q_near) s.heap.size) s.heap H locs (wX6_readLinks cI cL cS cH a_this a_this_near a_this_letters q_length q_nodes ex9.2.2.1 ex9.2.2.2.1 q_letters ex9.2.2.2.2) → lv_has ls 3 [] → gX6_readLinks p l e s m below meth c D cI cL cS cH a_this a_this_near a_this_letters q_length q_nodes q_at q_fault q_letters q_near res H locs (F0 m 47 ls []))) (n : Nat) (v9 : Int32 × Int32 × Int32 × Int32 × (Nat → Int32)) (H : Heap) (locs : List Loc) (ls : Array Slot), itL (bX6_readLinks_9 q_length q_nodes q_letters) n v9 = some ex9 → wd D (ty4 cI cL cS cH) s (va_A (wX6_readLinks cI cL cS cH a_this a_this_near a_this_letters q_length q_nodes q_at q_fault q_letters q_near) s.heap.size) s.heap H locs (wX6_readLinks cI cL cS cH a_this a_this_near a_this_letters q_length q_nodes v9.2.2.1 v9.2.2.2.1 q_letters v9.2.2.2.2) → lv_has ls 3 [(0, .ref a_this), (1, .int v9.1), (2, .int v9.2.1)] → gX6_readLinks p l e s m below meth c D cI cL cS cH a_this a_this_near a_this_letters q_length q_nodes q_at q_fault q_letters q_near res H locs (F0 m 9 ls []) := by
    intro  ex9 hk n
    induction n with
    | zero => intro v9 H locs ls hi w hl; exact (itL_zero hi).elim
    | succ n ih =>
      intro v9 H locs ls hi w hl
      obtain ⟨o, hf, hn⟩ := itL_succ hi
      unfold bX6_readLinks_9 at hf
      have hj40 : ∀ (y40_2 : Int32) (z40_0 : Int32) (k40_q_at : Int32) (k40_q_fault : Int32) (k40_q_near : Nat → Int32) (H : Heap) (locs : List Loc) (ls : Array Slot), wd D (ty4 cI cL cS cH) s (va_A (wX6_readLinks cI cL cS cH a_this a_this_near a_this_letters q_length q_nodes q_at q_fault q_letters q_near) s.heap.size) s.heap H locs (wX6_readLinks cI cL cS cH a_this a_this_near a_this_letters q_length q_nodes k40_q_at k40_q_fault q_letters k40_q_near) → lv_has ls 3 [(0, .ref a_this), (2, .int y40_2)] → jX6_readLinks_40 q_length q_nodes q_letters y40_2 z40_0 k40_q_at k40_q_fault k40_q_near = some o → gX6_readLinks p l e s m below meth c D cI cL cS cH a_this a_this_near a_this_letters q_length q_nodes q_at q_fault q_letters q_near res H locs (F0 m 40 ls [.int z40_0]) := by
        intro y40_2 z40_0 k40_q_at k40_q_fault k40_q_near H locs ls w hl hf
        unfold jX6_readLinks_40 at hf
        refine lv_istore_n (lv' := [(1, .int z40_0), (0, .ref a_this), (2, .int y40_2)]) C.1 C.2.1 dX6_readLinks_40 rfl hl (by decide) rfl (fun ls hl => ?_)
        refine lv_iinc (v := (y40_2 + (1 : Int32))) (lv' := [(2, .int (y40_2 + (1 : Int32))), (1, .int z40_0), (0, .ref a_this)]) C.1 C.2.1 dX6_readLinks_41 hl (k := 2) rfl rfl (by decide) rfl (fun ls hl => ?_)
        refine lv_goto (tgt := 9) C.1 C.2.1 dX6_readLinks_44 (by decide) ?_
        obtain rfl := Option.some.inj hf
        exact ih (z40_0, (y40_2 + (1 : Int32)), k40_q_at, k40_q_fault, k40_q_near) _ _ _ hn w (lv_sub hl [2, 1, 0] rfl)
      have hj39 : ∀ (y39_2 : Int32) (k39_q_at : Int32) (k39_q_fault : Int32) (k39_q_near : Nat → Int32) (H : Heap) (locs : List Loc) (ls : Array Slot), wd D (ty4 cI cL cS cH) s (va_A (wX6_readLinks cI cL cS cH a_this a_this_near a_this_letters q_length q_nodes q_at q_fault q_letters q_near) s.heap.size) s.heap H locs (wX6_readLinks cI cL cS cH a_this a_this_near a_this_letters q_length q_nodes k39_q_at k39_q_fault q_letters k39_q_near) → lv_has ls 3 [(0, .ref a_this), (2, .int y39_2)] → jX6_readLinks_39 q_length q_nodes q_letters y39_2 k39_q_at k39_q_fault k39_q_near = some o → gX6_readLinks p l e s m below meth c D cI cL cS cH a_this a_this_near a_this_letters q_length q_nodes q_at q_fault q_letters q_near res H locs (F0 m 39 ls []) := by
        intro y39_2 k39_q_at k39_q_fault k39_q_near H locs ls w hl hf
        unfold jX6_readLinks_39 at hf
        refine lv_iconst (v := (0 : Int32)) C.1 C.2.1 dX6_readLinks_39 (by decide) ?_
        exact hj40 y39_2 (0 : Int32) k39_q_at k39_q_fault k39_q_near _ _ _ w (lv_sub hl [0, 1] rfl) hf
      refine lv_iload_n C.1 C.2.1 dX6_readLinks_9 rfl (lv_at hl 2 rfl) ?_
      refine lv_bipush (v := (90 : Int32)) C.1 C.2.1 dX6_readLinks_10 (by decide) ?_
      refine lv_icmp_ge (tgt := 47) C.1 C.2.1 dX6_readLinks_12 (by decide) (fun hq1 => ?_) (fun hq1 => ?_)
      · have hf := ite_t hf hq1
        obtain rfl := Option.some.inj hf
        obtain rfl := hn
        exact hk _ _ _ w (lv_sub hl [] rfl)
      · have hf := ite_f hf hq1
        refine lv_iload_n C.1 C.2.1 dX6_readLinks_15 rfl (lv_at hl 1 rfl) ?_
        refine lv_if_eq (tgt := 47) C.1 C.2.1 dX6_readLinks_16 (by decide) (fun hq2 => ?_) (fun hq2 => ?_)
        · have hf := ite_t hf hq2
          obtain rfl := Option.some.inj hf
          obtain rfl := hn
          exact hk _ _ _ w (lv_sub hl [] rfl)
        · have hf := ite_f hf hq2
          refine lv_aload_n C.1 C.2.1 dX6_readLinks_19 rfl (lv_at hl 0 rfl) ?_
          obtain ⟨r3, hc4, hf⟩ := bd hf
          refine call_Vi (ws' := (wX6_readLinks cI cL cS cH a_this a_this_near a_this_letters q_length q_nodes r3.2.1 r3.2.2.1 q_letters r3.2.2.2)) (rest := []) C w (mX6_readLink l D cI cL cS cH _ a_this a_this_near a_this_letters q_length q_nodes v9.2.2.1 v9.2.2.2.1 q_letters v9.2.2.2.2 hc4) (cwV 0 C.2.2.2.2 gX6_readLinks_X6_readLink rfl rfl rfl (by decide +kernel) ⟨Nat.le_of_ble_eq_true rfl, Nat.le_of_ble_eq_true rfl⟩) [0, 1, 2] [] 3 ⟨rfl, rfl, rfl, trivial⟩ ⟨rfl, rfl, rfl, trivial⟩ trivial rfl (by decide) (by decide) (ci := 6) (q0 := 0) rfl rfl rfl hl.1 rfl (lv_room (Nat.le_of_ble_eq_true rfl)) dX6_readLinks_20 ⟨Nat.zero_le _, Nat.zero_le _⟩ (fun H locs w => ?_)
          refine lv_if_eq (tgt := 39) C.1 C.2.1 dX6_readLinks_23 (by decide) (fun hq5 => ?_) (fun hq5 => ?_)
          · have hf := ite_t hf hq5
            exact hj39 v9.2.1 r3.2.1 r3.2.2.1 r3.2.2.2 _ _ _ w (lv_sub hl [0, 2] rfl) hf
          · have hf := ite_f hf hq5
            refine lv_aload_n C.1 C.2.1 dX6_readLinks_26 rfl (lv_at hl 0 rfl) ?_
            refine lv_bipush (v := (44 : Int32)) C.1 C.2.1 dX6_readLinks_27 (by decide) ?_
            obtain ⟨r6, hc7, hf⟩ := bd hf
            refine call_Vi (ws' := (wX6_readLinks cI cL cS cH a_this a_this_near a_this_letters q_length q_nodes r6.2 r3.2.2.1 q_letters r3.2.2.2)) (rest := []) C w (mX6_skipsSign l D cI cL cS cH _ a_this a_this_near a_this_letters q_length q_nodes r3.2.1 r3.2.2.1 q_letters (44 : Int32) hc7) (cwV 1 C.2.2.2.2 gX6_readLinks_X6_skipsSign rfl rfl rfl (by decide +kernel) ⟨Nat.le_of_ble_eq_true rfl, Nat.le_of_ble_eq_true rfl⟩) [0, 1] [2] 3 ⟨rfl, rfl, trivial⟩ ⟨rfl, rfl, trivial⟩ ⟨⟨_, rfl, rfl⟩, trivial⟩ rfl (by decide) (by decide) (ci := 6) (q0 := 0) rfl rfl rfl hl.1 rfl (lv_room (Nat.le_of_ble_eq_true rfl)) dX6_readLinks_29 ⟨Nat.zero_le _, Nat.zero_le _⟩ (fun H locs w => ?_)
            refine lv_if_eq (tgt := 39) C.1 C.2.1 dX6_readLinks_32 (by decide) (fun hq8 => ?_) (fun hq8 => ?_)
            · have hf := ite_t hf hq8
              exact hj39 v9.2.1 r6.2 r3.2.2.1 r3.2.2.2 _ _ _ w (lv_sub hl [0, 2] rfl) hf
            · have hf := ite_f hf hq8
              refine lv_iconst (v := (1 : Int32)) C.1 C.2.1 dX6_readLinks_35 (by decide) ?_
              refine lv_goto (tgt := 40) C.1 C.2.1 dX6_readLinks_36 (by decide) ?_
              exact hj40 v9.2.1 (1 : Int32) r6.2 r3.2.2.1 r3.2.2.2 _ _ _ w (lv_sub hl [0, 2] rfl) hf
  refine lv_aload_n C.1 C.2.1 dX6_readLinks_0 rfl (lv_at hl 0 rfl) ?_
  refine lv_bipush (v := (58 : Int32)) C.1 C.2.1 dX6_readLinks_1 (by decide) ?_
  obtain ⟨r9, hc10, hf⟩ := bd hf
  refine call_Vi (ws' := (wX6_readLinks cI cL cS cH a_this a_this_near a_this_letters q_length q_nodes r9.2 q_fault q_letters q_near)) (rest := []) C w (mX6_skipsSign l D cI cL cS cH _ a_this a_this_near a_this_letters q_length q_nodes q_at q_fault q_letters (58 : Int32) hc10) (cwV 1 C.2.2.2.2 gX6_readLinks_X6_skipsSign rfl rfl rfl (by decide +kernel) ⟨Nat.le_of_ble_eq_true rfl, Nat.le_of_ble_eq_true rfl⟩) [0, 1] [2] 3 ⟨rfl, rfl, trivial⟩ ⟨rfl, rfl, trivial⟩ ⟨⟨_, rfl, rfl⟩, trivial⟩ rfl (by decide) (by decide) (ci := 6) (q0 := 0) rfl rfl rfl hl.1 rfl (lv_room (Nat.le_of_ble_eq_true rfl)) dX6_readLinks_3 ⟨Nat.zero_le _, Nat.zero_le _⟩ (fun H locs w => ?_)
  refine lv_istore_n (lv' := [(1, .int r9.1), (0, .ref a_this)]) C.1 C.2.1 dX6_readLinks_6 rfl hl (by decide) rfl (fun ls hl => ?_)
  refine lv_iconst (v := (0 : Int32)) C.1 C.2.1 dX6_readLinks_7 (by decide) ?_
  refine lv_istore_n (lv' := [(2, .int (0 : Int32)), (1, .int r9.1), (0, .ref a_this)]) C.1 C.2.1 dX6_readLinks_8 rfl hl (by decide) rfl (fun ls hl => ?_)
  obtain ⟨ex11, hx12, hf⟩ := bd hf
  refine hlp9  ex11 ?_ fu (r9.1, (0 : Int32), r9.2, q_fault, q_near) _ _ _ hx12 w (lv_sub hl [2, 1, 0] rfl)
  intro H locs ls w hl
  have hres := Option.some.inj hf
  subst hres
  exact ret_v C hr hlocks w dX6_readLinks_47

set_option maxRecDepth 100000 in
theorem inX6_joinAs_X6 : ∀ w ∈ u_ws RX6 TX6 6, w ∈ wsX6_joinAs := by decide +kernel
set_option maxRecDepth 100000 in
theorem lkX6_joinAs_15 : Cond.fieldLink RX6 15 "CleanNets$Tape" "nodes" "I" ∈ wsX6_joinAs := by decide +kernel
abbrev wX6_joinAs (cI cL cS cH : ClassId) (a_this : Nat) (a_this_near : Nat) (a_this_letters : Nat) (q_length : Int32) (q_nodes : Int32) (q_at : Int32) (q_fault : Int32) (q_near : Nat → Int32) : va_W := [(a_this, .inr (6, [.int q_length, .int q_nodes, .ref a_this_near, .ref a_this_letters, .int q_at, .int q_fault])),
  (a_this_near, .inl (cI, 7, .inl q_near))]
def jX6_joinAs_97 (q_nodes : Int32) (y12_1 : Int32) (y12_2 : Int32) (y97_3 : Int32) (k97_q_near : Nat → Int32) : Option ((Int32 × (Nat → Int32)) ⊕ (Int32 × (Nat → Int32))) := some (.inl ((y97_3 + (1 : Int32)), k97_q_near))
def jX6_joinAs_91 (q_nodes : Int32) (y12_1 : Int32) (y12_2 : Int32) (y91_3 : Int32) (k91_q_near : Nat → Int32) : Option ((Int32 × (Nat → Int32)) ⊕ (Int32 × (Nat → Int32))) := Option.bind (fX6_join k91_q_near y91_3 y12_2) (fun r1 => jX6_joinAs_97 q_nodes y12_1 y12_2 y91_3 r1)
def jX6_joinAs_76 (q_nodes : Int32) (y12_1 : Int32) (y12_2 : Int32) (y76_3 : Int32) (y76_4 : Int32) (y76_5 : Int32) (k76_q_near : Nat → Int32) : Option ((Int32 × (Nat → Int32)) ⊕ (Int32 × (Nat → Int32))) := (if y12_1 = (2 : Int32) then (if y76_4 = 0 then (if y76_5 = 0 then jX6_joinAs_97 q_nodes y12_1 y12_2 y76_3 k76_q_near else jX6_joinAs_91 q_nodes y12_1 y12_2 y76_3 k76_q_near) else jX6_joinAs_91 q_nodes y12_1 y12_2 y76_3 k76_q_near) else jX6_joinAs_97 q_nodes y12_1 y12_2 y76_3 k76_q_near)
def jX6_joinAs_66 (q_nodes : Int32) (y12_1 : Int32) (y12_2 : Int32) (y66_3 : Int32) (y66_4 : Int32) (y66_5 : Int32) (k66_q_near : Nat → Int32) : Option ((Int32 × (Nat → Int32)) ⊕ (Int32 × (Nat → Int32))) := (if y12_1 = (1 : Int32) then (if y66_4 = 0 then jX6_joinAs_76 q_nodes y12_1 y12_2 y66_3 y66_4 y66_5 k66_q_near else jX6_joinAs_91 q_nodes y12_1 y12_2 y66_3 k66_q_near) else jX6_joinAs_76 q_nodes y12_1 y12_2 y66_3 y66_4 y66_5 k66_q_near)
def jX6_joinAs_50 (q_nodes : Int32) (y12_1 : Int32) (y12_2 : Int32) (y50_3 : Int32) (y50_4 : Int32) (z50_0 : Int32) (k50_q_near : Nat → Int32) : Option ((Int32 × (Nat → Int32)) ⊕ (Int32 × (Nat → Int32))) := (if y12_1 = (4 : Int32) then jX6_joinAs_91 q_nodes y12_1 y12_2 y50_3 k50_q_near else (if y12_1 = (3 : Int32) then (if y50_3 = 0 then jX6_joinAs_91 q_nodes y12_1 y12_2 y50_3 k50_q_near else jX6_joinAs_66 q_nodes y12_1 y12_2 y50_3 y50_4 z50_0 k50_q_near) else jX6_joinAs_66 q_nodes y12_1 y12_2 y50_3 y50_4 z50_0 k50_q_near))
def jX6_joinAs_49 (q_nodes : Int32) (y12_1 : Int32) (y12_2 : Int32) (y49_3 : Int32) (y49_4 : Int32) (k49_q_near : Nat → Int32) : Option ((Int32 × (Nat → Int32)) ⊕ (Int32 × (Nat → Int32))) := jX6_joinAs_50 q_nodes y12_1 y12_2 y49_3 y49_4 (0 : Int32) k49_q_near
def jX6_joinAs_29 (q_nodes : Int32) (y12_1 : Int32) (y12_2 : Int32) (y29_3 : Int32) (z29_0 : Int32) (k29_q_near : Nat → Int32) : Option ((Int32 × (Nat → Int32)) ⊕ (Int32 × (Nat → Int32))) := (if y29_3 = 0 then (if y12_2 = (q_nodes - (1 : Int32)) then jX6_joinAs_50 q_nodes y12_1 y12_2 y29_3 z29_0 (1 : Int32) k29_q_near else jX6_joinAs_49 q_nodes y12_1 y12_2 y29_3 z29_0 k29_q_near) else jX6_joinAs_49 q_nodes y12_1 y12_2 y29_3 z29_0 k29_q_near)
def bX6_joinAs_12 (q_nodes : Int32) (y12_1 : Int32) (y12_2 : Int32) (v12 : Int32 × (Nat → Int32)) : Option ((Int32 × (Nat → Int32)) ⊕ (Int32 × (Nat → Int32))) := (if y12_2 ≤ v12.1 then some (.inr (v12.1, v12.2)) else (if (y12_2 - v12.1) = (1 : Int32) then jX6_joinAs_29 q_nodes y12_1 y12_2 v12.1 (1 : Int32) v12.2 else jX6_joinAs_29 q_nodes y12_1 y12_2 v12.1 (0 : Int32) v12.2))
def bX6_joinAs_2 (q_nodes : Int32) (y2_1 : Int32) (v2 : Int32 × (Nat → Int32)) : Option ((Int32 × (Nat → Int32)) ⊕ (Int32 × (Nat → Int32))) := (if q_nodes ≤ v2.1 then some (.inr (v2.1, v2.2)) else Option.bind (itL (bX6_joinAs_12 q_nodes y2_1 v2.1) fu ((0 : Int32), v2.2)) (fun ex16 => some (.inl ((v2.1 + (1 : Int32)), ex16.2))))
def fX6_joinAs (q_nodes : Int32) (q_near : Nat → Int32) (x1 : Int32) : Option (Nat → Int32) := Option.bind (itL (bX6_joinAs_2 q_nodes x1) fu ((1 : Int32), q_near)) (fun ex18 => some ex18.2)
abbrev gX6_joinAs (p : Program) (l : Launch) (e : Env) (s : State) (m : MethodId) (below : List Frame) (meth : Method) (c : Code) (D : vg) (cI cL cS cH : ClassId) (a_this : Nat) (a_this_near : Nat) (a_this_letters : Nat) (q_length : Int32) (q_nodes : Int32) (q_at : Int32) (q_fault : Int32) (q_near : Nat → Int32) (x1 : Int32) (res : Nat → Int32) (H : Heap) (locs : List Loc) (g : JFrame) : Prop := W p l e (headSpec wsX6_joinAs ({ frames := 1, cells := 0, slots := 0, locals := 22 })).room s m ([.ref a_this, .int x1] : List Value).toArray below meth c H locs 0 0 (MQ below (va_Qv (fun (_ : Unit) => True) (fun _ t => pos1 D s.heap.size (wX6_joinAs cI cL cS cH a_this a_this_near a_this_letters q_length q_nodes q_at q_fault q_near) (wX6_joinAs cI cL cS cH a_this a_this_near a_this_letters q_length q_nodes q_at q_fault res) t) (va_A (wX6_joinAs cI cL cS cH a_this a_this_near a_this_letters q_length q_nodes q_at q_fault q_near) s.heap.size)) ([.ref a_this, .int x1] : List Value).toArray s 0 0 (va_A (wX6_joinAs cI cL cS cH a_this a_this_near a_this_letters q_length q_nodes q_at q_fault q_near) s.heap.size)) g
set_option maxHeartbeats 4000000 in
set_option maxRecDepth 100000 in
theorem mX6_joinAs (l : Launch) (D : vg) (cI cL cS cH : ClassId) (sz : Nat) (a_this : Nat) (a_this_near : Nat) (a_this_letters : Nat) (q_length : Int32) (q_nodes : Int32) (q_at : Int32) (q_fault : Int32) (q_near : Nat → Int32) (x1 : Int32) {res : Nat → Int32} (hf : fX6_joinAs q_nodes q_near x1 = some res) : ctv l yX6_joinAs wsX6_joinAs ({ frames := 1, cells := 0, slots := 0, locals := 22 }) D (ty4 cI cL cS cH) sz [.ref a_this, .int x1] (wX6_joinAs cI cL cS cH a_this a_this_near a_this_letters q_length q_nodes q_at q_fault q_near) (wX6_joinAs cI cL cS cH a_this a_this_near a_this_letters q_length q_nodes q_at q_fault res) := by
  refine Met.ofW (cc := cX6_joinAs) (maxL := 6) (ret := none) (by decide) rfl ?_
  intro p e s m args below meth c s₁ B hml hv
  obtain ⟨rfl, hpre⟩ := hv
  obtain rfl := hpre.1
  have C : CallFix p m c cX6_joinAs 6 s _ wsX6_joinAs RX6 := ⟨B.exec, B.bytes, hml, findClass_of_methodNamed B.named, atoms_spec (ws := wsX6_joinAs) B.pre⟩
  have hr := B.returns
  have hlocks := B.notSynchronized
  have w := wd_start hpre
  clear hpre B
  have hl := lv_entry ([.ref a_this, .int x1]) (n := 6) (Nat.le_of_ble_eq_true rfl)
  rw [lg_entry_eq]
  generalize (lg_sl ([.ref a_this, .int x1]) ++ List.replicate (6 - (lg_sl ([.ref a_this, .int x1])).length) Slot.unset).toArray = ls at hl ⊢
  have hl : lv_has ls 6 [(0, .ref a_this), (1, .int x1)] := hl
  unfold fX6_joinAs at hf
  have hlp2 : ∀ (y2_1 : Int32) (ex2 : Int32 × (Nat → Int32)) (hk : (∀ (H : Heap) (locs : List Loc) (ls : Array Slot), wd D (ty4 cI cL cS cH) s (va_A (wX6_joinAs cI cL cS cH a_this a_this_near a_this_letters q_length q_nodes q_at q_fault q_near) s.heap.size) s.heap H locs (wX6_joinAs cI cL cS cH a_this a_this_near a_this_letters q_length q_nodes q_at q_fault ex2.2) → lv_has ls 6 [] → gX6_joinAs p l e s m below meth c D cI cL cS cH a_this a_this_near a_this_letters q_length q_nodes q_at q_fault q_near x1 res H locs (F0 m 109 ls []))) (n : Nat) (v2 : Int32 × (Nat → Int32)) (H : Heap) (locs : List Loc) (ls : Array Slot), itL (bX6_joinAs_2 q_nodes y2_1) n v2 = some ex2 → wd D (ty4 cI cL cS cH) s (va_A (wX6_joinAs cI cL cS cH a_this a_this_near a_this_letters q_length q_nodes q_at q_fault q_near) s.heap.size) s.heap H locs (wX6_joinAs cI cL cS cH a_this a_this_near a_this_letters q_length q_nodes q_at q_fault v2.2) → lv_has ls 6 [(0, .ref a_this), (1, .int y2_1), (2, .int v2.1)] → gX6_joinAs p l e s m below meth c D cI cL cS cH a_this a_this_near a_this_letters q_length q_nodes q_at q_fault q_near x1 res H locs (F0 m 2 ls []) := by
    intro y2_1 ex2 hk n
    induction n with
    | zero => intro v2 H locs ls hi w hl; exact (itL_zero hi).elim
    | succ n ih =>
      intro v2 H locs ls hi w hl
      obtain ⟨o, hf, hn⟩ := itL_succ hi
      unfold bX6_joinAs_2 at hf
      have hlp12 : ∀ (y12_1 : Int32) (y12_2 : Int32) (ex12 : Int32 × (Nat → Int32)) (hk : (∀ (H : Heap) (locs : List Loc) (ls : Array Slot), wd D (ty4 cI cL cS cH) s (va_A (wX6_joinAs cI cL cS cH a_this a_this_near a_this_letters q_length q_nodes q_at q_fault q_near) s.heap.size) s.heap H locs (wX6_joinAs cI cL cS cH a_this a_this_near a_this_letters q_length q_nodes q_at q_fault ex12.2) → lv_has ls 6 [(0, .ref a_this), (1, .int y12_1), (2, .int y12_2)] → gX6_joinAs p l e s m below meth c D cI cL cS cH a_this a_this_near a_this_letters q_length q_nodes q_at q_fault q_near x1 res H locs (F0 m 103 ls []))) (n : Nat) (v12 : Int32 × (Nat → Int32)) (H : Heap) (locs : List Loc) (ls : Array Slot), itL (bX6_joinAs_12 q_nodes y12_1 y12_2) n v12 = some ex12 → wd D (ty4 cI cL cS cH) s (va_A (wX6_joinAs cI cL cS cH a_this a_this_near a_this_letters q_length q_nodes q_at q_fault q_near) s.heap.size) s.heap H locs (wX6_joinAs cI cL cS cH a_this a_this_near a_this_letters q_length q_nodes q_at q_fault v12.2) → lv_has ls 6 [(0, .ref a_this), (1, .int y12_1), (2, .int y12_2), (3, .int v12.1)] → gX6_joinAs p l e s m below meth c D cI cL cS cH a_this a_this_near a_this_letters q_length q_nodes q_at q_fault q_near x1 res H locs (F0 m 12 ls []) := by
        intro y12_1 y12_2 ex12 hk n
        induction n with
        | zero => intro v12 H locs ls hi w hl; exact (itL_zero hi).elim
        | succ n ih =>
          intro v12 H locs ls hi w hl
          obtain ⟨o, hf, hn⟩ := itL_succ hi
          unfold bX6_joinAs_12 at hf
          have hj97 : ∀ (y97_3 : Int32) (k97_q_near : Nat → Int32) (H : Heap) (locs : List Loc) (ls : Array Slot), wd D (ty4 cI cL cS cH) s (va_A (wX6_joinAs cI cL cS cH a_this a_this_near a_this_letters q_length q_nodes q_at q_fault q_near) s.heap.size) s.heap H locs (wX6_joinAs cI cL cS cH a_this a_this_near a_this_letters q_length q_nodes q_at q_fault k97_q_near) → lv_has ls 6 [(0, .ref a_this), (1, .int y12_1), (2, .int y12_2), (3, .int y97_3)] → jX6_joinAs_97 q_nodes y12_1 y12_2 y97_3 k97_q_near = some o → gX6_joinAs p l e s m below meth c D cI cL cS cH a_this a_this_near a_this_letters q_length q_nodes q_at q_fault q_near x1 res H locs (F0 m 97 ls []) := by
            intro y97_3 k97_q_near H locs ls w hl hf
            unfold jX6_joinAs_97 at hf
            refine lv_iinc (v := (y97_3 + (1 : Int32))) (lv' := [(3, .int (y97_3 + (1 : Int32))), (0, .ref a_this), (1, .int y12_1), (2, .int y12_2)]) C.1 C.2.1 dX6_joinAs_97 hl (k := 3) rfl rfl (by decide) rfl (fun ls hl => ?_)
            refine lv_goto (tgt := 12) C.1 C.2.1 dX6_joinAs_100 (by decide) ?_
            obtain rfl := Option.some.inj hf
            exact ih ((y97_3 + (1 : Int32)), k97_q_near) _ _ _ hn w (lv_sub hl [1, 2, 3, 0] rfl)
          have hj91 : ∀ (y91_3 : Int32) (k91_q_near : Nat → Int32) (H : Heap) (locs : List Loc) (ls : Array Slot), wd D (ty4 cI cL cS cH) s (va_A (wX6_joinAs cI cL cS cH a_this a_this_near a_this_letters q_length q_nodes q_at q_fault q_near) s.heap.size) s.heap H locs (wX6_joinAs cI cL cS cH a_this a_this_near a_this_letters q_length q_nodes q_at q_fault k91_q_near) → lv_has ls 6 [(0, .ref a_this), (1, .int y12_1), (2, .int y12_2), (3, .int y91_3)] → jX6_joinAs_91 q_nodes y12_1 y12_2 y91_3 k91_q_near = some o → gX6_joinAs p l e s m below meth c D cI cL cS cH a_this a_this_near a_this_letters q_length q_nodes q_at q_fault q_near x1 res H locs (F0 m 91 ls []) := by
            intro y91_3 k91_q_near H locs ls w hl hf
            unfold jX6_joinAs_91 at hf
            refine lv_aload_n C.1 C.2.1 dX6_joinAs_91 rfl (lv_at hl 0 rfl) ?_
            refine lv_iload_n C.1 C.2.1 dX6_joinAs_92 rfl (lv_at hl 3 rfl) ?_
            refine lv_iload_n C.1 C.2.1 dX6_joinAs_93 rfl (lv_at hl 2 rfl) ?_
            obtain ⟨r1, hc2, hf⟩ := bd hf
            refine call_Vv (ws' := (wX6_joinAs cI cL cS cH a_this a_this_near a_this_letters q_length q_nodes q_at q_fault r1)) (rest := []) C w (mX6_join l D cI cL cS cH _ a_this a_this_near a_this_letters q_length q_nodes q_at q_fault k91_q_near y91_3 y12_2 hc2) (cwV 2 C.2.2.2.2 gX6_joinAs_X6_join rfl rfl rfl (by decide +kernel) ⟨Nat.le_of_ble_eq_true rfl, Nat.le_of_ble_eq_true rfl⟩) [0, 1] [] 2 ⟨rfl, rfl, trivial⟩ ⟨rfl, rfl, trivial⟩ trivial rfl (by decide) (by decide) (ci := 6) (q0 := 0) rfl rfl rfl hl.1 rfl (lv_room (Nat.le_of_ble_eq_true rfl)) dX6_joinAs_94 ⟨Nat.zero_le _, Nat.zero_le _⟩ (fun H locs w => ?_)
            exact hj97 y91_3 r1 _ _ _ w (lv_sub hl [0, 1, 2, 3] rfl) hf
          have hj76 : ∀ (y76_3 : Int32) (y76_4 : Int32) (y76_5 : Int32) (k76_q_near : Nat → Int32) (H : Heap) (locs : List Loc) (ls : Array Slot), wd D (ty4 cI cL cS cH) s (va_A (wX6_joinAs cI cL cS cH a_this a_this_near a_this_letters q_length q_nodes q_at q_fault q_near) s.heap.size) s.heap H locs (wX6_joinAs cI cL cS cH a_this a_this_near a_this_letters q_length q_nodes q_at q_fault k76_q_near) → lv_has ls 6 [(0, .ref a_this), (1, .int y12_1), (2, .int y12_2), (3, .int y76_3), (4, .int y76_4), (5, .int y76_5)] → jX6_joinAs_76 q_nodes y12_1 y12_2 y76_3 y76_4 y76_5 k76_q_near = some o → gX6_joinAs p l e s m below meth c D cI cL cS cH a_this a_this_near a_this_letters q_length q_nodes q_at q_fault q_near x1 res H locs (F0 m 76 ls []) := by
            intro y76_3 y76_4 y76_5 k76_q_near H locs ls w hl hf
            unfold jX6_joinAs_76 at hf
            refine lv_iload_n C.1 C.2.1 dX6_joinAs_76 rfl (lv_at hl 1 rfl) ?_
            refine lv_iconst (v := (2 : Int32)) C.1 C.2.1 dX6_joinAs_77 (by decide) ?_
            refine lv_icmp_ne (tgt := 97) C.1 C.2.1 dX6_joinAs_78 (by decide) (fun hq3 => ?_) (fun hq3 => ?_)
            · have hf := ite_f hf hq3
              exact hj97 y76_3 k76_q_near _ _ _ w (lv_sub hl [0, 1, 2, 3] rfl) hf
            · have hf := ite_t hf hq3
              refine lv_iload C.1 C.2.1 dX6_joinAs_81 (lv_at hl 4 rfl) ?_
              refine lv_if_ne (tgt := 91) C.1 C.2.1 dX6_joinAs_83 (by decide) (fun hq4 => ?_) (fun hq4 => ?_)
              · have hf := ite_f hf hq4
                exact hj91 y76_3 k76_q_near _ _ _ w (lv_sub hl [0, 1, 2, 3] rfl) hf
              · have hf := ite_t hf hq4
                refine lv_iload C.1 C.2.1 dX6_joinAs_86 (lv_at hl 5 rfl) ?_
                refine lv_if_eq (tgt := 97) C.1 C.2.1 dX6_joinAs_88 (by decide) (fun hq5 => ?_) (fun hq5 => ?_)
                · have hf := ite_t hf hq5
                  exact hj97 y76_3 k76_q_near _ _ _ w (lv_sub hl [0, 1, 2, 3] rfl) hf
                · have hf := ite_f hf hq5
                  exact hj91 y76_3 k76_q_near _ _ _ w (lv_sub hl [0, 1, 2, 3] rfl) hf
          have hj66 : ∀ (y66_3 : Int32) (y66_4 : Int32) (y66_5 : Int32) (k66_q_near : Nat → Int32) (H : Heap) (locs : List Loc) (ls : Array Slot), wd D (ty4 cI cL cS cH) s (va_A (wX6_joinAs cI cL cS cH a_this a_this_near a_this_letters q_length q_nodes q_at q_fault q_near) s.heap.size) s.heap H locs (wX6_joinAs cI cL cS cH a_this a_this_near a_this_letters q_length q_nodes q_at q_fault k66_q_near) → lv_has ls 6 [(0, .ref a_this), (1, .int y12_1), (2, .int y12_2), (3, .int y66_3), (4, .int y66_4), (5, .int y66_5)] → jX6_joinAs_66 q_nodes y12_1 y12_2 y66_3 y66_4 y66_5 k66_q_near = some o → gX6_joinAs p l e s m below meth c D cI cL cS cH a_this a_this_near a_this_letters q_length q_nodes q_at q_fault q_near x1 res H locs (F0 m 66 ls []) := by
            intro y66_3 y66_4 y66_5 k66_q_near H locs ls w hl hf
            unfold jX6_joinAs_66 at hf
            refine lv_iload_n C.1 C.2.1 dX6_joinAs_66 rfl (lv_at hl 1 rfl) ?_
            refine lv_iconst (v := (1 : Int32)) C.1 C.2.1 dX6_joinAs_67 (by decide) ?_
            refine lv_icmp_ne (tgt := 76) C.1 C.2.1 dX6_joinAs_68 (by decide) (fun hq6 => ?_) (fun hq6 => ?_)
            · have hf := ite_f hf hq6
              exact hj76 y66_3 y66_4 y66_5 k66_q_near _ _ _ w (lv_sub hl [0, 1, 2, 3, 4, 5] rfl) hf
            · have hf := ite_t hf hq6
              refine lv_iload C.1 C.2.1 dX6_joinAs_71 (lv_at hl 4 rfl) ?_
              refine lv_if_ne (tgt := 91) C.1 C.2.1 dX6_joinAs_73 (by decide) (fun hq7 => ?_) (fun hq7 => ?_)
              · have hf := ite_f hf hq7
                exact hj91 y66_3 k66_q_near _ _ _ w (lv_sub hl [0, 1, 2, 3] rfl) hf
              · have hf := ite_t hf hq7
                exact hj76 y66_3 y66_4 y66_5 k66_q_near _ _ _ w (lv_sub hl [0, 1, 2, 3, 4, 5] rfl) hf
          have hj50 : ∀ (y50_3 : Int32) (y50_4 : Int32) (z50_0 : Int32) (k50_q_near : Nat → Int32) (H : Heap) (locs : List Loc) (ls : Array Slot), wd D (ty4 cI cL cS cH) s (va_A (wX6_joinAs cI cL cS cH a_this a_this_near a_this_letters q_length q_nodes q_at q_fault q_near) s.heap.size) s.heap H locs (wX6_joinAs cI cL cS cH a_this a_this_near a_this_letters q_length q_nodes q_at q_fault k50_q_near) → lv_has ls 6 [(0, .ref a_this), (1, .int y12_1), (2, .int y12_2), (3, .int y50_3), (4, .int y50_4)] → jX6_joinAs_50 q_nodes y12_1 y12_2 y50_3 y50_4 z50_0 k50_q_near = some o → gX6_joinAs p l e s m below meth c D cI cL cS cH a_this a_this_near a_this_letters q_length q_nodes q_at q_fault q_near x1 res H locs (F0 m 50 ls [.int z50_0]) := by
            intro y50_3 y50_4 z50_0 k50_q_near H locs ls w hl hf
            unfold jX6_joinAs_50 at hf
            refine lv_istore (lv' := [(5, .int z50_0), (0, .ref a_this), (1, .int y12_1), (2, .int y12_2), (3, .int y50_3), (4, .int y50_4)]) C.1 C.2.1 dX6_joinAs_50 hl (by decide) rfl (fun ls hl => ?_)
            refine lv_iload_n C.1 C.2.1 dX6_joinAs_52 rfl (lv_at hl 2 rfl) ?_
            refine lv_iconst (v := (4 : Int32)) C.1 C.2.1 dX6_joinAs_53 (by decide) ?_
            refine lv_icmp_eq (tgt := 91) C.1 C.2.1 dX6_joinAs_54 (by decide) (fun hq8 => ?_) (fun hq8 => ?_)
            · have hf := ite_t hf hq8
              exact hj91 y50_3 k50_q_near _ _ _ w (lv_sub hl [1, 2, 3, 4] rfl) hf
            · have hf := ite_f hf hq8
              refine lv_iload_n C.1 C.2.1 dX6_joinAs_57 rfl (lv_at hl 2 rfl) ?_
              refine lv_iconst (v := (3 : Int32)) C.1 C.2.1 dX6_joinAs_58 (by decide) ?_
              refine lv_icmp_ne (tgt := 66) C.1 C.2.1 dX6_joinAs_59 (by decide) (fun hq9 => ?_) (fun hq9 => ?_)
              · have hf := ite_f hf hq9
                exact hj66 y50_3 y50_4 z50_0 k50_q_near _ _ _ w (lv_sub hl [1, 2, 3, 4, 5, 0] rfl) hf
              · have hf := ite_t hf hq9
                refine lv_iload_n C.1 C.2.1 dX6_joinAs_62 rfl (lv_at hl 4 rfl) ?_
                refine lv_if_eq (tgt := 91) C.1 C.2.1 dX6_joinAs_63 (by decide) (fun hq10 => ?_) (fun hq10 => ?_)
                · have hf := ite_t hf hq10
                  exact hj91 y50_3 k50_q_near _ _ _ w (lv_sub hl [1, 2, 3, 4] rfl) hf
                · have hf := ite_f hf hq10
                  exact hj66 y50_3 y50_4 z50_0 k50_q_near _ _ _ w (lv_sub hl [1, 2, 3, 4, 5, 0] rfl) hf
          have hj49 : ∀ (y49_3 : Int32) (y49_4 : Int32) (k49_q_near : Nat → Int32) (H : Heap) (locs : List Loc) (ls : Array Slot), wd D (ty4 cI cL cS cH) s (va_A (wX6_joinAs cI cL cS cH a_this a_this_near a_this_letters q_length q_nodes q_at q_fault q_near) s.heap.size) s.heap H locs (wX6_joinAs cI cL cS cH a_this a_this_near a_this_letters q_length q_nodes q_at q_fault k49_q_near) → lv_has ls 6 [(0, .ref a_this), (1, .int y12_1), (2, .int y12_2), (3, .int y49_3), (4, .int y49_4)] → jX6_joinAs_49 q_nodes y12_1 y12_2 y49_3 y49_4 k49_q_near = some o → gX6_joinAs p l e s m below meth c D cI cL cS cH a_this a_this_near a_this_letters q_length q_nodes q_at q_fault q_near x1 res H locs (F0 m 49 ls []) := by
            intro y49_3 y49_4 k49_q_near H locs ls w hl hf
            unfold jX6_joinAs_49 at hf
            refine lv_iconst (v := (0 : Int32)) C.1 C.2.1 dX6_joinAs_49 (by decide) ?_
            exact hj50 y49_3 y49_4 (0 : Int32) k49_q_near _ _ _ w (lv_sub hl [0, 1, 2, 3, 4] rfl) hf
          have hj29 : ∀ (y29_3 : Int32) (z29_0 : Int32) (k29_q_near : Nat → Int32) (H : Heap) (locs : List Loc) (ls : Array Slot), wd D (ty4 cI cL cS cH) s (va_A (wX6_joinAs cI cL cS cH a_this a_this_near a_this_letters q_length q_nodes q_at q_fault q_near) s.heap.size) s.heap H locs (wX6_joinAs cI cL cS cH a_this a_this_near a_this_letters q_length q_nodes q_at q_fault k29_q_near) → lv_has ls 6 [(0, .ref a_this), (1, .int y12_1), (2, .int y12_2), (3, .int y29_3)] → jX6_joinAs_29 q_nodes y12_1 y12_2 y29_3 z29_0 k29_q_near = some o → gX6_joinAs p l e s m below meth c D cI cL cS cH a_this a_this_near a_this_letters q_length q_nodes q_at q_fault q_near x1 res H locs (F0 m 29 ls [.int z29_0]) := by
            intro y29_3 z29_0 k29_q_near H locs ls w hl hf
            unfold jX6_joinAs_29 at hf
            refine lv_istore (lv' := [(4, .int z29_0), (0, .ref a_this), (1, .int y12_1), (2, .int y12_2), (3, .int y29_3)]) C.1 C.2.1 dX6_joinAs_29 hl (by decide) rfl (fun ls hl => ?_)
            refine lv_iload_n C.1 C.2.1 dX6_joinAs_31 rfl (lv_at hl 4 rfl) ?_
            refine lv_if_ne (tgt := 49) C.1 C.2.1 dX6_joinAs_32 (by decide) (fun hq11 => ?_) (fun hq11 => ?_)
            · have hf := ite_f hf hq11
              exact hj49 y29_3 z29_0 k29_q_near _ _ _ w (lv_sub hl [1, 2, 3, 4, 0] rfl) hf
            · have hf := ite_t hf hq11
              refine lv_iload_n C.1 C.2.1 dX6_joinAs_35 rfl (lv_at hl 3 rfl) ?_
              refine lv_aload_n C.1 C.2.1 dX6_joinAs_36 rfl (lv_at hl 1 rfl) ?_
              refine r_get C w inX6_joinAs_X6 0 rfl rfl 1 (by decide) lkX6_joinAs_15 rfl dX6_joinAs_37 ?_
              refine lv_iconst (v := (1 : Int32)) C.1 C.2.1 dX6_joinAs_40 (by decide) ?_
              refine lv_isub C.1 C.2.1 dX6_joinAs_41 ?_
              refine lv_icmp_ne (tgt := 49) C.1 C.2.1 dX6_joinAs_42 (by decide) (fun hq12 => ?_) (fun hq12 => ?_)
              · have hf := ite_f hf hq12
                exact hj49 y29_3 z29_0 k29_q_near _ _ _ w (lv_sub hl [1, 2, 3, 4, 0] rfl) hf
              · have hf := ite_t hf hq12
                refine lv_iconst (v := (1 : Int32)) C.1 C.2.1 dX6_joinAs_45 (by decide) ?_
                refine lv_goto (tgt := 50) C.1 C.2.1 dX6_joinAs_46 (by decide) ?_
                exact hj50 y29_3 z29_0 (1 : Int32) k29_q_near _ _ _ w (lv_sub hl [1, 2, 3, 4, 0] rfl) hf
          refine lv_iload_n C.1 C.2.1 dX6_joinAs_12 rfl (lv_at hl 3 rfl) ?_
          refine lv_iload_n C.1 C.2.1 dX6_joinAs_13 rfl (lv_at hl 2 rfl) ?_
          refine lv_icmp_ge (tgt := 103) C.1 C.2.1 dX6_joinAs_14 (by decide) (fun hq13 => ?_) (fun hq13 => ?_)
          · have hf := ite_t hf hq13
            obtain rfl := Option.some.inj hf
            obtain rfl := hn
            exact hk _ _ _ w (lv_sub hl [0, 1, 2] rfl)
          · have hf := ite_f hf hq13
            refine lv_iload_n C.1 C.2.1 dX6_joinAs_17 rfl (lv_at hl 2 rfl) ?_
            refine lv_iload_n C.1 C.2.1 dX6_joinAs_18 rfl (lv_at hl 3 rfl) ?_
            refine lv_isub C.1 C.2.1 dX6_joinAs_19 ?_
            refine lv_iconst (v := (1 : Int32)) C.1 C.2.1 dX6_joinAs_20 (by decide) ?_
            refine lv_icmp_ne (tgt := 28) C.1 C.2.1 dX6_joinAs_21 (by decide) (fun hq14 => ?_) (fun hq14 => ?_)
            · have hf := ite_f hf hq14
              refine lv_iconst (v := (0 : Int32)) C.1 C.2.1 dX6_joinAs_28 (by decide) ?_
              exact hj29 v12.1 (0 : Int32) v12.2 _ _ _ w (lv_sub hl [0, 1, 2, 3] rfl) hf
            · have hf := ite_t hf hq14
              refine lv_iconst (v := (1 : Int32)) C.1 C.2.1 dX6_joinAs_24 (by decide) ?_
              refine lv_goto (tgt := 29) C.1 C.2.1 dX6_joinAs_25 (by decide) ?_
              exact hj29 v12.1 (1 : Int32) v12.2 _ _ _ w (lv_sub hl [0, 1, 2, 3] rfl) hf
      refine lv_iload_n C.1 C.2.1 dX6_joinAs_2 rfl (lv_at hl 2 rfl) ?_
      refine lv_aload_n C.1 C.2.1 dX6_joinAs_3 rfl (lv_at hl 0 rfl) ?_
      refine r_get C w inX6_joinAs_X6 0 rfl rfl 1 (by decide) lkX6_joinAs_15 rfl dX6_joinAs_4 ?_
      refine lv_icmp_ge (tgt := 109) C.1 C.2.1 dX6_joinAs_7 (by decide) (fun hq15 => ?_) (fun hq15 => ?_)
      · have hf := ite_t hf hq15
        obtain rfl := Option.some.inj hf
        obtain rfl := hn
        exact hk _ _ _ w (lv_sub hl [] rfl)
      · have hf := ite_f hf hq15
        refine lv_iconst (v := (0 : Int32)) C.1 C.2.1 dX6_joinAs_10 (by decide) ?_
        refine lv_istore_n (lv' := [(3, .int (0 : Int32)), (0, .ref a_this), (1, .int y2_1), (2, .int v2.1)]) C.1 C.2.1 dX6_joinAs_11 rfl hl (by decide) rfl (fun ls hl => ?_)
        obtain ⟨ex16, hx17, hf⟩ := bd hf
        refine hlp12 y2_1 v2.1 ex16 ?_ fu ((0 : Int32), v2.2) _ _ _ hx17 w (lv_sub hl [1, 2, 3, 0] rfl)
        intro H locs ls w hl
        refine lv_iinc (v := (v2.1 + (1 : Int32))) (lv' := [(2, .int (v2.1 + (1 : Int32))), (0, .ref a_this), (1, .int y2_1)]) C.1 C.2.1 dX6_joinAs_103 hl (k := 2) rfl rfl (by decide) rfl (fun ls hl => ?_)
        refine lv_goto (tgt := 2) C.1 C.2.1 dX6_joinAs_106 (by decide) ?_
        obtain rfl := Option.some.inj hf
        exact ih ((v2.1 + (1 : Int32)), ex16.2) _ _ _ hn w (lv_sub hl [1, 2, 0] rfl)
  refine lv_iconst (v := (1 : Int32)) C.1 C.2.1 dX6_joinAs_0 (by decide) ?_
  refine lv_istore_n (lv' := [(2, .int (1 : Int32)), (0, .ref a_this), (1, .int x1)]) C.1 C.2.1 dX6_joinAs_1 rfl hl (by decide) rfl (fun ls hl => ?_)
  obtain ⟨ex18, hx19, hf⟩ := bd hf
  refine hlp2 x1 ex18 ?_ fu ((1 : Int32), q_near) _ _ _ hx19 w (lv_sub hl [1, 2, 0] rfl)
  intro H locs ls w hl
  have hres := Option.some.inj hf
  subst hres
  exact ret_v C hr hlocks w dX6_joinAs_109

set_option maxRecDepth 100000 in
theorem inX6_readShape_X6 : ∀ w ∈ u_ws RX6 TX6 6, w ∈ wsX6_readShape := by decide +kernel
set_option maxRecDepth 100000 in
theorem lkX6_readShape_15 : Cond.fieldLink RX6 15 "CleanNets$Tape" "nodes" "I" ∈ wsX6_readShape := by decide +kernel
abbrev wX6_readShape (cI cL cS cH : ClassId) (a_this : Nat) (a_this_near : Nat) (a_this_letters : Nat) (q_length : Int32) (q_nodes : Int32) (q_at : Int32) (q_fault : Int32) (q_letters : Nat → Int32) (q_near : Nat → Int32) : va_W := [(a_this, .inr (6, [.int q_length, .int q_nodes, .ref a_this_near, .ref a_this_letters, .int q_at, .int q_fault])),
  (a_this_letters, .inl (cI, 90, .inl q_letters)),
  (a_this_near, .inl (cI, 7, .inl q_near))]
def jX6_readShape_27 (q_length : Int32) (q_letters : Nat → Int32) (x1 : Int32) (z27_0 : Int32) (k27_q_nodes : Int32) (k27_q_at : Int32) (k27_q_fault : Int32) (k27_q_near : Nat → Int32) : Option (Int32 × Int32 × Int32 × (Nat → Int32)) := Option.bind (fX6_readFigure q_length k27_q_at k27_q_fault q_letters z27_0 (7 : Int32)) (fun r1 => (if r1.1 = (-1 : Int32) then some (k27_q_nodes, r1.2.1, r1.2.2, k27_q_near) else (if x1 = (5 : Int32) then Option.bind (fX6_readLinks q_length r1.1 r1.2.1 r1.2.2 q_letters k27_q_near) (fun r7 => some (r1.1, r7.1, r7.2.1, r7.2.2)) else Option.bind (fX6_joinAs r1.1 k27_q_near x1) (fun r5 => some (r1.1, r1.2.1, r1.2.2, r5)))))
def fX6_readShape (q_length : Int32) (q_nodes : Int32) (q_at : Int32) (q_fault : Int32) (q_letters : Nat → Int32) (q_near : Nat → Int32) (x1 : Int32) : Option (Int32 × Int32 × Int32 × (Nat → Int32)) := (if x1 = 0 then some (q_nodes, q_at, q_fault, q_near) else (if x1 = (6 : Int32) then Option.bind (fX6_readGrid q_length q_nodes q_at q_fault q_letters q_near) (fun r12 => some (r12.1, r12.2.1, r12.2.2.1, r12.2.2.2)) else (if x1 = (2 : Int32) then jX6_readShape_27 q_length q_letters x1 (3 : Int32) q_nodes q_at q_fault q_near else jX6_readShape_27 q_length q_letters x1 (2 : Int32) q_nodes q_at q_fault q_near)))
abbrev gX6_readShape (p : Program) (l : Launch) (e : Env) (s : State) (m : MethodId) (below : List Frame) (meth : Method) (c : Code) (D : vg) (cI cL cS cH : ClassId) (a_this : Nat) (a_this_near : Nat) (a_this_letters : Nat) (q_length : Int32) (q_nodes : Int32) (q_at : Int32) (q_fault : Int32) (q_letters : Nat → Int32) (q_near : Nat → Int32) (x1 : Int32) (res : Int32 × Int32 × Int32 × (Nat → Int32)) (H : Heap) (locs : List Loc) (g : JFrame) : Prop := W p l e (headSpec wsX6_readShape ({ frames := 4, cells := 0, slots := 0, locals := 86 })).room s m ([.ref a_this, .int x1] : List Value).toArray below meth c H locs 0 0 (MQ below (va_Qv (fun (_ : Unit) => True) (fun _ t => pos1 D s.heap.size (wX6_readShape cI cL cS cH a_this a_this_near a_this_letters q_length q_nodes q_at q_fault q_letters q_near) (wX6_readShape cI cL cS cH a_this a_this_near a_this_letters q_length res.1 res.2.1 res.2.2.1 q_letters res.2.2.2) t) (va_A (wX6_readShape cI cL cS cH a_this a_this_near a_this_letters q_length q_nodes q_at q_fault q_letters q_near) s.heap.size)) ([.ref a_this, .int x1] : List Value).toArray s 0 0 (va_A (wX6_readShape cI cL cS cH a_this a_this_near a_this_letters q_length q_nodes q_at q_fault q_letters q_near) s.heap.size)) g
set_option maxHeartbeats 4000000 in
set_option maxRecDepth 100000 in
theorem mX6_readShape (l : Launch) (D : vg) (cI cL cS cH : ClassId) (sz : Nat) (a_this : Nat) (a_this_near : Nat) (a_this_letters : Nat) (q_length : Int32) (q_nodes : Int32) (q_at : Int32) (q_fault : Int32) (q_letters : Nat → Int32) (q_near : Nat → Int32) (x1 : Int32) {res : Int32 × Int32 × Int32 × (Nat → Int32)} (hf : fX6_readShape q_length q_nodes q_at q_fault q_letters q_near x1 = some res) : ctv l yX6_readShape wsX6_readShape ({ frames := 4, cells := 0, slots := 0, locals := 86 }) D (ty4 cI cL cS cH) sz [.ref a_this, .int x1] (wX6_readShape cI cL cS cH a_this a_this_near a_this_letters q_length q_nodes q_at q_fault q_letters q_near) (wX6_readShape cI cL cS cH a_this a_this_near a_this_letters q_length res.1 res.2.1 res.2.2.1 q_letters res.2.2.2) := by
  refine Met.ofW (cc := cX6_readShape) (maxL := 3) (ret := none) (by decide) rfl ?_
  intro p e s m args below meth c s₁ B hml hv
  obtain ⟨rfl, hpre⟩ := hv
  obtain rfl := hpre.1
  have C : CallFix p m c cX6_readShape 3 s _ wsX6_readShape RX6 := ⟨B.exec, B.bytes, hml, findClass_of_methodNamed B.named, atoms_spec (ws := wsX6_readShape) B.pre⟩
  have hr := B.returns
  have hlocks := B.notSynchronized
  have w := wd_start hpre
  clear hpre B
  have hl := lv_entry ([.ref a_this, .int x1]) (n := 3) (Nat.le_of_ble_eq_true rfl)
  rw [lg_entry_eq]
  generalize (lg_sl ([.ref a_this, .int x1]) ++ List.replicate (3 - (lg_sl ([.ref a_this, .int x1])).length) Slot.unset).toArray = ls at hl ⊢
  have hl : lv_has ls 3 [(0, .ref a_this), (1, .int x1)] := hl
  unfold fX6_readShape at hf
  have hj27 : ∀ (z27_0 : Int32) (k27_q_nodes : Int32) (k27_q_at : Int32) (k27_q_fault : Int32) (k27_q_near : Nat → Int32) (H : Heap) (locs : List Loc) (ls : Array Slot), wd D (ty4 cI cL cS cH) s (va_A (wX6_readShape cI cL cS cH a_this a_this_near a_this_letters q_length q_nodes q_at q_fault q_letters q_near) s.heap.size) s.heap H locs (wX6_readShape cI cL cS cH a_this a_this_near a_this_letters q_length k27_q_nodes k27_q_at k27_q_fault q_letters k27_q_near) → lv_has ls 3 [(0, .ref a_this), (1, .int x1)] → jX6_readShape_27 q_length q_letters x1 z27_0 k27_q_nodes k27_q_at k27_q_fault k27_q_near = some res → gX6_readShape p l e s m below meth c D cI cL cS cH a_this a_this_near a_this_letters q_length q_nodes q_at q_fault q_letters q_near x1 res H locs (F0 m 27 ls [.int z27_0, .ref a_this]) := by
    intro z27_0 k27_q_nodes k27_q_at k27_q_fault k27_q_near H locs ls w hl hf
    unfold jX6_readShape_27 at hf
    refine lv_bipush (v := (7 : Int32)) C.1 C.2.1 dX6_readShape_27 (by decide) ?_
    obtain ⟨r1, hc2, hf⟩ := bd hf
    refine call_Vi (ws' := (wX6_readShape cI cL cS cH a_this a_this_near a_this_letters q_length k27_q_nodes r1.2.1 r1.2.2 q_letters k27_q_near)) (rest := []) C w (mX6_readFigure l D cI cL cS cH _ a_this a_this_near a_this_letters q_length k27_q_nodes k27_q_at k27_q_fault q_letters z27_0 (7 : Int32) hc2) (cwV 2 C.2.2.2.2 gX6_readShape_X6_readFigure rfl rfl rfl (by decide +kernel) ⟨Nat.le_of_ble_eq_true rfl, Nat.le_of_ble_eq_true rfl⟩) [0, 1] [2] 3 ⟨rfl, rfl, trivial⟩ ⟨rfl, rfl, trivial⟩ ⟨⟨_, rfl, rfl⟩, trivial⟩ rfl (by decide) (by decide) (ci := 6) (q0 := 0) rfl rfl rfl hl.1 rfl (lv_room (Nat.le_of_ble_eq_true rfl)) dX6_readShape_29 ⟨Nat.zero_le _, Nat.zero_le _⟩ (fun H locs w => ?_)
    refine lv_istore_n (lv' := [(2, .int r1.1), (0, .ref a_this), (1, .int x1)]) C.1 C.2.1 dX6_readShape_32 rfl hl (by decide) rfl (fun ls hl => ?_)
    refine lv_iload_n C.1 C.2.1 dX6_readShape_33 rfl (lv_at hl 0 rfl) ?_
    refine lv_iconst (v := (-1 : Int32)) C.1 C.2.1 dX6_readShape_34 (by decide) ?_
    refine lv_icmp_ne (tgt := 39) C.1 C.2.1 dX6_readShape_35 (by decide) (fun hq3 => ?_) (fun hq3 => ?_)
    · have hf := ite_f hf hq3
      refine lv_aload_n C.1 C.2.1 dX6_readShape_39 rfl (lv_at hl 1 rfl) ?_
      refine lv_iload_n C.1 C.2.1 dX6_readShape_40 rfl (lv_at hl 0 rfl) ?_
      refine r_put (ws' := (wX6_readShape cI cL cS cH a_this a_this_near a_this_letters q_length r1.1 r1.2.1 r1.2.2 q_letters k27_q_near)) C w inX6_readShape_X6 tyX6 tyX6_ok nmX6 0 rfl rfl 1 (by decide) lkX6_readShape_15 rfl rfl rfl (Nat.le_of_ble_eq_true rfl) rfl dX6_readShape_41 (fun H locs w => ?_)
      refine lv_iload_n C.1 C.2.1 dX6_readShape_44 rfl (lv_at hl 2 rfl) ?_
      refine lv_iconst (v := (5 : Int32)) C.1 C.2.1 dX6_readShape_45 (by decide) ?_
      refine lv_icmp_ne (tgt := 56) C.1 C.2.1 dX6_readShape_46 (by decide) (fun hq4 => ?_) (fun hq4 => ?_)
      · have hf := ite_f hf hq4
        refine lv_aload_n C.1 C.2.1 dX6_readShape_56 rfl (lv_at hl 1 rfl) ?_
        refine lv_iload_n C.1 C.2.1 dX6_readShape_57 rfl (lv_at hl 2 rfl) ?_
        obtain ⟨r5, hc6, hf⟩ := bd hf
        refine call_Vv (ws' := (wX6_readShape cI cL cS cH a_this a_this_near a_this_letters q_length r1.1 r1.2.1 r1.2.2 q_letters r5)) (rest := []) C w (mX6_joinAs l D cI cL cS cH _ a_this a_this_near a_this_letters q_length r1.1 r1.2.1 r1.2.2 k27_q_near x1 hc6) (cwV 1 C.2.2.2.2 gX6_readShape_X6_joinAs rfl rfl rfl (by decide +kernel) ⟨Nat.le_of_ble_eq_true rfl, Nat.le_of_ble_eq_true rfl⟩) [0, 2] [1] 3 ⟨rfl, rfl, trivial⟩ ⟨rfl, rfl, trivial⟩ ⟨⟨_, rfl, rfl⟩, trivial⟩ rfl (by decide) (by decide) (ci := 6) (q0 := 0) rfl rfl rfl hl.1 rfl (lv_room (Nat.le_of_ble_eq_true rfl)) dX6_readShape_58 ⟨Nat.zero_le _, Nat.zero_le _⟩ (fun H locs w => ?_)
        have hres := Option.some.inj hf
        subst hres
        exact ret_v C hr hlocks w dX6_readShape_61
      · have hf := ite_t hf hq4
        refine lv_aload_n C.1 C.2.1 dX6_readShape_49 rfl (lv_at hl 1 rfl) ?_
        obtain ⟨r7, hc8, hf⟩ := bd hf
        refine call_Vv (ws' := (wX6_readShape cI cL cS cH a_this a_this_near a_this_letters q_length r1.1 r7.1 r7.2.1 q_letters r7.2.2)) (rest := []) C w (mX6_readLinks l D cI cL cS cH _ a_this a_this_near a_this_letters q_length r1.1 r1.2.1 r1.2.2 q_letters k27_q_near hc8) (cwV 0 C.2.2.2.2 gX6_readShape_X6_readLinks rfl rfl rfl (by decide +kernel) ⟨Nat.le_of_ble_eq_true rfl, Nat.le_of_ble_eq_true rfl⟩) [0, 1, 2] [] 3 ⟨rfl, rfl, rfl, trivial⟩ ⟨rfl, rfl, rfl, trivial⟩ trivial rfl (by decide) (by decide) (ci := 6) (q0 := 0) rfl rfl rfl hl.1 rfl (lv_room (Nat.le_of_ble_eq_true rfl)) dX6_readShape_50 ⟨Nat.zero_le _, Nat.zero_le _⟩ (fun H locs w => ?_)
        refine lv_goto (tgt := 61) C.1 C.2.1 dX6_readShape_53 (by decide) ?_
        have hres := Option.some.inj hf
        subst hres
        exact ret_v C hr hlocks w dX6_readShape_61
    · have hf := ite_t hf hq3
      have hres := Option.some.inj hf
      subst hres
      exact ret_v C hr hlocks w dX6_readShape_38
  refine lv_iload_n C.1 C.2.1 dX6_readShape_0 rfl (lv_at hl 1 rfl) ?_
  refine lv_if_ne (tgt := 5) C.1 C.2.1 dX6_readShape_1 (by decide) (fun hq9 => ?_) (fun hq9 => ?_)
  · have hf := ite_f hf hq9
    refine lv_iload_n C.1 C.2.1 dX6_readShape_5 rfl (lv_at hl 1 rfl) ?_
    refine lv_bipush (v := (6 : Int32)) C.1 C.2.1 dX6_readShape_6 (by decide) ?_
    refine lv_icmp_ne (tgt := 16) C.1 C.2.1 dX6_readShape_8 (by decide) (fun hq10 => ?_) (fun hq10 => ?_)
    · have hf := ite_f hf hq10
      refine lv_aload_n C.1 C.2.1 dX6_readShape_16 rfl (lv_at hl 0 rfl) ?_
      refine lv_iload_n C.1 C.2.1 dX6_readShape_17 rfl (lv_at hl 1 rfl) ?_
      refine lv_iconst (v := (2 : Int32)) C.1 C.2.1 dX6_readShape_18 (by decide) ?_
      refine lv_icmp_ne (tgt := 26) C.1 C.2.1 dX6_readShape_19 (by decide) (fun hq11 => ?_) (fun hq11 => ?_)
      · have hf := ite_f hf hq11
        refine lv_iconst (v := (2 : Int32)) C.1 C.2.1 dX6_readShape_26 (by decide) ?_
        exact hj27 (2 : Int32) q_nodes q_at q_fault q_near _ _ _ w (lv_sub hl [0, 1] rfl) hf
      · have hf := ite_t hf hq11
        refine lv_iconst (v := (3 : Int32)) C.1 C.2.1 dX6_readShape_22 (by decide) ?_
        refine lv_goto (tgt := 27) C.1 C.2.1 dX6_readShape_23 (by decide) ?_
        exact hj27 (3 : Int32) q_nodes q_at q_fault q_near _ _ _ w (lv_sub hl [0, 1] rfl) hf
    · have hf := ite_t hf hq10
      refine lv_aload_n C.1 C.2.1 dX6_readShape_11 rfl (lv_at hl 0 rfl) ?_
      obtain ⟨r12, hc13, hf⟩ := bd hf
      refine call_Vv (ws' := (wX6_readShape cI cL cS cH a_this a_this_near a_this_letters q_length r12.1 r12.2.1 r12.2.2.1 q_letters r12.2.2.2)) (rest := []) C w (mX6_readGrid l D cI cL cS cH _ a_this a_this_near a_this_letters q_length q_nodes q_at q_fault q_letters q_near hc13) (cwV 0 C.2.2.2.2 gX6_readShape_X6_readGrid rfl rfl rfl (by decide +kernel) ⟨Nat.le_of_ble_eq_true rfl, Nat.le_of_ble_eq_true rfl⟩) [0, 1, 2] [] 3 ⟨rfl, rfl, rfl, trivial⟩ ⟨rfl, rfl, rfl, trivial⟩ trivial rfl (by decide) (by decide) (ci := 6) (q0 := 0) rfl rfl rfl hl.1 rfl (lv_room (Nat.le_of_ble_eq_true rfl)) dX6_readShape_12 ⟨Nat.zero_le _, Nat.zero_le _⟩ (fun H locs w => ?_)
      have hres := Option.some.inj hf
      subst hres
      exact ret_v C hr hlocks w dX6_readShape_15
  · have hf := ite_t hf hq9
    have hres := Option.some.inj hf
    subst hres
    exact ret_v C hr hlocks w dX6_readShape_4

set_option maxRecDepth 100000 in
theorem inX6_faultOfText_X6 : ∀ w ∈ u_ws RX6 TX6 6, w ∈ wsX6_faultOfText := by decide +kernel
set_option maxRecDepth 100000 in
theorem lkX6_faultOfText_28 : Cond.fieldLink RX6 28 "CleanNets$Tape" "fault" "I" ∈ wsX6_faultOfText := by decide +kernel
set_option maxRecDepth 100000 in
theorem lkX6_faultOfText_18 : Cond.fieldLink RX6 18 "CleanNets$Tape" "near" "[I" ∈ wsX6_faultOfText := by decide +kernel
set_option maxRecDepth 100000 in
theorem lkX6_faultOfText_25 : Cond.fieldLink RX6 25 "CleanNets$Tape" "at" "I" ∈ wsX6_faultOfText := by decide +kernel
set_option maxRecDepth 100000 in
theorem lkX6_faultOfText_15 : Cond.fieldLink RX6 15 "CleanNets$Tape" "nodes" "I" ∈ wsX6_faultOfText := by decide +kernel
set_option maxRecDepth 100000 in
theorem lkX6_faultOfText_9 : Cond.fieldLink RX6 9 "CleanNets$Tape" "length" "I" ∈ wsX6_faultOfText := by decide +kernel
abbrev wX6_faultOfText (cI cL cS cH : ClassId) (a_this : Nat) (a_this_near : Nat) (a_this_letters : Nat) (q_length : Int32) (q_nodes : Int32) (q_at : Int32) (q_fault : Int32) (q_letters : Nat → Int32) (q_near : Nat → Int32) : va_W := [(a_this, .inr (6, [.int q_length, .int q_nodes, .ref a_this_near, .ref a_this_letters, .int q_at, .int q_fault])),
  (a_this_letters, .inl (cI, 90, .inl q_letters)),
  (a_this_near, .inl (cI, 7, .inl q_near))]
def jX6_faultOfText_75 (q_length : Int32) (q_letters : Nat → Int32) (k75_q_nodes : Int32) (k75_q_at : Int32) (k75_q_fault : Int32) (k75_q_near : Nat → Int32) : Option (Int32 × Int32 × Int32 × Int32 × (Nat → Int32)) := some (k75_q_fault, k75_q_nodes, k75_q_at, k75_q_fault, k75_q_near)
def bX6_faultOfText_17 (q_length : Int32) (q_letters : Nat → Int32) (k17_q_nodes : Int32) (k17_q_at : Int32) (k17_q_fault : Int32) (v17 : Int32 × (Nat → Int32)) : Option ((Int32 × (Nat → Int32)) ⊕ (Int32 × (Nat → Int32))) := (if (7 : Int32) ≤ v17.1 then some (.inr (v17.1, v17.2)) else Option.bind (wi v17.2 7 v17.1 (0 : Int32)) (fun g2 => some (.inl ((v17.1 + (1 : Int32)), g2))))
def fX6_faultOfText (q_length : Int32) (q_nodes : Int32) (q_at : Int32) (q_fault : Int32) (q_letters : Nat → Int32) (q_near : Nat → Int32)  : Option (Int32 × Int32 × Int32 × Int32 × (Nat → Int32)) := Option.bind (itL (bX6_faultOfText_17 q_length q_letters (0 : Int32) (0 : Int32) (-1 : Int32)) fu ((0 : Int32), q_near)) (fun ex4 => Option.bind (fX6_readName q_length (0 : Int32) (-1 : Int32) q_letters) (fun r6 => Option.bind (fX6_readShape q_length (0 : Int32) r6.2.1 r6.2.2 q_letters ex4.2 r6.1) (fun r8 => Option.bind (fX6_skipBlanks q_length r8.2.1 q_letters) (fun r10 => (if r8.2.2.1 = (-1 : Int32) then (if q_length ≤ r10 then jX6_faultOfText_75 q_length q_letters r8.1 r10 r8.2.2.1 r8.2.2.2 else jX6_faultOfText_75 q_length q_letters r8.1 r10 r10 r8.2.2.2) else jX6_faultOfText_75 q_length q_letters r8.1 r10 r8.2.2.1 r8.2.2.2)))))
abbrev gX6_faultOfText (p : Program) (l : Launch) (e : Env) (s : State) (m : MethodId) (below : List Frame) (meth : Method) (c : Code) (D : vg) (cI cL cS cH : ClassId) (a_this : Nat) (a_this_near : Nat) (a_this_letters : Nat) (q_length : Int32) (q_nodes : Int32) (q_at : Int32) (q_fault : Int32) (q_letters : Nat → Int32) (q_near : Nat → Int32) (res : Int32 × Int32 × Int32 × Int32 × (Nat → Int32)) (H : Heap) (locs : List Loc) (g : JFrame) : Prop := W p l e (headSpec wsX6_faultOfText ({ frames := 7, cells := 0, slots := 0, locals := 152 })).room s m ([.ref a_this] : List Value).toArray below meth c H locs 0 0 (MQ below (va_Qi (fun r' (_ : Unit) => r' = res.1) (fun _ t => pos1 D s.heap.size (wX6_faultOfText cI cL cS cH a_this a_this_near a_this_letters q_length q_nodes q_at q_fault q_letters q_near) (wX6_faultOfText cI cL cS cH a_this a_this_near a_this_letters q_length res.2.1 res.2.2.1 res.2.2.2.1 q_letters res.2.2.2.2) t) (va_A (wX6_faultOfText cI cL cS cH a_this a_this_near a_this_letters q_length q_nodes q_at q_fault q_letters q_near) s.heap.size)) ([.ref a_this] : List Value).toArray s 0 0 (va_A (wX6_faultOfText cI cL cS cH a_this a_this_near a_this_letters q_length q_nodes q_at q_fault q_letters q_near) s.heap.size)) g
set_option maxHeartbeats 4000000 in
set_option maxRecDepth 100000 in
theorem mX6_faultOfText (l : Launch) (D : vg) (cI cL cS cH : ClassId) (sz : Nat) (a_this : Nat) (a_this_near : Nat) (a_this_letters : Nat) (q_length : Int32) (q_nodes : Int32) (q_at : Int32) (q_fault : Int32) (q_letters : Nat → Int32) (q_near : Nat → Int32) {res : Int32 × Int32 × Int32 × Int32 × (Nat → Int32)} (hf : fX6_faultOfText q_length q_nodes q_at q_fault q_letters q_near = some res) : cti l yX6_faultOfText wsX6_faultOfText ({ frames := 7, cells := 0, slots := 0, locals := 152 }) D (ty4 cI cL cS cH) sz [.ref a_this] (wX6_faultOfText cI cL cS cH a_this a_this_near a_this_letters q_length q_nodes q_at q_fault q_letters q_near) (wX6_faultOfText cI cL cS cH a_this a_this_near a_this_letters q_length res.2.1 res.2.2.1 res.2.2.2.1 q_letters res.2.2.2.2) res.1 := by
  refine Met.ofW (cc := cX6_faultOfText) (maxL := 2) (ret := (some .int)) (by decide) rfl ?_
  intro p e s m args below meth c s₁ B hml hv
  obtain ⟨rfl, hpre⟩ := hv
  obtain rfl := hpre.1
  have C : CallFix p m c cX6_faultOfText 2 s _ wsX6_faultOfText RX6 := ⟨B.exec, B.bytes, hml, findClass_of_methodNamed B.named, atoms_spec (ws := wsX6_faultOfText) B.pre⟩
  have hr := B.returns
  have hlocks := B.notSynchronized
  have w := wd_start hpre
  clear hpre B
  have hl := lv_entry ([.ref a_this]) (n := 2) (Nat.le_of_ble_eq_true rfl)
  rw [lg_entry_eq]
  generalize (lg_sl ([.ref a_this]) ++ List.replicate (2 - (lg_sl ([.ref a_this])).length) Slot.unset).toArray = ls at hl ⊢
  have hl : lv_has ls 2 [(0, .ref a_this)] := hl
  unfold fX6_faultOfText at hf
  have hj75 : ∀ (k75_q_nodes : Int32) (k75_q_at : Int32) (k75_q_fault : Int32) (k75_q_near : Nat → Int32) (H : Heap) (locs : List Loc) (ls : Array Slot), wd D (ty4 cI cL cS cH) s (va_A (wX6_faultOfText cI cL cS cH a_this a_this_near a_this_letters q_length q_nodes q_at q_fault q_letters q_near) s.heap.size) s.heap H locs (wX6_faultOfText cI cL cS cH a_this a_this_near a_this_letters q_length k75_q_nodes k75_q_at k75_q_fault q_letters k75_q_near) → lv_has ls 2 [(0, .ref a_this)] → jX6_faultOfText_75 q_length q_letters k75_q_nodes k75_q_at k75_q_fault k75_q_near = some res → gX6_faultOfText p l e s m below meth c D cI cL cS cH a_this a_this_near a_this_letters q_length q_nodes q_at q_fault q_letters q_near res H locs (F0 m 75 ls []) := by
    intro k75_q_nodes k75_q_at k75_q_fault k75_q_near H locs ls w hl hf
    unfold jX6_faultOfText_75 at hf
    refine lv_aload_n C.1 C.2.1 dX6_faultOfText_75 rfl (lv_at hl 0 rfl) ?_
    refine r_get C w inX6_faultOfText_X6 0 rfl rfl 5 (by decide) lkX6_faultOfText_28 rfl dX6_faultOfText_76 ?_
    have hres := Option.some.inj hf
    subst hres
    exact ret_i C hr hlocks w rfl dX6_faultOfText_79
  have hlp17 : ∀ (k17_q_nodes : Int32) (k17_q_at : Int32) (k17_q_fault : Int32) (ex17 : Int32 × (Nat → Int32)) (hk : (∀ (H : Heap) (locs : List Loc) (ls : Array Slot), wd D (ty4 cI cL cS cH) s (va_A (wX6_faultOfText cI cL cS cH a_this a_this_near a_this_letters q_length q_nodes q_at q_fault q_letters q_near) s.heap.size) s.heap H locs (wX6_faultOfText cI cL cS cH a_this a_this_near a_this_letters q_length k17_q_nodes k17_q_at k17_q_fault q_letters ex17.2) → lv_has ls 2 [(0, .ref a_this)] → gX6_faultOfText p l e s m below meth c D cI cL cS cH a_this a_this_near a_this_letters q_length q_nodes q_at q_fault q_letters q_near res H locs (F0 m 36 ls []))) (n : Nat) (v17 : Int32 × (Nat → Int32)) (H : Heap) (locs : List Loc) (ls : Array Slot), itL (bX6_faultOfText_17 q_length q_letters k17_q_nodes k17_q_at k17_q_fault) n v17 = some ex17 → wd D (ty4 cI cL cS cH) s (va_A (wX6_faultOfText cI cL cS cH a_this a_this_near a_this_letters q_length q_nodes q_at q_fault q_letters q_near) s.heap.size) s.heap H locs (wX6_faultOfText cI cL cS cH a_this a_this_near a_this_letters q_length k17_q_nodes k17_q_at k17_q_fault q_letters v17.2) → lv_has ls 2 [(0, .ref a_this), (1, .int v17.1)] → gX6_faultOfText p l e s m below meth c D cI cL cS cH a_this a_this_near a_this_letters q_length q_nodes q_at q_fault q_letters q_near res H locs (F0 m 17 ls []) := by
    intro k17_q_nodes k17_q_at k17_q_fault ex17 hk n
    induction n with
    | zero => intro v17 H locs ls hi w hl; exact (itL_zero hi).elim
    | succ n ih =>
      intro v17 H locs ls hi w hl
      obtain ⟨o, hf, hn⟩ := itL_succ hi
      unfold bX6_faultOfText_17 at hf
      refine lv_iload_n C.1 C.2.1 dX6_faultOfText_17 rfl (lv_at hl 1 rfl) ?_
      refine lv_bipush (v := (7 : Int32)) C.1 C.2.1 dX6_faultOfText_18 (by decide) ?_
      refine lv_icmp_ge (tgt := 36) C.1 C.2.1 dX6_faultOfText_20 (by decide) (fun hq1 => ?_) (fun hq1 => ?_)
      · have hf := ite_t hf hq1
        obtain rfl := Option.some.inj hf
        obtain rfl := hn
        exact hk _ _ _ w (lv_sub hl [0] rfl)
      · have hf := ite_f hf hq1
        refine lv_aload_n C.1 C.2.1 dX6_faultOfText_23 rfl (lv_at hl 0 rfl) ?_
        refine r_get C w inX6_faultOfText_X6 0 rfl rfl 2 (by decide) lkX6_faultOfText_18 rfl dX6_faultOfText_24 ?_
        refine lv_iload_n C.1 C.2.1 dX6_faultOfText_27 rfl (lv_at hl 1 rfl) ?_
        refine lv_iconst (v := (0 : Int32)) C.1 C.2.1 dX6_faultOfText_28 (by decide) ?_
        obtain ⟨g2, hg3, hf⟩ := bd hf
        refine r_iast (ws' := (wX6_faultOfText cI cL cS cH a_this a_this_near a_this_letters q_length k17_q_nodes k17_q_at k17_q_fault q_letters g2)) C w 2 0 rfl rfl (wi_in hg3) rfl dX6_faultOfText_29 (fun H locs w => ?_)
        refine lv_iinc (v := (v17.1 + (1 : Int32))) (lv' := [(1, .int (v17.1 + (1 : Int32))), (0, .ref a_this)]) C.1 C.2.1 dX6_faultOfText_30 hl (k := 1) rfl rfl (by decide) rfl (fun ls hl => ?_)
        refine lv_goto (tgt := 17) C.1 C.2.1 dX6_faultOfText_33 (by decide) ?_
        obtain rfl := Option.some.inj hf
        exact ih ((v17.1 + (1 : Int32)), g2) _ _ _ hn w (lv_sub hl [1, 0] rfl)
  refine lv_aload_n C.1 C.2.1 dX6_faultOfText_0 rfl (lv_at hl 0 rfl) ?_
  refine lv_iconst (v := (0 : Int32)) C.1 C.2.1 dX6_faultOfText_1 (by decide) ?_
  refine r_put (ws' := (wX6_faultOfText cI cL cS cH a_this a_this_near a_this_letters q_length q_nodes (0 : Int32) q_fault q_letters q_near)) C w inX6_faultOfText_X6 tyX6 tyX6_ok nmX6 0 rfl rfl 4 (by decide) lkX6_faultOfText_25 rfl rfl rfl (Nat.le_of_ble_eq_true rfl) rfl dX6_faultOfText_2 (fun H locs w => ?_)
  refine lv_aload_n C.1 C.2.1 dX6_faultOfText_5 rfl (lv_at hl 0 rfl) ?_
  refine lv_iconst (v := (-1 : Int32)) C.1 C.2.1 dX6_faultOfText_6 (by decide) ?_
  refine r_put (ws' := (wX6_faultOfText cI cL cS cH a_this a_this_near a_this_letters q_length q_nodes (0 : Int32) (-1 : Int32) q_letters q_near)) C w inX6_faultOfText_X6 tyX6 tyX6_ok nmX6 0 rfl rfl 5 (by decide) lkX6_faultOfText_28 rfl rfl rfl (Nat.le_of_ble_eq_true rfl) rfl dX6_faultOfText_7 (fun H locs w => ?_)
  refine lv_aload_n C.1 C.2.1 dX6_faultOfText_10 rfl (lv_at hl 0 rfl) ?_
  refine lv_iconst (v := (0 : Int32)) C.1 C.2.1 dX6_faultOfText_11 (by decide) ?_
  refine r_put (ws' := (wX6_faultOfText cI cL cS cH a_this a_this_near a_this_letters q_length (0 : Int32) (0 : Int32) (-1 : Int32) q_letters q_near)) C w inX6_faultOfText_X6 tyX6 tyX6_ok nmX6 0 rfl rfl 1 (by decide) lkX6_faultOfText_15 rfl rfl rfl (Nat.le_of_ble_eq_true rfl) rfl dX6_faultOfText_12 (fun H locs w => ?_)
  refine lv_iconst (v := (0 : Int32)) C.1 C.2.1 dX6_faultOfText_15 (by decide) ?_
  refine lv_istore_n (lv' := [(1, .int (0 : Int32)), (0, .ref a_this)]) C.1 C.2.1 dX6_faultOfText_16 rfl hl (by decide) rfl (fun ls hl => ?_)
  obtain ⟨ex4, hx5, hf⟩ := bd hf
  refine hlp17 (0 : Int32) (0 : Int32) (-1 : Int32) ex4 ?_ fu ((0 : Int32), q_near) _ _ _ hx5 w (lv_sub hl [1, 0] rfl)
  intro H locs ls w hl
  refine lv_aload_n C.1 C.2.1 dX6_faultOfText_36 rfl (lv_at hl 0 rfl) ?_
  refine lv_aload_n C.1 C.2.1 dX6_faultOfText_37 rfl (lv_at hl 0 rfl) ?_
  obtain ⟨r6, hc7, hf⟩ := bd hf
  refine call_Vi (ws' := (wX6_faultOfText cI cL cS cH a_this a_this_near a_this_letters q_length (0 : Int32) r6.2.1 r6.2.2 q_letters ex4.2)) (rest := [.ref a_this]) C w (mX6_readName l D cI cL cS cH _ a_this a_this_near a_this_letters q_length (0 : Int32) (0 : Int32) (-1 : Int32) q_letters hc7) (cwV 0 C.2.2.2.2 gX6_faultOfText_X6_readName rfl rfl rfl (by decide +kernel) ⟨Nat.le_of_ble_eq_true rfl, Nat.le_of_ble_eq_true rfl⟩) [0, 1] [2] 3 ⟨rfl, rfl, trivial⟩ ⟨rfl, rfl, trivial⟩ ⟨⟨_, rfl, rfl⟩, trivial⟩ rfl (by decide) (by decide) (ci := 6) (q0 := 0) rfl rfl rfl hl.1 rfl (lv_room (Nat.le_of_ble_eq_true rfl)) dX6_faultOfText_38 ⟨Nat.zero_le _, Nat.zero_le _⟩ (fun H locs w => ?_)
  obtain ⟨r8, hc9, hf⟩ := bd hf
  refine call_Vv (ws' := (wX6_faultOfText cI cL cS cH a_this a_this_near a_this_letters q_length r8.1 r8.2.1 r8.2.2.1 q_letters r8.2.2.2)) (rest := []) C w (mX6_readShape l D cI cL cS cH _ a_this a_this_near a_this_letters q_length (0 : Int32) r6.2.1 r6.2.2 q_letters ex4.2 r6.1 hc9) (cwV 1 C.2.2.2.2 gX6_faultOfText_X6_readShape rfl rfl rfl (by decide +kernel) ⟨Nat.le_of_ble_eq_true rfl, Nat.le_of_ble_eq_true rfl⟩) [0, 1, 2] [] 3 ⟨rfl, rfl, rfl, trivial⟩ ⟨rfl, rfl, rfl, trivial⟩ trivial rfl (by decide) (by decide) (ci := 6) (q0 := 0) rfl rfl rfl hl.1 rfl (lv_room (Nat.le_of_ble_eq_true rfl)) dX6_faultOfText_41 ⟨Nat.zero_le _, Nat.zero_le _⟩ (fun H locs w => ?_)
  refine lv_aload_n C.1 C.2.1 dX6_faultOfText_44 rfl (lv_at hl 0 rfl) ?_
  obtain ⟨r10, hc11, hf⟩ := bd hf
  refine call_Vv (ws' := (wX6_faultOfText cI cL cS cH a_this a_this_near a_this_letters q_length r8.1 r10 r8.2.2.1 q_letters r8.2.2.2)) (rest := []) C w (mX6_skipBlanks l D cI cL cS cH _ a_this a_this_near a_this_letters q_length r8.1 r8.2.1 r8.2.2.1 q_letters hc11) (cwV 0 C.2.2.2.2 gX6_faultOfText_X6_skipBlanks rfl rfl rfl (by decide +kernel) ⟨Nat.le_of_ble_eq_true rfl, Nat.le_of_ble_eq_true rfl⟩) [0, 1] [2] 3 ⟨rfl, rfl, trivial⟩ ⟨rfl, rfl, trivial⟩ ⟨⟨_, rfl, rfl⟩, trivial⟩ rfl (by decide) (by decide) (ci := 6) (q0 := 0) rfl rfl rfl hl.1 rfl (lv_room (Nat.le_of_ble_eq_true rfl)) dX6_faultOfText_45 ⟨Nat.zero_le _, Nat.zero_le _⟩ (fun H locs w => ?_)
  refine lv_aload_n C.1 C.2.1 dX6_faultOfText_48 rfl (lv_at hl 0 rfl) ?_
  refine r_get C w inX6_faultOfText_X6 0 rfl rfl 5 (by decide) lkX6_faultOfText_28 rfl dX6_faultOfText_49 ?_
  refine lv_iconst (v := (-1 : Int32)) C.1 C.2.1 dX6_faultOfText_52 (by decide) ?_
  refine lv_icmp_ne (tgt := 75) C.1 C.2.1 dX6_faultOfText_53 (by decide) (fun hq12 => ?_) (fun hq12 => ?_)
  · have hf := ite_f hf hq12
    exact hj75 r8.1 r10 r8.2.2.1 r8.2.2.2 _ _ _ w (lv_sub hl [0] rfl) hf
  · have hf := ite_t hf hq12
    refine lv_aload_n C.1 C.2.1 dX6_faultOfText_56 rfl (lv_at hl 0 rfl) ?_
    refine r_get C w inX6_faultOfText_X6 0 rfl rfl 4 (by decide) lkX6_faultOfText_25 rfl dX6_faultOfText_57 ?_
    refine lv_aload_n C.1 C.2.1 dX6_faultOfText_60 rfl (lv_at hl 0 rfl) ?_
    refine r_get C w inX6_faultOfText_X6 0 rfl rfl 0 (by decide) lkX6_faultOfText_9 rfl dX6_faultOfText_61 ?_
    refine lv_icmp_ge (tgt := 75) C.1 C.2.1 dX6_faultOfText_64 (by decide) (fun hq13 => ?_) (fun hq13 => ?_)
    · have hf := ite_t hf hq13
      exact hj75 r8.1 r10 r8.2.2.1 r8.2.2.2 _ _ _ w (lv_sub hl [0] rfl) hf
    · have hf := ite_f hf hq13
      refine lv_aload_n C.1 C.2.1 dX6_faultOfText_67 rfl (lv_at hl 0 rfl) ?_
      refine lv_aload_n C.1 C.2.1 dX6_faultOfText_68 rfl (lv_at hl 0 rfl) ?_
      refine r_get C w inX6_faultOfText_X6 0 rfl rfl 4 (by decide) lkX6_faultOfText_25 rfl dX6_faultOfText_69 ?_
      refine r_put (ws' := (wX6_faultOfText cI cL cS cH a_this a_this_near a_this_letters q_length r8.1 r10 r10 q_letters r8.2.2.2)) C w inX6_faultOfText_X6 tyX6 tyX6_ok nmX6 0 rfl rfl 5 (by decide) lkX6_faultOfText_28 rfl rfl rfl (Nat.le_of_ble_eq_true rfl) rfl dX6_faultOfText_72 (fun H locs w => ?_)
      exact hj75 r8.1 r10 r10 r8.2.2.2 _ _ _ w (lv_sub hl [0] rfl) hf
