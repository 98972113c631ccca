set_option maxRecDepth 100000 in
theorem inX4_begin_X4 : ∀ w ∈ u_ws RX4 TX4 3, w ∈ wsX4_begin := by decide +kernel
set_option maxRecDepth 100000 in
theorem lkX4_begin_18 : Cond.fieldLink RX4 18 "CleanNets$Sheet" "items" "[J" ∈ wsX4_begin := by decide +kernel
set_option maxRecDepth 100000 in
theorem lkX4_begin_11 : Cond.fieldLink RX4 11 "CleanNets$Sheet" "lane" "I" ∈ wsX4_begin := by decide +kernel
set_option maxRecDepth 100000 in
theorem lkX4_begin_15 : Cond.fieldLink RX4 15 "CleanNets$Sheet" "length" "I" ∈ wsX4_begin := by decide +kernel
abbrev wX4_begin (cI cL cS cH : ClassId) (a_this : Nat) (a_this_items : Nat) (q_lane : Int32) (q_length : Int32) (q_items : Nat → Int64) : va_W := [(a_this, .inr (4, [.int q_lane, .int q_length, .ref a_this_items])),
  (a_this_items, .inl (cL, 24, .inr (.inl q_items)))]
def bX4_begin_12  (k12_q_lane : Int32) (k12_q_length : Int32) (v12 : Int32 × (Nat → Int64)) : Option ((Int32 × (Nat → Int64)) ⊕ (Int32 × (Nat → Int64))) := (if (24 : Int32) ≤ v12.1 then some (.inr (v12.1, v12.2)) else Option.bind (wl v12.2 24 v12.1 (0 : Int64)) (fun g2 => some (.inl ((v12.1 + (1 : Int32)), g2))))
def fX4_begin (q_lane : Int32) (q_length : Int32) (q_items : Nat → Int64) (x1 : Int32) (x2 : Int32) : Option (Int32 × Int32 × (Nat → Int64)) := Option.bind (itL (bX4_begin_12 x1 x2) fu ((0 : Int32), q_items)) (fun ex4 => some (x1, x2, ex4.2))
abbrev gX4_begin (p : Program) (l : Launch) (e : Env) (s : State) (m : MethodId) (below : List Frame) (meth : Method) (c : Code) (D : vg) (cI cL cS cH : ClassId) (a_this : Nat) (a_this_items : Nat) (q_lane : Int32) (q_length : Int32) (q_items : Nat → Int64) (x1 : Int32) (x2 : Int32) (res : Int32 × Int32 × (Nat → Int64)) (H : Heap) (locs : List Loc) (g : JFrame) : Prop := W p l e (headSpec wsX4_begin ({ frames := 0, cells := 0, slots := 0, locals := 0 })).room s m ([.ref a_this, .int x1, .int x2] : List Value).toArray below meth c H locs 0 0 (MQ below (va_Qv (fun (_ : Unit) => True) (fun _ t => pos1 D s.heap.size (wX4_begin cI cL cS cH a_this a_this_items q_lane q_length q_items) (wX4_begin cI cL cS cH a_this a_this_items res.1 res.2.1 res.2.2) t) (va_A (wX4_begin cI cL cS cH a_this a_this_items q_lane q_length q_items) s.heap.size)) ([.ref a_this, .int x1, .int x2] : List Value).toArray s 0 0 (va_A (wX4_begin cI cL cS cH a_this a_this_items q_lane q_length q_items) s.heap.size)) g
set_option maxHeartbeats 4000000 in
set_option maxRecDepth 100000 in
theorem mX4_begin (l : Launch) (D : vg) (cI cL cS cH : ClassId) (sz : Nat) (a_this : Nat) (a_this_items : Nat) (q_lane : Int32) (q_length : Int32) (q_items : Nat → Int64) (x1 : Int32) (x2 : Int32) {res : Int32 × Int32 × (Nat → Int64)} (hf : fX4_begin q_lane q_length q_items x1 x2 = some res) : ctv l yX4_begin wsX4_begin ({ frames := 0, cells := 0, slots := 0, locals := 0 }) D (ty4 cI cL cS cH) sz [.ref a_this, .int x1, .int x2] (wX4_begin cI cL cS cH a_this a_this_items q_lane q_length q_items) (wX4_begin cI cL cS cH a_this a_this_items res.1 res.2.1 res.2.2) := by
  refine Met.ofW (cc := cX4_begin) (maxL := 4) (ret := none) (by decide) rfl ?_
  intro p e s m args below meth c s₁ B hml hv
  obtain ⟨rfl, hpre⟩ := hv
  obtain rfl := hpre.1
  have C : CallFix p m c cX4_begin 4 s _ wsX4_begin RX4 := ⟨B.exec, B.bytes, hml, findClass_of_methodNamed B.named, atoms_spec (ws := wsX4_begin) B.pre⟩
  have hr := B.returns
  have hlocks := B.notSynchronized
  have w := wd_start hpre
  clear hpre B
  have hl := lv_entry ([.ref a_this, .int x1, .int x2]) (n := 4) (Nat.le_of_ble_eq_true rfl)
  rw [lg_entry_eq]
  generalize (lg_sl ([.ref a_this, .int x1, .int x2]) ++ List.replicate (4 - (lg_sl ([.ref a_this, .int x1, .int x2])).length) Slot.unset).toArray = ls at hl ⊢
  have hl : lv_has ls 4 [(0, .ref a_this), (1, .int x1), (2, .int x2)] := hl
  unfold fX4_begin at hf
  have hlp12 : ∀ (k12_q_lane : Int32) (k12_q_length : Int32) (ex12 : Int32 × (Nat → Int64)) (hk : (∀ (H : Heap) (locs : List Loc) (ls : Array Slot), wd D (ty4 cI cL cS cH) s (va_A (wX4_begin cI cL cS cH a_this a_this_items q_lane q_length q_items) s.heap.size) s.heap H locs (wX4_begin cI cL cS cH a_this a_this_items k12_q_lane k12_q_length ex12.2) → lv_has ls 4 [] → gX4_begin p l e s m below meth c D cI cL cS cH a_this a_this_items q_lane q_length q_items x1 x2 res H locs (F0 m 31 ls []))) (n : Nat) (v12 : Int32 × (Nat → Int64)) (H : Heap) (locs : List Loc) (ls : Array Slot), itL (bX4_begin_12 k12_q_lane k12_q_length) n v12 = some ex12 → wd D (ty4 cI cL cS cH) s (va_A (wX4_begin cI cL cS cH a_this a_this_items q_lane q_length q_items) s.heap.size) s.heap H locs (wX4_begin cI cL cS cH a_this a_this_items k12_q_lane k12_q_length v12.2) → lv_has ls 4 [(0, .ref a_this), (3, .int v12.1)] → gX4_begin p l e s m below meth c D cI cL cS cH a_this a_this_items q_lane q_length q_items x1 x2 res H locs (F0 m 12 ls []) := by
    intro k12_q_lane k12_q_length ex12 hk n
    induction n with
    | zero => intro v12 H locs ls hi w hl; exact (itL_zero hi).elim
    | succ n ih =>
      intro v12 H locs ls hi w hl
      obtain ⟨o, hf, hn⟩ := itL_succ hi
      unfold bX4_begin_12 at hf
      refine lv_iload_n C.1 C.2.1 dX4_begin_12 rfl (lv_at hl 1 rfl) ?_
      refine lv_bipush (v := (24 : Int32)) C.1 C.2.1 dX4_begin_13 (by decide) ?_
      refine lv_icmp_ge (tgt := 31) C.1 C.2.1 dX4_begin_15 (by decide) (fun hq1 => ?_) (fun hq1 => ?_)
      · have hf := ite_t hf hq1
        obtain rfl := Option.some.inj hf
        obtain rfl := hn
        exact hk _ _ _ w (lv_sub hl [] rfl)
      · have hf := ite_f hf hq1
        refine lv_aload_n C.1 C.2.1 dX4_begin_18 rfl (lv_at hl 0 rfl) ?_
        refine r_get C w inX4_begin_X4 0 rfl rfl 2 (by decide) lkX4_begin_18 rfl dX4_begin_19 ?_
        refine lv_iload_n C.1 C.2.1 dX4_begin_22 rfl (lv_at hl 1 rfl) ?_
        refine lv_lconst (v := (0 : Int64)) C.1 C.2.1 dX4_begin_23 (by decide) ?_
        obtain ⟨g2, hg3, hf⟩ := bd hf
        refine r_last (ws' := (wX4_begin cI cL cS cH a_this a_this_items k12_q_lane k12_q_length g2)) C w 1 1 rfl rfl (wl_in hg3) rfl dX4_begin_24 (fun H locs w => ?_)
        refine lv_iinc (v := (v12.1 + (1 : Int32))) (lv' := [(3, .int (v12.1 + (1 : Int32))), (0, .ref a_this)]) C.1 C.2.1 dX4_begin_25 hl (k := 1) rfl rfl (by decide) rfl (fun ls hl => ?_)
        refine lv_goto (tgt := 12) C.1 C.2.1 dX4_begin_28 (by decide) ?_
        obtain rfl := Option.some.inj hf
        exact ih ((v12.1 + (1 : Int32)), g2) _ _ _ hn w (lv_sub hl [1, 0] rfl)
  refine lv_aload_n C.1 C.2.1 dX4_begin_0 rfl (lv_at hl 0 rfl) ?_
  refine lv_iload_n C.1 C.2.1 dX4_begin_1 rfl (lv_at hl 1 rfl) ?_
  refine r_put (ws' := (wX4_begin cI cL cS cH a_this a_this_items x1 q_length q_items)) C w inX4_begin_X4 tyX4 tyX4_ok nmX4 0 rfl rfl 0 (by decide) lkX4_begin_11 rfl rfl rfl (Nat.le_of_ble_eq_true rfl) rfl dX4_begin_2 (fun H locs w => ?_)
  refine lv_aload_n C.1 C.2.1 dX4_begin_5 rfl (lv_at hl 0 rfl) ?_
  refine lv_iload_n C.1 C.2.1 dX4_begin_6 rfl (lv_at hl 2 rfl) ?_
  refine r_put (ws' := (wX4_begin cI cL cS cH a_this a_this_items x1 x2 q_items)) C w inX4_begin_X4 tyX4 tyX4_ok nmX4 0 rfl rfl 1 (by decide) lkX4_begin_15 rfl rfl rfl (Nat.le_of_ble_eq_true rfl) rfl dX4_begin_7 (fun H locs w => ?_)
  refine lv_iconst (v := (0 : Int32)) C.1 C.2.1 dX4_begin_10 (by decide) ?_
  refine lv_istore_n (lv' := [(3, .int (0 : Int32)), (0, .ref a_this), (1, .int x1), (2, .int x2)]) C.1 C.2.1 dX4_begin_11 rfl hl (by decide) rfl (fun ls hl => ?_)
  obtain ⟨ex4, hx5, hf⟩ := bd hf
  refine hlp12 x1 x2 ex4 ?_ fu ((0 : Int32), q_items) _ _ _ hx5 w (lv_sub hl [1, 0] rfl)
  intro H locs ls w hl
  have hres := Option.some.inj hf
  subst hres
  exact ret_v C hr hlocks w dX4_begin_31

set_option maxRecDepth 100000 in
theorem inX4_isMissing_X4 : ∀ w ∈ u_ws RX4 TX4 3, w ∈ wsX4_isMissing := by decide +kernel
set_option maxRecDepth 100000 in
theorem lkX4_isMissing_11 : Cond.fieldLink RX4 11 "CleanNets$Sheet" "lane" "I" ∈ wsX4_isMissing := by decide +kernel
abbrev wX4_isMissing (cI cL cS cH : ClassId) (a_this : Nat) (a_this_items : Nat) (q_lane : Int32) (q_length : Int32) : va_W := [(a_this, .inr (4, [.int q_lane, .int q_length, .ref a_this_items]))]
def fX4_isMissing (q_lane : Int32)  : Option (Int32) := (if q_lane = (-1 : Int32) then some (1 : Int32) else some (0 : Int32))
set_option maxHeartbeats 4000000 in
set_option maxRecDepth 100000 in
theorem mX4_isMissing (l : Launch) (D : vg) (cI cL cS cH : ClassId) (sz : Nat) (a_this : Nat) (a_this_items : Nat) (q_lane : Int32) (q_length : Int32) {res : Int32} (hf : fX4_isMissing q_lane = some res) : cti l yX4_isMissing wsX4_isMissing ({ frames := 0, cells := 0, slots := 0, locals := 0 }) D (ty4 cI cL cS cH) sz [.ref a_this] (wX4_isMissing cI cL cS cH a_this a_this_items q_lane q_length) (wX4_isMissing cI cL cS cH a_this a_this_items q_lane q_length) res := by
  refine Met.ofW (cc := cX4_isMissing) (maxL := 1) (ret := (some .boolean)) (by decide) rfl ?_
  intro p e s m args below meth c s₁ B hml hv
  obtain ⟨rfl, hpre⟩ := hv
  obtain rfl := hpre.1
  have C : CallFix p m c cX4_isMissing 1 s _ wsX4_isMissing RX4 := ⟨B.exec, B.bytes, hml, findClass_of_methodNamed B.named, atoms_spec (ws := wsX4_isMissing) B.pre⟩
  have hr := B.returns
  have hlocks := B.notSynchronized
  have w := wd_start hpre
  clear hpre B
  have hl := lv_entry ([.ref a_this]) (n := 1) (Nat.le_of_ble_eq_true rfl)
  rw [lg_entry_eq]
  generalize (lg_sl ([.ref a_this]) ++ List.replicate (1 - (lg_sl ([.ref a_this])).length) Slot.unset).toArray = ls at hl ⊢
  have hl : lv_has ls 1 [(0, .ref a_this)] := hl
  unfold fX4_isMissing at hf
  refine lv_aload_n C.1 C.2.1 dX4_isMissing_0 rfl (lv_at hl 0 rfl) ?_
  refine r_get C w inX4_isMissing_X4 0 rfl rfl 0 (by decide) lkX4_isMissing_11 rfl dX4_isMissing_1 ?_
  refine lv_iconst (v := (-1 : Int32)) C.1 C.2.1 dX4_isMissing_4 (by decide) ?_
  refine lv_icmp_ne (tgt := 12) C.1 C.2.1 dX4_isMissing_5 (by decide) (fun hq1 => ?_) (fun hq1 => ?_)
  · have hf := ite_f hf hq1
    refine lv_iconst (v := (0 : Int32)) C.1 C.2.1 dX4_isMissing_12 (by decide) ?_
    have hres := Option.some.inj hf
    subst hres
    exact ret_z C hr hlocks w (by decide) rfl dX4_isMissing_13
  · have hf := ite_t hf hq1
    refine lv_iconst (v := (1 : Int32)) C.1 C.2.1 dX4_isMissing_8 (by decide) ?_
    refine lv_goto (tgt := 13) C.1 C.2.1 dX4_isMissing_9 (by decide) ?_
    have hres := Option.some.inj hf
    subst hres
    exact ret_z C hr hlocks w (by decide) rfl dX4_isMissing_13

set_option maxRecDepth 100000 in
theorem inX4_holds_X4 : ∀ w ∈ u_ws RX4 TX4 3, w ∈ wsX4_holds := by decide +kernel
set_option maxRecDepth 100000 in
theorem lkX4_holds_15 : Cond.fieldLink RX4 15 "CleanNets$Sheet" "length" "I" ∈ wsX4_holds := by decide +kernel
abbrev wX4_holds (cI cL cS cH : ClassId) (a_this : Nat) (a_this_items : Nat) (q_lane : Int32) (q_length : Int32) : va_W := [(a_this, .inr (4, [.int q_lane, .int q_length, .ref a_this_items]))]
def fX4_holds (q_length : Int32) (x1 : Int32) (x2 : Int32) : Option (Int32) := (if x2 < 0 then some (0 : Int32) else (if x1 < 0 then some (0 : Int32) else (if (q_length - x2) < x1 then some (0 : Int32) else some (1 : Int32))))
set_option maxHeartbeats 4000000 in
set_option maxRecDepth 100000 in
theorem mX4_holds (l : Launch) (D : vg) (cI cL cS cH : ClassId) (sz : Nat) (a_this : Nat) (a_this_items : Nat) (q_lane : Int32) (q_length : Int32) (x1 : Int32) (x2 : Int32) {res : Int32} (hf : fX4_holds q_length x1 x2 = some res) : cti l yX4_holds wsX4_holds ({ frames := 0, cells := 0, slots := 0, locals := 0 }) D (ty4 cI cL cS cH) sz [.ref a_this, .int x1, .int x2] (wX4_holds cI cL cS cH a_this a_this_items q_lane q_length) (wX4_holds cI cL cS cH a_this a_this_items q_lane q_length) res := by
  refine Met.ofW (cc := cX4_holds) (maxL := 3) (ret := (some .boolean)) (by decide) rfl ?_
  intro p e s m args below meth c s₁ B hml hv
  obtain ⟨rfl, hpre⟩ := hv
  obtain rfl := hpre.1
  have C : CallFix p m c cX4_holds 3 s _ wsX4_holds RX4 := ⟨B.exec, B.bytes, hml, findClass_of_methodNamed B.named, atoms_spec (ws := wsX4_holds) B.pre⟩
  have hr := B.returns
  have hlocks := B.notSynchronized
  have w := wd_start hpre
  clear hpre B
  have hl := lv_entry ([.ref a_this, .int x1, .int x2]) (n := 3) (Nat.le_of_ble_eq_true rfl)
  rw [lg_entry_eq]
  generalize (lg_sl ([.ref a_this, .int x1, .int x2]) ++ List.replicate (3 - (lg_sl ([.ref a_this, .int x1, .int x2])).length) Slot.unset).toArray = ls at hl ⊢
  have hl : lv_has ls 3 [(0, .ref a_this), (1, .int x1), (2, .int x2)] := hl
  unfold fX4_holds at hf
  refine lv_iload_n C.1 C.2.1 dX4_holds_0 rfl (lv_at hl 2 rfl) ?_
  refine lv_if_lt (tgt := 22) C.1 C.2.1 dX4_holds_1 (by decide) (fun hq1 => ?_) (fun hq1 => ?_)
  · have hf := ite_t hf hq1
    refine lv_iconst (v := (0 : Int32)) C.1 C.2.1 dX4_holds_22 (by decide) ?_
    have hres := Option.some.inj hf
    subst hres
    exact ret_z C hr hlocks w (by decide) rfl dX4_holds_23
  · have hf := ite_f hf hq1
    refine lv_iload_n C.1 C.2.1 dX4_holds_4 rfl (lv_at hl 1 rfl) ?_
    refine lv_if_lt (tgt := 22) C.1 C.2.1 dX4_holds_5 (by decide) (fun hq2 => ?_) (fun hq2 => ?_)
    · have hf := ite_t hf hq2
      refine lv_iconst (v := (0 : Int32)) C.1 C.2.1 dX4_holds_22 (by decide) ?_
      have hres := Option.some.inj hf
      subst hres
      exact ret_z C hr hlocks w (by decide) rfl dX4_holds_23
    · have hf := ite_f hf hq2
      refine lv_iload_n C.1 C.2.1 dX4_holds_8 rfl (lv_at hl 1 rfl) ?_
      refine lv_aload_n C.1 C.2.1 dX4_holds_9 rfl (lv_at hl 0 rfl) ?_
      refine r_get C w inX4_holds_X4 0 rfl rfl 1 (by decide) lkX4_holds_15 rfl dX4_holds_10 ?_
      refine lv_iload_n C.1 C.2.1 dX4_holds_13 rfl (lv_at hl 2 rfl) ?_
      refine lv_isub C.1 C.2.1 dX4_holds_14 ?_
      refine lv_icmp_gt (tgt := 22) C.1 C.2.1 dX4_holds_15 (by decide) (fun hq3 => ?_) (fun hq3 => ?_)
      · have hf := ite_t hf hq3
        refine lv_iconst (v := (0 : Int32)) C.1 C.2.1 dX4_holds_22 (by decide) ?_
        have hres := Option.some.inj hf
        subst hres
        exact ret_z C hr hlocks w (by decide) rfl dX4_holds_23
      · have hf := ite_f hf hq3
        refine lv_iconst (v := (1 : Int32)) C.1 C.2.1 dX4_holds_18 (by decide) ?_
        refine lv_goto (tgt := 23) C.1 C.2.1 dX4_holds_19 (by decide) ?_
        have hres := Option.some.inj hf
        subst hres
        exact ret_z C hr hlocks w (by decide) rfl dX4_holds_23

set_option maxRecDepth 100000 in
theorem inX4_wrongAs_X4 : ∀ w ∈ u_ws RX4 TX4 3, w ∈ wsX4_wrongAs := by decide +kernel
set_option maxRecDepth 100000 in
theorem lkX4_wrongAs_11 : Cond.fieldLink RX4 11 "CleanNets$Sheet" "lane" "I" ∈ wsX4_wrongAs := by decide +kernel
abbrev wX4_wrongAs (cI cL cS cH : ClassId) (a_this : Nat) (a_this_items : Nat) (q_lane : Int32) (q_length : Int32) : va_W := [(a_this, .inr (4, [.int q_lane, .int q_length, .ref a_this_items]))]
def fX4_wrongAs (q_lane : Int32) (q_length : Int32) (x1 : Int32) (x2 : Int32) (x3 : Int32) : Option (Int32) := Option.bind (fX4_isMissing q_lane) (fun r1 => (if r1 = 0 then (if q_lane = x1 then Option.bind (fX4_holds q_length x2 x3) (fun r5 => (if r5 = 0 then some (-13 : Int32) else some (0 : Int32))) else some (-12 : Int32)) else some (-11 : Int32)))
set_option maxHeartbeats 4000000 in
set_option maxRecDepth 100000 in
theorem mX4_wrongAs (l : Launch) (D : vg) (cI cL cS cH : ClassId) (sz : Nat) (a_this : Nat) (a_this_items : Nat) (q_lane : Int32) (q_length : Int32) (x1 : Int32) (x2 : Int32) (x3 : Int32) {res : Int32} (hf : fX4_wrongAs q_lane q_length x1 x2 x3 = some res) : cti l yX4_wrongAs wsX4_wrongAs ({ frames := 1, cells := 0, slots := 0, locals := 22 }) D (ty4 cI cL cS cH) sz [.ref a_this, .int x1, .int x2, .int x3] (wX4_wrongAs cI cL cS cH a_this a_this_items q_lane q_length) (wX4_wrongAs cI cL cS cH a_this a_this_items q_lane q_length) res := by
  refine Met.ofW (cc := cX4_wrongAs) (maxL := 4) (ret := (some .int)) (by decide) rfl ?_
  intro p e s m args below meth c s₁ B hml hv
  obtain ⟨rfl, hpre⟩ := hv
  obtain rfl := hpre.1
  have C : CallFix p m c cX4_wrongAs 4 s _ wsX4_wrongAs RX4 := ⟨B.exec, B.bytes, hml, findClass_of_methodNamed B.named, atoms_spec (ws := wsX4_wrongAs) B.pre⟩
  have hr := B.returns
  have hlocks := B.notSynchronized
  have w := wd_start hpre
  clear hpre B
  have hl := lv_entry ([.ref a_this, .int x1, .int x2, .int x3]) (n := 4) (Nat.le_of_ble_eq_true rfl)
  rw [lg_entry_eq]
  generalize (lg_sl ([.ref a_this, .int x1, .int x2, .int x3]) ++ List.replicate (4 - (lg_sl ([.ref a_this, .int x1, .int x2, .int x3])).length) Slot.unset).toArray = ls at hl ⊢
  have hl : lv_has ls 4 [(0, .ref a_this), (1, .int x1), (2, .int x2), (3, .int x3)] := hl
  unfold fX4_wrongAs at hf
  refine lv_aload_n C.1 C.2.1 dX4_wrongAs_0 rfl (lv_at hl 0 rfl) ?_
  obtain ⟨r1, hc2, hf⟩ := bd hf
  refine call_Vi (ws' := (wX4_wrongAs cI cL cS cH a_this a_this_items q_lane q_length)) (rest := []) C w (mX4_isMissing l D cI cL cS cH _ a_this a_this_items q_lane q_length hc2) (cwV 0 C.2.2.2.2 gX4_wrongAs_X4_isMissing rfl rfl rfl (by decide +kernel) ⟨Nat.le_of_ble_eq_true rfl, Nat.le_of_ble_eq_true rfl⟩) [0] [] 1 ⟨rfl, trivial⟩ ⟨rfl, trivial⟩ trivial rfl (by decide) (by decide) (ci := 4) (q0 := 0) rfl rfl rfl hl.1 rfl (lv_room (Nat.le_of_ble_eq_true rfl)) dX4_wrongAs_1 ⟨Nat.zero_le _, Nat.zero_le _⟩ (fun H locs w => ?_)
  refine lv_if_eq (tgt := 10) C.1 C.2.1 dX4_wrongAs_4 (by decide) (fun hq3 => ?_) (fun hq3 => ?_)
  · have hf := ite_t hf hq3
    refine lv_aload_n C.1 C.2.1 dX4_wrongAs_10 rfl (lv_at hl 0 rfl) ?_
    refine r_get C w inX4_wrongAs_X4 0 rfl rfl 0 (by decide) lkX4_wrongAs_11 rfl dX4_wrongAs_11 ?_
    refine lv_iload_n C.1 C.2.1 dX4_wrongAs_14 rfl (lv_at hl 1 rfl) ?_
    refine lv_icmp_eq (tgt := 21) C.1 C.2.1 dX4_wrongAs_15 (by decide) (fun hq4 => ?_) (fun hq4 => ?_)
    · have hf := ite_t hf hq4
      refine lv_aload_n C.1 C.2.1 dX4_wrongAs_21 rfl (lv_at hl 0 rfl) ?_
      refine lv_iload_n C.1 C.2.1 dX4_wrongAs_22 rfl (lv_at hl 2 rfl) ?_
      refine lv_iload_n C.1 C.2.1 dX4_wrongAs_23 rfl (lv_at hl 3 rfl) ?_
      obtain ⟨r5, hc6, hf⟩ := bd hf
      refine call_Vi (ws' := (wX4_wrongAs cI cL cS cH a_this a_this_items q_lane q_length)) (rest := []) C w (mX4_holds l D cI cL cS cH _ a_this a_this_items q_lane q_length x2 x3 hc6) (cwV 2 C.2.2.2.2 gX4_wrongAs_X4_holds rfl rfl rfl (by decide +kernel) ⟨Nat.le_of_ble_eq_true rfl, Nat.le_of_ble_eq_true rfl⟩) [0] [] 1 ⟨rfl, trivial⟩ ⟨rfl, trivial⟩ trivial rfl (by decide) (by decide) (ci := 4) (q0 := 0) rfl rfl rfl hl.1 rfl (lv_room (Nat.le_of_ble_eq_true rfl)) dX4_wrongAs_24 ⟨Nat.zero_le _, Nat.zero_le _⟩ (fun H locs w => ?_)
      refine lv_if_eq (tgt := 34) C.1 C.2.1 dX4_wrongAs_27 (by decide) (fun hq7 => ?_) (fun hq7 => ?_)
      · have hf := ite_t hf hq7
        refine lv_bipush (v := (-13 : Int32)) C.1 C.2.1 dX4_wrongAs_34 (by decide) ?_
        have hres := Option.some.inj hf
        subst hres
        exact ret_i C hr hlocks w rfl dX4_wrongAs_36
      · have hf := ite_f hf hq7
        refine lv_iconst (v := (0 : Int32)) C.1 C.2.1 dX4_wrongAs_30 (by decide) ?_
        refine lv_goto (tgt := 36) C.1 C.2.1 dX4_wrongAs_31 (by decide) ?_
        have hres := Option.some.inj hf
        subst hres
        exact ret_i C hr hlocks w rfl dX4_wrongAs_36
    · have hf := ite_f hf hq4
      refine lv_bipush (v := (-12 : Int32)) C.1 C.2.1 dX4_wrongAs_18 (by decide) ?_
      have hres := Option.some.inj hf
      subst hres
      exact ret_i C hr hlocks w rfl dX4_wrongAs_20
  · have hf := ite_f hf hq3
    refine lv_bipush (v := (-11 : Int32)) C.1 C.2.1 dX4_wrongAs_7 (by decide) ?_
    have hres := Option.some.inj hf
    subst hres
    exact ret_i C hr hlocks w rfl dX4_wrongAs_9

abbrev wX4_lowestBits (cI cL cS cH : ClassId) : va_W := []
def fX4_lowestBits  (x0 : Int32) (x1 : Int64) : Option (Int64) := (if x0 = (0 : Int32) then some ((((x1).toInt32).toInt8.toInt32).toInt64) else (if x0 = (1 : Int32) then some ((((x1).toInt32).toInt16.toInt32).toInt64) else (if x0 = (2 : Int32) then some (((x1).toInt32).toInt64) else some x1)))
set_option maxHeartbeats 4000000 in
set_option maxRecDepth 100000 in
theorem mX4_lowestBits (l : Launch) (D : vg) (cI cL cS cH : ClassId) (sz : Nat) (x0 : Int32) (x1 : Int64) {res : Int64} (hf : fX4_lowestBits x0 x1 = some res) : ctl l yX4_lowestBits wsX4_lowestBits ({ frames := 0, cells := 0, slots := 0, locals := 0 }) D (ty4 cI cL cS cH) sz [.int x0, .long x1] (wX4_lowestBits cI cL cS cH ) (wX4_lowestBits cI cL cS cH ) res := by
  refine Met.ofW (cc := cX4_lowestBits) (maxL := 3) (ret := (some .long)) (by decide) rfl ?_
  intro p e s m args below meth c s₁ B hml hv
  obtain ⟨rfl, hpre⟩ := hv
  obtain rfl := hpre.1
  have C : CallFix p m c cX4_lowestBits 3 s _ wsX4_lowestBits RX4 := ⟨B.exec, B.bytes, hml, findClass_of_methodNamed B.named, atoms_spec (ws := wsX4_lowestBits) B.pre⟩
  have hr := B.returns
  have hlocks := B.notSynchronized
  have w := wd_start hpre
  clear hpre B
  have hl := lv_entry ([.int x0, .long x1]) (n := 3) (Nat.le_of_ble_eq_true rfl)
  rw [lg_entry_eq]
  generalize (lg_sl ([.int x0, .long x1]) ++ List.replicate (3 - (lg_sl ([.int x0, .long x1])).length) Slot.unset).toArray = ls at hl ⊢
  have hl : lv_has ls 3 [(0, .int x0), (1, .long x1)] := hl
  unfold fX4_lowestBits at hf
  refine lv_iload_n C.1 C.2.1 dX4_lowestBits_0 rfl (lv_at hl 0 rfl) ?_
  by_cases hs1 : x0 = (0 : Int32)
  · have hf := ite_t hf hs1
    refine lv_tableIn (tgt := 28) (off := 27) C.1 C.2.1 dX4_lowestBits_1 (by rw [hs1]; decide) (by rw [hs1]; decide) (by rw [hs1]; rfl) (by decide) ?_
    refine lv_lload_n C.1 C.2.1 dX4_lowestBits_28 rfl (lv_at hl 1 rfl) ?_
    refine lv_l2i C.1 C.2.1 dX4_lowestBits_29 rfl ?_
    refine lv_i2b C.1 C.2.1 dX4_lowestBits_30 rfl ?_
    refine lv_i2l C.1 C.2.1 dX4_lowestBits_31 rfl ?_
    have hres := Option.some.inj hf
    subst hres
    exact ret_l C hr hlocks w rfl dX4_lowestBits_32
  have hf := ite_f hf hs1
  by_cases hs2 : x0 = (1 : Int32)
  · have hf := ite_t hf hs2
    refine lv_tableIn (tgt := 33) (off := 32) C.1 C.2.1 dX4_lowestBits_1 (by rw [hs2]; decide) (by rw [hs2]; decide) (by rw [hs2]; rfl) (by decide) ?_
    refine lv_lload_n C.1 C.2.1 dX4_lowestBits_33 rfl (lv_at hl 1 rfl) ?_
    refine lv_l2i C.1 C.2.1 dX4_lowestBits_34 rfl ?_
    refine lv_i2s C.1 C.2.1 dX4_lowestBits_35 rfl ?_
    refine lv_i2l C.1 C.2.1 dX4_lowestBits_36 rfl ?_
    have hres := Option.some.inj hf
    subst hres
    exact ret_l C hr hlocks w rfl dX4_lowestBits_37
  have hf := ite_f hf hs2
  by_cases hs3 : x0 = (2 : Int32)
  · have hf := ite_t hf hs3
    refine lv_tableIn (tgt := 38) (off := 37) C.1 C.2.1 dX4_lowestBits_1 (by rw [hs3]; decide) (by rw [hs3]; decide) (by rw [hs3]; rfl) (by decide) ?_
    refine lv_lload_n C.1 C.2.1 dX4_lowestBits_38 rfl (lv_at hl 1 rfl) ?_
    refine lv_l2i C.1 C.2.1 dX4_lowestBits_39 rfl ?_
    refine lv_i2l C.1 C.2.1 dX4_lowestBits_40 rfl ?_
    have hres := Option.some.inj hf
    subst hres
    exact ret_l C hr hlocks w rfl dX4_lowestBits_41
  have hf := ite_f hf hs3
  refine lv_tableOut (tgt := 42) C.1 C.2.1 dX4_lowestBits_1 (sw_out0_2 hs1 hs2 hs3) (by decide) ?_
  refine lv_lload_n C.1 C.2.1 dX4_lowestBits_42 rfl (lv_at hl 1 rfl) ?_
  have hres := Option.some.inj hf
  subst hres
  exact ret_l C hr hlocks w rfl dX4_lowestBits_43
