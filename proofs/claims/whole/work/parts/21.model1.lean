abbrev wX8_isLeast (cI cL cS cH : ClassId) (a_this : Nat) (a_this_st : Nat) (a_this_past : Nat) (a_this_image : Nat) (a_this_imagePast : Nat) (a_this_tape : Nat) (a_this_laneOf : Nat) (a_this_sizeOf : Nat) (a_this_items : Nat) (a_this_code : Nat) (a_this_from : Nat) (a_this_by : Nat) (a_this_far : Nat) (a_this_met : Nat) (a_this_told : Nat) (q_acts : Int32) (q_imageActs : Int32) (q_tapeMany : Int32) (q_many : Int32) (q_round : Int32) (q_readAt : Int32) (q_isFault : Int32) (q_toldMany : Int32) (q_st : Nat → Int32) : va_W := [(a_this, .inr (8, [.ref a_this_st, .ref a_this_past, .int q_acts, .ref a_this_image, .ref a_this_imagePast, .int q_imageActs, .ref a_this_tape, .int q_tapeMany, .ref a_this_laneOf, .ref a_this_sizeOf, .ref a_this_items, .ref a_this_code, .ref a_this_from, .ref a_this_by, .ref a_this_far, .int q_many, .ref a_this_met, .int q_round, .int q_readAt, .int q_isFault, .int q_toldMany, .ref a_this_told])),
  (a_this_st, .inl (cI, 13, .inl q_st))]
def fX8_isLeast (q_st : Nat → Int32) (x1 : Int32) : Option (Int32) := Option.bind (fX8_around q_st x1) (fun r1 => (if (r1 &&& (((1 : Int32) <<< (x1 &&& 31)) - (1 : Int32))) = 0 then some (1 : Int32) else some (0 : Int32)))
set_option maxHeartbeats 4000000 in
set_option maxRecDepth 100000 in
theorem mX8_isLeast (l : Launch) (D : vg) (cI cL cS cH : ClassId) (sz : Nat) (a_this : Nat) (a_this_st : Nat) (a_this_past : Nat) (a_this_image : Nat) (a_this_imagePast : Nat) (a_this_tape : Nat) (a_this_laneOf : Nat) (a_this_sizeOf : Nat) (a_this_items : Nat) (a_this_code : Nat) (a_this_from : Nat) (a_this_by : Nat) (a_this_far : Nat) (a_this_met : Nat) (a_this_told : Nat) (q_acts : Int32) (q_imageActs : Int32) (q_tapeMany : Int32) (q_many : Int32) (q_round : Int32) (q_readAt : Int32) (q_isFault : Int32) (q_toldMany : Int32) (q_st : Nat → Int32) (x1 : Int32) {res : Int32} (hf : fX8_isLeast q_st x1 = some res) : cti l yX8_isLeast wsX8_isLeast ({ frames := 3, cells := 0, slots := 0, locals := 67 }) D (ty4 cI cL cS cH) sz [.ref a_this, .int x1] (wX8_isLeast cI cL cS cH a_this a_this_st a_this_past a_this_image a_this_imagePast a_this_tape a_this_laneOf a_this_sizeOf a_this_items a_this_code a_this_from a_this_by a_this_far a_this_met a_this_told q_acts q_imageActs q_tapeMany q_many q_round q_readAt q_isFault q_toldMany q_st) (wX8_isLeast cI cL cS cH a_this a_this_st a_this_past a_this_image a_this_imagePast a_this_tape a_this_laneOf a_this_sizeOf a_this_items a_this_code a_this_from a_this_by a_this_far a_this_met a_this_told q_acts q_imageActs q_tapeMany q_many q_round q_readAt q_isFault q_toldMany q_st) res := by
  refine Met.ofW (cc := cX8_isLeast) (maxL := 2) (ret := (some .boolean)) (by decide) rfl ?_
  intro p e s m args below meth c s₁ B hml hv
  obtain ⟨rfl, hpre⟩ := hv
  obtain rfl := hpre.1
  have C : CallFix p m c cX8_isLeast 2 s _ wsX8_isLeast RX8 := ⟨B.exec, B.bytes, hml, findClass_of_methodNamed B.named, atoms_spec (ws := wsX8_isLeast) B.pre⟩
  have hr := B.returns
  have hlocks := B.notSynchronized
  have w := wd_start hpre
  clear hpre B
  have hl := lv_entry ([.ref a_this, .int x1]) (n := 2) (Nat.le_of_ble_eq_true rfl)
  rw [lg_entry_eq]
  generalize (lg_sl ([.ref a_this, .int x1]) ++ List.replicate (2 - (lg_sl ([.ref a_this, .int x1])).length) Slot.unset).toArray = ls at hl ⊢
  have hl : lv_has ls 2 [(0, .ref a_this), (1, .int x1)] := hl
  unfold fX8_isLeast at hf
  refine lv_aload_n C.1 C.2.1 dX8_isLeast_0 rfl (lv_at hl 0 rfl) ?_
  refine lv_iload_n C.1 C.2.1 dX8_isLeast_1 rfl (lv_at hl 1 rfl) ?_
  obtain ⟨r1, hc2, hf⟩ := bd hf
  refine call_Vi (ws' := (wX8_isLeast cI cL cS cH a_this a_this_st a_this_past a_this_image a_this_imagePast a_this_tape a_this_laneOf a_this_sizeOf a_this_items a_this_code a_this_from a_this_by a_this_far a_this_met a_this_told q_acts q_imageActs q_tapeMany q_many q_round q_readAt q_isFault q_toldMany q_st)) (rest := []) C w (mX8_around l D cI cL cS cH _ a_this a_this_st a_this_past a_this_image a_this_imagePast a_this_tape a_this_laneOf a_this_sizeOf a_this_items a_this_code a_this_from a_this_by a_this_far a_this_met a_this_told q_acts q_imageActs q_tapeMany q_many q_round q_readAt q_isFault q_toldMany q_st x1 hc2) (cwV 1 C.2.2.2.2 gX8_isLeast_X8_around rfl rfl rfl (by decide +kernel) ⟨Nat.le_of_ble_eq_true rfl, Nat.le_of_ble_eq_true rfl⟩) [0, 1] [] 2 ⟨rfl, rfl, trivial⟩ ⟨rfl, rfl, trivial⟩ trivial rfl (by decide) (by decide) (ci := 8) (q0 := 0) rfl rfl rfl hl.1 rfl (lv_room (Nat.le_of_ble_eq_true rfl)) dX8_isLeast_2 ⟨Nat.zero_le _, Nat.zero_le _⟩ (fun H locs w => ?_)
  refine lv_iconst (v := (1 : Int32)) C.1 C.2.1 dX8_isLeast_5 (by decide) ?_
  refine lv_iload_n C.1 C.2.1 dX8_isLeast_6 rfl (lv_at hl 1 rfl) ?_
  refine lv_ishl C.1 C.2.1 dX8_isLeast_7 ?_
  refine lv_iconst (v := (1 : Int32)) C.1 C.2.1 dX8_isLeast_8 (by decide) ?_
  refine lv_isub C.1 C.2.1 dX8_isLeast_9 ?_
  refine lv_iand C.1 C.2.1 dX8_isLeast_10 ?_
  refine lv_if_ne (tgt := 18) C.1 C.2.1 dX8_isLeast_11 (by decide) (fun hq3 => ?_) (fun hq3 => ?_)
  · have hf := ite_f hf hq3
    refine lv_iconst (v := (0 : Int32)) C.1 C.2.1 dX8_isLeast_18 (by decide) ?_
    have hres := Option.some.inj hf
    subst hres
    exact ret_z C hr hlocks w (by decide) rfl dX8_isLeast_19
  · have hf := ite_t hf hq3
    refine lv_iconst (v := (1 : Int32)) C.1 C.2.1 dX8_isLeast_14 (by decide) ?_
    refine lv_goto (tgt := 19) C.1 C.2.1 dX8_isLeast_15 (by decide) ?_
    have hres := Option.some.inj hf
    subst hres
    exact ret_z C hr hlocks w (by decide) rfl dX8_isLeast_19

abbrev wX8_partsTo (cI cL cS cH : ClassId) (a_this : Nat) (a_this_st : Nat) (a_this_past : Nat) (a_this_image : Nat) (a_this_imagePast : Nat) (a_this_tape : Nat) (a_this_laneOf : Nat) (a_this_sizeOf : Nat) (a_this_items : Nat) (a_this_code : Nat) (a_this_from : Nat) (a_this_by : Nat) (a_this_far : Nat) (a_this_met : Nat) (a_this_told : Nat) (q_acts : Int32) (q_imageActs : Int32) (q_tapeMany : Int32) (q_many : Int32) (q_round : Int32) (q_readAt : Int32) (q_isFault : Int32) (q_toldMany : Int32) (q_st : Nat → Int32) : va_W := [(a_this, .inr (8, [.ref a_this_st, .ref a_this_past, .int q_acts, .ref a_this_image, .ref a_this_imagePast, .int q_imageActs, .ref a_this_tape, .int q_tapeMany, .ref a_this_laneOf, .ref a_this_sizeOf, .ref a_this_items, .ref a_this_code, .ref a_this_from, .ref a_this_by, .ref a_this_far, .int q_many, .ref a_this_met, .int q_round, .int q_readAt, .int q_isFault, .int q_toldMany, .ref a_this_told])),
  (a_this_st, .inl (cI, 13, .inl q_st))]
def jX8_partsTo_23 (q_st : Nat → Int32) (y4_1 : Int32) (y23_3 : Int32) (z23_0 : Int32) (z23_1 : Int32) : Option ((Int32 × Int32) ⊕ (Int32 × Int32)) := some (.inl ((z23_1 + z23_0), (y23_3 + (1 : Int32))))
def bX8_partsTo_4 (q_st : Nat → Int32) (y4_1 : Int32) (v4 : Int32 × Int32) : Option ((Int32 × Int32) ⊕ (Int32 × Int32)) := (if y4_1 ≤ v4.2 then some (.inr (v4.1, v4.2)) else Option.bind (fX8_isLeast q_st v4.2) (fun r2 => (if r2 = 0 then jX8_partsTo_23 q_st y4_1 v4.2 (0 : Int32) v4.1 else jX8_partsTo_23 q_st y4_1 v4.2 (1 : Int32) v4.1)))
def fX8_partsTo (q_st : Nat → Int32) (x1 : Int32) : Option (Int32) := Option.bind (itL (bX8_partsTo_4 q_st x1) fu ((0 : Int32), (0 : Int32))) (fun ex5 => some ex5.1)
abbrev gX8_partsTo (p : Program) (l : Launch) (e : Env) (s : State) (m : MethodId) (below : List Frame) (meth : Method) (c : Code) (D : vg) (cI cL cS cH : ClassId) (a_this : Nat) (a_this_st : Nat) (a_this_past : Nat) (a_this_image : Nat) (a_this_imagePast : Nat) (a_this_tape : Nat) (a_this_laneOf : Nat) (a_this_sizeOf : Nat) (a_this_items : Nat) (a_this_code : Nat) (a_this_from : Nat) (a_this_by : Nat) (a_this_far : Nat) (a_this_met : Nat) (a_this_told : Nat) (q_acts : Int32) (q_imageActs : Int32) (q_tapeMany : Int32) (q_many : Int32) (q_round : Int32) (q_readAt : Int32) (q_isFault : Int32) (q_toldMany : Int32) (q_st : Nat → Int32) (x1 : Int32) (res : Int32) (H : Heap) (locs : List Loc) (g : JFrame) : Prop := W p l e (headSpec wsX8_partsTo ({ frames := 4, cells := 0, slots := 0, locals := 88 })).room s m ([.ref a_this, .int x1] : List Value).toArray below meth c H locs 0 0 (MQ below (va_Qi (fun r' (_ : Unit) => r' = res) (fun _ t => pos1 D s.heap.size (wX8_partsTo cI cL cS cH a_this a_this_st a_this_past a_this_image a_this_imagePast a_this_tape a_this_laneOf a_this_sizeOf a_this_items a_this_code a_this_from a_this_by a_this_far a_this_met a_this_told q_acts q_imageActs q_tapeMany q_many q_round q_readAt q_isFault q_toldMany q_st) (wX8_partsTo cI cL cS cH a_this a_this_st a_this_past a_this_image a_this_imagePast a_this_tape a_this_laneOf a_this_sizeOf a_this_items a_this_code a_this_from a_this_by a_this_far a_this_met a_this_told q_acts q_imageActs q_tapeMany q_many q_round q_readAt q_isFault q_toldMany q_st) t) (va_A (wX8_partsTo cI cL cS cH a_this a_this_st a_this_past a_this_image a_this_imagePast a_this_tape a_this_laneOf a_this_sizeOf a_this_items a_this_code a_this_from a_this_by a_this_far a_this_met a_this_told q_acts q_imageActs q_tapeMany q_many q_round q_readAt q_isFault q_toldMany q_st) s.heap.size)) ([.ref a_this, .int x1] : List Value).toArray s 0 0 (va_A (wX8_partsTo cI cL cS cH a_this a_this_st a_this_past a_this_image a_this_imagePast a_this_tape a_this_laneOf a_this_sizeOf a_this_items a_this_code a_this_from a_this_by a_this_far a_this_met a_this_told q_acts q_imageActs q_tapeMany q_many q_round q_readAt q_isFault q_toldMany q_st) s.heap.size)) g
set_option maxHeartbeats 4000000 in
set_option maxRecDepth 100000 in
theorem mX8_partsTo (l : Launch) (D : vg) (cI cL cS cH : ClassId) (sz : Nat) (a_this : Nat) (a_this_st : Nat) (a_this_past : Nat) (a_this_image : Nat) (a_this_imagePast : Nat) (a_this_tape : Nat) (a_this_laneOf : Nat) (a_this_sizeOf : Nat) (a_this_items : Nat) (a_this_code : Nat) (a_this_from : Nat) (a_this_by : Nat) (a_this_far : Nat) (a_this_met : Nat) (a_this_told : Nat) (q_acts : Int32) (q_imageActs : Int32) (q_tapeMany : Int32) (q_many : Int32) (q_round : Int32) (q_readAt : Int32) (q_isFault : Int32) (q_toldMany : Int32) (q_st : Nat → Int32) (x1 : Int32) {res : Int32} (hf : fX8_partsTo q_st x1 = some res) : cti l yX8_partsTo wsX8_partsTo ({ frames := 4, cells := 0, slots := 0, locals := 88 }) D (ty4 cI cL cS cH) sz [.ref a_this, .int x1] (wX8_partsTo cI cL cS cH a_this a_this_st a_this_past a_this_image a_this_imagePast a_this_tape a_this_laneOf a_this_sizeOf a_this_items a_this_code a_this_from a_this_by a_this_far a_this_met a_this_told q_acts q_imageActs q_tapeMany q_many q_round q_readAt q_isFault q_toldMany q_st) (wX8_partsTo cI cL cS cH a_this a_this_st a_this_past a_this_image a_this_imagePast a_this_tape a_this_laneOf a_this_sizeOf a_this_items a_this_code a_this_from a_this_by a_this_far a_this_met a_this_told q_acts q_imageActs q_tapeMany q_many q_round q_readAt q_isFault q_toldMany q_st) res := by
  refine Met.ofW (cc := cX8_partsTo) (maxL := 4) (ret := (some .int)) (by decide) rfl ?_
  intro p e s m args below meth c s₁ B hml hv
  obtain ⟨rfl, hpre⟩ := hv
  obtain rfl := hpre.1
  have C : CallFix p m c cX8_partsTo 4 s _ wsX8_partsTo RX8 := ⟨B.exec, B.bytes, hml, findClass_of_methodNamed B.named, atoms_spec (ws := wsX8_partsTo) B.pre⟩
  have hr := B.returns
  have hlocks := B.notSynchronized
  have w := wd_start hpre
  clear hpre B
  have hl := lv_entry ([.ref a_this, .int x1]) (n := 4) (Nat.le_of_ble_eq_true rfl)
  rw [lg_entry_eq]
  generalize (lg_sl ([.ref a_this, .int x1]) ++ List.replicate (4 - (lg_sl ([.ref a_this, .int x1])).length) Slot.unset).toArray = ls at hl ⊢
  have hl : lv_has ls 4 [(0, .ref a_this), (1, .int x1)] := hl
  unfold fX8_partsTo at hf
  have hlp4 : ∀ (y4_1 : Int32) (ex4 : Int32 × Int32) (hk : (∀ (H : Heap) (locs : List Loc) (ls : Array Slot), wd D (ty4 cI cL cS cH) s (va_A (wX8_partsTo cI cL cS cH a_this a_this_st a_this_past a_this_image a_this_imagePast a_this_tape a_this_laneOf a_this_sizeOf a_this_items a_this_code a_this_from a_this_by a_this_far a_this_met a_this_told q_acts q_imageActs q_tapeMany q_many q_round q_readAt q_isFault q_toldMany q_st) s.heap.size) s.heap H locs (wX8_partsTo cI cL cS cH a_this a_this_st a_this_past a_this_image a_this_imagePast a_this_tape a_this_laneOf a_this_sizeOf a_this_items a_this_code a_this_from a_this_by a_this_far a_this_met a_this_told q_acts q_imageActs q_tapeMany q_many q_round q_readAt q_isFault q_toldMany q_st) → lv_has ls 4 [(2, .int ex4.1)] → gX8_partsTo p l e s m below meth c D cI cL cS cH a_this a_this_st a_this_past a_this_image a_this_imagePast a_this_tape a_this_laneOf a_this_sizeOf a_this_items a_this_code a_this_from a_this_by a_this_far a_this_met a_this_told q_acts q_imageActs q_tapeMany q_many q_round q_readAt q_isFault q_toldMany q_st x1 res H locs (F0 m 31 ls []))) (n : Nat) (v4 : Int32 × Int32) (H : Heap) (locs : List Loc) (ls : Array Slot), itL (bX8_partsTo_4 q_st y4_1) n v4 = some ex4 → wd D (ty4 cI cL cS cH) s (va_A (wX8_partsTo cI cL cS cH a_this a_this_st a_this_past a_this_image a_this_imagePast a_this_tape a_this_laneOf a_this_sizeOf a_this_items a_this_code a_this_from a_this_by a_this_far a_this_met a_this_told q_acts q_imageActs q_tapeMany q_many q_round q_readAt q_isFault q_toldMany q_st) s.heap.size) s.heap H locs (wX8_partsTo cI cL cS cH a_this a_this_st a_this_past a_this_image a_this_imagePast a_this_tape a_this_laneOf a_this_sizeOf a_this_items a_this_code a_this_from a_this_by a_this_far a_this_met a_this_told q_acts q_imageActs q_tapeMany q_many q_round q_readAt q_isFault q_toldMany q_st) → lv_has ls 4 [(0, .ref a_this), (1, .int y4_1), (2, .int v4.1), (3, .int v4.2)] → gX8_partsTo p l e s m below meth c D cI cL cS cH a_this a_this_st a_this_past a_this_image a_this_imagePast a_this_tape a_this_laneOf a_this_sizeOf a_this_items a_this_code a_this_from a_this_by a_this_far a_this_met a_this_told q_acts q_imageActs q_tapeMany q_many q_round q_readAt q_isFault q_toldMany q_st x1 res H locs (F0 m 4 ls []) := by
    intro y4_1 ex4 hk n
    induction n with
    | zero => intro v4 H locs ls hi w hl; exact (itL_zero hi).elim
    | succ n ih =>
      intro v4 H locs ls hi w hl
      obtain ⟨o, hf, hn⟩ := itL_succ hi
      unfold bX8_partsTo_4 at hf
      have hj23 : ∀ (y23_3 : Int32) (z23_0 : Int32) (z23_1 : Int32) (H : Heap) (locs : List Loc) (ls : Array Slot), wd D (ty4 cI cL cS cH) s (va_A (wX8_partsTo cI cL cS cH a_this a_this_st a_this_past a_this_image a_this_imagePast a_this_tape a_this_laneOf a_this_sizeOf a_this_items a_this_code a_this_from a_this_by a_this_far a_this_met a_this_told q_acts q_imageActs q_tapeMany q_many q_round q_readAt q_isFault q_toldMany q_st) s.heap.size) s.heap H locs (wX8_partsTo cI cL cS cH a_this a_this_st a_this_past a_this_image a_this_imagePast a_this_tape a_this_laneOf a_this_sizeOf a_this_items a_this_code a_this_from a_this_by a_this_far a_this_met a_this_told q_acts q_imageActs q_tapeMany q_many q_round q_readAt q_isFault q_toldMany q_st) → lv_has ls 4 [(0, .ref a_this), (1, .int y4_1), (3, .int y23_3)] → jX8_partsTo_23 q_st y4_1 y23_3 z23_0 z23_1 = some o → gX8_partsTo p l e s m below meth c D cI cL cS cH a_this a_this_st a_this_past a_this_image a_this_imagePast a_this_tape a_this_laneOf a_this_sizeOf a_this_items a_this_code a_this_from a_this_by a_this_far a_this_met a_this_told q_acts q_imageActs q_tapeMany q_many q_round q_readAt q_isFault q_toldMany q_st x1 res H locs (F0 m 23 ls [.int z23_0, .int z23_1]) := by
        intro y23_3 z23_0 z23_1 H locs ls w hl hf
        unfold jX8_partsTo_23 at hf
        refine lv_iadd C.1 C.2.1 dX8_partsTo_23 ?_
        refine lv_istore_n (lv' := [(2, .int (z23_1 + z23_0)), (0, .ref a_this), (1, .int y4_1), (3, .int y23_3)]) C.1 C.2.1 dX8_partsTo_24 rfl hl (by decide) rfl (fun ls hl => ?_)
        refine lv_iinc (v := (y23_3 + (1 : Int32))) (lv' := [(3, .int (y23_3 + (1 : Int32))), (2, .int (z23_1 + z23_0)), (0, .ref a_this), (1, .int y4_1)]) C.1 C.2.1 dX8_partsTo_25 hl (k := 3) rfl rfl (by decide) rfl (fun ls hl => ?_)
        refine lv_goto (tgt := 4) C.1 C.2.1 dX8_partsTo_28 (by decide) ?_
        obtain rfl := Option.some.inj hf
        exact ih ((z23_1 + z23_0), (y23_3 + (1 : Int32))) _ _ _ hn w (lv_sub hl [2, 3, 1, 0] rfl)
      refine lv_iload_n C.1 C.2.1 dX8_partsTo_4 rfl (lv_at hl 3 rfl) ?_
      refine lv_iload_n C.1 C.2.1 dX8_partsTo_5 rfl (lv_at hl 1 rfl) ?_
      refine lv_icmp_ge (tgt := 31) C.1 C.2.1 dX8_partsTo_6 (by decide) (fun hq1 => ?_) (fun hq1 => ?_)
      · have hf := ite_t hf hq1
        obtain rfl := Option.some.inj hf
        obtain rfl := hn
        exact hk _ _ _ w (lv_sub hl [2] rfl)
      · have hf := ite_f hf hq1
        refine lv_iload_n C.1 C.2.1 dX8_partsTo_9 rfl (lv_at hl 2 rfl) ?_
        refine lv_aload_n C.1 C.2.1 dX8_partsTo_10 rfl (lv_at hl 0 rfl) ?_
        refine lv_iload_n C.1 C.2.1 dX8_partsTo_11 rfl (lv_at hl 3 rfl) ?_
        obtain ⟨r2, hc3, hf⟩ := bd hf
        refine call_Vi (ws' := (wX8_partsTo cI cL cS cH a_this a_this_st a_this_past a_this_image a_this_imagePast a_this_tape a_this_laneOf a_this_sizeOf a_this_items a_this_code a_this_from a_this_by a_this_far a_this_met a_this_told q_acts q_imageActs q_tapeMany q_many q_round q_readAt q_isFault q_toldMany q_st)) (rest := [.int v4.1]) C w (mX8_isLeast l D cI cL cS cH _ a_this a_this_st a_this_past a_this_image a_this_imagePast a_this_tape a_this_laneOf a_this_sizeOf a_this_items a_this_code a_this_from a_this_by a_this_far a_this_met a_this_told q_acts q_imageActs q_tapeMany q_many q_round q_readAt q_isFault q_toldMany q_st v4.2 hc3) (cwV 1 C.2.2.2.2 gX8_partsTo_X8_isLeast rfl rfl rfl (by decide +kernel) ⟨Nat.le_of_ble_eq_true rfl, Nat.le_of_ble_eq_true rfl⟩) [0, 1] [] 2 ⟨rfl, rfl, trivial⟩ ⟨rfl, rfl, trivial⟩ trivial rfl (by decide) (by decide) (ci := 8) (q0 := 0) rfl rfl rfl hl.1 rfl (lv_room (Nat.le_of_ble_eq_true rfl)) dX8_partsTo_12 ⟨Nat.zero_le _, Nat.zero_le _⟩ (fun H locs w => ?_)
        refine lv_if_eq (tgt := 22) C.1 C.2.1 dX8_partsTo_15 (by decide) (fun hq4 => ?_) (fun hq4 => ?_)
        · have hf := ite_t hf hq4
          refine lv_iconst (v := (0 : Int32)) C.1 C.2.1 dX8_partsTo_22 (by decide) ?_
          exact hj23 v4.2 (0 : Int32) v4.1 _ _ _ w (lv_sub hl [0, 1, 3] rfl) hf
        · have hf := ite_f hf hq4
          refine lv_iconst (v := (1 : Int32)) C.1 C.2.1 dX8_partsTo_18 (by decide) ?_
          refine lv_goto (tgt := 23) C.1 C.2.1 dX8_partsTo_19 (by decide) ?_
          exact hj23 v4.2 (1 : Int32) v4.1 _ _ _ w (lv_sub hl [0, 1, 3] rfl) hf
  refine lv_iconst (v := (0 : Int32)) C.1 C.2.1 dX8_partsTo_0 (by decide) ?_
  refine lv_istore_n (lv' := [(2, .int (0 : Int32)), (0, .ref a_this), (1, .int x1)]) C.1 C.2.1 dX8_partsTo_1 rfl hl (by decide) rfl (fun ls hl => ?_)
  refine lv_iconst (v := (0 : Int32)) C.1 C.2.1 dX8_partsTo_2 (by decide) ?_
  refine lv_istore_n (lv' := [(3, .int (0 : Int32)), (2, .int (0 : Int32)), (0, .ref a_this), (1, .int x1)]) C.1 C.2.1 dX8_partsTo_3 rfl hl (by decide) rfl (fun ls hl => ?_)
  obtain ⟨ex5, hx6, hf⟩ := bd hf
  refine hlp4 x1 ex5 ?_ fu ((0 : Int32), (0 : Int32)) _ _ _ hx6 w (lv_sub hl [2, 3, 1, 0] rfl)
  intro H locs ls w hl
  refine lv_iload_n C.1 C.2.1 dX8_partsTo_31 rfl (lv_at hl 0 rfl) ?_
  have hres := Option.some.inj hf
  subst hres
  exact ret_i C hr hlocks w rfl dX8_partsTo_32

abbrev wX8_partOf (cI cL cS cH : ClassId) (a_this : Nat) (a_this_st : Nat) (a_this_past : Nat) (a_this_image : Nat) (a_this_imagePast : Nat) (a_this_tape : Nat) (a_this_laneOf : Nat) (a_this_sizeOf : Nat) (a_this_items : Nat) (a_this_code : Nat) (a_this_from : Nat) (a_this_by : Nat) (a_this_far : Nat) (a_this_met : Nat) (a_this_told : Nat) (q_acts : Int32) (q_imageActs : Int32) (q_tapeMany : Int32) (q_many : Int32) (q_round : Int32) (q_readAt : Int32) (q_isFault : Int32) (q_toldMany : Int32) (q_st : Nat → Int32) : va_W := [(a_this, .inr (8, [.ref a_this_st, .ref a_this_past, .int q_acts, .ref a_this_image, .ref a_this_imagePast, .int q_imageActs, .ref a_this_tape, .int q_tapeMany, .ref a_this_laneOf, .ref a_this_sizeOf, .ref a_this_items, .ref a_this_code, .ref a_this_from, .ref a_this_by, .ref a_this_far, .int q_many, .ref a_this_met, .int q_round, .int q_readAt, .int q_isFault, .int q_toldMany, .ref a_this_told])),
  (a_this_st, .inl (cI, 13, .inl q_st))]
def bX8_partOf_2 (q_st : Nat → Int32) (y2_1 : Int32) (v2 : Int32) : Option ((Int32) ⊕ (Int32)) := Option.bind (fX8_around q_st y2_1) (fun r1 => Option.bind (fX8_has r1 v2) (fun r3 => (if r3 = 0 then some (.inl (v2 + (1 : Int32))) else some (.inr v2))))
def fX8_partOf (q_st : Nat → Int32) (x1 : Int32) : Option (Int32) := Option.bind (itL (bX8_partOf_2 q_st x1) fu (0 : Int32)) (fun ex6 => Option.bind (fX8_partsTo q_st ex6) (fun r8 => some r8))
abbrev gX8_partOf (p : Program) (l : Launch) (e : Env) (s : State) (m : MethodId) (below : List Frame) (meth : Method) (c : Code) (D : vg) (cI cL cS cH : ClassId) (a_this : Nat) (a_this_st : Nat) (a_this_past : Nat) (a_this_image : Nat) (a_this_imagePast : Nat) (a_this_tape : Nat) (a_this_laneOf : Nat) (a_this_sizeOf : Nat) (a_this_items : Nat) (a_this_code : Nat) (a_this_from : Nat) (a_this_by : Nat) (a_this_far : Nat) (a_this_met : Nat) (a_this_told : Nat) (q_acts : Int32) (q_imageActs : Int32) (q_tapeMany : Int32) (q_many : Int32) (q_round : Int32) (q_readAt : Int32) (q_isFault : Int32) (q_toldMany : Int32) (q_st : Nat → Int32) (x1 : Int32) (res : Int32) (H : Heap) (locs : List Loc) (g : JFrame) : Prop := W p l e (headSpec wsX8_partOf ({ frames := 5, cells := 0, slots := 0, locals := 111 })).room s m ([.ref a_this, .int x1] : List Value).toArray below meth c H locs 0 0 (MQ below (va_Qi (fun r' (_ : Unit) => r' = res) (fun _ t => pos1 D s.heap.size (wX8_partOf cI cL cS cH a_this a_this_st a_this_past a_this_image a_this_imagePast a_this_tape a_this_laneOf a_this_sizeOf a_this_items a_this_code a_this_from a_this_by a_this_far a_this_met a_this_told q_acts q_imageActs q_tapeMany q_many q_round q_readAt q_isFault q_toldMany q_st) (wX8_partOf cI cL cS cH a_this a_this_st a_this_past a_this_image a_this_imagePast a_this_tape a_this_laneOf a_this_sizeOf a_this_items a_this_code a_this_from a_this_by a_this_far a_this_met a_this_told q_acts q_imageActs q_tapeMany q_many q_round q_readAt q_isFault q_toldMany q_st) t) (va_A (wX8_partOf cI cL cS cH a_this a_this_st a_this_past a_this_image a_this_imagePast a_this_tape a_this_laneOf a_this_sizeOf a_this_items a_this_code a_this_from a_this_by a_this_far a_this_met a_this_told q_acts q_imageActs q_tapeMany q_many q_round q_readAt q_isFault q_toldMany q_st) s.heap.size)) ([.ref a_this, .int x1] : List Value).toArray s 0 0 (va_A (wX8_partOf cI cL cS cH a_this a_this_st a_this_past a_this_image a_this_imagePast a_this_tape a_this_laneOf a_this_sizeOf a_this_items a_this_code a_this_from a_this_by a_this_far a_this_met a_this_told q_acts q_imageActs q_tapeMany q_many q_round q_readAt q_isFault q_toldMany q_st) s.heap.size)) g
set_option maxHeartbeats 4000000 in
set_option maxRecDepth 100000 in
theorem mX8_partOf (l : Launch) (D : vg) (cI cL cS cH : ClassId) (sz : Nat) (a_this : Nat) (a_this_st : Nat) (a_this_past : Nat) (a_this_image : Nat) (a_this_imagePast : Nat) (a_this_tape : Nat) (a_this_laneOf : Nat) (a_this_sizeOf : Nat) (a_this_items : Nat) (a_this_code : Nat) (a_this_from : Nat) (a_this_by : Nat) (a_this_far : Nat) (a_this_met : Nat) (a_this_told : Nat) (q_acts : Int32) (q_imageActs : Int32) (q_tapeMany : Int32) (q_many : Int32) (q_round : Int32) (q_readAt : Int32) (q_isFault : Int32) (q_toldMany : Int32) (q_st : Nat → Int32) (x1 : Int32) {res : Int32} (hf : fX8_partOf q_st x1 = some res) : cti l yX8_partOf wsX8_partOf ({ frames := 5, cells := 0, slots := 0, locals := 111 }) D (ty4 cI cL cS cH) sz [.ref a_this, .int x1] (wX8_partOf cI cL cS cH a_this a_this_st a_this_past a_this_image a_this_imagePast a_this_tape a_this_laneOf a_this_sizeOf a_this_items a_this_code a_this_from a_this_by a_this_far a_this_met a_this_told q_acts q_imageActs q_tapeMany q_many q_round q_readAt q_isFault q_toldMany q_st) (wX8_partOf cI cL cS cH a_this a_this_st a_this_past a_this_image a_this_imagePast a_this_tape a_this_laneOf a_this_sizeOf a_this_items a_this_code a_this_from a_this_by a_this_far a_this_met a_this_told q_acts q_imageActs q_tapeMany q_many q_round q_readAt q_isFault q_toldMany q_st) res := by
  refine Met.ofW (cc := cX8_partOf) (maxL := 3) (ret := (some .int)) (by decide) rfl ?_
  intro p e s m args below meth c s₁ B hml hv
  obtain ⟨rfl, hpre⟩ := hv
  obtain rfl := hpre.1
  have C : CallFix p m c cX8_partOf 3 s _ wsX8_partOf RX8 := ⟨B.exec, B.bytes, hml, findClass_of_methodNamed B.named, atoms_spec (ws := wsX8_partOf) B.pre⟩
  have hr := B.returns
  have hlocks := B.notSynchronized
  have w := wd_start hpre
  clear hpre B
  have hl := lv_entry ([.ref a_this, .int x1]) (n := 3) (Nat.le_of_ble_eq_true rfl)
  rw [lg_entry_eq]
  generalize (lg_sl ([.ref a_this, .int x1]) ++ List.replicate (3 - (lg_sl ([.ref a_this, .int x1])).length) Slot.unset).toArray = ls at hl ⊢
  have hl : lv_has ls 3 [(0, .ref a_this), (1, .int x1)] := hl
  unfold fX8_partOf at hf
  have hlp2 : ∀ (y2_1 : Int32) (ex2 : Int32) (hk : (∀ (H : Heap) (locs : List Loc) (ls : Array Slot), wd D (ty4 cI cL cS cH) s (va_A (wX8_partOf cI cL cS cH a_this a_this_st a_this_past a_this_image a_this_imagePast a_this_tape a_this_laneOf a_this_sizeOf a_this_items a_this_code a_this_from a_this_by a_this_far a_this_met a_this_told q_acts q_imageActs q_tapeMany q_many q_round q_readAt q_isFault q_toldMany q_st) s.heap.size) s.heap H locs (wX8_partOf cI cL cS cH a_this a_this_st a_this_past a_this_image a_this_imagePast a_this_tape a_this_laneOf a_this_sizeOf a_this_items a_this_code a_this_from a_this_by a_this_far a_this_met a_this_told q_acts q_imageActs q_tapeMany q_many q_round q_readAt q_isFault q_toldMany q_st) → lv_has ls 3 [(0, .ref a_this), (2, .int ex2)] → gX8_partOf p l e s m below meth c D cI cL cS cH a_this a_this_st a_this_past a_this_image a_this_imagePast a_this_tape a_this_laneOf a_this_sizeOf a_this_items a_this_code a_this_from a_this_by a_this_far a_this_met a_this_told q_acts q_imageActs q_tapeMany q_many q_round q_readAt q_isFault q_toldMany q_st x1 res H locs (F0 m 20 ls []))) (n : Nat) (v2 : Int32) (H : Heap) (locs : List Loc) (ls : Array Slot), itL (bX8_partOf_2 q_st y2_1) n v2 = some ex2 → wd D (ty4 cI cL cS cH) s (va_A (wX8_partOf cI cL cS cH a_this a_this_st a_this_past a_this_image a_this_imagePast a_this_tape a_this_laneOf a_this_sizeOf a_this_items a_this_code a_this_from a_this_by a_this_far a_this_met a_this_told q_acts q_imageActs q_tapeMany q_many q_round q_readAt q_isFault q_toldMany q_st) s.heap.size) s.heap H locs (wX8_partOf cI cL cS cH a_this a_this_st a_this_past a_this_image a_this_imagePast a_this_tape a_this_laneOf a_this_sizeOf a_this_items a_this_code a_this_from a_this_by a_this_far a_this_met a_this_told q_acts q_imageActs q_tapeMany q_many q_round q_readAt q_isFault q_toldMany q_st) → lv_has ls 3 [(0, .ref a_this), (1, .int y2_1), (2, .int v2)] → gX8_partOf p l e s m below meth c D cI cL cS cH a_this a_this_st a_this_past a_this_image a_this_imagePast a_this_tape a_this_laneOf a_this_sizeOf a_this_items a_this_code a_this_from a_this_by a_this_far a_this_met a_this_told q_acts q_imageActs q_tapeMany q_many q_round q_readAt q_isFault q_toldMany q_st x1 res H locs (F0 m 2 ls []) := by
    intro y2_1 ex2 hk n
    induction n with
    | zero => intro v2 H locs ls hi w hl; exact (itL_zero hi).elim
    | succ n ih =>
      intro v2 H locs ls hi w hl
      obtain ⟨o, hf, hn⟩ := itL_succ hi
      unfold bX8_partOf_2 at hf
      refine lv_aload_n C.1 C.2.1 dX8_partOf_2 rfl (lv_at hl 0 rfl) ?_
      refine lv_iload_n C.1 C.2.1 dX8_partOf_3 rfl (lv_at hl 1 rfl) ?_
      obtain ⟨r1, hc2, hf⟩ := bd hf
      refine call_Vi (ws' := (wX8_partOf cI cL cS cH a_this a_this_st a_this_past a_this_image a_this_imagePast a_this_tape a_this_laneOf a_this_sizeOf a_this_items a_this_code a_this_from a_this_by a_this_far a_this_met a_this_told q_acts q_imageActs q_tapeMany q_many q_round q_readAt q_isFault q_toldMany q_st)) (rest := []) C w (mX8_around l D cI cL cS cH _ a_this a_this_st a_this_past a_this_image a_this_imagePast a_this_tape a_this_laneOf a_this_sizeOf a_this_items a_this_code a_this_from a_this_by a_this_far a_this_met a_this_told q_acts q_imageActs q_tapeMany q_many q_round q_readAt q_isFault q_toldMany q_st y2_1 hc2) (cwV 1 C.2.2.2.2 gX8_partOf_X8_around rfl rfl rfl (by decide +kernel) ⟨Nat.le_of_ble_eq_true rfl, Nat.le_of_ble_eq_true rfl⟩) [0, 1] [] 2 ⟨rfl, rfl, trivial⟩ ⟨rfl, rfl, trivial⟩ trivial rfl (by decide) (by decide) (ci := 8) (q0 := 0) rfl rfl rfl hl.1 rfl (lv_room (Nat.le_of_ble_eq_true rfl)) dX8_partOf_4 ⟨Nat.zero_le _, Nat.zero_le _⟩ (fun H locs w => ?_)
      refine lv_iload_n C.1 C.2.1 dX8_partOf_7 rfl (lv_at hl 2 rfl) ?_
      obtain ⟨r3, hc4, hf⟩ := bd hf
      refine call_Si (ws' := (wX8_partOf cI cL cS cH a_this a_this_st a_this_past a_this_image a_this_imagePast a_this_tape a_this_laneOf a_this_sizeOf a_this_items a_this_code a_this_from a_this_by a_this_far a_this_met a_this_told q_acts q_imageActs q_tapeMany q_many q_round q_readAt q_isFault q_toldMany q_st)) (rest := []) C w (mX8_has l D cI cL cS cH _ r1 v2 hc4) (va_cwS 2 C.2.2.2.2 gX8_partOf_X8_has rfl rfl rfl (by decide +kernel) ⟨Nat.le_of_ble_eq_true rfl, Nat.le_of_ble_eq_true rfl⟩) [] [0, 1] 2 trivial trivial ⟨⟨_, rfl, rfl⟩, ⟨_, rfl, rfl⟩, trivial⟩ rfl (by decide) (by decide) rfl hl.1 rfl (lv_room (Nat.le_of_ble_eq_true rfl)) dX8_partOf_8 ⟨Nat.zero_le _, Nat.zero_le _⟩ (fun H locs w => ?_)
      refine lv_if_ne (tgt := 20) C.1 C.2.1 dX8_partOf_11 (by decide) (fun hq5 => ?_) (fun hq5 => ?_)
      · have hf := ite_f hf hq5
        obtain rfl := Option.some.inj hf
        obtain rfl := hn
        exact hk _ _ _ w (lv_sub hl [0, 2] rfl)
      · have hf := ite_t hf hq5
        refine lv_iinc (v := (v2 + (1 : Int32))) (lv' := [(2, .int (v2 + (1 : Int32))), (0, .ref a_this), (1, .int y2_1)]) C.1 C.2.1 dX8_partOf_14 hl (k := 2) rfl rfl (by decide) rfl (fun ls hl => ?_)
        refine lv_goto (tgt := 2) C.1 C.2.1 dX8_partOf_17 (by decide) ?_
        obtain rfl := Option.some.inj hf
        exact ih (v2 + (1 : Int32)) _ _ _ hn w (lv_sub hl [1, 2, 0] rfl)
  refine lv_iconst (v := (0 : Int32)) C.1 C.2.1 dX8_partOf_0 (by decide) ?_
  refine lv_istore_n (lv' := [(2, .int (0 : Int32)), (0, .ref a_this), (1, .int x1)]) C.1 C.2.1 dX8_partOf_1 rfl hl (by decide) rfl (fun ls hl => ?_)
  obtain ⟨ex6, hx7, hf⟩ := bd hf
  refine hlp2 x1 ex6 ?_ fu (0 : Int32) _ _ _ hx7 w (lv_sub hl [1, 2, 0] rfl)
  intro H locs ls w hl
  refine lv_aload_n C.1 C.2.1 dX8_partOf_20 rfl (lv_at hl 0 rfl) ?_
  refine lv_iload_n C.1 C.2.1 dX8_partOf_21 rfl (lv_at hl 1 rfl) ?_
  obtain ⟨r8, hc9, hf⟩ := bd hf
  refine call_Vi (ws' := (wX8_partOf cI cL cS cH a_this a_this_st a_this_past a_this_image a_this_imagePast a_this_tape a_this_laneOf a_this_sizeOf a_this_items a_this_code a_this_from a_this_by a_this_far a_this_met a_this_told q_acts q_imageActs q_tapeMany q_many q_round q_readAt q_isFault q_toldMany q_st)) (rest := []) C w (mX8_partsTo l D cI cL cS cH _ a_this a_this_st a_this_past a_this_image a_this_imagePast a_this_tape a_this_laneOf a_this_sizeOf a_this_items a_this_code a_this_from a_this_by a_this_far a_this_met a_this_told q_acts q_imageActs q_tapeMany q_many q_round q_readAt q_isFault q_toldMany q_st ex6 hc9) (cwV 1 C.2.2.2.2 gX8_partOf_X8_partsTo rfl rfl rfl (by decide +kernel) ⟨Nat.le_of_ble_eq_true rfl, Nat.le_of_ble_eq_true rfl⟩) [0, 1] [] 2 ⟨rfl, rfl, trivial⟩ ⟨rfl, rfl, trivial⟩ trivial rfl (by decide) (by decide) (ci := 8) (q0 := 0) rfl rfl rfl hl.1 rfl (lv_room (Nat.le_of_ble_eq_true rfl)) dX8_partOf_22 ⟨Nat.zero_le _, Nat.zero_le _⟩ (fun H locs w => ?_)
  have hres := Option.some.inj hf
  subst hres
  exact ret_i C hr hlocks w rfl dX8_partOf_25

set_option maxRecDepth 100000 in
theorem inX8_stateOf_X8 : ∀ w ∈ u_ws RX8 TX8 22, w ∈ wsX8_stateOf := by decide +kernel
set_option maxRecDepth 100000 in
theorem lkX8_stateOf_7 : Cond.fieldLink RX8 7 "CleanNetsModel" "st" "[I" ∈ wsX8_stateOf := by decide +kernel
abbrev wX8_stateOf (cI cL cS cH : ClassId) (a_this : Nat) (a_this_st : Nat) (a_this_past : Nat) (a_this_image : Nat) (a_this_imagePast : Nat) (a_this_tape : Nat) (a_this_laneOf : Nat) (a_this_sizeOf : Nat) (a_this_items : Nat) (a_this_code : Nat) (a_this_from : Nat) (a_this_by : Nat) (a_this_far : Nat) (a_this_met : Nat) (a_this_told : Nat) (q_acts : Int32) (q_imageActs : Int32) (q_tapeMany : Int32) (q_many : Int32) (q_round : Int32) (q_readAt : Int32) (q_isFault : Int32) (q_toldMany : Int32) (q_st : Nat → Int32) : va_W := [(a_this, .inr (8, [.ref a_this_st, .ref a_this_past, .int q_acts, .ref a_this_image, .ref a_this_imagePast, .int q_imageActs, .ref a_this_tape, .int q_tapeMany, .ref a_this_laneOf, .ref a_this_sizeOf, .ref a_this_items, .ref a_this_code, .ref a_this_from, .ref a_this_by, .ref a_this_far, .int q_many, .ref a_this_met, .int q_round, .int q_readAt, .int q_isFault, .int q_toldMany, .ref a_this_told])),
  (a_this_st, .inl (cI, 13, .inl q_st))]
def fX8_stateOf (q_st : Nat → Int32) (x1 : Int32) : Option (Int32) := Option.bind (rd q_st 13 (9 : Int32)) (fun y1 => Option.bind (fX8_has y1 x1) (fun r3 => (if r3 = 0 then Option.bind (rd q_st 13 (8 : Int32)) (fun y6 => Option.bind (fX8_has y6 x1) (fun r8 => (if r8 = 0 then some (0 : Int32) else some (1 : Int32)))) else some (2 : Int32))))
set_option maxHeartbeats 4000000 in
set_option maxRecDepth 100000 in
theorem mX8_stateOf (l : Launch) (D : vg) (cI cL cS cH : ClassId) (sz : Nat) (a_this : Nat) (a_this_st : Nat) (a_this_past : Nat) (a_this_image : Nat) (a_this_imagePast : Nat) (a_this_tape : Nat) (a_this_laneOf : Nat) (a_this_sizeOf : Nat) (a_this_items : Nat) (a_this_code : Nat) (a_this_from : Nat) (a_this_by : Nat) (a_this_far : Nat) (a_this_met : Nat) (a_this_told : Nat) (q_acts : Int32) (q_imageActs : Int32) (q_tapeMany : Int32) (q_many : Int32) (q_round : Int32) (q_readAt : Int32) (q_isFault : Int32) (q_toldMany : Int32) (q_st : Nat → Int32) (x1 : Int32) {res : Int32} (hf : fX8_stateOf q_st x1 = some res) : cti l yX8_stateOf wsX8_stateOf ({ frames := 1, cells := 0, slots := 0, locals := 21 }) D (ty4 cI cL cS cH) sz [.ref a_this, .int x1] (wX8_stateOf cI cL cS cH a_this a_this_st a_this_past a_this_image a_this_imagePast a_this_tape a_this_laneOf a_this_sizeOf a_this_items a_this_code a_this_from a_this_by a_this_far a_this_met a_this_told q_acts q_imageActs q_tapeMany q_many q_round q_readAt q_isFault q_toldMany q_st) (wX8_stateOf cI cL cS cH a_this a_this_st a_this_past a_this_image a_this_imagePast a_this_tape a_this_laneOf a_this_sizeOf a_this_items a_this_code a_this_from a_this_by a_this_far a_this_met a_this_told q_acts q_imageActs q_tapeMany q_many q_round q_readAt q_isFault q_toldMany q_st) res := by
  refine Met.ofW (cc := cX8_stateOf) (maxL := 2) (ret := (some .int)) (by decide) rfl ?_
  intro p e s m args below meth c s₁ B hml hv
  obtain ⟨rfl, hpre⟩ := hv
  obtain rfl := hpre.1
  have C : CallFix p m c cX8_stateOf 2 s _ wsX8_stateOf RX8 := ⟨B.exec, B.bytes, hml, findClass_of_methodNamed B.named, atoms_spec (ws := wsX8_stateOf) B.pre⟩
  have hr := B.returns
  have hlocks := B.notSynchronized
  have w := wd_start hpre
  clear hpre B
  have hl := lv_entry ([.ref a_this, .int x1]) (n := 2) (Nat.le_of_ble_eq_true rfl)
  rw [lg_entry_eq]
  generalize (lg_sl ([.ref a_this, .int x1]) ++ List.replicate (2 - (lg_sl ([.ref a_this, .int x1])).length) Slot.unset).toArray = ls at hl ⊢
  have hl : lv_has ls 2 [(0, .ref a_this), (1, .int x1)] := hl
  unfold fX8_stateOf at hf
  refine lv_aload_n C.1 C.2.1 dX8_stateOf_0 rfl (lv_at hl 0 rfl) ?_
  refine r_get C w inX8_stateOf_X8 0 rfl rfl 0 (by decide) lkX8_stateOf_7 rfl dX8_stateOf_1 ?_
  refine lv_bipush (v := (9 : Int32)) C.1 C.2.1 dX8_stateOf_4 (by decide) ?_
  obtain ⟨y1, hy2, hf⟩ := bd hf
  refine r_iald C w 1 0 rfl rfl (rd_in hy2) dX8_stateOf_6 ?_
  refine lv_iload_n C.1 C.2.1 dX8_stateOf_7 rfl (lv_at hl 1 rfl) ?_
  obtain ⟨r3, hc4, hf⟩ := bd hf
  refine call_Si (ws' := (wX8_stateOf cI cL cS cH a_this a_this_st a_this_past a_this_image a_this_imagePast a_this_tape a_this_laneOf a_this_sizeOf a_this_items a_this_code a_this_from a_this_by a_this_far a_this_met a_this_told q_acts q_imageActs q_tapeMany q_many q_round q_readAt q_isFault q_toldMany q_st)) (rest := []) C w (mX8_has l D cI cL cS cH _ y1 x1 hc4) (va_cwS 2 C.2.2.2.2 gX8_stateOf_X8_has rfl rfl rfl (by decide +kernel) ⟨Nat.le_of_ble_eq_true rfl, Nat.le_of_ble_eq_true rfl⟩) [] [0, 1] 2 trivial trivial ⟨⟨_, rfl, rfl⟩, ⟨_, rfl, rfl⟩, trivial⟩ rfl (by decide) (by decide) rfl hl.1 rfl (lv_room (Nat.le_of_ble_eq_true rfl)) dX8_stateOf_8 ⟨Nat.zero_le _, Nat.zero_le _⟩ (fun H locs w => ?_)
  refine lv_if_eq (tgt := 18) C.1 C.2.1 dX8_stateOf_11 (by decide) (fun hq5 => ?_) (fun hq5 => ?_)
  · have hf := ite_t hf hq5
    refine lv_aload_n C.1 C.2.1 dX8_stateOf_18 rfl (lv_at hl 0 rfl) ?_
    refine r_get C w inX8_stateOf_X8 0 rfl rfl 0 (by decide) lkX8_stateOf_7 rfl dX8_stateOf_19 ?_
    refine lv_bipush (v := (8 : Int32)) C.1 C.2.1 dX8_stateOf_22 (by decide) ?_
    obtain ⟨y6, hy7, hf⟩ := bd hf
    refine r_iald C w 1 0 rfl rfl (rd_in hy7) dX8_stateOf_24 ?_
    refine lv_iload_n C.1 C.2.1 dX8_stateOf_25 rfl (lv_at hl 1 rfl) ?_
    obtain ⟨r8, hc9, hf⟩ := bd hf
    refine call_Si (ws' := (wX8_stateOf cI cL cS cH a_this a_this_st a_this_past a_this_image a_this_imagePast a_this_tape a_this_laneOf a_this_sizeOf a_this_items a_this_code a_this_from a_this_by a_this_far a_this_met a_this_told q_acts q_imageActs q_tapeMany q_many q_round q_readAt q_isFault q_toldMany q_st)) (rest := []) C w (mX8_has l D cI cL cS cH _ y6 x1 hc9) (va_cwS 2 C.2.2.2.2 gX8_stateOf_X8_has rfl rfl rfl (by decide +kernel) ⟨Nat.le_of_ble_eq_true rfl, Nat.le_of_ble_eq_true rfl⟩) [] [0, 1] 2 trivial trivial ⟨⟨_, rfl, rfl⟩, ⟨_, rfl, rfl⟩, trivial⟩ rfl (by decide) (by decide) rfl hl.1 rfl (lv_room (Nat.le_of_ble_eq_true rfl)) dX8_stateOf_26 ⟨Nat.zero_le _, Nat.zero_le _⟩ (fun H locs w => ?_)
    refine lv_if_eq (tgt := 36) C.1 C.2.1 dX8_stateOf_29 (by decide) (fun hq10 => ?_) (fun hq10 => ?_)
    · have hf := ite_t hf hq10
      refine lv_iconst (v := (0 : Int32)) C.1 C.2.1 dX8_stateOf_36 (by decide) ?_
      have hres := Option.some.inj hf
      subst hres
      exact ret_i C hr hlocks w rfl dX8_stateOf_37
    · have hf := ite_f hf hq10
      refine lv_iconst (v := (1 : Int32)) C.1 C.2.1 dX8_stateOf_32 (by decide) ?_
      refine lv_goto (tgt := 37) C.1 C.2.1 dX8_stateOf_33 (by decide) ?_
      have hres := Option.some.inj hf
      subst hres
      exact ret_i C hr hlocks w rfl dX8_stateOf_37
  · have hf := ite_f hf hq5
    refine lv_iconst (v := (2 : Int32)) C.1 C.2.1 dX8_stateOf_14 (by decide) ?_
    refine lv_goto (tgt := 37) C.1 C.2.1 dX8_stateOf_15 (by decide) ?_
    have hres := Option.some.inj hf
    subst hres
    exact ret_i C hr hlocks w rfl dX8_stateOf_37

set_option maxRecDepth 100000 in
theorem inX8_node_X8 : ∀ w ∈ u_ws RX8 TX8 22, w ∈ wsX8_node := by decide +kernel
set_option maxRecDepth 100000 in
theorem lkX8_node_7 : Cond.fieldLink RX8 7 "CleanNetsModel" "st" "[I" ∈ wsX8_node := by decide +kernel
abbrev wX8_node (cI cL cS cH : ClassId) (a_this : Nat) (a_this_st : Nat) (a_this_past : Nat) (a_this_image : Nat) (a_this_imagePast : Nat) (a_this_tape : Nat) (a_this_laneOf : Nat) (a_this_sizeOf : Nat) (a_this_items : Nat) (a_this_code : Nat) (a_this_from : Nat) (a_this_by : Nat) (a_this_far : Nat) (a_this_met : Nat) (a_this_told : Nat) (q_acts : Int32) (q_imageActs : Int32) (q_tapeMany : Int32) (q_many : Int32) (q_round : Int32) (q_readAt : Int32) (q_isFault : Int32) (q_toldMany : Int32) (q_st : Nat → Int32) : va_W := [(a_this, .inr (8, [.ref a_this_st, .ref a_this_past, .int q_acts, .ref a_this_image, .ref a_this_imagePast, .int q_imageActs, .ref a_this_tape, .int q_tapeMany, .ref a_this_laneOf, .ref a_this_sizeOf, .ref a_this_items, .ref a_this_code, .ref a_this_from, .ref a_this_by, .ref a_this_far, .int q_many, .ref a_this_met, .int q_round, .int q_readAt, .int q_isFault, .int q_toldMany, .ref a_this_told])),
  (a_this_st, .inl (cI, 13, .inl q_st))]
def fX8_node (q_st : Nat → Int32) (x1 : Int32) (x2 : Int32) : Option (Int32) := Option.bind (fX8_isNode q_st x1) (fun r1 => (if r1 = 0 then some (-1 : Int32) else (if x2 = (0 : Int32) then Option.bind (fX8_stateOf q_st x1) (fun r5 => some r5) else (if x2 = (1 : Int32) then Option.bind (rd q_st 13 ((1 : Int32) + x1)) (fun y8 => some y8) else (if x2 = (2 : Int32) then Option.bind (fX8_partOf q_st x1) (fun r11 => some r11) else some (-1 : Int32))))))
set_option maxHeartbeats 4000000 in
set_option maxRecDepth 100000 in
theorem mX8_node (l : Launch) (D : vg) (cI cL cS cH : ClassId) (sz : Nat) (a_this : Nat) (a_this_st : Nat) (a_this_past : Nat) (a_this_image : Nat) (a_this_imagePast : Nat) (a_this_tape : Nat) (a_this_laneOf : Nat) (a_this_sizeOf : Nat) (a_this_items : Nat) (a_this_code : Nat) (a_this_from : Nat) (a_this_by : Nat) (a_this_far : Nat) (a_this_met : Nat) (a_this_told : Nat) (q_acts : Int32) (q_imageActs : Int32) (q_tapeMany : Int32) (q_many : Int32) (q_round : Int32) (q_readAt : Int32) (q_isFault : Int32) (q_toldMany : Int32) (q_st : Nat → Int32) (x1 : Int32) (x2 : Int32) {res : Int32} (hf : fX8_node q_st x1 x2 = some res) : cti l yX8_node wsX8_node ({ frames := 6, cells := 0, slots := 0, locals := 133 }) D (ty4 cI cL cS cH) sz [.ref a_this, .int x1, .int x2] (wX8_node cI cL cS cH a_this a_this_st a_this_past a_this_image a_this_imagePast a_this_tape a_this_laneOf a_this_sizeOf a_this_items a_this_code a_this_from a_this_by a_this_far a_this_met a_this_told q_acts q_imageActs q_tapeMany q_many q_round q_readAt q_isFault q_toldMany q_st) (wX8_node cI cL cS cH a_this a_this_st a_this_past a_this_image a_this_imagePast a_this_tape a_this_laneOf a_this_sizeOf a_this_items a_this_code a_this_from a_this_by a_this_far a_this_met a_this_told q_acts q_imageActs q_tapeMany q_many q_round q_readAt q_isFault q_toldMany q_st) res := by
  refine Met.ofW (cc := cX8_node) (maxL := 3) (ret := (some .int)) (by decide) rfl ?_
  intro p e s m args below meth c s₁ B hml hv
  obtain ⟨rfl, hpre⟩ := hv
  obtain rfl := hpre.1
  have C : CallFix p m c cX8_node 3 s _ wsX8_node RX8 := ⟨B.exec, B.bytes, hml, findClass_of_methodNamed B.named, atoms_spec (ws := wsX8_node) B.pre⟩
  have hr := B.returns
  have hlocks := B.notSynchronized
  have w := wd_start hpre
  clear hpre B
  have hl := lv_entry ([.ref a_this, .int x1, .int x2]) (n := 3) (Nat.le_of_ble_eq_true rfl)
  rw [lg_entry_eq]
  generalize (lg_sl ([.ref a_this, .int x1, .int x2]) ++ List.replicate (3 - (lg_sl ([.ref a_this, .int x1, .int x2])).length) Slot.unset).toArray = ls at hl ⊢
  have hl : lv_has ls 3 [(0, .ref a_this), (1, .int x1), (2, .int x2)] := hl
  unfold fX8_node at hf
  refine lv_aload_n C.1 C.2.1 dX8_node_0 rfl (lv_at hl 0 rfl) ?_
  refine lv_iload_n C.1 C.2.1 dX8_node_1 rfl (lv_at hl 1 rfl) ?_
  obtain ⟨r1, hc2, hf⟩ := bd hf
  refine call_Vi (ws' := (wX8_node cI cL cS cH a_this a_this_st a_this_past a_this_image a_this_imagePast a_this_tape a_this_laneOf a_this_sizeOf a_this_items a_this_code a_this_from a_this_by a_this_far a_this_met a_this_told q_acts q_imageActs q_tapeMany q_many q_round q_readAt q_isFault q_toldMany q_st)) (rest := []) C w (mX8_isNode l D cI cL cS cH _ a_this a_this_st a_this_past a_this_image a_this_imagePast a_this_tape a_this_laneOf a_this_sizeOf a_this_items a_this_code a_this_from a_this_by a_this_far a_this_met a_this_told q_acts q_imageActs q_tapeMany q_many q_round q_readAt q_isFault q_toldMany q_st x1 hc2) (cwV 1 C.2.2.2.2 gX8_node_X8_isNode rfl rfl rfl (by decide +kernel) ⟨Nat.le_of_ble_eq_true rfl, Nat.le_of_ble_eq_true rfl⟩) [0, 1] [] 2 ⟨rfl, rfl, trivial⟩ ⟨rfl, rfl, trivial⟩ trivial rfl (by decide) (by decide) (ci := 8) (q0 := 0) rfl rfl rfl hl.1 rfl (lv_room (Nat.le_of_ble_eq_true rfl)) dX8_node_2 ⟨Nat.zero_le _, Nat.zero_le _⟩ (fun H locs w => ?_)
  refine lv_if_ne (tgt := 10) C.1 C.2.1 dX8_node_5 (by decide) (fun hq3 => ?_) (fun hq3 => ?_)
  · have hf := ite_f hf hq3
    refine lv_iload_n C.1 C.2.1 dX8_node_10 rfl (lv_at hl 2 rfl) ?_
    by_cases hs4 : x2 = (0 : Int32)
    · have hf := ite_t hf hs4
      refine lv_tableIn (tgt := 36) (off := 25) C.1 C.2.1 dX8_node_11 (by rw [hs4]; decide) (by rw [hs4]; decide) (by rw [hs4]; rfl) (by decide) ?_
      refine lv_aload_n C.1 C.2.1 dX8_node_36 rfl (lv_at hl 0 rfl) ?_
      refine lv_iload_n C.1 C.2.1 dX8_node_37 rfl (lv_at hl 1 rfl) ?_
      obtain ⟨r5, hc6, hf⟩ := bd hf
      refine call_Vi (ws' := (wX8_node cI cL cS cH a_this a_this_st a_this_past a_this_image a_this_imagePast a_this_tape a_this_laneOf a_this_sizeOf a_this_items a_this_code a_this_from a_this_by a_this_far a_this_met a_this_told q_acts q_imageActs q_tapeMany q_many q_round q_readAt q_isFault q_toldMany q_st)) (rest := []) C w (mX8_stateOf l D cI cL cS cH _ a_this a_this_st a_this_past a_this_image a_this_imagePast a_this_tape a_this_laneOf a_this_sizeOf a_this_items a_this_code a_this_from a_this_by a_this_far a_this_met a_this_told q_acts q_imageActs q_tapeMany q_many q_round q_readAt q_isFault q_toldMany q_st x1 hc6) (cwV 1 C.2.2.2.2 gX8_node_X8_stateOf rfl rfl rfl (by decide +kernel) ⟨Nat.le_of_ble_eq_true rfl, Nat.le_of_ble_eq_true rfl⟩) [0, 1] [] 2 ⟨rfl, rfl, trivial⟩ ⟨rfl, rfl, trivial⟩ trivial rfl (by decide) (by decide) (ci := 8) (q0 := 0) rfl rfl rfl hl.1 rfl (lv_room (Nat.le_of_ble_eq_true rfl)) dX8_node_38 ⟨Nat.zero_le _, Nat.zero_le _⟩ (fun H locs w => ?_)
      have hres := Option.some.inj hf
      subst hres
      exact ret_i C hr hlocks w rfl dX8_node_41
    have hf := ite_f hf hs4
    by_cases hs7 : x2 = (1 : Int32)
    · have hf := ite_t hf hs7
      refine lv_tableIn (tgt := 42) (off := 31) C.1 C.2.1 dX8_node_11 (by rw [hs7]; decide) (by rw [hs7]; decide) (by rw [hs7]; rfl) (by decide) ?_
      refine lv_aload_n C.1 C.2.1 dX8_node_42 rfl (lv_at hl 0 rfl) ?_
      refine r_get C w inX8_node_X8 0 rfl rfl 0 (by decide) lkX8_node_7 rfl dX8_node_43 ?_
      refine lv_iconst (v := (1 : Int32)) C.1 C.2.1 dX8_node_46 (by decide) ?_
      refine lv_iload_n C.1 C.2.1 dX8_node_47 rfl (lv_at hl 1 rfl) ?_
      refine lv_iadd C.1 C.2.1 dX8_node_48 ?_
      obtain ⟨y8, hy9, hf⟩ := bd hf
      refine r_iald C w 1 0 rfl rfl (rd_in hy9) dX8_node_49 ?_
      have hres := Option.some.inj hf
      subst hres
      exact ret_i C hr hlocks w rfl dX8_node_50
    have hf := ite_f hf hs7
    by_cases hs10 : x2 = (2 : Int32)
    · have hf := ite_t hf hs10
      refine lv_tableIn (tgt := 51) (off := 40) C.1 C.2.1 dX8_node_11 (by rw [hs10]; decide) (by rw [hs10]; decide) (by rw [hs10]; rfl) (by decide) ?_
      refine lv_aload_n C.1 C.2.1 dX8_node_51 rfl (lv_at hl 0 rfl) ?_
      refine lv_iload_n C.1 C.2.1 dX8_node_52 rfl (lv_at hl 1 rfl) ?_
      obtain ⟨r11, hc12, hf⟩ := bd hf
      refine call_Vi (ws' := (wX8_node cI cL cS cH a_this a_this_st a_this_past a_this_image a_this_imagePast a_this_tape a_this_laneOf a_this_sizeOf a_this_items a_this_code a_this_from a_this_by a_this_far a_this_met a_this_told q_acts q_imageActs q_tapeMany q_many q_round q_readAt q_isFault q_toldMany q_st)) (rest := []) C w (mX8_partOf l D cI cL cS cH _ a_this a_this_st a_this_past a_this_image a_this_imagePast a_this_tape a_this_laneOf a_this_sizeOf a_this_items a_this_code a_this_from a_this_by a_this_far a_this_met a_this_told q_acts q_imageActs q_tapeMany q_many q_round q_readAt q_isFault q_toldMany q_st x1 hc12) (cwV 1 C.2.2.2.2 gX8_node_X8_partOf rfl rfl rfl (by decide +kernel) ⟨Nat.le_of_ble_eq_true rfl, Nat.le_of_ble_eq_true rfl⟩) [0, 1] [] 2 ⟨rfl, rfl, trivial⟩ ⟨rfl, rfl, trivial⟩ trivial rfl (by decide) (by decide) (ci := 8) (q0 := 0) rfl rfl rfl hl.1 rfl (lv_room (Nat.le_of_ble_eq_true rfl)) dX8_node_53 ⟨Nat.zero_le _, Nat.zero_le _⟩ (fun H locs w => ?_)
      have hres := Option.some.inj hf
      subst hres
      exact ret_i C hr hlocks w rfl dX8_node_56
    have hf := ite_f hf hs10
    refine lv_tableOut (tgt := 57) C.1 C.2.1 dX8_node_11 (sw_out0_2 hs4 hs7 hs10) (by decide) ?_
    refine lv_iconst (v := (-1 : Int32)) C.1 C.2.1 dX8_node_57 (by decide) ?_
    have hres := Option.some.inj hf
    subst hres
    exact ret_i C hr hlocks w rfl dX8_node_58
  · have hf := ite_t hf hq3
    refine lv_iconst (v := (-1 : Int32)) C.1 C.2.1 dX8_node_8 (by decide) ?_
    have hres := Option.some.inj hf
    subst hres
    exact ret_i C hr hlocks w rfl dX8_node_9

set_option maxRecDepth 100000 in
theorem inX8_count_X8 : ∀ w ∈ u_ws RX8 TX8 22, w ∈ wsX8_count := by decide +kernel
set_option maxRecDepth 100000 in
theorem lkX8_count_7 : Cond.fieldLink RX8 7 "CleanNetsModel" "st" "[I" ∈ wsX8_count := by decide +kernel
set_option maxRecDepth 100000 in
theorem lkX8_count_102 : Cond.fieldLink RX8 102 "CleanNetsModel" "acts" "I" ∈ wsX8_count := by decide +kernel
abbrev wX8_count (cI cL cS cH : ClassId) (a_this : Nat) (a_this_st : Nat) (a_this_past : Nat) (a_this_image : Nat) (a_this_imagePast : Nat) (a_this_tape : Nat) (a_this_laneOf : Nat) (a_this_sizeOf : Nat) (a_this_items : Nat) (a_this_code : Nat) (a_this_from : Nat) (a_this_by : Nat) (a_this_far : Nat) (a_this_met : Nat) (a_this_told : Nat) (q_acts : Int32) (q_imageActs : Int32) (q_tapeMany : Int32) (q_many : Int32) (q_round : Int32) (q_readAt : Int32) (q_isFault : Int32) (q_toldMany : Int32) (q_st : Nat → Int32) : va_W := [(a_this, .inr (8, [.ref a_this_st, .ref a_this_past, .int q_acts, .ref a_this_image, .ref a_this_imagePast, .int q_imageActs, .ref a_this_tape, .int q_tapeMany, .ref a_this_laneOf, .ref a_this_sizeOf, .ref a_this_items, .ref a_this_code, .ref a_this_from, .ref a_this_by, .ref a_this_far, .int q_many, .ref a_this_met, .int q_round, .int q_readAt, .int q_isFault, .int q_toldMany, .ref a_this_told])),
  (a_this_st, .inl (cI, 13, .inl q_st))]
def fX8_count (q_acts : Int32) (q_st : Nat → Int32) (x1 : Int32) : Option (Int32) := (if x1 = (0 : Int32) then Option.bind (rd q_st 13 (0 : Int32)) (fun y2 => some y2) else (if x1 = (1 : Int32) then Option.bind (fX8_linkMany q_st) (fun r5 => some r5) else (if x1 = (2 : Int32) then Option.bind (rd q_st 13 (0 : Int32)) (fun y8 => Option.bind (fX8_partsTo q_st y8) (fun r10 => some r10)) else (if x1 = (3 : Int32) then Option.bind (rd q_st 13 (((8 : Int32) + x1) - (3 : Int32))) (fun y13 => some y13) else (if x1 = (4 : Int32) then Option.bind (rd q_st 13 (((8 : Int32) + x1) - (3 : Int32))) (fun y16 => some y16) else (if x1 = (5 : Int32) then Option.bind (rd q_st 13 (((10 : Int32) + x1) - (5 : Int32))) (fun y19 => some y19) else (if x1 = (6 : Int32) then Option.bind (rd q_st 13 (((10 : Int32) + x1) - (5 : Int32))) (fun y22 => some y22) else (if x1 = (7 : Int32) then some q_acts else some (-1 : Int32)))))))))
set_option maxHeartbeats 4000000 in
set_option maxRecDepth 100000 in
theorem mX8_count (l : Launch) (D : vg) (cI cL cS cH : ClassId) (sz : Nat) (a_this : Nat) (a_this_st : Nat) (a_this_past : Nat) (a_this_image : Nat) (a_this_imagePast : Nat) (a_this_tape : Nat) (a_this_laneOf : Nat) (a_this_sizeOf : Nat) (a_this_items : Nat) (a_this_code : Nat) (a_this_from : Nat) (a_this_by : Nat) (a_this_far : Nat) (a_this_met : Nat) (a_this_told : Nat) (q_acts : Int32) (q_imageActs : Int32) (q_tapeMany : Int32) (q_many : Int32) (q_round : Int32) (q_readAt : Int32) (q_isFault : Int32) (q_toldMany : Int32) (q_st : Nat → Int32) (x1 : Int32) {res : Int32} (hf : fX8_count q_acts q_st x1 = some res) : cti l yX8_count wsX8_count ({ frames := 5, cells := 0, slots := 0, locals := 111 }) D (ty4 cI cL cS cH) sz [.ref a_this, .int x1] (wX8_count cI cL cS cH a_this a_this_st a_this_past a_this_image a_this_imagePast a_this_tape a_this_laneOf a_this_sizeOf a_this_items a_this_code a_this_from a_this_by a_this_far a_this_met a_this_told q_acts q_imageActs q_tapeMany q_many q_round q_readAt q_isFault q_toldMany q_st) (wX8_count cI cL cS cH a_this a_this_st a_this_past a_this_image a_this_imagePast a_this_tape a_this_laneOf a_this_sizeOf a_this_items a_this_code a_this_from a_this_by a_this_far a_this_met a_this_told q_acts q_imageActs q_tapeMany q_many q_round q_readAt q_isFault q_toldMany q_st) res := by
  refine Met.ofW (cc := cX8_count) (maxL := 2) (ret := (some .int)) (by decide) rfl ?_
  intro p e s m args below meth c s₁ B hml hv
  obtain ⟨rfl, hpre⟩ := hv
  obtain rfl := hpre.1
  have C : CallFix p m c cX8_count 2 s _ wsX8_count RX8 := ⟨B.exec, B.bytes, hml, findClass_of_methodNamed B.named, atoms_spec (ws := wsX8_count) B.pre⟩
  have hr := B.returns
  have hlocks := B.notSynchronized
  have w := wd_start hpre
  clear hpre B
  have hl := lv_entry ([.ref a_this, .int x1]) (n := 2) (Nat.le_of_ble_eq_true rfl)
  rw [lg_entry_eq]
  generalize (lg_sl ([.ref a_this, .int x1]) ++ List.replicate (2 - (lg_sl ([.ref a_this, .int x1])).length) Slot.unset).toArray = ls at hl ⊢
  have hl : lv_has ls 2 [(0, .ref a_this), (1, .int x1)] := hl
  unfold fX8_count at hf
  refine lv_iload_n C.1 C.2.1 dX8_count_0 rfl (lv_at hl 1 rfl) ?_
  by_cases hs1 : x1 = (0 : Int32)
  · have hf := ite_t hf hs1
    refine lv_tableIn (tgt := 48) (off := 47) C.1 C.2.1 dX8_count_1 (by rw [hs1]; decide) (by rw [hs1]; decide) (by rw [hs1]; rfl) (by decide) ?_
    refine lv_aload_n C.1 C.2.1 dX8_count_48 rfl (lv_at hl 0 rfl) ?_
    refine r_get C w inX8_count_X8 0 rfl rfl 0 (by decide) lkX8_count_7 rfl dX8_count_49 ?_
    refine lv_iconst (v := (0 : Int32)) C.1 C.2.1 dX8_count_52 (by decide) ?_
    obtain ⟨y2, hy3, hf⟩ := bd hf
    refine r_iald C w 1 0 rfl rfl (rd_in hy3) dX8_count_53 ?_
    have hres := Option.some.inj hf
    subst hres
    exact ret_i C hr hlocks w rfl dX8_count_54
  have hf := ite_f hf hs1
  by_cases hs4 : x1 = (1 : Int32)
  · have hf := ite_t hf hs4
    refine lv_tableIn (tgt := 55) (off := 54) C.1 C.2.1 dX8_count_1 (by rw [hs4]; decide) (by rw [hs4]; decide) (by rw [hs4]; rfl) (by decide) ?_
    refine lv_aload_n C.1 C.2.1 dX8_count_55 rfl (lv_at hl 0 rfl) ?_
    obtain ⟨r5, hc6, hf⟩ := bd hf
    refine call_Vi (ws' := (wX8_count cI cL cS cH a_this a_this_st a_this_past a_this_image a_this_imagePast a_this_tape a_this_laneOf a_this_sizeOf a_this_items a_this_code a_this_from a_this_by a_this_far a_this_met a_this_told q_acts q_imageActs q_tapeMany q_many q_round q_readAt q_isFault q_toldMany q_st)) (rest := []) C w (mX8_linkMany l D cI cL cS cH _ a_this a_this_st a_this_past a_this_image a_this_imagePast a_this_tape a_this_laneOf a_this_sizeOf a_this_items a_this_code a_this_from a_this_by a_this_far a_this_met a_this_told q_acts q_imageActs q_tapeMany q_many q_round q_readAt q_isFault q_toldMany q_st hc6) (cwV 0 C.2.2.2.2 gX8_count_X8_linkMany rfl rfl rfl (by decide +kernel) ⟨Nat.le_of_ble_eq_true rfl, Nat.le_of_ble_eq_true rfl⟩) [0, 1] [] 2 ⟨rfl, rfl, trivial⟩ ⟨rfl, rfl, trivial⟩ trivial rfl (by decide) (by decide) (ci := 8) (q0 := 0) rfl rfl rfl hl.1 rfl (lv_room (Nat.le_of_ble_eq_true rfl)) dX8_count_56 ⟨Nat.zero_le _, Nat.zero_le _⟩ (fun H locs w => ?_)
    have hres := Option.some.inj hf
    subst hres
    exact ret_i C hr hlocks w rfl dX8_count_59
  have hf := ite_f hf hs4
  by_cases hs7 : x1 = (2 : Int32)
  · have hf := ite_t hf hs7
    refine lv_tableIn (tgt := 60) (off := 59) C.1 C.2.1 dX8_count_1 (by rw [hs7]; decide) (by rw [hs7]; decide) (by rw [hs7]; rfl) (by decide) ?_
    refine lv_aload_n C.1 C.2.1 dX8_count_60 rfl (lv_at hl 0 rfl) ?_
    refine lv_aload_n C.1 C.2.1 dX8_count_61 rfl (lv_at hl 0 rfl) ?_
    refine r_get C w inX8_count_X8 0 rfl rfl 0 (by decide) lkX8_count_7 rfl dX8_count_62 ?_
    refine lv_iconst (v := (0 : Int32)) C.1 C.2.1 dX8_count_65 (by decide) ?_
    obtain ⟨y8, hy9, hf⟩ := bd hf
    refine r_iald C w 1 0 rfl rfl (rd_in hy9) dX8_count_66 ?_
    obtain ⟨r10, hc11, hf⟩ := bd hf
    refine call_Vi (ws' := (wX8_count cI cL cS cH a_this a_this_st a_this_past a_this_image a_this_imagePast a_this_tape a_this_laneOf a_this_sizeOf a_this_items a_this_code a_this_from a_this_by a_this_far a_this_met a_this_told q_acts q_imageActs q_tapeMany q_many q_round q_readAt q_isFault q_toldMany q_st)) (rest := []) C w (mX8_partsTo l D cI cL cS cH _ a_this a_this_st a_this_past a_this_image a_this_imagePast a_this_tape a_this_laneOf a_this_sizeOf a_this_items a_this_code a_this_from a_this_by a_this_far a_this_met a_this_told q_acts q_imageActs q_tapeMany q_many q_round q_readAt q_isFault q_toldMany q_st y8 hc11) (cwV 1 C.2.2.2.2 gX8_count_X8_partsTo rfl rfl rfl (by decide +kernel) ⟨Nat.le_of_ble_eq_true rfl, Nat.le_of_ble_eq_true rfl⟩) [0, 1] [] 2 ⟨rfl, rfl, trivial⟩ ⟨rfl, rfl, trivial⟩ trivial rfl (by decide) (by decide) (ci := 8) (q0 := 0) rfl rfl rfl hl.1 rfl (lv_room (Nat.le_of_ble_eq_true rfl)) dX8_count_67 ⟨Nat.zero_le _, Nat.zero_le _⟩ (fun H locs w => ?_)
    have hres := Option.some.inj hf
    subst hres
    exact ret_i C hr hlocks w rfl dX8_count_70
  have hf := ite_f hf hs7
  by_cases hs12 : x1 = (3 : Int32)
  · have hf := ite_t hf hs12
    refine lv_tableIn (tgt := 71) (off := 70) C.1 C.2.1 dX8_count_1 (by rw [hs12]; decide) (by rw [hs12]; decide) (by rw [hs12]; rfl) (by decide) ?_
    refine lv_aload_n C.1 C.2.1 dX8_count_71 rfl (lv_at hl 0 rfl) ?_
    refine r_get C w inX8_count_X8 0 rfl rfl 0 (by decide) lkX8_count_7 rfl dX8_count_72 ?_
    refine lv_bipush (v := (8 : Int32)) C.1 C.2.1 dX8_count_75 (by decide) ?_
    refine lv_iload_n C.1 C.2.1 dX8_count_77 rfl (lv_at hl 1 rfl) ?_
    refine lv_iadd C.1 C.2.1 dX8_count_78 ?_
    refine lv_iconst (v := (3 : Int32)) C.1 C.2.1 dX8_count_79 (by decide) ?_
    refine lv_isub C.1 C.2.1 dX8_count_80 ?_
    obtain ⟨y13, hy14, hf⟩ := bd hf
    refine r_iald C w 1 0 rfl rfl (rd_in hy14) dX8_count_81 ?_
    have hres := Option.some.inj hf
    subst hres
    exact ret_i C hr hlocks w rfl dX8_count_82
  have hf := ite_f hf hs12
  by_cases hs15 : x1 = (4 : Int32)
  · have hf := ite_t hf hs15
    refine lv_tableIn (tgt := 71) (off := 70) C.1 C.2.1 dX8_count_1 (by rw [hs15]; decide) (by rw [hs15]; decide) (by rw [hs15]; rfl) (by decide) ?_
    refine lv_aload_n C.1 C.2.1 dX8_count_71 rfl (lv_at hl 0 rfl) ?_
    refine r_get C w inX8_count_X8 0 rfl rfl 0 (by decide) lkX8_count_7 rfl dX8_count_72 ?_
    refine lv_bipush (v := (8 : Int32)) C.1 C.2.1 dX8_count_75 (by decide) ?_
    refine lv_iload_n C.1 C.2.1 dX8_count_77 rfl (lv_at hl 1 rfl) ?_
    refine lv_iadd C.1 C.2.1 dX8_count_78 ?_
    refine lv_iconst (v := (3 : Int32)) C.1 C.2.1 dX8_count_79 (by decide) ?_
    refine lv_isub C.1 C.2.1 dX8_count_80 ?_
    obtain ⟨y16, hy17, hf⟩ := bd hf
    refine r_iald C w 1 0 rfl rfl (rd_in hy17) dX8_count_81 ?_
    have hres := Option.some.inj hf
    subst hres
    exact ret_i C hr hlocks w rfl dX8_count_82
  have hf := ite_f hf hs15
  by_cases hs18 : x1 = (5 : Int32)
  · have hf := ite_t hf hs18
    refine lv_tableIn (tgt := 83) (off := 82) C.1 C.2.1 dX8_count_1 (by rw [hs18]; decide) (by rw [hs18]; decide) (by rw [hs18]; rfl) (by decide) ?_
    refine lv_aload_n C.1 C.2.1 dX8_count_83 rfl (lv_at hl 0 rfl) ?_
    refine r_get C w inX8_count_X8 0 rfl rfl 0 (by decide) lkX8_count_7 rfl dX8_count_84 ?_
    refine lv_bipush (v := (10 : Int32)) C.1 C.2.1 dX8_count_87 (by decide) ?_
    refine lv_iload_n C.1 C.2.1 dX8_count_89 rfl (lv_at hl 1 rfl) ?_
    refine lv_iadd C.1 C.2.1 dX8_count_90 ?_
    refine lv_iconst (v := (5 : Int32)) C.1 C.2.1 dX8_count_91 (by decide) ?_
    refine lv_isub C.1 C.2.1 dX8_count_92 ?_
    obtain ⟨y19, hy20, hf⟩ := bd hf
    refine r_iald C w 1 0 rfl rfl (rd_in hy20) dX8_count_93 ?_
    have hres := Option.some.inj hf
    subst hres
    exact ret_i C hr hlocks w rfl dX8_count_94
  have hf := ite_f hf hs18
  by_cases hs21 : x1 = (6 : Int32)
  · have hf := ite_t hf hs21
    refine lv_tableIn (tgt := 83) (off := 82) C.1 C.2.1 dX8_count_1 (by rw [hs21]; decide) (by rw [hs21]; decide) (by rw [hs21]; rfl) (by decide) ?_
    refine lv_aload_n C.1 C.2.1 dX8_count_83 rfl (lv_at hl 0 rfl) ?_
    refine r_get C w inX8_count_X8 0 rfl rfl 0 (by decide) lkX8_count_7 rfl dX8_count_84 ?_
    refine lv_bipush (v := (10 : Int32)) C.1 C.2.1 dX8_count_87 (by decide) ?_
    refine lv_iload_n C.1 C.2.1 dX8_count_89 rfl (lv_at hl 1 rfl) ?_
    refine lv_iadd C.1 C.2.1 dX8_count_90 ?_
    refine lv_iconst (v := (5 : Int32)) C.1 C.2.1 dX8_count_91 (by decide) ?_
    refine lv_isub C.1 C.2.1 dX8_count_92 ?_
    obtain ⟨y22, hy23, hf⟩ := bd hf
    refine r_iald C w 1 0 rfl rfl (rd_in hy23) dX8_count_93 ?_
    have hres := Option.some.inj hf
    subst hres
    exact ret_i C hr hlocks w rfl dX8_count_94
  have hf := ite_f hf hs21
  by_cases hs24 : x1 = (7 : Int32)
  · have hf := ite_t hf hs24
    refine lv_tableIn (tgt := 95) (off := 94) C.1 C.2.1 dX8_count_1 (by rw [hs24]; decide) (by rw [hs24]; decide) (by rw [hs24]; rfl) (by decide) ?_
    refine lv_aload_n C.1 C.2.1 dX8_count_95 rfl (lv_at hl 0 rfl) ?_
    refine r_get C w inX8_count_X8 0 rfl rfl 2 (by decide) lkX8_count_102 rfl dX8_count_96 ?_
    have hres := Option.some.inj hf
    subst hres
    exact ret_i C hr hlocks w rfl dX8_count_99
  have hf := ite_f hf hs24
  refine lv_tableOut (tgt := 100) C.1 C.2.1 dX8_count_1 (sw_out0_7 hs1 hs4 hs7 hs12 hs15 hs18 hs21 hs24) (by decide) ?_
  refine lv_iconst (v := (-1 : Int32)) C.1 C.2.1 dX8_count_100 (by decide) ?_
  have hres := Option.some.inj hf
  subst hres
  exact ret_i C hr hlocks w rfl dX8_count_101

set_option maxRecDepth 100000 in
theorem inX8_isAct_X8 : ∀ w ∈ u_ws RX8 TX8 22, w ∈ wsX8_isAct := by decide +kernel
set_option maxRecDepth 100000 in
theorem lkX8_isAct_7 : Cond.fieldLink RX8 7 "CleanNetsModel" "st" "[I" ∈ wsX8_isAct := by decide +kernel
abbrev wX8_isAct (cI cL cS cH : ClassId) (a_this : Nat) (a_this_st : Nat) (a_this_past : Nat) (a_this_image : Nat) (a_this_imagePast : Nat) (a_this_tape : Nat) (a_this_laneOf : Nat) (a_this_sizeOf : Nat) (a_this_items : Nat) (a_this_code : Nat) (a_this_from : Nat) (a_this_by : Nat) (a_this_far : Nat) (a_this_met : Nat) (a_this_told : Nat) (q_acts : Int32) (q_imageActs : Int32) (q_tapeMany : Int32) (q_many : Int32) (q_round : Int32) (q_readAt : Int32) (q_isFault : Int32) (q_toldMany : Int32) (q_st : Nat → Int32) : va_W := [(a_this, .inr (8, [.ref a_this_st, .ref a_this_past, .int q_acts, .ref a_this_image, .ref a_this_imagePast, .int q_imageActs, .ref a_this_tape, .int q_tapeMany, .ref a_this_laneOf, .ref a_this_sizeOf, .ref a_this_items, .ref a_this_code, .ref a_this_from, .ref a_this_by, .ref a_this_far, .int q_many, .ref a_this_met, .int q_round, .int q_readAt, .int q_isFault, .int q_toldMany, .ref a_this_told])),
  (a_this_st, .inl (cI, 13, .inl q_st))]
def jX8_isAct_47 (q_st : Nat → Int32)  : Option (Int32) := some (1 : Int32)
def fX8_isAct (q_st : Nat → Int32) (x1 : Int64) : Option (Int32) := (if 0 ≤ (lg_cmp x1 (100 : Int64)) then bnd ((x1 - (100 : Int64)) / (10 : Int64)) (fun y2 => bnd ((x1 - (100 : Int64)) - (x1 - (100 : Int64)) / (10 : Int64) * (10 : Int64)) (fun y4 => Option.bind (rd q_st 13 (0 : Int32)) (fun y6 => (if 0 ≤ (lg_cmp y2 ((y6).toInt64)) then some (0 : Int32) else Option.bind (rd q_st 13 (0 : Int32)) (fun y9 => (if 0 ≤ (lg_cmp y4 ((y9).toInt64)) then some (0 : Int32) else (if (lg_cmp y2 y4) = 0 then some (0 : Int32) else some (1 : Int32)))))))) else Option.bind (rd q_st 13 (0 : Int32)) (fun y13 => Option.bind (fX8_in x1 (0 : Int64) (((y13 - (1 : Int32))).toInt64)) (fun r15 => (if r15 = 0 then Option.bind (rd q_st 13 (0 : Int32)) (fun y18 => Option.bind (fX8_in x1 (10 : Int64) (((((10 : Int32) + y18) - (1 : Int32))).toInt64)) (fun r20 => (if r20 = 0 then some (0 : Int32) else jX8_isAct_47 q_st))) else jX8_isAct_47 q_st))))
abbrev gX8_isAct (p : Program) (l : Launch) (e : Env) (s : State) (m : MethodId) (below : List Frame) (meth : Method) (c : Code) (D : vg) (cI cL cS cH : ClassId) (a_this : Nat) (a_this_st : Nat) (a_this_past : Nat) (a_this_image : Nat) (a_this_imagePast : Nat) (a_this_tape : Nat) (a_this_laneOf : Nat) (a_this_sizeOf : Nat) (a_this_items : Nat) (a_this_code : Nat) (a_this_from : Nat) (a_this_by : Nat) (a_this_far : Nat) (a_this_met : Nat) (a_this_told : Nat) (q_acts : Int32) (q_imageActs : Int32) (q_tapeMany : Int32) (q_many : Int32) (q_round : Int32) (q_readAt : Int32) (q_isFault : Int32) (q_toldMany : Int32) (q_st : Nat → Int32) (x1 : Int64) (res : Int32) (H : Heap) (locs : List Loc) (g : JFrame) : Prop := W p l e (headSpec wsX8_isAct ({ frames := 1, cells := 0, slots := 0, locals := 25 })).room s m ([.ref a_this, .long x1] : List Value).toArray below meth c H locs 0 0 (MQ below (va_Qi (fun r' (_ : Unit) => r' = res) (fun _ t => pos1 D s.heap.size (wX8_isAct cI cL cS cH a_this a_this_st a_this_past a_this_image a_this_imagePast a_this_tape a_this_laneOf a_this_sizeOf a_this_items a_this_code a_this_from a_this_by a_this_far a_this_met a_this_told q_acts q_imageActs q_tapeMany q_many q_round q_readAt q_isFault q_toldMany q_st) (wX8_isAct cI cL cS cH a_this a_this_st a_this_past a_this_image a_this_imagePast a_this_tape a_this_laneOf a_this_sizeOf a_this_items a_this_code a_this_from a_this_by a_this_far a_this_met a_this_told q_acts q_imageActs q_tapeMany q_many q_round q_readAt q_isFault q_toldMany q_st) t) (va_A (wX8_isAct cI cL cS cH a_this a_this_st a_this_past a_this_image a_this_imagePast a_this_tape a_this_laneOf a_this_sizeOf a_this_items a_this_code a_this_from a_this_by a_this_far a_this_met a_this_told q_acts q_imageActs q_tapeMany q_many q_round q_readAt q_isFault q_toldMany q_st) s.heap.size)) ([.ref a_this, .long x1] : List Value).toArray s 0 0 (va_A (wX8_isAct cI cL cS cH a_this a_this_st a_this_past a_this_image a_this_imagePast a_this_tape a_this_laneOf a_this_sizeOf a_this_items a_this_code a_this_from a_this_by a_this_far a_this_met a_this_told q_acts q_imageActs q_tapeMany q_many q_round q_readAt q_isFault q_toldMany q_st) s.heap.size)) g
set_option maxHeartbeats 4000000 in
set_option maxRecDepth 100000 in
theorem mX8_isAct (l : Launch) (D : vg) (cI cL cS cH : ClassId) (sz : Nat) (a_this : Nat) (a_this_st : Nat) (a_this_past : Nat) (a_this_image : Nat) (a_this_imagePast : Nat) (a_this_tape : Nat) (a_this_laneOf : Nat) (a_this_sizeOf : Nat) (a_this_items : Nat) (a_this_code : Nat) (a_this_from : Nat) (a_this_by : Nat) (a_this_far : Nat) (a_this_met : Nat) (a_this_told : Nat) (q_acts : Int32) (q_imageActs : Int32) (q_tapeMany : Int32) (q_many : Int32) (q_round : Int32) (q_readAt : Int32) (q_isFault : Int32) (q_toldMany : Int32) (q_st : Nat → Int32) (x1 : Int64) {res : Int32} (hf : fX8_isAct q_st x1 = some res) : cti l yX8_isAct wsX8_isAct ({ frames := 1, cells := 0, slots := 0, locals := 25 }) D (ty4 cI cL cS cH) sz [.ref a_this, .long x1] (wX8_isAct cI cL cS cH a_this a_this_st a_this_past a_this_image a_this_imagePast a_this_tape a_this_laneOf a_this_sizeOf a_this_items a_this_code a_this_from a_this_by a_this_far a_this_met a_this_told q_acts q_imageActs q_tapeMany q_many q_round q_readAt q_isFault q_toldMany q_st) (wX8_isAct cI cL cS cH a_this a_this_st a_this_past a_this_image a_this_imagePast a_this_tape a_this_laneOf a_this_sizeOf a_this_items a_this_code a_this_from a_this_by a_this_far a_this_met a_this_told q_acts q_imageActs q_tapeMany q_many q_round q_readAt q_isFault q_toldMany q_st) res := by
  refine Met.ofW (cc := cX8_isAct) (maxL := 7) (ret := (some .boolean)) (by decide) rfl ?_
  intro p e s m args below meth c s₁ B hml hv
  obtain ⟨rfl, hpre⟩ := hv
  obtain rfl := hpre.1
  have C : CallFix p m c cX8_isAct 7 s _ wsX8_isAct RX8 := ⟨B.exec, B.bytes, hml, findClass_of_methodNamed B.named, atoms_spec (ws := wsX8_isAct) B.pre⟩
  have hr := B.returns
  have hlocks := B.notSynchronized
  have w := wd_start hpre
  clear hpre B
  have hl := lv_entry ([.ref a_this, .long x1]) (n := 7) (Nat.le_of_ble_eq_true rfl)
  rw [lg_entry_eq]
  generalize (lg_sl ([.ref a_this, .long x1]) ++ List.replicate (7 - (lg_sl ([.ref a_this, .long x1])).length) Slot.unset).toArray = ls at hl ⊢
  have hl : lv_has ls 7 [(0, .ref a_this), (1, .long x1)] := hl
  unfold fX8_isAct at hf
  have hj47 : ∀  (H : Heap) (locs : List Loc) (ls : Array Slot), wd D (ty4 cI cL cS cH) s (va_A (wX8_isAct cI cL cS cH a_this a_this_st a_this_past a_this_image a_this_imagePast a_this_tape a_this_laneOf a_this_sizeOf a_this_items a_this_code a_this_from a_this_by a_this_far a_this_met a_this_told q_acts q_imageActs q_tapeMany q_many q_round q_readAt q_isFault q_toldMany q_st) s.heap.size) s.heap H locs (wX8_isAct cI cL cS cH a_this a_this_st a_this_past a_this_image a_this_imagePast a_this_tape a_this_laneOf a_this_sizeOf a_this_items a_this_code a_this_from a_this_by a_this_far a_this_met a_this_told q_acts q_imageActs q_tapeMany q_many q_round q_readAt q_isFault q_toldMany q_st) → lv_has ls 7 [] → jX8_isAct_47 q_st = some res → gX8_isAct p l e s m below meth c D cI cL cS cH a_this a_this_st a_this_past a_this_image a_this_imagePast a_this_tape a_this_laneOf a_this_sizeOf a_this_items a_this_code a_this_from a_this_by a_this_far a_this_met a_this_told q_acts q_imageActs q_tapeMany q_many q_round q_readAt q_isFault q_toldMany q_st x1 res H locs (F0 m 47 ls []) := by
    intro  H locs ls w hl hf
    unfold jX8_isAct_47 at hf
    refine lv_iconst (v := (1 : Int32)) C.1 C.2.1 dX8_isAct_47 (by decide) ?_
    refine lv_goto (tgt := 52) C.1 C.2.1 dX8_isAct_48 (by decide) ?_
    have hres := Option.some.inj hf
    subst hres
    exact ret_z C hr hlocks w (by decide) rfl dX8_isAct_52
  refine lv_lload_n C.1 C.2.1 dX8_isAct_0 rfl (lv_at hl 1 rfl) ?_
  refine lv_ldc2 (v := (100 : Int64)) C.1 C.2.1 C.2.2.2.1 (C.2.2.2.2 (.constantLong RX8 105 (100 : Int64)) (by decide +kernel)) dX8_isAct_1 ?_
  refine W.lcmp C.1 C.2.1 dX8_isAct_4 ?_
  refine lv_if_ge (tgt := 53) C.1 C.2.1 dX8_isAct_5 (by decide) (fun hq1 => ?_) (fun hq1 => ?_)
  · have hf := ite_t hf hq1
    refine lv_lload_n C.1 C.2.1 dX8_isAct_53 rfl (lv_at hl 1 rfl) ?_
    refine lv_ldc2 (v := (100 : Int64)) C.1 C.2.1 C.2.2.2.1 (C.2.2.2.2 (.constantLong RX8 105 (100 : Int64)) (by decide +kernel)) dX8_isAct_54 ?_
    refine lv_lsub C.1 C.2.1 dX8_isAct_57 ?_
    refine lv_ldc2 (v := (10 : Int64)) C.1 C.2.1 C.2.2.2.1 (C.2.2.2.2 (.constantLong RX8 107 (10 : Int64)) (by decide +kernel)) dX8_isAct_58 ?_
    refine lv_ldiv C.1 C.2.1 dX8_isAct_61 (by decide) ?_
    obtain ⟨y2, hy3, hf⟩ := bnd_e hf
    refine lt_topl hy3 ?_
    refine lv_lstore_n (lv' := [(3, .long y2), (0, .ref a_this), (1, .long x1)]) C.1 C.2.1 dX8_isAct_62 rfl hl (by decide) rfl (fun ls hl => ?_)
    refine lv_lload_n C.1 C.2.1 dX8_isAct_63 rfl (lv_at hl 2 rfl) ?_
    refine lv_ldc2 (v := (100 : Int64)) C.1 C.2.1 C.2.2.2.1 (C.2.2.2.2 (.constantLong RX8 105 (100 : Int64)) (by decide +kernel)) dX8_isAct_64 ?_
    refine lv_lsub C.1 C.2.1 dX8_isAct_67 ?_
    refine lv_ldc2 (v := (10 : Int64)) C.1 C.2.1 C.2.2.2.1 (C.2.2.2.2 (.constantLong RX8 107 (10 : Int64)) (by decide +kernel)) dX8_isAct_68 ?_
    refine lv_lrem C.1 C.2.1 dX8_isAct_71 (by decide) ?_
    obtain ⟨y4, hy5, hf⟩ := bnd_e hf
    refine lt_topl hy5 ?_
    refine lv_lstore (lv' := [(5, .long y4), (3, .long y2), (0, .ref a_this), (1, .long x1)]) C.1 C.2.1 dX8_isAct_72 hl (by decide) rfl (fun ls hl => ?_)
    refine lv_lload_n C.1 C.2.1 dX8_isAct_74 rfl (lv_at hl 1 rfl) ?_
    refine lv_aload_n C.1 C.2.1 dX8_isAct_75 rfl (lv_at hl 2 rfl) ?_
    refine r_get C w inX8_isAct_X8 0 rfl rfl 0 (by decide) lkX8_isAct_7 rfl dX8_isAct_76 ?_
    refine lv_iconst (v := (0 : Int32)) C.1 C.2.1 dX8_isAct_79 (by decide) ?_
    obtain ⟨y6, hy7, hf⟩ := bd hf
    refine r_iald C w 1 0 rfl rfl (rd_in hy7) dX8_isAct_80 ?_
    refine lv_i2l C.1 C.2.1 dX8_isAct_81 rfl ?_
    refine W.lcmp C.1 C.2.1 dX8_isAct_82 ?_
    refine lv_if_ge (tgt := 110) C.1 C.2.1 dX8_isAct_83 (by decide) (fun hq8 => ?_) (fun hq8 => ?_)
    · have hf := ite_t hf hq8
      refine lv_iconst (v := (0 : Int32)) C.1 C.2.1 dX8_isAct_110 (by decide) ?_
      have hres := Option.some.inj hf
      subst hres
      exact ret_z C hr hlocks w (by decide) rfl dX8_isAct_111
    · have hf := ite_f hf hq8
      refine lv_lload C.1 C.2.1 dX8_isAct_86 (lv_at hl 0 rfl) ?_
      refine lv_aload_n C.1 C.2.1 dX8_isAct_88 rfl (lv_at hl 2 rfl) ?_
      refine r_get C w inX8_isAct_X8 0 rfl rfl 0 (by decide) lkX8_isAct_7 rfl dX8_isAct_89 ?_
      refine lv_iconst (v := (0 : Int32)) C.1 C.2.1 dX8_isAct_92 (by decide) ?_
      obtain ⟨y9, hy10, hf⟩ := bd hf
      refine r_iald C w 1 0 rfl rfl (rd_in hy10) dX8_isAct_93 ?_
      refine lv_i2l C.1 C.2.1 dX8_isAct_94 rfl ?_
      refine W.lcmp C.1 C.2.1 dX8_isAct_95 ?_
      refine lv_if_ge (tgt := 110) C.1 C.2.1 dX8_isAct_96 (by decide) (fun hq11 => ?_) (fun hq11 => ?_)
      · have hf := ite_t hf hq11
        refine lv_iconst (v := (0 : Int32)) C.1 C.2.1 dX8_isAct_110 (by decide) ?_
        have hres := Option.some.inj hf
        subst hres
        exact ret_z C hr hlocks w (by decide) rfl dX8_isAct_111
      · have hf := ite_f hf hq11
        refine lv_lload_n C.1 C.2.1 dX8_isAct_99 rfl (lv_at hl 1 rfl) ?_
        refine lv_lload C.1 C.2.1 dX8_isAct_100 (lv_at hl 0 rfl) ?_
        refine W.lcmp C.1 C.2.1 dX8_isAct_102 ?_
        refine lv_if_eq (tgt := 110) C.1 C.2.1 dX8_isAct_103 (by decide) (fun hq12 => ?_) (fun hq12 => ?_)
        · have hf := ite_t hf hq12
          refine lv_iconst (v := (0 : Int32)) C.1 C.2.1 dX8_isAct_110 (by decide) ?_
          have hres := Option.some.inj hf
          subst hres
          exact ret_z C hr hlocks w (by decide) rfl dX8_isAct_111
        · have hf := ite_f hf hq12
          refine lv_iconst (v := (1 : Int32)) C.1 C.2.1 dX8_isAct_106 (by decide) ?_
          refine lv_goto (tgt := 111) C.1 C.2.1 dX8_isAct_107 (by decide) ?_
          have hres := Option.some.inj hf
          subst hres
          exact ret_z C hr hlocks w (by decide) rfl dX8_isAct_111
  · have hf := ite_f hf hq1
    refine lv_lload_n C.1 C.2.1 dX8_isAct_8 rfl (lv_at hl 1 rfl) ?_
    refine lv_lconst (v := (0 : Int64)) C.1 C.2.1 dX8_isAct_9 (by decide) ?_
    refine lv_aload_n C.1 C.2.1 dX8_isAct_10 rfl (lv_at hl 0 rfl) ?_
    refine r_get C w inX8_isAct_X8 0 rfl rfl 0 (by decide) lkX8_isAct_7 rfl dX8_isAct_11 ?_
    refine lv_iconst (v := (0 : Int32)) C.1 C.2.1 dX8_isAct_14 (by decide) ?_
    obtain ⟨y13, hy14, hf⟩ := bd hf
    refine r_iald C w 1 0 rfl rfl (rd_in hy14) dX8_isAct_15 ?_
    refine lv_iconst (v := (1 : Int32)) C.1 C.2.1 dX8_isAct_16 (by decide) ?_
    refine lv_isub C.1 C.2.1 dX8_isAct_17 ?_
    refine lv_i2l C.1 C.2.1 dX8_isAct_18 rfl ?_
    obtain ⟨r15, hc16, hf⟩ := bd hf
    refine call_Si (ws' := (wX8_isAct cI cL cS cH a_this a_this_st a_this_past a_this_image a_this_imagePast a_this_tape a_this_laneOf a_this_sizeOf a_this_items a_this_code a_this_from a_this_by a_this_far a_this_met a_this_told q_acts q_imageActs q_tapeMany q_many q_round q_readAt q_isFault q_toldMany q_st)) (rest := []) C w (mX8_in l D cI cL cS cH _ x1 (0 : Int64) (((y13 - (1 : Int32))).toInt64) hc16) (va_cwS 3 C.2.2.2.2 gX8_isAct_X8_in rfl rfl rfl (by decide +kernel) ⟨Nat.le_of_ble_eq_true rfl, Nat.le_of_ble_eq_true rfl⟩) [] [0, 1] 2 trivial trivial ⟨⟨_, rfl, rfl⟩, ⟨_, rfl, rfl⟩, trivial⟩ rfl (by decide) (by decide) rfl hl.1 rfl (lv_room (Nat.le_of_ble_eq_true rfl)) dX8_isAct_19 ⟨Nat.zero_le _, Nat.zero_le _⟩ (fun H locs w => ?_)
    refine lv_if_ne (tgt := 47) C.1 C.2.1 dX8_isAct_22 (by decide) (fun hq17 => ?_) (fun hq17 => ?_)
    · have hf := ite_f hf hq17
      exact hj47  _ _ _ w (lv_sub hl [] rfl) hf
    · have hf := ite_t hf hq17
      refine lv_lload_n C.1 C.2.1 dX8_isAct_25 rfl (lv_at hl 1 rfl) ?_
      refine lv_ldc2 (v := (10 : Int64)) C.1 C.2.1 C.2.2.2.1 (C.2.2.2.2 (.constantLong RX8 107 (10 : Int64)) (by decide +kernel)) dX8_isAct_26 ?_
      refine lv_bipush (v := (10 : Int32)) C.1 C.2.1 dX8_isAct_29 (by decide) ?_
      refine lv_aload_n C.1 C.2.1 dX8_isAct_31 rfl (lv_at hl 0 rfl) ?_
      refine r_get C w inX8_isAct_X8 0 rfl rfl 0 (by decide) lkX8_isAct_7 rfl dX8_isAct_32 ?_
      refine lv_iconst (v := (0 : Int32)) C.1 C.2.1 dX8_isAct_35 (by decide) ?_
      obtain ⟨y18, hy19, hf⟩ := bd hf
      refine r_iald C w 1 0 rfl rfl (rd_in hy19) dX8_isAct_36 ?_
      refine lv_iadd C.1 C.2.1 dX8_isAct_37 ?_
      refine lv_iconst (v := (1 : Int32)) C.1 C.2.1 dX8_isAct_38 (by decide) ?_
      refine lv_isub C.1 C.2.1 dX8_isAct_39 ?_
      refine lv_i2l C.1 C.2.1 dX8_isAct_40 rfl ?_
      obtain ⟨r20, hc21, hf⟩ := bd hf
      refine call_Si (ws' := (wX8_isAct cI cL cS cH a_this a_this_st a_this_past a_this_image a_this_imagePast a_this_tape a_this_laneOf a_this_sizeOf a_this_items a_this_code a_this_from a_this_by a_this_far a_this_met a_this_told q_acts q_imageActs q_tapeMany q_many q_round q_readAt q_isFault q_toldMany q_st)) (rest := []) C w (mX8_in l D cI cL cS cH _ x1 (10 : Int64) (((((10 : Int32) + y18) - (1 : Int32))).toInt64) hc21) (va_cwS 3 C.2.2.2.2 gX8_isAct_X8_in rfl rfl rfl (by decide +kernel) ⟨Nat.le_of_ble_eq_true rfl, Nat.le_of_ble_eq_true rfl⟩) [] [0, 1] 2 trivial trivial ⟨⟨_, rfl, rfl⟩, ⟨_, rfl, rfl⟩, trivial⟩ rfl (by decide) (by decide) rfl hl.1 rfl (lv_room (Nat.le_of_ble_eq_true rfl)) dX8_isAct_41 ⟨Nat.zero_le _, Nat.zero_le _⟩ (fun H locs w => ?_)
      refine lv_if_eq (tgt := 51) C.1 C.2.1 dX8_isAct_44 (by decide) (fun hq22 => ?_) (fun hq22 => ?_)
      · have hf := ite_t hf hq22
        refine lv_iconst (v := (0 : Int32)) C.1 C.2.1 dX8_isAct_51 (by decide) ?_
        have hres := Option.some.inj hf
        subst hres
        exact ret_z C hr hlocks w (by decide) rfl dX8_isAct_52
      · have hf := ite_f hf hq22
        exact hj47  _ _ _ w (lv_sub hl [] rfl) hf

set_option maxRecDepth 100000 in
theorem inX8_mayPut_X8 : ∀ w ∈ u_ws RX8 TX8 22, w ∈ wsX8_mayPut := by decide +kernel
set_option maxRecDepth 100000 in
theorem lkX8_mayPut_7 : Cond.fieldLink RX8 7 "CleanNetsModel" "st" "[I" ∈ wsX8_mayPut := by decide +kernel
abbrev wX8_mayPut (cI cL cS cH : ClassId) (a_this : Nat) (a_this_st : Nat) (a_this_past : Nat) (a_this_image : Nat) (a_this_imagePast : Nat) (a_this_tape : Nat) (a_this_laneOf : Nat) (a_this_sizeOf : Nat) (a_this_items : Nat) (a_this_code : Nat) (a_this_from : Nat) (a_this_by : Nat) (a_this_far : Nat) (a_this_met : Nat) (a_this_told : Nat) (q_acts : Int32) (q_imageActs : Int32) (q_tapeMany : Int32) (q_many : Int32) (q_round : Int32) (q_readAt : Int32) (q_isFault : Int32) (q_toldMany : Int32) (q_st : Nat → Int32) : va_W := [(a_this, .inr (8, [.ref a_this_st, .ref a_this_past, .int q_acts, .ref a_this_image, .ref a_this_imagePast, .int q_imageActs, .ref a_this_tape, .int q_tapeMany, .ref a_this_laneOf, .ref a_this_sizeOf, .ref a_this_items, .ref a_this_code, .ref a_this_from, .ref a_this_by, .ref a_this_far, .int q_many, .ref a_this_met, .int q_round, .int q_readAt, .int q_isFault, .int q_toldMany, .ref a_this_told])),
  (a_this_st, .inl (cI, 13, .inl q_st))]
def jX8_mayPut_26 (q_st : Nat → Int32)  : Option (Int32) := some (1 : Int32)
def fX8_mayPut (q_st : Nat → Int32) (x1 : Int32) (x2 : Int32) (x3 : Int32) : Option (Int32) := (if x1 = 0 then jX8_mayPut_26 q_st else (if x3 = 0 then jX8_mayPut_26 q_st else (if x1 = (1 : Int32) then some (0 : Int32) else Option.bind (rd q_st 13 ((1 : Int32) + x3)) (fun y4 => (if (y4 &&& x2) = 0 then some (0 : Int32) else jX8_mayPut_26 q_st)))))
abbrev gX8_mayPut (p : Program) (l : Launch) (e : Env) (s : State) (m : MethodId) (below : List Frame) (meth : Method) (c : Code) (D : vg) (cI cL cS cH : ClassId) (a_this : Nat) (a_this_st : Nat) (a_this_past : Nat) (a_this_image : Nat) (a_this_imagePast : Nat) (a_this_tape : Nat) (a_this_laneOf : Nat) (a_this_sizeOf : Nat) (a_this_items : Nat) (a_this_code : Nat) (a_this_from : Nat) (a_this_by : Nat) (a_this_far : Nat) (a_this_met : Nat) (a_this_told : Nat) (q_acts : Int32) (q_imageActs : Int32) (q_tapeMany : Int32) (q_many : Int32) (q_round : Int32) (q_readAt : Int32) (q_isFault : Int32) (q_toldMany : Int32) (q_st : Nat → Int32) (x1 : Int32) (x2 : Int32) (x3 : Int32) (res : Int32) (H : Heap) (locs : List Loc) (g : JFrame) : Prop := W p l e (headSpec wsX8_mayPut ({ frames := 0, cells := 0, slots := 0, locals := 0 })).room s m ([.ref a_this, .int x1, .int x2, .int x3] : List Value).toArray below meth c H locs 0 0 (MQ below (va_Qi (fun r' (_ : Unit) => r' = res) (fun _ t => pos1 D s.heap.size (wX8_mayPut cI cL cS cH a_this a_this_st a_this_past a_this_image a_this_imagePast a_this_tape a_this_laneOf a_this_sizeOf a_this_items a_this_code a_this_from a_this_by a_this_far a_this_met a_this_told q_acts q_imageActs q_tapeMany q_many q_round q_readAt q_isFault q_toldMany q_st) (wX8_mayPut cI cL cS cH a_this a_this_st a_this_past a_this_image a_this_imagePast a_this_tape a_this_laneOf a_this_sizeOf a_this_items a_this_code a_this_from a_this_by a_this_far a_this_met a_this_told q_acts q_imageActs q_tapeMany q_many q_round q_readAt q_isFault q_toldMany q_st) t) (va_A (wX8_mayPut cI cL cS cH a_this a_this_st a_this_past a_this_image a_this_imagePast a_this_tape a_this_laneOf a_this_sizeOf a_this_items a_this_code a_this_from a_this_by a_this_far a_this_met a_this_told q_acts q_imageActs q_tapeMany q_many q_round q_readAt q_isFault q_toldMany q_st) s.heap.size)) ([.ref a_this, .int x1, .int x2, .int x3] : List Value).toArray s 0 0 (va_A (wX8_mayPut cI cL cS cH a_this a_this_st a_this_past a_this_image a_this_imagePast a_this_tape a_this_laneOf a_this_sizeOf a_this_items a_this_code a_this_from a_this_by a_this_far a_this_met a_this_told q_acts q_imageActs q_tapeMany q_many q_round q_readAt q_isFault q_toldMany q_st) s.heap.size)) g
set_option maxHeartbeats 4000000 in
set_option maxRecDepth 100000 in
theorem mX8_mayPut (l : Launch) (D : vg) (cI cL cS cH : ClassId) (sz : Nat) (a_this : Nat) (a_this_st : Nat) (a_this_past : Nat) (a_this_image : Nat) (a_this_imagePast : Nat) (a_this_tape : Nat) (a_this_laneOf : Nat) (a_this_sizeOf : Nat) (a_this_items : Nat) (a_this_code : Nat) (a_this_from : Nat) (a_this_by : Nat) (a_this_far : Nat) (a_this_met : Nat) (a_this_told : Nat) (q_acts : Int32) (q_imageActs : Int32) (q_tapeMany : Int32) (q_many : Int32) (q_round : Int32) (q_readAt : Int32) (q_isFault : Int32) (q_toldMany : Int32) (q_st : Nat → Int32) (x1 : Int32) (x2 : Int32) (x3 : Int32) {res : Int32} (hf : fX8_mayPut q_st x1 x2 x3 = some res) : cti l yX8_mayPut wsX8_mayPut ({ frames := 0, cells := 0, slots := 0, locals := 0 }) D (ty4 cI cL cS cH) sz [.ref a_this, .int x1, .int x2, .int x3] (wX8_mayPut cI cL cS cH a_this a_this_st a_this_past a_this_image a_this_imagePast a_this_tape a_this_laneOf a_this_sizeOf a_this_items a_this_code a_this_from a_this_by a_this_far a_this_met a_this_told q_acts q_imageActs q_tapeMany q_many q_round q_readAt q_isFault q_toldMany q_st) (wX8_mayPut cI cL cS cH a_this a_this_st a_this_past a_this_image a_this_imagePast a_this_tape a_this_laneOf a_this_sizeOf a_this_items a_this_code a_this_from a_this_by a_this_far a_this_met a_this_told q_acts q_imageActs q_tapeMany q_many q_round q_readAt q_isFault q_toldMany q_st) res := by
  refine Met.ofW (cc := cX8_mayPut) (maxL := 4) (ret := (some .boolean)) (by decide) rfl ?_
  intro p e s m args below meth c s₁ B hml hv
  obtain ⟨rfl, hpre⟩ := hv
  obtain rfl := hpre.1
  have C : CallFix p m c cX8_mayPut 4 s _ wsX8_mayPut RX8 := ⟨B.exec, B.bytes, hml, findClass_of_methodNamed B.named, atoms_spec (ws := wsX8_mayPut) B.pre⟩
  have hr := B.returns
  have hlocks := B.notSynchronized
  have w := wd_start hpre
  clear hpre B
  have hl := lv_entry ([.ref a_this, .int x1, .int x2, .int x3]) (n := 4) (Nat.le_of_ble_eq_true rfl)
  rw [lg_entry_eq]
  generalize (lg_sl ([.ref a_this, .int x1, .int x2, .int x3]) ++ List.replicate (4 - (lg_sl ([.ref a_this, .int x1, .int x2, .int x3])).length) Slot.unset).toArray = ls at hl ⊢
  have hl : lv_has ls 4 [(0, .ref a_this), (1, .int x1), (2, .int x2), (3, .int x3)] := hl
  unfold fX8_mayPut at hf
  have hj26 : ∀  (H : Heap) (locs : List Loc) (ls : Array Slot), wd D (ty4 cI cL cS cH) s (va_A (wX8_mayPut cI cL cS cH a_this a_this_st a_this_past a_this_image a_this_imagePast a_this_tape a_this_laneOf a_this_sizeOf a_this_items a_this_code a_this_from a_this_by a_this_far a_this_met a_this_told q_acts q_imageActs q_tapeMany q_many q_round q_readAt q_isFault q_toldMany q_st) s.heap.size) s.heap H locs (wX8_mayPut cI cL cS cH a_this a_this_st a_this_past a_this_image a_this_imagePast a_this_tape a_this_laneOf a_this_sizeOf a_this_items a_this_code a_this_from a_this_by a_this_far a_this_met a_this_told q_acts q_imageActs q_tapeMany q_many q_round q_readAt q_isFault q_toldMany q_st) → lv_has ls 4 [] → jX8_mayPut_26 q_st = some res → gX8_mayPut p l e s m below meth c D cI cL cS cH a_this a_this_st a_this_past a_this_image a_this_imagePast a_this_tape a_this_laneOf a_this_sizeOf a_this_items a_this_code a_this_from a_this_by a_this_far a_this_met a_this_told q_acts q_imageActs q_tapeMany q_many q_round q_readAt q_isFault q_toldMany q_st x1 x2 x3 res H locs (F0 m 26 ls []) := by
    intro  H locs ls w hl hf
    unfold jX8_mayPut_26 at hf
    refine lv_iconst (v := (1 : Int32)) C.1 C.2.1 dX8_mayPut_26 (by decide) ?_
    refine lv_goto (tgt := 31) C.1 C.2.1 dX8_mayPut_27 (by decide) ?_
    have hres := Option.some.inj hf
    subst hres
    exact ret_z C hr hlocks w (by decide) rfl dX8_mayPut_31
  refine lv_iload_n C.1 C.2.1 dX8_mayPut_0 rfl (lv_at hl 1 rfl) ?_
  refine lv_if_eq (tgt := 26) C.1 C.2.1 dX8_mayPut_1 (by decide) (fun hq1 => ?_) (fun hq1 => ?_)
  · have hf := ite_t hf hq1
    exact hj26  _ _ _ w (lv_sub hl [] rfl) hf
  · have hf := ite_f hf hq1
    refine lv_iload_n C.1 C.2.1 dX8_mayPut_4 rfl (lv_at hl 3 rfl) ?_
    refine lv_if_eq (tgt := 26) C.1 C.2.1 dX8_mayPut_5 (by decide) (fun hq2 => ?_) (fun hq2 => ?_)
    · have hf := ite_t hf hq2
      exact hj26  _ _ _ w (lv_sub hl [] rfl) hf
    · have hf := ite_f hf hq2
      refine lv_iload_n C.1 C.2.1 dX8_mayPut_8 rfl (lv_at hl 1 rfl) ?_
      refine lv_iconst (v := (1 : Int32)) C.1 C.2.1 dX8_mayPut_9 (by decide) ?_
      refine lv_icmp_eq (tgt := 30) C.1 C.2.1 dX8_mayPut_10 (by decide) (fun hq3 => ?_) (fun hq3 => ?_)
      · have hf := ite_t hf hq3
        refine lv_iconst (v := (0 : Int32)) C.1 C.2.1 dX8_mayPut_30 (by decide) ?_
        have hres := Option.some.inj hf
        subst hres
        exact ret_z C hr hlocks w (by decide) rfl dX8_mayPut_31
      · have hf := ite_f hf hq3
        refine lv_aload_n C.1 C.2.1 dX8_mayPut_13 rfl (lv_at hl 0 rfl) ?_
        refine r_get C w inX8_mayPut_X8 0 rfl rfl 0 (by decide) lkX8_mayPut_7 rfl dX8_mayPut_14 ?_
        refine lv_iconst (v := (1 : Int32)) C.1 C.2.1 dX8_mayPut_17 (by decide) ?_
        refine lv_iload_n C.1 C.2.1 dX8_mayPut_18 rfl (lv_at hl 3 rfl) ?_
        refine lv_iadd C.1 C.2.1 dX8_mayPut_19 ?_
        obtain ⟨y4, hy5, hf⟩ := bd hf
        refine r_iald C w 1 0 rfl rfl (rd_in hy5) dX8_mayPut_20 ?_
        refine lv_iload_n C.1 C.2.1 dX8_mayPut_21 rfl (lv_at hl 2 rfl) ?_
        refine lv_iand C.1 C.2.1 dX8_mayPut_22 ?_
        refine lv_if_eq (tgt := 30) C.1 C.2.1 dX8_mayPut_23 (by decide) (fun hq6 => ?_) (fun hq6 => ?_)
        · have hf := ite_t hf hq6
          refine lv_iconst (v := (0 : Int32)) C.1 C.2.1 dX8_mayPut_30 (by decide) ?_
          have hres := Option.some.inj hf
          subst hres
          exact ret_z C hr hlocks w (by decide) rfl dX8_mayPut_31
        · have hf := ite_f hf hq6
          exact hj26  _ _ _ w (lv_sub hl [] rfl) hf

abbrev wX8_against (cI cL cS cH : ClassId) (a_this : Nat) (a_this_st : Nat) (a_this_past : Nat) (a_this_image : Nat) (a_this_imagePast : Nat) (a_this_tape : Nat) (a_this_laneOf : Nat) (a_this_sizeOf : Nat) (a_this_items : Nat) (a_this_code : Nat) (a_this_from : Nat) (a_this_by : Nat) (a_this_far : Nat) (a_this_met : Nat) (a_this_told : Nat) (q_acts : Int32) (q_imageActs : Int32) (q_tapeMany : Int32) (q_many : Int32) (q_round : Int32) (q_readAt : Int32) (q_isFault : Int32) (q_toldMany : Int32) (q_st : Nat → Int32) : va_W := [(a_this, .inr (8, [.ref a_this_st, .ref a_this_past, .int q_acts, .ref a_this_image, .ref a_this_imagePast, .int q_imageActs, .ref a_this_tape, .int q_tapeMany, .ref a_this_laneOf, .ref a_this_sizeOf, .ref a_this_items, .ref a_this_code, .ref a_this_from, .ref a_this_by, .ref a_this_far, .int q_many, .ref a_this_met, .int q_round, .int q_readAt, .int q_isFault, .int q_toldMany, .ref a_this_told])),
  (a_this_st, .inl (cI, 13, .inl q_st))]
def jX8_against_78 (q_st : Nat → Int32)  : Option (Int32) := some (0 : Int32)
def fX8_against (q_st : Nat → Int32) (x1 : Int32) (x2 : Int32) (x3 : Int32) (x4 : Int32) : Option (Int32) := (if (10 : Int32) ≤ x4 then (if (100 : Int32) ≤ x4 then bnd ((x4 - (100 : Int32)) / (10 : Int32)) (fun y3 => bnd ((x4 - (100 : Int32)) - (x4 - (100 : Int32)) / (10 : Int32) * (10 : Int32)) (fun y5 => (if x1 = (1 : Int32) then Option.bind (fX8_has x3 y3) (fun r8 => (if r8 = 0 then some (-2 : Int32) else Option.bind (fX8_has x3 y5) (fun r11 => (if r11 = 0 then Option.bind (fX8_areLinked q_st y3 y5) (fun r14 => (if r14 = 0 then some (-2 : Int32) else some (0 : Int32))) else some (-2 : Int32))))) else some (-2 : Int32)))) else Option.bind (fX8_has x3 (x4 - (10 : Int32))) (fun r17 => (if r17 = 0 then some (-2 : Int32) else (if x1 = (1 : Int32) then (if (x4 - (10 : Int32)) = 0 then jX8_against_78 q_st else some (-2 : Int32)) else jX8_against_78 q_st)))) else Option.bind (fX8_has x3 x4) (fun r22 => (if r22 = 0 then Option.bind (fX8_mayPut q_st x1 x3 x4) (fun r25 => (if r25 = 0 then some (-2 : Int32) else Option.bind (fX8_sizeIn x3) (fun r28 => (if r28 < x2 then some (0 : Int32) else some (-3 : Int32))))) else some (-2 : Int32))))
abbrev gX8_against (p : Program) (l : Launch) (e : Env) (s : State) (m : MethodId) (below : List Frame) (meth : Method) (c : Code) (D : vg) (cI cL cS cH : ClassId) (a_this : Nat) (a_this_st : Nat) (a_this_past : Nat) (a_this_image : Nat) (a_this_imagePast : Nat) (a_this_tape : Nat) (a_this_laneOf : Nat) (a_this_sizeOf : Nat) (a_this_items : Nat) (a_this_code : Nat) (a_this_from : Nat) (a_this_by : Nat) (a_this_far : Nat) (a_this_met : Nat) (a_this_told : Nat) (q_acts : Int32) (q_imageActs : Int32) (q_tapeMany : Int32) (q_many : Int32) (q_round : Int32) (q_readAt : Int32) (q_isFault : Int32) (q_toldMany : Int32) (q_st : Nat → Int32) (x1 : Int32) (x2 : Int32) (x3 : Int32) (x4 : Int32) (res : Int32) (H : Heap) (locs : List Loc) (g : JFrame) : Prop := W p l e (headSpec wsX8_against ({ frames := 2, cells := 0, slots := 0, locals := 43 })).room s m ([.ref a_this, .int x1, .int x2, .int x3, .int x4] : List Value).toArray below meth c H locs 0 0 (MQ below (va_Qi (fun r' (_ : Unit) => r' = res) (fun _ t => pos1 D s.heap.size (wX8_against cI cL cS cH a_this a_this_st a_this_past a_this_image a_this_imagePast a_this_tape a_this_laneOf a_this_sizeOf a_this_items a_this_code a_this_from a_this_by a_this_far a_this_met a_this_told q_acts q_imageActs q_tapeMany q_many q_round q_readAt q_isFault q_toldMany q_st) (wX8_against cI cL cS cH a_this a_this_st a_this_past a_this_image a_this_imagePast a_this_tape a_this_laneOf a_this_sizeOf a_this_items a_this_code a_this_from a_this_by a_this_far a_this_met a_this_told q_acts q_imageActs q_tapeMany q_many q_round q_readAt q_isFault q_toldMany q_st) t) (va_A (wX8_against cI cL cS cH a_this a_this_st a_this_past a_this_image a_this_imagePast a_this_tape a_this_laneOf a_this_sizeOf a_this_items a_this_code a_this_from a_this_by a_this_far a_this_met a_this_told q_acts q_imageActs q_tapeMany q_many q_round q_readAt q_isFault q_toldMany q_st) s.heap.size)) ([.ref a_this, .int x1, .int x2, .int x3, .int x4] : List Value).toArray s 0 0 (va_A (wX8_against cI cL cS cH a_this a_this_st a_this_past a_this_image a_this_imagePast a_this_tape a_this_laneOf a_this_sizeOf a_this_items a_this_code a_this_from a_this_by a_this_far a_this_met a_this_told q_acts q_imageActs q_tapeMany q_many q_round q_readAt q_isFault q_toldMany q_st) s.heap.size)) g
set_option maxHeartbeats 4000000 in
set_option maxRecDepth 100000 in
theorem mX8_against (l : Launch) (D : vg) (cI cL cS cH : ClassId) (sz : Nat) (a_this : Nat) (a_this_st : Nat) (a_this_past : Nat) (a_this_image : Nat) (a_this_imagePast : Nat) (a_this_tape : Nat) (a_this_laneOf : Nat) (a_this_sizeOf : Nat) (a_this_items : Nat) (a_this_code : Nat) (a_this_from : Nat) (a_this_by : Nat) (a_this_far : Nat) (a_this_met : Nat) (a_this_told : Nat) (q_acts : Int32) (q_imageActs : Int32) (q_tapeMany : Int32) (q_many : Int32) (q_round : Int32) (q_readAt : Int32) (q_isFault : Int32) (q_toldMany : Int32) (q_st : Nat → Int32) (x1 : Int32) (x2 : Int32) (x3 : Int32) (x4 : Int32) {res : Int32} (hf : fX8_against q_st x1 x2 x3 x4 = some res) : cti l yX8_against wsX8_against ({ frames := 2, cells := 0, slots := 0, locals := 43 }) D (ty4 cI cL cS cH) sz [.ref a_this, .int x1, .int x2, .int x3, .int x4] (wX8_against cI cL cS cH a_this a_this_st a_this_past a_this_image a_this_imagePast a_this_tape a_this_laneOf a_this_sizeOf a_this_items a_this_code a_this_from a_this_by a_this_far a_this_met a_this_told q_acts q_imageActs q_tapeMany q_many q_round q_readAt q_isFault q_toldMany q_st) (wX8_against cI cL cS cH a_this a_this_st a_this_past a_this_image a_this_imagePast a_this_tape a_this_laneOf a_this_sizeOf a_this_items a_this_code a_this_from a_this_by a_this_far a_this_met a_this_told q_acts q_imageActs q_tapeMany q_many q_round q_readAt q_isFault q_toldMany q_st) res := by
  refine Met.ofW (cc := cX8_against) (maxL := 7) (ret := (some .int)) (by decide) rfl ?_
  intro p e s m args below meth c s₁ B hml hv
  obtain ⟨rfl, hpre⟩ := hv
  obtain rfl := hpre.1
  have C : CallFix p m c cX8_against 7 s _ wsX8_against RX8 := ⟨B.exec, B.bytes, hml, findClass_of_methodNamed B.named, atoms_spec (ws := wsX8_against) B.pre⟩
  have hr := B.returns
  have hlocks := B.notSynchronized
  have w := wd_start hpre
  clear hpre B
  have hl := lv_entry ([.ref a_this, .int x1, .int x2, .int x3, .int x4]) (n := 7) (Nat.le_of_ble_eq_true rfl)
  rw [lg_entry_eq]
  generalize (lg_sl ([.ref a_this, .int x1, .int x2, .int x3, .int x4]) ++ List.replicate (7 - (lg_sl ([.ref a_this, .int x1, .int x2, .int x3, .int x4])).length) Slot.unset).toArray = ls at hl ⊢
  have hl : lv_has ls 7 [(0, .ref a_this), (1, .int x1), (2, .int x2), (3, .int x3), (4, .int x4)] := hl
  unfold fX8_against at hf
  have hj78 : ∀  (H : Heap) (locs : List Loc) (ls : Array Slot), wd D (ty4 cI cL cS cH) s (va_A (wX8_against cI cL cS cH a_this a_this_st a_this_past a_this_image a_this_imagePast a_this_tape a_this_laneOf a_this_sizeOf a_this_items a_this_code a_this_from a_this_by a_this_far a_this_met a_this_told q_acts q_imageActs q_tapeMany q_many q_round q_readAt q_isFault q_toldMany q_st) s.heap.size) s.heap H locs (wX8_against cI cL cS cH a_this a_this_st a_this_past a_this_image a_this_imagePast a_this_tape a_this_laneOf a_this_sizeOf a_this_items a_this_code a_this_from a_this_by a_this_far a_this_met a_this_told q_acts q_imageActs q_tapeMany q_many q_round q_readAt q_isFault q_toldMany q_st) → lv_has ls 7 [] → jX8_against_78 q_st = some res → gX8_against p l e s m below meth c D cI cL cS cH a_this a_this_st a_this_past a_this_image a_this_imagePast a_this_tape a_this_laneOf a_this_sizeOf a_this_items a_this_code a_this_from a_this_by a_this_far a_this_met a_this_told q_acts q_imageActs q_tapeMany q_many q_round q_readAt q_isFault q_toldMany q_st x1 x2 x3 x4 res H locs (F0 m 78 ls []) := by
    intro  H locs ls w hl hf
    unfold jX8_against_78 at hf
    refine lv_iconst (v := (0 : Int32)) C.1 C.2.1 dX8_against_78 (by decide) ?_
    refine lv_goto (tgt := 84) C.1 C.2.1 dX8_against_79 (by decide) ?_
    have hres := Option.some.inj hf
    subst hres
    exact ret_i C hr hlocks w rfl dX8_against_84
  refine lv_iload C.1 C.2.1 dX8_against_0 (lv_at hl 4 rfl) ?_
  refine lv_bipush (v := (10 : Int32)) C.1 C.2.1 dX8_against_2 (by decide) ?_
  refine lv_icmp_ge (tgt := 45) C.1 C.2.1 dX8_against_4 (by decide) (fun hq1 => ?_) (fun hq1 => ?_)
  · have hf := ite_t hf hq1
    refine lv_iload C.1 C.2.1 dX8_against_45 (lv_at hl 4 rfl) ?_
    refine lv_bipush (v := (100 : Int32)) C.1 C.2.1 dX8_against_47 (by decide) ?_
    refine lv_icmp_ge (tgt := 85) C.1 C.2.1 dX8_against_49 (by decide) (fun hq2 => ?_) (fun hq2 => ?_)
    · have hf := ite_t hf hq2
      refine lv_iload C.1 C.2.1 dX8_against_85 (lv_at hl 4 rfl) ?_
      refine lv_bipush (v := (100 : Int32)) C.1 C.2.1 dX8_against_87 (by decide) ?_
      refine lv_isub C.1 C.2.1 dX8_against_89 ?_
      refine lv_bipush (v := (10 : Int32)) C.1 C.2.1 dX8_against_90 (by decide) ?_
      refine lv_idiv C.1 C.2.1 dX8_against_92 (by decide) ?_
      obtain ⟨y3, hy4, hf⟩ := bnd_e hf
      refine lt_topi hy4 ?_
      refine lv_istore (lv' := [(5, .int y3), (0, .ref a_this), (1, .int x1), (2, .int x2), (3, .int x3), (4, .int x4)]) C.1 C.2.1 dX8_against_93 hl (by decide) rfl (fun ls hl => ?_)
      refine lv_iload C.1 C.2.1 dX8_against_95 (lv_at hl 5 rfl) ?_
      refine lv_bipush (v := (100 : Int32)) C.1 C.2.1 dX8_against_97 (by decide) ?_
      refine lv_isub C.1 C.2.1 dX8_against_99 ?_
      refine lv_bipush (v := (10 : Int32)) C.1 C.2.1 dX8_against_100 (by decide) ?_
      refine lv_irem C.1 C.2.1 dX8_against_102 (by decide) ?_
      obtain ⟨y5, hy6, hf⟩ := bnd_e hf
      refine lt_topi hy6 ?_
      refine lv_istore (lv' := [(6, .int y5), (5, .int y3), (0, .ref a_this), (1, .int x1), (2, .int x2), (3, .int x3), (4, .int x4)]) C.1 C.2.1 dX8_against_103 hl (by decide) rfl (fun ls hl => ?_)
      refine lv_iload_n C.1 C.2.1 dX8_against_105 rfl (lv_at hl 3 rfl) ?_
      refine lv_iconst (v := (1 : Int32)) C.1 C.2.1 dX8_against_106 (by decide) ?_
      refine lv_icmp_ne (tgt := 143) C.1 C.2.1 dX8_against_107 (by decide) (fun hq7 => ?_) (fun hq7 => ?_)
      · have hf := ite_f hf hq7
        refine lv_bipush (v := (-2 : Int32)) C.1 C.2.1 dX8_against_143 (by decide) ?_
        have hres := Option.some.inj hf
        subst hres
        exact ret_i C hr hlocks w rfl dX8_against_145
      · have hf := ite_t hf hq7
        refine lv_iload_n C.1 C.2.1 dX8_against_110 rfl (lv_at hl 5 rfl) ?_
        refine lv_iload C.1 C.2.1 dX8_against_111 (lv_at hl 1 rfl) ?_
        obtain ⟨r8, hc9, hf⟩ := bd hf
        refine call_Si (ws' := (wX8_against cI cL cS cH a_this a_this_st a_this_past a_this_image a_this_imagePast a_this_tape a_this_laneOf a_this_sizeOf a_this_items a_this_code a_this_from a_this_by a_this_far a_this_met a_this_told q_acts q_imageActs q_tapeMany q_many q_round q_readAt q_isFault q_toldMany q_st)) (rest := []) C w (mX8_has l D cI cL cS cH _ x3 y3 hc9) (va_cwS 2 C.2.2.2.2 gX8_against_X8_has rfl rfl rfl (by decide +kernel) ⟨Nat.le_of_ble_eq_true rfl, Nat.le_of_ble_eq_true rfl⟩) [] [0, 1] 2 trivial trivial ⟨⟨_, rfl, rfl⟩, ⟨_, rfl, rfl⟩, trivial⟩ rfl (by decide) (by decide) rfl hl.1 rfl (lv_room (Nat.le_of_ble_eq_true rfl)) dX8_against_113 ⟨Nat.zero_le _, Nat.zero_le _⟩ (fun H locs w => ?_)
        refine lv_if_eq (tgt := 143) C.1 C.2.1 dX8_against_116 (by decide) (fun hq10 => ?_) (fun hq10 => ?_)
        · have hf := ite_t hf hq10
          refine lv_bipush (v := (-2 : Int32)) C.1 C.2.1 dX8_against_143 (by decide) ?_
          have hres := Option.some.inj hf
          subst hres
          exact ret_i C hr hlocks w rfl dX8_against_145
        · have hf := ite_f hf hq10
          refine lv_iload_n C.1 C.2.1 dX8_against_119 rfl (lv_at hl 5 rfl) ?_
          refine lv_iload C.1 C.2.1 dX8_against_120 (lv_at hl 0 rfl) ?_
          obtain ⟨r11, hc12, hf⟩ := bd hf
          refine call_Si (ws' := (wX8_against cI cL cS cH a_this a_this_st a_this_past a_this_image a_this_imagePast a_this_tape a_this_laneOf a_this_sizeOf a_this_items a_this_code a_this_from a_this_by a_this_far a_this_met a_this_told q_acts q_imageActs q_tapeMany q_many q_round q_readAt q_isFault q_toldMany q_st)) (rest := []) C w (mX8_has l D cI cL cS cH _ x3 y5 hc12) (va_cwS 2 C.2.2.2.2 gX8_against_X8_has rfl rfl rfl (by decide +kernel) ⟨Nat.le_of_ble_eq_true rfl, Nat.le_of_ble_eq_true rfl⟩) [] [0, 1] 2 trivial trivial ⟨⟨_, rfl, rfl⟩, ⟨_, rfl, rfl⟩, trivial⟩ rfl (by decide) (by decide) rfl hl.1 rfl (lv_room (Nat.le_of_ble_eq_true rfl)) dX8_against_122 ⟨Nat.zero_le _, Nat.zero_le _⟩ (fun H locs w => ?_)
          refine lv_if_ne (tgt := 143) C.1 C.2.1 dX8_against_125 (by decide) (fun hq13 => ?_) (fun hq13 => ?_)
          · have hf := ite_f hf hq13
            refine lv_bipush (v := (-2 : Int32)) C.1 C.2.1 dX8_against_143 (by decide) ?_
            have hres := Option.some.inj hf
            subst hres
            exact ret_i C hr hlocks w rfl dX8_against_145
          · have hf := ite_t hf hq13
            refine lv_aload_n C.1 C.2.1 dX8_against_128 rfl (lv_at hl 2 rfl) ?_
            refine lv_iload C.1 C.2.1 dX8_against_129 (lv_at hl 1 rfl) ?_
            refine lv_iload C.1 C.2.1 dX8_against_131 (lv_at hl 0 rfl) ?_
            obtain ⟨r14, hc15, hf⟩ := bd hf
            refine call_Vi (ws' := (wX8_against cI cL cS cH a_this a_this_st a_this_past a_this_image a_this_imagePast a_this_tape a_this_laneOf a_this_sizeOf a_this_items a_this_code a_this_from a_this_by a_this_far a_this_met a_this_told q_acts q_imageActs q_tapeMany q_many q_round q_readAt q_isFault q_toldMany q_st)) (rest := []) C w (mX8_areLinked l D cI cL cS cH _ a_this a_this_st a_this_past a_this_image a_this_imagePast a_this_tape a_this_laneOf a_this_sizeOf a_this_items a_this_code a_this_from a_this_by a_this_far a_this_met a_this_told q_acts q_imageActs q_tapeMany q_many q_round q_readAt q_isFault q_toldMany q_st y3 y5 hc15) (cwV 2 C.2.2.2.2 gX8_against_X8_areLinked rfl rfl rfl (by decide +kernel) ⟨Nat.le_of_ble_eq_true rfl, Nat.le_of_ble_eq_true rfl⟩) [0, 1] [] 2 ⟨rfl, rfl, trivial⟩ ⟨rfl, rfl, trivial⟩ trivial rfl (by decide) (by decide) (ci := 8) (q0 := 0) rfl rfl rfl hl.1 rfl (lv_room (Nat.le_of_ble_eq_true rfl)) dX8_against_133 ⟨Nat.zero_le _, Nat.zero_le _⟩ (fun H locs w => ?_)
            refine lv_if_eq (tgt := 143) C.1 C.2.1 dX8_against_136 (by decide) (fun hq16 => ?_) (fun hq16 => ?_)
            · have hf := ite_t hf hq16
              refine lv_bipush (v := (-2 : Int32)) C.1 C.2.1 dX8_against_143 (by decide) ?_
              have hres := Option.some.inj hf
              subst hres
              exact ret_i C hr hlocks w rfl dX8_against_145
            · have hf := ite_f hf hq16
              refine lv_iconst (v := (0 : Int32)) C.1 C.2.1 dX8_against_139 (by decide) ?_
              refine lv_goto (tgt := 145) C.1 C.2.1 dX8_against_140 (by decide) ?_
              have hres := Option.some.inj hf
              subst hres
              exact ret_i C hr hlocks w rfl dX8_against_145
    · have hf := ite_f hf hq2
      refine lv_iload C.1 C.2.1 dX8_against_52 (lv_at hl 4 rfl) ?_
      refine lv_bipush (v := (10 : Int32)) C.1 C.2.1 dX8_against_54 (by decide) ?_
      refine lv_isub C.1 C.2.1 dX8_against_56 ?_
      refine lv_istore (lv' := [(5, .int (x4 - (10 : Int32))), (0, .ref a_this), (1, .int x1), (2, .int x2), (3, .int x3), (4, .int x4)]) C.1 C.2.1 dX8_against_57 hl (by decide) rfl (fun ls hl => ?_)
      refine lv_iload_n C.1 C.2.1 dX8_against_59 rfl (lv_at hl 4 rfl) ?_
      refine lv_iload C.1 C.2.1 dX8_against_60 (lv_at hl 0 rfl) ?_
      obtain ⟨r17, hc18, hf⟩ := bd hf
      refine call_Si (ws' := (wX8_against cI cL cS cH a_this a_this_st a_this_past a_this_image a_this_imagePast a_this_tape a_this_laneOf a_this_sizeOf a_this_items a_this_code a_this_from a_this_by a_this_far a_this_met a_this_told q_acts q_imageActs q_tapeMany q_many q_round q_readAt q_isFault q_toldMany q_st)) (rest := []) C w (mX8_has l D cI cL cS cH _ x3 (x4 - (10 : Int32)) hc18) (va_cwS 2 C.2.2.2.2 gX8_against_X8_has rfl rfl rfl (by decide +kernel) ⟨Nat.le_of_ble_eq_true rfl, Nat.le_of_ble_eq_true rfl⟩) [] [0, 1] 2 trivial trivial ⟨⟨_, rfl, rfl⟩, ⟨_, rfl, rfl⟩, trivial⟩ rfl (by decide) (by decide) rfl hl.1 rfl (lv_room (Nat.le_of_ble_eq_true rfl)) dX8_against_62 ⟨Nat.zero_le _, Nat.zero_le _⟩ (fun H locs w => ?_)
      refine lv_if_eq (tgt := 82) C.1 C.2.1 dX8_against_65 (by decide) (fun hq19 => ?_) (fun hq19 => ?_)
      · have hf := ite_t hf hq19
        refine lv_bipush (v := (-2 : Int32)) C.1 C.2.1 dX8_against_82 (by decide) ?_
        have hres := Option.some.inj hf
        subst hres
        exact ret_i C hr hlocks w rfl dX8_against_84
      · have hf := ite_f hf hq19
        refine lv_iload_n C.1 C.2.1 dX8_against_68 rfl (lv_at hl 2 rfl) ?_
        refine lv_iconst (v := (1 : Int32)) C.1 C.2.1 dX8_against_69 (by decide) ?_
        refine lv_icmp_ne (tgt := 78) C.1 C.2.1 dX8_against_70 (by decide) (fun hq20 => ?_) (fun hq20 => ?_)
        · have hf := ite_f hf hq20
          exact hj78  _ _ _ w (lv_sub hl [] rfl) hf
        · have hf := ite_t hf hq20
          refine lv_iload C.1 C.2.1 dX8_against_73 (lv_at hl 0 rfl) ?_
          refine lv_if_ne (tgt := 82) C.1 C.2.1 dX8_against_75 (by decide) (fun hq21 => ?_) (fun hq21 => ?_)
          · have hf := ite_f hf hq21
            refine lv_bipush (v := (-2 : Int32)) C.1 C.2.1 dX8_against_82 (by decide) ?_
            have hres := Option.some.inj hf
            subst hres
            exact ret_i C hr hlocks w rfl dX8_against_84
          · have hf := ite_t hf hq21
            exact hj78  _ _ _ w (lv_sub hl [] rfl) hf
  · have hf := ite_f hf hq1
    refine lv_iload_n C.1 C.2.1 dX8_against_7 rfl (lv_at hl 3 rfl) ?_
    refine lv_iload C.1 C.2.1 dX8_against_8 (lv_at hl 4 rfl) ?_
    obtain ⟨r22, hc23, hf⟩ := bd hf
    refine call_Si (ws' := (wX8_against cI cL cS cH a_this a_this_st a_this_past a_this_image a_this_imagePast a_this_tape a_this_laneOf a_this_sizeOf a_this_items a_this_code a_this_from a_this_by a_this_far a_this_met a_this_told q_acts q_imageActs q_tapeMany q_many q_round q_readAt q_isFault q_toldMany q_st)) (rest := []) C w (mX8_has l D cI cL cS cH _ x3 x4 hc23) (va_cwS 2 C.2.2.2.2 gX8_against_X8_has rfl rfl rfl (by decide +kernel) ⟨Nat.le_of_ble_eq_true rfl, Nat.le_of_ble_eq_true rfl⟩) [] [0, 1] 2 trivial trivial ⟨⟨_, rfl, rfl⟩, ⟨_, rfl, rfl⟩, trivial⟩ rfl (by decide) (by decide) rfl hl.1 rfl (lv_room (Nat.le_of_ble_eq_true rfl)) dX8_against_10 ⟨Nat.zero_le _, Nat.zero_le _⟩ (fun H locs w => ?_)
    refine lv_if_ne (tgt := 27) C.1 C.2.1 dX8_against_13 (by decide) (fun hq24 => ?_) (fun hq24 => ?_)
    · have hf := ite_f hf hq24
      refine lv_bipush (v := (-2 : Int32)) C.1 C.2.1 dX8_against_27 (by decide) ?_
      have hres := Option.some.inj hf
      subst hres
      exact ret_i C hr hlocks w rfl dX8_against_29
    · have hf := ite_t hf hq24
      refine lv_aload_n C.1 C.2.1 dX8_against_16 rfl (lv_at hl 0 rfl) ?_
      refine lv_iload_n C.1 C.2.1 dX8_against_17 rfl (lv_at hl 1 rfl) ?_
      refine lv_iload_n C.1 C.2.1 dX8_against_18 rfl (lv_at hl 3 rfl) ?_
      refine lv_iload C.1 C.2.1 dX8_against_19 (lv_at hl 4 rfl) ?_
      obtain ⟨r25, hc26, hf⟩ := bd hf
      refine call_Vi (ws' := (wX8_against cI cL cS cH a_this a_this_st a_this_past a_this_image a_this_imagePast a_this_tape a_this_laneOf a_this_sizeOf a_this_items a_this_code a_this_from a_this_by a_this_far a_this_met a_this_told q_acts q_imageActs q_tapeMany q_many q_round q_readAt q_isFault q_toldMany q_st)) (rest := []) C w (mX8_mayPut l D cI cL cS cH _ a_this a_this_st a_this_past a_this_image a_this_imagePast a_this_tape a_this_laneOf a_this_sizeOf a_this_items a_this_code a_this_from a_this_by a_this_far a_this_met a_this_told q_acts q_imageActs q_tapeMany q_many q_round q_readAt q_isFault q_toldMany q_st x1 x3 x4 hc26) (cwV 3 C.2.2.2.2 gX8_against_X8_mayPut rfl rfl rfl (by decide +kernel) ⟨Nat.le_of_ble_eq_true rfl, Nat.le_of_ble_eq_true rfl⟩) [0, 1] [] 2 ⟨rfl, rfl, trivial⟩ ⟨rfl, rfl, trivial⟩ trivial rfl (by decide) (by decide) (ci := 8) (q0 := 0) rfl rfl rfl hl.1 rfl (lv_room (Nat.le_of_ble_eq_true rfl)) dX8_against_21 ⟨Nat.zero_le _, Nat.zero_le _⟩ (fun H locs w => ?_)
      refine lv_if_ne (tgt := 30) C.1 C.2.1 dX8_against_24 (by decide) (fun hq27 => ?_) (fun hq27 => ?_)
      · have hf := ite_f hf hq27
        refine lv_iload_n C.1 C.2.1 dX8_against_30 rfl (lv_at hl 3 rfl) ?_
        obtain ⟨r28, hc29, hf⟩ := bd hf
        refine call_Si (ws' := (wX8_against cI cL cS cH a_this a_this_st a_this_past a_this_image a_this_imagePast a_this_tape a_this_laneOf a_this_sizeOf a_this_items a_this_code a_this_from a_this_by a_this_far a_this_met a_this_told q_acts q_imageActs q_tapeMany q_many q_round q_readAt q_isFault q_toldMany q_st)) (rest := []) C w (mX8_sizeIn l D cI cL cS cH _ x3 hc29) (va_cwS 1 C.2.2.2.2 gX8_against_X8_sizeIn rfl rfl rfl (by decide +kernel) ⟨Nat.le_of_ble_eq_true rfl, Nat.le_of_ble_eq_true rfl⟩) [] [0, 1] 2 trivial trivial ⟨⟨_, rfl, rfl⟩, ⟨_, rfl, rfl⟩, trivial⟩ rfl (by decide) (by decide) rfl hl.1 rfl (lv_room (Nat.le_of_ble_eq_true rfl)) dX8_against_31 ⟨Nat.zero_le _, Nat.zero_le _⟩ (fun H locs w => ?_)
        refine lv_iload_n C.1 C.2.1 dX8_against_34 rfl (lv_at hl 2 rfl) ?_
        refine lv_icmp_lt (tgt := 43) C.1 C.2.1 dX8_against_35 (by decide) (fun hq30 => ?_) (fun hq30 => ?_)
        · have hf := ite_t hf hq30
          refine lv_iconst (v := (0 : Int32)) C.1 C.2.1 dX8_against_43 (by decide) ?_
          have hres := Option.some.inj hf
          subst hres
          exact ret_i C hr hlocks w rfl dX8_against_44
        · have hf := ite_f hf hq30
          refine lv_bipush (v := (-3 : Int32)) C.1 C.2.1 dX8_against_38 (by decide) ?_
          refine lv_goto (tgt := 44) C.1 C.2.1 dX8_against_40 (by decide) ?_
          have hres := Option.some.inj hf
          subst hres
          exact ret_i C hr hlocks w rfl dX8_against_44
      · have hf := ite_t hf hq27
        refine lv_bipush (v := (-2 : Int32)) C.1 C.2.1 dX8_against_27 (by decide) ?_
        have hres := Option.some.inj hf
        subst hres
        exact ret_i C hr hlocks w rfl dX8_against_29

abbrev wX8_guardsBehind (cI cL cS cH : ClassId) : va_W := []
def fX8_guardsBehind  (x0 : Int32) (x1 : Int32) : Option (Int32) := (if (10 : Int32) ≤ x1 then (if (100 : Int32) ≤ x1 then some ((x0 &&& (((1 : Int32) <<< (((x1 - (100 : Int32)) / (10 : Int32)) &&& 31)) ^^^ (-1 : Int32))) ||| ((1 : Int32) <<< (((x1 - (100 : Int32)) - (x1 - (100 : Int32)) / (10 : Int32) * (10 : Int32)) &&& 31))) else some (x0 &&& (((1 : Int32) <<< ((x1 - (10 : Int32)) &&& 31)) ^^^ (-1 : Int32)))) else some (x0 ||| ((1 : Int32) <<< (x1 &&& 31))))
set_option maxHeartbeats 4000000 in
set_option maxRecDepth 100000 in
theorem mX8_guardsBehind (l : Launch) (D : vg) (cI cL cS cH : ClassId) (sz : Nat) (x0 : Int32) (x1 : Int32) {res : Int32} (hf : fX8_guardsBehind x0 x1 = some res) : cti l yX8_guardsBehind wsX8_guardsBehind ({ frames := 0, cells := 0, slots := 0, locals := 0 }) D (ty4 cI cL cS cH) sz [.int x0, .int x1] (wX8_guardsBehind cI cL cS cH ) (wX8_guardsBehind cI cL cS cH ) res := by
  refine Met.ofW (cc := cX8_guardsBehind) (maxL := 2) (ret := (some .int)) (by decide) rfl ?_
  intro p e s m args below meth c s₁ B hml hv
  obtain ⟨rfl, hpre⟩ := hv
  obtain rfl := hpre.1
  have C : CallFix p m c cX8_guardsBehind 2 s _ wsX8_guardsBehind RX8 := ⟨B.exec, B.bytes, hml, findClass_of_methodNamed B.named, atoms_spec (ws := wsX8_guardsBehind) B.pre⟩
  have hr := B.returns
  have hlocks := B.notSynchronized
  have w := wd_start hpre
  clear hpre B
  have hl := lv_entry ([.int x0, .int x1]) (n := 2) (Nat.le_of_ble_eq_true rfl)
  rw [lg_entry_eq]
  generalize (lg_sl ([.int x0, .int x1]) ++ List.replicate (2 - (lg_sl ([.int x0, .int x1])).length) Slot.unset).toArray = ls at hl ⊢
  have hl : lv_has ls 2 [(0, .int x0), (1, .int x1)] := hl
  unfold fX8_guardsBehind at hf
  refine lv_iload_n C.1 C.2.1 dX8_guardsBehind_0 rfl (lv_at hl 1 rfl) ?_
  refine lv_bipush (v := (10 : Int32)) C.1 C.2.1 dX8_guardsBehind_1 (by decide) ?_
  refine lv_icmp_ge (tgt := 12) C.1 C.2.1 dX8_guardsBehind_3 (by decide) (fun hq1 => ?_) (fun hq1 => ?_)
  · have hf := ite_t hf hq1
    refine lv_iload_n C.1 C.2.1 dX8_guardsBehind_12 rfl (lv_at hl 1 rfl) ?_
    refine lv_bipush (v := (100 : Int32)) C.1 C.2.1 dX8_guardsBehind_13 (by decide) ?_
    refine lv_icmp_ge (tgt := 29) C.1 C.2.1 dX8_guardsBehind_15 (by decide) (fun hq2 => ?_) (fun hq2 => ?_)
    · have hf := ite_t hf hq2
      refine lv_iload_n C.1 C.2.1 dX8_guardsBehind_29 rfl (lv_at hl 0 rfl) ?_
      refine lv_iconst (v := (1 : Int32)) C.1 C.2.1 dX8_guardsBehind_30 (by decide) ?_
      refine lv_iload_n C.1 C.2.1 dX8_guardsBehind_31 rfl (lv_at hl 1 rfl) ?_
      refine lv_bipush (v := (100 : Int32)) C.1 C.2.1 dX8_guardsBehind_32 (by decide) ?_
      refine lv_isub C.1 C.2.1 dX8_guardsBehind_34 ?_
      refine lv_bipush (v := (10 : Int32)) C.1 C.2.1 dX8_guardsBehind_35 (by decide) ?_
      refine lv_idiv C.1 C.2.1 dX8_guardsBehind_37 (by decide) ?_
      refine lv_ishl C.1 C.2.1 dX8_guardsBehind_38 ?_
      refine lv_iconst (v := (-1 : Int32)) C.1 C.2.1 dX8_guardsBehind_39 (by decide) ?_
      refine lv_ixor C.1 C.2.1 dX8_guardsBehind_40 ?_
      refine lv_iand C.1 C.2.1 dX8_guardsBehind_41 ?_
      refine lv_iconst (v := (1 : Int32)) C.1 C.2.1 dX8_guardsBehind_42 (by decide) ?_
      refine lv_iload_n C.1 C.2.1 dX8_guardsBehind_43 rfl (lv_at hl 1 rfl) ?_
      refine lv_bipush (v := (100 : Int32)) C.1 C.2.1 dX8_guardsBehind_44 (by decide) ?_
      refine lv_isub C.1 C.2.1 dX8_guardsBehind_46 ?_
      refine lv_bipush (v := (10 : Int32)) C.1 C.2.1 dX8_guardsBehind_47 (by decide) ?_
      refine lv_irem C.1 C.2.1 dX8_guardsBehind_49 (by decide) ?_
      refine lv_ishl C.1 C.2.1 dX8_guardsBehind_50 ?_
      refine lv_ior C.1 C.2.1 dX8_guardsBehind_51 ?_
      have hres := Option.some.inj hf
      subst hres
      exact ret_i C hr hlocks w rfl dX8_guardsBehind_52
    · have hf := ite_f hf hq2
      refine lv_iload_n C.1 C.2.1 dX8_guardsBehind_18 rfl (lv_at hl 0 rfl) ?_
      refine lv_iconst (v := (1 : Int32)) C.1 C.2.1 dX8_guardsBehind_19 (by decide) ?_
      refine lv_iload_n C.1 C.2.1 dX8_guardsBehind_20 rfl (lv_at hl 1 rfl) ?_
      refine lv_bipush (v := (10 : Int32)) C.1 C.2.1 dX8_guardsBehind_21 (by decide) ?_
      refine lv_isub C.1 C.2.1 dX8_guardsBehind_23 ?_
      refine lv_ishl C.1 C.2.1 dX8_guardsBehind_24 ?_
      refine lv_iconst (v := (-1 : Int32)) C.1 C.2.1 dX8_guardsBehind_25 (by decide) ?_
      refine lv_ixor C.1 C.2.1 dX8_guardsBehind_26 ?_
      refine lv_iand C.1 C.2.1 dX8_guardsBehind_27 ?_
      have hres := Option.some.inj hf
      subst hres
      exact ret_i C hr hlocks w rfl dX8_guardsBehind_28
  · have hf := ite_f hf hq1
    refine lv_iload_n C.1 C.2.1 dX8_guardsBehind_6 rfl (lv_at hl 0 rfl) ?_
    refine lv_iconst (v := (1 : Int32)) C.1 C.2.1 dX8_guardsBehind_7 (by decide) ?_
    refine lv_iload_n C.1 C.2.1 dX8_guardsBehind_8 rfl (lv_at hl 1 rfl) ?_
    refine lv_ishl C.1 C.2.1 dX8_guardsBehind_9 ?_
    refine lv_ior C.1 C.2.1 dX8_guardsBehind_10 ?_
    have hres := Option.some.inj hf
    subst hres
    exact ret_i C hr hlocks w rfl dX8_guardsBehind_11

abbrev wX8_cleanBehind (cI cL cS cH : ClassId) (a_this : Nat) (a_this_st : Nat) (a_this_past : Nat) (a_this_image : Nat) (a_this_imagePast : Nat) (a_this_tape : Nat) (a_this_laneOf : Nat) (a_this_sizeOf : Nat) (a_this_items : Nat) (a_this_code : Nat) (a_this_from : Nat) (a_this_by : Nat) (a_this_far : Nat) (a_this_met : Nat) (a_this_told : Nat) (q_acts : Int32) (q_imageActs : Int32) (q_tapeMany : Int32) (q_many : Int32) (q_round : Int32) (q_readAt : Int32) (q_isFault : Int32) (q_toldMany : Int32) (q_st : Nat → Int32) : va_W := [(a_this, .inr (8, [.ref a_this_st, .ref a_this_past, .int q_acts, .ref a_this_image, .ref a_this_imagePast, .int q_imageActs, .ref a_this_tape, .int q_tapeMany, .ref a_this_laneOf, .ref a_this_sizeOf, .ref a_this_items, .ref a_this_code, .ref a_this_from, .ref a_this_by, .ref a_this_far, .int q_many, .ref a_this_met, .int q_round, .int q_readAt, .int q_isFault, .int q_toldMany, .ref a_this_told])),
  (a_this_st, .inl (cI, 13, .inl q_st))]
def fX8_cleanBehind (q_st : Nat → Int32) (x1 : Int32) (x2 : Int32) (x3 : Int32) : Option (Int32) := Option.bind (fX8_guardsBehind x2 x3) (fun r1 => Option.bind (fX8_fouled q_st (x1 ||| r1) r1) (fun r3 => some r3))
set_option maxHeartbeats 4000000 in
set_option maxRecDepth 100000 in
theorem mX8_cleanBehind (l : Launch) (D : vg) (cI cL cS cH : ClassId) (sz : Nat) (a_this : Nat) (a_this_st : Nat) (a_this_past : Nat) (a_this_image : Nat) (a_this_imagePast : Nat) (a_this_tape : Nat) (a_this_laneOf : Nat) (a_this_sizeOf : Nat) (a_this_items : Nat) (a_this_code : Nat) (a_this_from : Nat) (a_this_by : Nat) (a_this_far : Nat) (a_this_met : Nat) (a_this_told : Nat) (q_acts : Int32) (q_imageActs : Int32) (q_tapeMany : Int32) (q_many : Int32) (q_round : Int32) (q_readAt : Int32) (q_isFault : Int32) (q_toldMany : Int32) (q_st : Nat → Int32) (x1 : Int32) (x2 : Int32) (x3 : Int32) {res : Int32} (hf : fX8_cleanBehind q_st x1 x2 x3 = some res) : cti l yX8_cleanBehind wsX8_cleanBehind ({ frames := 3, cells := 0, slots := 0, locals := 68 }) D (ty4 cI cL cS cH) sz [.ref a_this, .int x1, .int x2, .int x3] (wX8_cleanBehind cI cL cS cH a_this a_this_st a_this_past a_this_image a_this_imagePast a_this_tape a_this_laneOf a_this_sizeOf a_this_items a_this_code a_this_from a_this_by a_this_far a_this_met a_this_told q_acts q_imageActs q_tapeMany q_many q_round q_readAt q_isFault q_toldMany q_st) (wX8_cleanBehind cI cL cS cH a_this a_this_st a_this_past a_this_image a_this_imagePast a_this_tape a_this_laneOf a_this_sizeOf a_this_items a_this_code a_this_from a_this_by a_this_far a_this_met a_this_told q_acts q_imageActs q_tapeMany q_many q_round q_readAt q_isFault q_toldMany q_st) res := by
  refine Met.ofW (cc := cX8_cleanBehind) (maxL := 5) (ret := (some .int)) (by decide) rfl ?_
  intro p e s m args below meth c s₁ B hml hv
  obtain ⟨rfl, hpre⟩ := hv
  obtain rfl := hpre.1
  have C : CallFix p m c cX8_cleanBehind 5 s _ wsX8_cleanBehind RX8 := ⟨B.exec, B.bytes, hml, findClass_of_methodNamed B.named, atoms_spec (ws := wsX8_cleanBehind) B.pre⟩
  have hr := B.returns
  have hlocks := B.notSynchronized
  have w := wd_start hpre
  clear hpre B
  have hl := lv_entry ([.ref a_this, .int x1, .int x2, .int x3]) (n := 5) (Nat.le_of_ble_eq_true rfl)
  rw [lg_entry_eq]
  generalize (lg_sl ([.ref a_this, .int x1, .int x2, .int x3]) ++ List.replicate (5 - (lg_sl ([.ref a_this, .int x1, .int x2, .int x3])).length) Slot.unset).toArray = ls at hl ⊢
  have hl : lv_has ls 5 [(0, .ref a_this), (1, .int x1), (2, .int x2), (3, .int x3)] := hl
  unfold fX8_cleanBehind at hf
  refine lv_iload_n C.1 C.2.1 dX8_cleanBehind_0 rfl (lv_at hl 2 rfl) ?_
  refine lv_iload_n C.1 C.2.1 dX8_cleanBehind_1 rfl (lv_at hl 3 rfl) ?_
  obtain ⟨r1, hc2, hf⟩ := bd hf
  refine call_Si (ws' := (wX8_cleanBehind cI cL cS cH a_this a_this_st a_this_past a_this_image a_this_imagePast a_this_tape a_this_laneOf a_this_sizeOf a_this_items a_this_code a_this_from a_this_by a_this_far a_this_met a_this_told q_acts q_imageActs q_tapeMany q_many q_round q_readAt q_isFault q_toldMany q_st)) (rest := []) C w (mX8_guardsBehind l D cI cL cS cH _ x2 x3 hc2) (va_cwS 2 C.2.2.2.2 gX8_cleanBehind_X8_guardsBehind rfl rfl rfl (by decide +kernel) ⟨Nat.le_of_ble_eq_true rfl, Nat.le_of_ble_eq_true rfl⟩) [] [0, 1] 2 trivial trivial ⟨⟨_, rfl, rfl⟩, ⟨_, rfl, rfl⟩, trivial⟩ rfl (by decide) (by decide) rfl hl.1 rfl (lv_room (Nat.le_of_ble_eq_true rfl)) dX8_cleanBehind_2 ⟨Nat.zero_le _, Nat.zero_le _⟩ (fun H locs w => ?_)
  refine lv_istore (lv' := [(4, .int r1), (0, .ref a_this), (1, .int x1), (2, .int x2), (3, .int x3)]) C.1 C.2.1 dX8_cleanBehind_5 hl (by decide) rfl (fun ls hl => ?_)
  refine lv_aload_n C.1 C.2.1 dX8_cleanBehind_7 rfl (lv_at hl 1 rfl) ?_
  refine lv_iload_n C.1 C.2.1 dX8_cleanBehind_8 rfl (lv_at hl 2 rfl) ?_
  refine lv_iload C.1 C.2.1 dX8_cleanBehind_9 (lv_at hl 0 rfl) ?_
  refine lv_ior C.1 C.2.1 dX8_cleanBehind_11 ?_
  refine lv_iload C.1 C.2.1 dX8_cleanBehind_12 (lv_at hl 0 rfl) ?_
  obtain ⟨r3, hc4, hf⟩ := bd hf
  refine call_Vi (ws' := (wX8_cleanBehind cI cL cS cH a_this a_this_st a_this_past a_this_image a_this_imagePast a_this_tape a_this_laneOf a_this_sizeOf a_this_items a_this_code a_this_from a_this_by a_this_far a_this_met a_this_told q_acts q_imageActs q_tapeMany q_many q_round q_readAt q_isFault q_toldMany q_st)) (rest := []) C w (mX8_fouled l D cI cL cS cH _ a_this a_this_st a_this_past a_this_image a_this_imagePast a_this_tape a_this_laneOf a_this_sizeOf a_this_items a_this_code a_this_from a_this_by a_this_far a_this_met a_this_told q_acts q_imageActs q_tapeMany q_many q_round q_readAt q_isFault q_toldMany q_st (x1 ||| r1) r1 hc4) (cwV 2 C.2.2.2.2 gX8_cleanBehind_X8_fouled rfl rfl rfl (by decide +kernel) ⟨Nat.le_of_ble_eq_true rfl, Nat.le_of_ble_eq_true rfl⟩) [0, 1] [] 2 ⟨rfl, rfl, trivial⟩ ⟨rfl, rfl, trivial⟩ trivial rfl (by decide) (by decide) (ci := 8) (q0 := 0) rfl rfl rfl hl.1 rfl (lv_room (Nat.le_of_ble_eq_true rfl)) dX8_cleanBehind_14 ⟨Nat.zero_le _, Nat.zero_le _⟩ (fun H locs w => ?_)
  have hres := Option.some.inj hf
  subst hres
  exact ret_i C hr hlocks w rfl dX8_cleanBehind_17

set_option maxRecDepth 100000 in
theorem inX8_lostBy_X8 : ∀ w ∈ u_ws RX8 TX8 22, w ∈ wsX8_lostBy := by decide +kernel
set_option maxRecDepth 100000 in
theorem lkX8_lostBy_7 : Cond.fieldLink RX8 7 "CleanNetsModel" "st" "[I" ∈ wsX8_lostBy := by decide +kernel
abbrev wX8_lostBy (cI cL cS cH : ClassId) (a_this : Nat) (a_this_st : Nat) (a_this_past : Nat) (a_this_image : Nat) (a_this_imagePast : Nat) (a_this_tape : Nat) (a_this_laneOf : Nat) (a_this_sizeOf : Nat) (a_this_items : Nat) (a_this_code : Nat) (a_this_from : Nat) (a_this_by : Nat) (a_this_far : Nat) (a_this_met : Nat) (a_this_told : Nat) (q_acts : Int32) (q_imageActs : Int32) (q_tapeMany : Int32) (q_many : Int32) (q_round : Int32) (q_readAt : Int32) (q_isFault : Int32) (q_toldMany : Int32) (q_st : Nat → Int32) : va_W := [(a_this, .inr (8, [.ref a_this_st, .ref a_this_past, .int q_acts, .ref a_this_image, .ref a_this_imagePast, .int q_imageActs, .ref a_this_tape, .int q_tapeMany, .ref a_this_laneOf, .ref a_this_sizeOf, .ref a_this_items, .ref a_this_code, .ref a_this_from, .ref a_this_by, .ref a_this_far, .int q_many, .ref a_this_met, .int q_round, .int q_readAt, .int q_isFault, .int q_toldMany, .ref a_this_told])),
  (a_this_st, .inl (cI, 13, .inl q_st))]
def fX8_lostBy (q_st : Nat → Int32) (x1 : Int32) : Option (Int32) := Option.bind (rd q_st 13 (8 : Int32)) (fun y1 => Option.bind (rd q_st 13 (8 : Int32)) (fun y3 => Option.bind (rd q_st 13 (9 : Int32)) (fun y5 => Option.bind (fX8_cleanBehind q_st y3 y5 x1) (fun r7 => Option.bind (fX8_sizeIn (y1 &&& (r7 ^^^ (-1 : Int32)))) (fun r9 => some r9)))))
set_option maxHeartbeats 4000000 in
set_option maxRecDepth 100000 in
theorem mX8_lostBy (l : Launch) (D : vg) (cI cL cS cH : ClassId) (sz : Nat) (a_this : Nat) (a_this_st : Nat) (a_this_past : Nat) (a_this_image : Nat) (a_this_imagePast : Nat) (a_this_tape : Nat) (a_this_laneOf : Nat) (a_this_sizeOf : Nat) (a_this_items : Nat) (a_this_code : Nat) (a_this_from : Nat) (a_this_by : Nat) (a_this_far : Nat) (a_this_met : Nat) (a_this_told : Nat) (q_acts : Int32) (q_imageActs : Int32) (q_tapeMany : Int32) (q_many : Int32) (q_round : Int32) (q_readAt : Int32) (q_isFault : Int32) (q_toldMany : Int32) (q_st : Nat → Int32) (x1 : Int32) {res : Int32} (hf : fX8_lostBy q_st x1 = some res) : cti l yX8_lostBy wsX8_lostBy ({ frames := 4, cells := 0, slots := 0, locals := 92 }) D (ty4 cI cL cS cH) sz [.ref a_this, .int x1] (wX8_lostBy cI cL cS cH a_this a_this_st a_this_past a_this_image a_this_imagePast a_this_tape a_this_laneOf a_this_sizeOf a_this_items a_this_code a_this_from a_this_by a_this_far a_this_met a_this_told q_acts q_imageActs q_tapeMany q_many q_round q_readAt q_isFault q_toldMany q_st) (wX8_lostBy cI cL cS cH a_this a_this_st a_this_past a_this_image a_this_imagePast a_this_tape a_this_laneOf a_this_sizeOf a_this_items a_this_code a_this_from a_this_by a_this_far a_this_met a_this_told q_acts q_imageActs q_tapeMany q_many q_round q_readAt q_isFault q_toldMany q_st) res := by
  refine Met.ofW (cc := cX8_lostBy) (maxL := 2) (ret := (some .int)) (by decide) rfl ?_
  intro p e s m args below meth c s₁ B hml hv
  obtain ⟨rfl, hpre⟩ := hv
  obtain rfl := hpre.1
  have C : CallFix p m c cX8_lostBy 2 s _ wsX8_lostBy RX8 := ⟨B.exec, B.bytes, hml, findClass_of_methodNamed B.named, atoms_spec (ws := wsX8_lostBy) B.pre⟩
  have hr := B.returns
  have hlocks := B.notSynchronized
  have w := wd_start hpre
  clear hpre B
  have hl := lv_entry ([.ref a_this, .int x1]) (n := 2) (Nat.le_of_ble_eq_true rfl)
  rw [lg_entry_eq]
  generalize (lg_sl ([.ref a_this, .int x1]) ++ List.replicate (2 - (lg_sl ([.ref a_this, .int x1])).length) Slot.unset).toArray = ls at hl ⊢
  have hl : lv_has ls 2 [(0, .ref a_this), (1, .int x1)] := hl
  unfold fX8_lostBy at hf
  refine lv_aload_n C.1 C.2.1 dX8_lostBy_0 rfl (lv_at hl 0 rfl) ?_
  refine r_get C w inX8_lostBy_X8 0 rfl rfl 0 (by decide) lkX8_lostBy_7 rfl dX8_lostBy_1 ?_
  refine lv_bipush (v := (8 : Int32)) C.1 C.2.1 dX8_lostBy_4 (by decide) ?_
  obtain ⟨y1, hy2, hf⟩ := bd hf
  refine r_iald C w 1 0 rfl rfl (rd_in hy2) dX8_lostBy_6 ?_
  refine lv_aload_n C.1 C.2.1 dX8_lostBy_7 rfl (lv_at hl 0 rfl) ?_
  refine lv_aload_n C.1 C.2.1 dX8_lostBy_8 rfl (lv_at hl 0 rfl) ?_
  refine r_get C w inX8_lostBy_X8 0 rfl rfl 0 (by decide) lkX8_lostBy_7 rfl dX8_lostBy_9 ?_
  refine lv_bipush (v := (8 : Int32)) C.1 C.2.1 dX8_lostBy_12 (by decide) ?_
  obtain ⟨y3, hy4, hf⟩ := bd hf
  refine r_iald C w 1 0 rfl rfl (rd_in hy4) dX8_lostBy_14 ?_
  refine lv_aload_n C.1 C.2.1 dX8_lostBy_15 rfl (lv_at hl 0 rfl) ?_
  refine r_get C w inX8_lostBy_X8 0 rfl rfl 0 (by decide) lkX8_lostBy_7 rfl dX8_lostBy_16 ?_
  refine lv_bipush (v := (9 : Int32)) C.1 C.2.1 dX8_lostBy_19 (by decide) ?_
  obtain ⟨y5, hy6, hf⟩ := bd hf
  refine r_iald C w 1 0 rfl rfl (rd_in hy6) dX8_lostBy_21 ?_
  refine lv_iload_n C.1 C.2.1 dX8_lostBy_22 rfl (lv_at hl 1 rfl) ?_
  obtain ⟨r7, hc8, hf⟩ := bd hf
  refine call_Vi (ws' := (wX8_lostBy cI cL cS cH a_this a_this_st a_this_past a_this_image a_this_imagePast a_this_tape a_this_laneOf a_this_sizeOf a_this_items a_this_code a_this_from a_this_by a_this_far a_this_met a_this_told q_acts q_imageActs q_tapeMany q_many q_round q_readAt q_isFault q_toldMany q_st)) (rest := [.int y1]) C w (mX8_cleanBehind l D cI cL cS cH _ a_this a_this_st a_this_past a_this_image a_this_imagePast a_this_tape a_this_laneOf a_this_sizeOf a_this_items a_this_code a_this_from a_this_by a_this_far a_this_met a_this_told q_acts q_imageActs q_tapeMany q_many q_round q_readAt q_isFault q_toldMany q_st y3 y5 x1 hc8) (cwV 3 C.2.2.2.2 gX8_lostBy_X8_cleanBehind rfl rfl rfl (by decide +kernel) ⟨Nat.le_of_ble_eq_true rfl, Nat.le_of_ble_eq_true rfl⟩) [0, 1] [] 2 ⟨rfl, rfl, trivial⟩ ⟨rfl, rfl, trivial⟩ trivial rfl (by decide) (by decide) (ci := 8) (q0 := 0) rfl rfl rfl hl.1 rfl (lv_room (Nat.le_of_ble_eq_true rfl)) dX8_lostBy_23 ⟨Nat.zero_le _, Nat.zero_le _⟩ (fun H locs w => ?_)
  refine lv_iconst (v := (-1 : Int32)) C.1 C.2.1 dX8_lostBy_26 (by decide) ?_
  refine lv_ixor C.1 C.2.1 dX8_lostBy_27 ?_
  refine lv_iand C.1 C.2.1 dX8_lostBy_28 ?_
  obtain ⟨r9, hc10, hf⟩ := bd hf
  refine call_Si (ws' := (wX8_lostBy cI cL cS cH a_this a_this_st a_this_past a_this_image a_this_imagePast a_this_tape a_this_laneOf a_this_sizeOf a_this_items a_this_code a_this_from a_this_by a_this_far a_this_met a_this_told q_acts q_imageActs q_tapeMany q_many q_round q_readAt q_isFault q_toldMany q_st)) (rest := []) C w (mX8_sizeIn l D cI cL cS cH _ (y1 &&& (r7 ^^^ (-1 : Int32))) hc10) (va_cwS 1 C.2.2.2.2 gX8_lostBy_X8_sizeIn rfl rfl rfl (by decide +kernel) ⟨Nat.le_of_ble_eq_true rfl, Nat.le_of_ble_eq_true rfl⟩) [] [0, 1] 2 trivial trivial ⟨⟨_, rfl, rfl⟩, ⟨_, rfl, rfl⟩, trivial⟩ rfl (by decide) (by decide) rfl hl.1 rfl (lv_room (Nat.le_of_ble_eq_true rfl)) dX8_lostBy_29 ⟨Nat.zero_le _, Nat.zero_le _⟩ (fun H locs w => ?_)
  have hres := Option.some.inj hf
  subst hres
  exact ret_i C hr hlocks w rfl dX8_lostBy_32
