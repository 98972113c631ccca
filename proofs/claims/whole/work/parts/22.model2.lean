set_option maxRecDepth 100000 in
theorem inX8_would_X8 : ∀ w ∈ u_ws RX8 TX8 22, w ∈ wsX8_would := by decide +kernel
set_option maxRecDepth 100000 in
theorem lkX8_would_7 : Cond.fieldLink RX8 7 "CleanNetsModel" "st" "[I" ∈ wsX8_would := by decide +kernel
abbrev wX8_would (cI cL cS cH : ClassId) (a_this : Nat) (a_this_st : Nat) (a_this_past : Nat) (a_this_image : Nat) (a_this_imagePast : Nat) (a_this_tape : Nat) (a_this_laneOf : Nat) (a_this_sizeOf : Nat) (a_this_items : Nat) (a_this_code : Nat) (a_this_from : Nat) (a_this_by : Nat) (a_this_far : Nat) (a_this_met : Nat) (a_this_told : Nat) (q_acts : Int32) (q_imageActs : Int32) (q_tapeMany : Int32) (q_many : Int32) (q_round : Int32) (q_readAt : Int32) (q_isFault : Int32) (q_toldMany : Int32) (q_st : Nat → Int32) : va_W := [(a_this, .inr (8, [.ref a_this_st, .ref a_this_past, .int q_acts, .ref a_this_image, .ref a_this_imagePast, .int q_imageActs, .ref a_this_tape, .int q_tapeMany, .ref a_this_laneOf, .ref a_this_sizeOf, .ref a_this_items, .ref a_this_code, .ref a_this_from, .ref a_this_by, .ref a_this_far, .int q_many, .ref a_this_met, .int q_round, .int q_readAt, .int q_isFault, .int q_toldMany, .ref a_this_told])),
  (a_this_st, .inl (cI, 13, .inl q_st))]
def fX8_would (q_st : Nat → Int32) (x1 : Int32) : Option (Int32) := Option.bind (fX8_isAct q_st ((x1).toInt64)) (fun r1 => (if r1 = 0 then some (-1 : Int32) else Option.bind (rd q_st 13 (10 : Int32)) (fun y4 => Option.bind (rd q_st 13 (11 : Int32)) (fun y6 => Option.bind (rd q_st 13 (9 : Int32)) (fun y8 => Option.bind (fX8_against q_st y4 y6 y8 x1) (fun r10 => (if r10 = 0 then Option.bind (fX8_lostBy q_st x1) (fun r13 => some r13) else some r10)))))))
set_option maxHeartbeats 4000000 in
set_option maxRecDepth 100000 in
theorem mX8_would (l : Launch) (D : vg) (cI cL cS cH : ClassId) (sz : Nat) (a_this : Nat) (a_this_st : Nat) (a_this_past : Nat) (a_this_image : Nat) (a_this_imagePast : Nat) (a_this_tape : Nat) (a_this_laneOf : Nat) (a_this_sizeOf : Nat) (a_this_items : Nat) (a_this_code : Nat) (a_this_from : Nat) (a_this_by : Nat) (a_this_far : Nat) (a_this_met : Nat) (a_this_told : Nat) (q_acts : Int32) (q_imageActs : Int32) (q_tapeMany : Int32) (q_many : Int32) (q_round : Int32) (q_readAt : Int32) (q_isFault : Int32) (q_toldMany : Int32) (q_st : Nat → Int32) (x1 : Int32) {res : Int32} (hf : fX8_would q_st x1 = some res) : cti l yX8_would wsX8_would ({ frames := 5, cells := 0, slots := 0, locals := 113 }) D (ty4 cI cL cS cH) sz [.ref a_this, .int x1] (wX8_would cI cL cS cH a_this a_this_st a_this_past a_this_image a_this_imagePast a_this_tape a_this_laneOf a_this_sizeOf a_this_items a_this_code a_this_from a_this_by a_this_far a_this_met a_this_told q_acts q_imageActs q_tapeMany q_many q_round q_readAt q_isFault q_toldMany q_st) (wX8_would cI cL cS cH a_this a_this_st a_this_past a_this_image a_this_imagePast a_this_tape a_this_laneOf a_this_sizeOf a_this_items a_this_code a_this_from a_this_by a_this_far a_this_met a_this_told q_acts q_imageActs q_tapeMany q_many q_round q_readAt q_isFault q_toldMany q_st) res := by
  refine Met.ofW (cc := cX8_would) (maxL := 3) (ret := (some .int)) (by decide) rfl ?_
  intro p e s m args below meth c s₁ B hml hv
  obtain ⟨rfl, hpre⟩ := hv
  obtain rfl := hpre.1
  have C : CallFix p m c cX8_would 3 s _ wsX8_would RX8 := ⟨B.exec, B.bytes, hml, findClass_of_methodNamed B.named, atoms_spec (ws := wsX8_would) B.pre⟩
  have hr := B.returns
  have hlocks := B.notSynchronized
  have w := wd_start hpre
  clear hpre B
  have hl := lv_entry ([.ref a_this, .int x1]) (n := 3) (Nat.le_of_ble_eq_true rfl)
  rw [lg_entry_eq]
  generalize (lg_sl ([.ref a_this, .int x1]) ++ List.replicate (3 - (lg_sl ([.ref a_this, .int x1])).length) Slot.unset).toArray = ls at hl ⊢
  have hl : lv_has ls 3 [(0, .ref a_this), (1, .int x1)] := hl
  unfold fX8_would at hf
  refine lv_aload_n C.1 C.2.1 dX8_would_0 rfl (lv_at hl 0 rfl) ?_
  refine lv_iload_n C.1 C.2.1 dX8_would_1 rfl (lv_at hl 1 rfl) ?_
  refine lv_i2l C.1 C.2.1 dX8_would_2 rfl ?_
  obtain ⟨r1, hc2, hf⟩ := bd hf
  refine call_Vi (ws' := (wX8_would cI cL cS cH a_this a_this_st a_this_past a_this_image a_this_imagePast a_this_tape a_this_laneOf a_this_sizeOf a_this_items a_this_code a_this_from a_this_by a_this_far a_this_met a_this_told q_acts q_imageActs q_tapeMany q_many q_round q_readAt q_isFault q_toldMany q_st)) (rest := []) C w (mX8_isAct l D cI cL cS cH _ a_this a_this_st a_this_past a_this_image a_this_imagePast a_this_tape a_this_laneOf a_this_sizeOf a_this_items a_this_code a_this_from a_this_by a_this_far a_this_met a_this_told q_acts q_imageActs q_tapeMany q_many q_round q_readAt q_isFault q_toldMany q_st ((x1).toInt64) hc2) (cwV 1 C.2.2.2.2 gX8_would_X8_isAct rfl rfl rfl (by decide +kernel) ⟨Nat.le_of_ble_eq_true rfl, Nat.le_of_ble_eq_true rfl⟩) [0, 1] [] 2 ⟨rfl, rfl, trivial⟩ ⟨rfl, rfl, trivial⟩ trivial rfl (by decide) (by decide) (ci := 8) (q0 := 0) rfl rfl rfl hl.1 rfl (lv_room (Nat.le_of_ble_eq_true rfl)) dX8_would_3 ⟨Nat.zero_le _, Nat.zero_le _⟩ (fun H locs w => ?_)
  refine lv_if_ne (tgt := 11) C.1 C.2.1 dX8_would_6 (by decide) (fun hq3 => ?_) (fun hq3 => ?_)
  · have hf := ite_f hf hq3
    refine lv_aload_n C.1 C.2.1 dX8_would_11 rfl (lv_at hl 0 rfl) ?_
    refine lv_aload_n C.1 C.2.1 dX8_would_12 rfl (lv_at hl 0 rfl) ?_
    refine r_get C w inX8_would_X8 0 rfl rfl 0 (by decide) lkX8_would_7 rfl dX8_would_13 ?_
    refine lv_bipush (v := (10 : Int32)) C.1 C.2.1 dX8_would_16 (by decide) ?_
    obtain ⟨y4, hy5, hf⟩ := bd hf
    refine r_iald C w 1 0 rfl rfl (rd_in hy5) dX8_would_18 ?_
    refine lv_aload_n C.1 C.2.1 dX8_would_19 rfl (lv_at hl 0 rfl) ?_
    refine r_get C w inX8_would_X8 0 rfl rfl 0 (by decide) lkX8_would_7 rfl dX8_would_20 ?_
    refine lv_bipush (v := (11 : Int32)) C.1 C.2.1 dX8_would_23 (by decide) ?_
    obtain ⟨y6, hy7, hf⟩ := bd hf
    refine r_iald C w 1 0 rfl rfl (rd_in hy7) dX8_would_25 ?_
    refine lv_aload_n C.1 C.2.1 dX8_would_26 rfl (lv_at hl 0 rfl) ?_
    refine r_get C w inX8_would_X8 0 rfl rfl 0 (by decide) lkX8_would_7 rfl dX8_would_27 ?_
    refine lv_bipush (v := (9 : Int32)) C.1 C.2.1 dX8_would_30 (by decide) ?_
    obtain ⟨y8, hy9, hf⟩ := bd hf
    refine r_iald C w 1 0 rfl rfl (rd_in hy9) dX8_would_32 ?_
    refine lv_iload_n C.1 C.2.1 dX8_would_33 rfl (lv_at hl 1 rfl) ?_
    obtain ⟨r10, hc11, hf⟩ := bd hf
    refine call_Vi (ws' := (wX8_would cI cL cS cH a_this a_this_st a_this_past a_this_image a_this_imagePast a_this_tape a_this_laneOf a_this_sizeOf a_this_items a_this_code a_this_from a_this_by a_this_far a_this_met a_this_told q_acts q_imageActs q_tapeMany q_many q_round q_readAt q_isFault q_toldMany q_st)) (rest := []) C w (mX8_against l D cI cL cS cH _ a_this a_this_st a_this_past a_this_image a_this_imagePast a_this_tape a_this_laneOf a_this_sizeOf a_this_items a_this_code a_this_from a_this_by a_this_far a_this_met a_this_told q_acts q_imageActs q_tapeMany q_many q_round q_readAt q_isFault q_toldMany q_st y4 y6 y8 x1 hc11) (cwV 4 C.2.2.2.2 gX8_would_X8_against rfl rfl rfl (by decide +kernel) ⟨Nat.le_of_ble_eq_true rfl, Nat.le_of_ble_eq_true rfl⟩) [0, 1] [] 2 ⟨rfl, rfl, trivial⟩ ⟨rfl, rfl, trivial⟩ trivial rfl (by decide) (by decide) (ci := 8) (q0 := 0) rfl rfl rfl hl.1 rfl (lv_room (Nat.le_of_ble_eq_true rfl)) dX8_would_34 ⟨Nat.zero_le _, Nat.zero_le _⟩ (fun H locs w => ?_)
    refine lv_istore_n (lv' := [(2, .int r10), (0, .ref a_this), (1, .int x1)]) C.1 C.2.1 dX8_would_37 rfl hl (by decide) rfl (fun ls hl => ?_)
    refine lv_iload_n C.1 C.2.1 dX8_would_38 rfl (lv_at hl 0 rfl) ?_
    refine lv_if_eq (tgt := 46) C.1 C.2.1 dX8_would_39 (by decide) (fun hq12 => ?_) (fun hq12 => ?_)
    · have hf := ite_t hf hq12
      refine lv_aload_n C.1 C.2.1 dX8_would_46 rfl (lv_at hl 1 rfl) ?_
      refine lv_iload_n C.1 C.2.1 dX8_would_47 rfl (lv_at hl 2 rfl) ?_
      obtain ⟨r13, hc14, hf⟩ := bd hf
      refine call_Vi (ws' := (wX8_would cI cL cS cH a_this a_this_st a_this_past a_this_image a_this_imagePast a_this_tape a_this_laneOf a_this_sizeOf a_this_items a_this_code a_this_from a_this_by a_this_far a_this_met a_this_told q_acts q_imageActs q_tapeMany q_many q_round q_readAt q_isFault q_toldMany q_st)) (rest := []) C w (mX8_lostBy l D cI cL cS cH _ a_this a_this_st a_this_past a_this_image a_this_imagePast a_this_tape a_this_laneOf a_this_sizeOf a_this_items a_this_code a_this_from a_this_by a_this_far a_this_met a_this_told q_acts q_imageActs q_tapeMany q_many q_round q_readAt q_isFault q_toldMany q_st x1 hc14) (cwV 1 C.2.2.2.2 gX8_would_X8_lostBy rfl rfl rfl (by decide +kernel) ⟨Nat.le_of_ble_eq_true rfl, Nat.le_of_ble_eq_true rfl⟩) [0, 1] [] 2 ⟨rfl, rfl, trivial⟩ ⟨rfl, rfl, trivial⟩ trivial rfl (by decide) (by decide) (ci := 8) (q0 := 0) rfl rfl rfl hl.1 rfl (lv_room (Nat.le_of_ble_eq_true rfl)) dX8_would_48 ⟨Nat.zero_le _, Nat.zero_le _⟩ (fun H locs w => ?_)
      have hres := Option.some.inj hf
      subst hres
      exact ret_i C hr hlocks w rfl dX8_would_51
    · have hf := ite_f hf hq12
      refine lv_iload_n C.1 C.2.1 dX8_would_42 rfl (lv_at hl 0 rfl) ?_
      refine lv_goto (tgt := 51) C.1 C.2.1 dX8_would_43 (by decide) ?_
      have hres := Option.some.inj hf
      subst hres
      exact ret_i C hr hlocks w rfl dX8_would_51
  · have hf := ite_t hf hq3
    refine lv_iconst (v := (-1 : Int32)) C.1 C.2.1 dX8_would_9 (by decide) ?_
    have hres := Option.some.inj hf
    subst hres
    exact ret_i C hr hlocks w rfl dX8_would_10

set_option maxRecDepth 100000 in
theorem inX8_meets_X8 : ∀ w ∈ u_ws RX8 TX8 22, w ∈ wsX8_meets := by decide +kernel
set_option maxRecDepth 100000 in
theorem lkX8_meets_137 : Cond.fieldLink RX8 137 "CleanNetsModel" "many" "I" ∈ wsX8_meets := by decide +kernel
set_option maxRecDepth 100000 in
theorem lkX8_meets_51 : Cond.fieldLink RX8 51 "CleanNetsModel" "met" "[I" ∈ wsX8_meets := by decide +kernel
set_option maxRecDepth 100000 in
theorem lkX8_meets_134 : Cond.fieldLink RX8 134 "CleanNetsModel" "round" "I" ∈ wsX8_meets := by decide +kernel
set_option maxRecDepth 100000 in
theorem lkX8_meets_39 : Cond.fieldLink RX8 39 "CleanNetsModel" "code" "[I" ∈ wsX8_meets := by decide +kernel
set_option maxRecDepth 100000 in
theorem lkX8_meets_42 : Cond.fieldLink RX8 42 "CleanNetsModel" "from" "[I" ∈ wsX8_meets := by decide +kernel
set_option maxRecDepth 100000 in
theorem lkX8_meets_45 : Cond.fieldLink RX8 45 "CleanNetsModel" "by" "[I" ∈ wsX8_meets := by decide +kernel
set_option maxRecDepth 100000 in
theorem lkX8_meets_48 : Cond.fieldLink RX8 48 "CleanNetsModel" "far" "[I" ∈ wsX8_meets := by decide +kernel
abbrev wX8_meets (cI cL cS cH : ClassId) (a_this : Nat) (a_this_st : Nat) (a_this_past : Nat) (a_this_image : Nat) (a_this_imagePast : Nat) (a_this_tape : Nat) (a_this_laneOf : Nat) (a_this_sizeOf : Nat) (a_this_items : Nat) (a_this_code : Nat) (a_this_from : Nat) (a_this_by : Nat) (a_this_far : Nat) (a_this_met : Nat) (a_this_told : Nat) (q_acts : Int32) (q_imageActs : Int32) (q_tapeMany : Int32) (q_many : Int32) (q_round : Int32) (q_readAt : Int32) (q_isFault : Int32) (q_toldMany : Int32) (q_by : Nat → Int32) (q_code : Nat → Int32) (q_far : Nat → Int32) (q_from : Nat → Int32) (q_met : Nat → Int32) : va_W := [(a_this, .inr (8, [.ref a_this_st, .ref a_this_past, .int q_acts, .ref a_this_image, .ref a_this_imagePast, .int q_imageActs, .ref a_this_tape, .int q_tapeMany, .ref a_this_laneOf, .ref a_this_sizeOf, .ref a_this_items, .ref a_this_code, .ref a_this_from, .ref a_this_by, .ref a_this_far, .int q_many, .ref a_this_met, .int q_round, .int q_readAt, .int q_isFault, .int q_toldMany, .ref a_this_told])),
  (a_this_by, .inl (cI, 2187, .inl q_by)),
  (a_this_code, .inl (cI, 2187, .inl q_code)),
  (a_this_far, .inl (cI, 2187, .inl q_far)),
  (a_this_from, .inl (cI, 2187, .inl q_from)),
  (a_this_met, .inl (cI, 16384, .inl q_met))]
def jX8_meets_77 (q_round : Int32) (z77_0 : Int32) (z77_1 : Int32) (k77_q_many : Int32) (k77_q_by : Nat → Int32) (k77_q_code : Nat → Int32) (k77_q_far : Nat → Int32) (k77_q_from : Nat → Int32) (k77_q_met : Nat → Int32) : Option (Int32 × (Nat → Int32) × (Nat → Int32) × (Nat → Int32) × (Nat → Int32) × (Nat → Int32)) := Option.bind (wi k77_q_far 2187 z77_1 z77_0) (fun g1 => some ((k77_q_many + (1 : Int32)), k77_q_by, k77_q_code, g1, k77_q_from, k77_q_met))
def fX8_meets (q_many : Int32) (q_round : Int32) (q_by : Nat → Int32) (q_code : Nat → Int32) (q_far : Nat → Int32) (q_from : Nat → Int32) (q_met : Nat → Int32) (x1 : Int32) (x2 : Int32) (x3 : Int32) : Option (Int32 × (Nat → Int32) × (Nat → Int32) × (Nat → Int32) × (Nat → Int32) × (Nat → Int32)) := Option.bind (rd q_met 16384 x1) (fun y3 => (if y3 = q_round then some (q_many, q_by, q_code, q_far, q_from, q_met) else Option.bind (wi q_met 16384 x1 q_round) (fun g6 => Option.bind (wi q_code 2187 q_many x1) (fun g8 => Option.bind (wi q_from 2187 q_many x2) (fun g10 => Option.bind (wi q_by 2187 q_many x3) (fun g12 => (if 0 ≤ x2 then Option.bind (rd q_far 2187 x2) (fun y15 => jX8_meets_77 q_round (y15 + (1 : Int32)) q_many q_many g12 g8 q_far g10 g6) else jX8_meets_77 q_round (0 : Int32) q_many q_many g12 g8 q_far g10 g6)))))))
abbrev gX8_meets (p : Program) (l : Launch) (e : Env) (s : State) (m : MethodId) (below : List Frame) (meth : Method) (c : Code) (D : vg) (cI cL cS cH : ClassId) (a_this : Nat) (a_this_st : Nat) (a_this_past : Nat) (a_this_image : Nat) (a_this_imagePast : Nat) (a_this_tape : Nat) (a_this_laneOf : Nat) (a_this_sizeOf : Nat) (a_this_items : Nat) (a_this_code : Nat) (a_this_from : Nat) (a_this_by : Nat) (a_this_far : Nat) (a_this_met : Nat) (a_this_told : Nat) (q_acts : Int32) (q_imageActs : Int32) (q_tapeMany : Int32) (q_many : Int32) (q_round : Int32) (q_readAt : Int32) (q_isFault : Int32) (q_toldMany : Int32) (q_by : Nat → Int32) (q_code : Nat → Int32) (q_far : Nat → Int32) (q_from : Nat → Int32) (q_met : Nat → Int32) (x1 : Int32) (x2 : Int32) (x3 : Int32) (res : Int32 × (Nat → Int32) × (Nat → Int32) × (Nat → Int32) × (Nat → Int32) × (Nat → Int32)) (H : Heap) (locs : List Loc) (g : JFrame) : Prop := W p l e (headSpec wsX8_meets ({ frames := 0, cells := 0, slots := 0, locals := 0 })).room s m ([.ref a_this, .int x1, .int x2, .int x3] : List Value).toArray below meth c H locs 0 0 (MQ below (va_Qv (fun (_ : Unit) => True) (fun _ t => pos1 D s.heap.size (wX8_meets cI cL cS cH a_this a_this_st a_this_past a_this_image a_this_imagePast a_this_tape a_this_laneOf a_this_sizeOf a_this_items a_this_code a_this_from a_this_by a_this_far a_this_met a_this_told q_acts q_imageActs q_tapeMany q_many q_round q_readAt q_isFault q_toldMany q_by q_code q_far q_from q_met) (wX8_meets cI cL cS cH a_this a_this_st a_this_past a_this_image a_this_imagePast a_this_tape a_this_laneOf a_this_sizeOf a_this_items a_this_code a_this_from a_this_by a_this_far a_this_met a_this_told q_acts q_imageActs q_tapeMany res.1 q_round q_readAt q_isFault q_toldMany res.2.1 res.2.2.1 res.2.2.2.1 res.2.2.2.2.1 res.2.2.2.2.2) t) (va_A (wX8_meets cI cL cS cH a_this a_this_st a_this_past a_this_image a_this_imagePast a_this_tape a_this_laneOf a_this_sizeOf a_this_items a_this_code a_this_from a_this_by a_this_far a_this_met a_this_told q_acts q_imageActs q_tapeMany q_many q_round q_readAt q_isFault q_toldMany q_by q_code q_far q_from q_met) s.heap.size)) ([.ref a_this, .int x1, .int x2, .int x3] : List Value).toArray s 0 0 (va_A (wX8_meets cI cL cS cH a_this a_this_st a_this_past a_this_image a_this_imagePast a_this_tape a_this_laneOf a_this_sizeOf a_this_items a_this_code a_this_from a_this_by a_this_far a_this_met a_this_told q_acts q_imageActs q_tapeMany q_many q_round q_readAt q_isFault q_toldMany q_by q_code q_far q_from q_met) s.heap.size)) g
set_option maxHeartbeats 4000000 in
set_option maxRecDepth 100000 in
theorem mX8_meets (l : Launch) (D : vg) (cI cL cS cH : ClassId) (sz : Nat) (a_this : Nat) (a_this_st : Nat) (a_this_past : Nat) (a_this_image : Nat) (a_this_imagePast : Nat) (a_this_tape : Nat) (a_this_laneOf : Nat) (a_this_sizeOf : Nat) (a_this_items : Nat) (a_this_code : Nat) (a_this_from : Nat) (a_this_by : Nat) (a_this_far : Nat) (a_this_met : Nat) (a_this_told : Nat) (q_acts : Int32) (q_imageActs : Int32) (q_tapeMany : Int32) (q_many : Int32) (q_round : Int32) (q_readAt : Int32) (q_isFault : Int32) (q_toldMany : Int32) (q_by : Nat → Int32) (q_code : Nat → Int32) (q_far : Nat → Int32) (q_from : Nat → Int32) (q_met : Nat → Int32) (x1 : Int32) (x2 : Int32) (x3 : Int32) {res : Int32 × (Nat → Int32) × (Nat → Int32) × (Nat → Int32) × (Nat → Int32) × (Nat → Int32)} (hf : fX8_meets q_many q_round q_by q_code q_far q_from q_met x1 x2 x3 = some res) : ctv l yX8_meets wsX8_meets ({ frames := 0, cells := 0, slots := 0, locals := 0 }) D (ty4 cI cL cS cH) sz [.ref a_this, .int x1, .int x2, .int x3] (wX8_meets cI cL cS cH a_this a_this_st a_this_past a_this_image a_this_imagePast a_this_tape a_this_laneOf a_this_sizeOf a_this_items a_this_code a_this_from a_this_by a_this_far a_this_met a_this_told q_acts q_imageActs q_tapeMany q_many q_round q_readAt q_isFault q_toldMany q_by q_code q_far q_from q_met) (wX8_meets cI cL cS cH a_this a_this_st a_this_past a_this_image a_this_imagePast a_this_tape a_this_laneOf a_this_sizeOf a_this_items a_this_code a_this_from a_this_by a_this_far a_this_met a_this_told q_acts q_imageActs q_tapeMany res.1 q_round q_readAt q_isFault q_toldMany res.2.1 res.2.2.1 res.2.2.2.1 res.2.2.2.2.1 res.2.2.2.2.2) := by
  refine Met.ofW (cc := cX8_meets) (maxL := 4) (ret := none) (by decide) rfl ?_
  intro p e s m args below meth c s₁ B hml hv
  obtain ⟨rfl, hpre⟩ := hv
  obtain rfl := hpre.1
  have C : CallFix p m c cX8_meets 4 s _ wsX8_meets RX8 := ⟨B.exec, B.bytes, hml, findClass_of_methodNamed B.named, atoms_spec (ws := wsX8_meets) B.pre⟩
  have hr := B.returns
  have hlocks := B.notSynchronized
  have w := wd_start hpre
  clear hpre B
  have hl := lv_entry ([.ref a_this, .int x1, .int x2, .int x3]) (n := 4) (Nat.le_of_ble_eq_true rfl)
  rw [lg_entry_eq]
  generalize (lg_sl ([.ref a_this, .int x1, .int x2, .int x3]) ++ List.replicate (4 - (lg_sl ([.ref a_this, .int x1, .int x2, .int x3])).length) Slot.unset).toArray = ls at hl ⊢
  have hl : lv_has ls 4 [(0, .ref a_this), (1, .int x1), (2, .int x2), (3, .int x3)] := hl
  unfold fX8_meets at hf
  have hj77 : ∀ (z77_0 : Int32) (z77_1 : Int32) (k77_q_many : Int32) (k77_q_by : Nat → Int32) (k77_q_code : Nat → Int32) (k77_q_far : Nat → Int32) (k77_q_from : Nat → Int32) (k77_q_met : Nat → Int32) (H : Heap) (locs : List Loc) (ls : Array Slot), wd D (ty4 cI cL cS cH) s (va_A (wX8_meets cI cL cS cH a_this a_this_st a_this_past a_this_image a_this_imagePast a_this_tape a_this_laneOf a_this_sizeOf a_this_items a_this_code a_this_from a_this_by a_this_far a_this_met a_this_told q_acts q_imageActs q_tapeMany q_many q_round q_readAt q_isFault q_toldMany q_by q_code q_far q_from q_met) s.heap.size) s.heap H locs (wX8_meets cI cL cS cH a_this a_this_st a_this_past a_this_image a_this_imagePast a_this_tape a_this_laneOf a_this_sizeOf a_this_items a_this_code a_this_from a_this_by a_this_far a_this_met a_this_told q_acts q_imageActs q_tapeMany k77_q_many q_round q_readAt q_isFault q_toldMany k77_q_by k77_q_code k77_q_far k77_q_from k77_q_met) → lv_has ls 4 [(0, .ref a_this)] → jX8_meets_77 q_round z77_0 z77_1 k77_q_many k77_q_by k77_q_code k77_q_far k77_q_from k77_q_met = some res → gX8_meets p l e s m below meth c D cI cL cS cH a_this a_this_st a_this_past a_this_image a_this_imagePast a_this_tape a_this_laneOf a_this_sizeOf a_this_items a_this_code a_this_from a_this_by a_this_far a_this_met a_this_told q_acts q_imageActs q_tapeMany q_many q_round q_readAt q_isFault q_toldMany q_by q_code q_far q_from q_met x1 x2 x3 res H locs (F0 m 77 ls [.int z77_0, .int z77_1, .ref a_this_far]) := by
    intro z77_0 z77_1 k77_q_many k77_q_by k77_q_code k77_q_far k77_q_from k77_q_met H locs ls w hl hf
    unfold jX8_meets_77 at hf
    obtain ⟨g1, hg2, hf⟩ := bd hf
    refine r_iast (ws' := (wX8_meets cI cL cS cH a_this a_this_st a_this_past a_this_image a_this_imagePast a_this_tape a_this_laneOf a_this_sizeOf a_this_items a_this_code a_this_from a_this_by a_this_far a_this_met a_this_told q_acts q_imageActs q_tapeMany k77_q_many q_round q_readAt q_isFault q_toldMany k77_q_by k77_q_code g1 k77_q_from k77_q_met)) C w 3 0 rfl rfl (wi_in hg2) rfl dX8_meets_77 (fun H locs w => ?_)
    refine lv_aload_n C.1 C.2.1 dX8_meets_78 rfl (lv_at hl 0 rfl) ?_
    refine lv_dup C.1 C.2.1 dX8_meets_79 rfl ?_
    refine r_get C w inX8_meets_X8 0 rfl rfl 15 (by decide) lkX8_meets_137 rfl dX8_meets_80 ?_
    refine lv_iconst (v := (1 : Int32)) C.1 C.2.1 dX8_meets_83 (by decide) ?_
    refine lv_iadd C.1 C.2.1 dX8_meets_84 ?_
    refine r_put (ws' := (wX8_meets cI cL cS cH a_this a_this_st a_this_past a_this_image a_this_imagePast a_this_tape a_this_laneOf a_this_sizeOf a_this_items a_this_code a_this_from a_this_by a_this_far a_this_met a_this_told q_acts q_imageActs q_tapeMany (k77_q_many + (1 : Int32)) q_round q_readAt q_isFault q_toldMany k77_q_by k77_q_code g1 k77_q_from k77_q_met)) C w inX8_meets_X8 tyX8 tyX8_ok nmX8 0 rfl rfl 15 (by decide) lkX8_meets_137 rfl rfl rfl (Nat.le_of_ble_eq_true rfl) rfl dX8_meets_85 (fun H locs w => ?_)
    have hres := Option.some.inj hf
    subst hres
    exact ret_v C hr hlocks w dX8_meets_88
  refine lv_aload_n C.1 C.2.1 dX8_meets_0 rfl (lv_at hl 0 rfl) ?_
  refine r_get C w inX8_meets_X8 0 rfl rfl 16 (by decide) lkX8_meets_51 rfl dX8_meets_1 ?_
  refine lv_iload_n C.1 C.2.1 dX8_meets_4 rfl (lv_at hl 1 rfl) ?_
  obtain ⟨y3, hy4, hf⟩ := bd hf
  refine r_iald C w 5 0 rfl rfl (rd_in hy4) dX8_meets_5 ?_
  refine lv_aload_n C.1 C.2.1 dX8_meets_6 rfl (lv_at hl 0 rfl) ?_
  refine r_get C w inX8_meets_X8 0 rfl rfl 17 (by decide) lkX8_meets_134 rfl dX8_meets_7 ?_
  refine lv_icmp_eq (tgt := 88) C.1 C.2.1 dX8_meets_10 (by decide) (fun hq5 => ?_) (fun hq5 => ?_)
  · have hf := ite_t hf hq5
    have hres := Option.some.inj hf
    subst hres
    exact ret_v C hr hlocks w dX8_meets_88
  · have hf := ite_f hf hq5
    refine lv_aload_n C.1 C.2.1 dX8_meets_13 rfl (lv_at hl 0 rfl) ?_
    refine r_get C w inX8_meets_X8 0 rfl rfl 16 (by decide) lkX8_meets_51 rfl dX8_meets_14 ?_
    refine lv_iload_n C.1 C.2.1 dX8_meets_17 rfl (lv_at hl 1 rfl) ?_
    refine lv_aload_n C.1 C.2.1 dX8_meets_18 rfl (lv_at hl 0 rfl) ?_
    refine r_get C w inX8_meets_X8 0 rfl rfl 17 (by decide) lkX8_meets_134 rfl dX8_meets_19 ?_
    obtain ⟨g6, hg7, hf⟩ := bd hf
    refine r_iast (ws' := (wX8_meets cI cL cS cH a_this a_this_st a_this_past a_this_image a_this_imagePast a_this_tape a_this_laneOf a_this_sizeOf a_this_items a_this_code a_this_from a_this_by a_this_far a_this_met a_this_told q_acts q_imageActs q_tapeMany q_many q_round q_readAt q_isFault q_toldMany q_by q_code q_far q_from g6)) C w 5 0 rfl rfl (wi_in hg7) rfl dX8_meets_22 (fun H locs w => ?_)
    refine lv_aload_n C.1 C.2.1 dX8_meets_23 rfl (lv_at hl 0 rfl) ?_
    refine r_get C w inX8_meets_X8 0 rfl rfl 11 (by decide) lkX8_meets_39 rfl dX8_meets_24 ?_
    refine lv_aload_n C.1 C.2.1 dX8_meets_27 rfl (lv_at hl 0 rfl) ?_
    refine r_get C w inX8_meets_X8 0 rfl rfl 15 (by decide) lkX8_meets_137 rfl dX8_meets_28 ?_
    refine lv_iload_n C.1 C.2.1 dX8_meets_31 rfl (lv_at hl 1 rfl) ?_
    obtain ⟨g8, hg9, hf⟩ := bd hf
    refine r_iast (ws' := (wX8_meets cI cL cS cH a_this a_this_st a_this_past a_this_image a_this_imagePast a_this_tape a_this_laneOf a_this_sizeOf a_this_items a_this_code a_this_from a_this_by a_this_far a_this_met a_this_told q_acts q_imageActs q_tapeMany q_many q_round q_readAt q_isFault q_toldMany q_by g8 q_far q_from g6)) C w 2 0 rfl rfl (wi_in hg9) rfl dX8_meets_32 (fun H locs w => ?_)
    refine lv_aload_n C.1 C.2.1 dX8_meets_33 rfl (lv_at hl 0 rfl) ?_
    refine r_get C w inX8_meets_X8 0 rfl rfl 12 (by decide) lkX8_meets_42 rfl dX8_meets_34 ?_
    refine lv_aload_n C.1 C.2.1 dX8_meets_37 rfl (lv_at hl 0 rfl) ?_
    refine r_get C w inX8_meets_X8 0 rfl rfl 15 (by decide) lkX8_meets_137 rfl dX8_meets_38 ?_
    refine lv_iload_n C.1 C.2.1 dX8_meets_41 rfl (lv_at hl 2 rfl) ?_
    obtain ⟨g10, hg11, hf⟩ := bd hf
    refine r_iast (ws' := (wX8_meets cI cL cS cH a_this a_this_st a_this_past a_this_image a_this_imagePast a_this_tape a_this_laneOf a_this_sizeOf a_this_items a_this_code a_this_from a_this_by a_this_far a_this_met a_this_told q_acts q_imageActs q_tapeMany q_many q_round q_readAt q_isFault q_toldMany q_by g8 q_far g10 g6)) C w 4 0 rfl rfl (wi_in hg11) rfl dX8_meets_42 (fun H locs w => ?_)
    refine lv_aload_n C.1 C.2.1 dX8_meets_43 rfl (lv_at hl 0 rfl) ?_
    refine r_get C w inX8_meets_X8 0 rfl rfl 13 (by decide) lkX8_meets_45 rfl dX8_meets_44 ?_
    refine lv_aload_n C.1 C.2.1 dX8_meets_47 rfl (lv_at hl 0 rfl) ?_
    refine r_get C w inX8_meets_X8 0 rfl rfl 15 (by decide) lkX8_meets_137 rfl dX8_meets_48 ?_
    refine lv_iload_n C.1 C.2.1 dX8_meets_51 rfl (lv_at hl 3 rfl) ?_
    obtain ⟨g12, hg13, hf⟩ := bd hf
    refine r_iast (ws' := (wX8_meets cI cL cS cH a_this a_this_st a_this_past a_this_image a_this_imagePast a_this_tape a_this_laneOf a_this_sizeOf a_this_items a_this_code a_this_from a_this_by a_this_far a_this_met a_this_told q_acts q_imageActs q_tapeMany q_many q_round q_readAt q_isFault q_toldMany g12 g8 q_far g10 g6)) C w 1 0 rfl rfl (wi_in hg13) rfl dX8_meets_52 (fun H locs w => ?_)
    refine lv_aload_n C.1 C.2.1 dX8_meets_53 rfl (lv_at hl 0 rfl) ?_
    refine r_get C w inX8_meets_X8 0 rfl rfl 14 (by decide) lkX8_meets_48 rfl dX8_meets_54 ?_
    refine lv_aload_n C.1 C.2.1 dX8_meets_57 rfl (lv_at hl 0 rfl) ?_
    refine r_get C w inX8_meets_X8 0 rfl rfl 15 (by decide) lkX8_meets_137 rfl dX8_meets_58 ?_
    refine lv_iload_n C.1 C.2.1 dX8_meets_61 rfl (lv_at hl 2 rfl) ?_
    refine lv_if_ge (tgt := 69) C.1 C.2.1 dX8_meets_62 (by decide) (fun hq14 => ?_) (fun hq14 => ?_)
    · have hf := ite_t hf hq14
      refine lv_aload_n C.1 C.2.1 dX8_meets_69 rfl (lv_at hl 0 rfl) ?_
      refine r_get C w inX8_meets_X8 0 rfl rfl 14 (by decide) lkX8_meets_48 rfl dX8_meets_70 ?_
      refine lv_iload_n C.1 C.2.1 dX8_meets_73 rfl (lv_at hl 2 rfl) ?_
      obtain ⟨y15, hy16, hf⟩ := bd hf
      refine r_iald C w 3 0 rfl rfl (rd_in hy16) dX8_meets_74 ?_
      refine lv_iconst (v := (1 : Int32)) C.1 C.2.1 dX8_meets_75 (by decide) ?_
      refine lv_iadd C.1 C.2.1 dX8_meets_76 ?_
      exact hj77 (y15 + (1 : Int32)) q_many q_many g12 g8 q_far g10 g6 _ _ _ w (lv_sub hl [0] rfl) hf
    · have hf := ite_f hf hq14
      refine lv_iconst (v := (0 : Int32)) C.1 C.2.1 dX8_meets_65 (by decide) ?_
      refine lv_goto (tgt := 77) C.1 C.2.1 dX8_meets_66 (by decide) ?_
      exact hj77 (0 : Int32) q_many q_many g12 g8 q_far g10 g6 _ _ _ w (lv_sub hl [0] rfl) hf

set_option maxRecDepth 100000 in
theorem inX8_goesOn_X8 : ∀ w ∈ u_ws RX8 TX8 22, w ∈ wsX8_goesOn := by decide +kernel
set_option maxRecDepth 100000 in
theorem lkX8_goesOn_39 : Cond.fieldLink RX8 39 "CleanNetsModel" "code" "[I" ∈ wsX8_goesOn := by decide +kernel
abbrev wX8_goesOn (cI cL cS cH : ClassId) (a_this : Nat) (a_this_st : Nat) (a_this_past : Nat) (a_this_image : Nat) (a_this_imagePast : Nat) (a_this_tape : Nat) (a_this_laneOf : Nat) (a_this_sizeOf : Nat) (a_this_items : Nat) (a_this_code : Nat) (a_this_from : Nat) (a_this_by : Nat) (a_this_far : Nat) (a_this_met : Nat) (a_this_told : Nat) (q_acts : Int32) (q_imageActs : Int32) (q_tapeMany : Int32) (q_many : Int32) (q_round : Int32) (q_readAt : Int32) (q_isFault : Int32) (q_toldMany : Int32) (q_by : Nat → Int32) (q_code : Nat → Int32) (q_far : Nat → Int32) (q_from : Nat → Int32) (q_met : Nat → Int32) (q_st : Nat → Int32) : va_W := [(a_this, .inr (8, [.ref a_this_st, .ref a_this_past, .int q_acts, .ref a_this_image, .ref a_this_imagePast, .int q_imageActs, .ref a_this_tape, .int q_tapeMany, .ref a_this_laneOf, .ref a_this_sizeOf, .ref a_this_items, .ref a_this_code, .ref a_this_from, .ref a_this_by, .ref a_this_far, .int q_many, .ref a_this_met, .int q_round, .int q_readAt, .int q_isFault, .int q_toldMany, .ref a_this_told])),
  (a_this_by, .inl (cI, 2187, .inl q_by)),
  (a_this_code, .inl (cI, 2187, .inl q_code)),
  (a_this_far, .inl (cI, 2187, .inl q_far)),
  (a_this_from, .inl (cI, 2187, .inl q_from)),
  (a_this_met, .inl (cI, 16384, .inl q_met)),
  (a_this_st, .inl (cI, 13, .inl q_st))]
def jX8_goesOn_64 (q_round : Int32) (q_st : Nat → Int32) (x1 : Int32) (x5 : Int32) (y64_7 : Int32) (y64_8 : Int32) (k64_q_many : Int32) (k64_q_by : Nat → Int32) (k64_q_code : Nat → Int32) (k64_q_far : Nat → Int32) (k64_q_from : Nat → Int32) (k64_q_met : Nat → Int32) : Option (Int32 × (Nat → Int32) × (Nat → Int32) × (Nat → Int32) × (Nat → Int32) × (Nat → Int32)) := Option.bind (fX8_guardsBehind y64_7 x5) (fun r1 => Option.bind (fX8_meets k64_q_many q_round k64_q_by k64_q_code k64_q_far k64_q_from k64_q_met (y64_8 + ((128 : Int32) * r1)) x1 x5) (fun r3 => some (r3.1, r3.2.1, r3.2.2.1, r3.2.2.2.1, r3.2.2.2.2.1, r3.2.2.2.2.2)))
def fX8_goesOn (q_many : Int32) (q_round : Int32) (q_by : Nat → Int32) (q_code : Nat → Int32) (q_far : Nat → Int32) (q_from : Nat → Int32) (q_met : Nat → Int32) (q_st : Nat → Int32) (x1 : Int32) (x2 : Int32) (x3 : Int32) (x4 : Int32) (x5 : Int32) : Option (Int32 × (Nat → Int32) × (Nat → Int32) × (Nat → Int32) × (Nat → Int32) × (Nat → Int32)) := Option.bind (rd q_code 2187 x1) (fun y5 => bnd (y5 - y5 / (128 : Int32) * (128 : Int32)) (fun y7 => Option.bind (rd q_code 2187 x1) (fun y9 => Option.bind (fX8_against q_st x2 x3 (y9 / (128 : Int32)) x5) (fun r11 => (if r11 = 0 then Option.bind (fX8_cleanBehind q_st y7 (y9 / (128 : Int32)) x5) (fun r14 => (if x4 = 0 then jX8_goesOn_64 q_round q_st x1 x5 (y9 / (128 : Int32)) r14 q_many q_by q_code q_far q_from q_met else (if (y7 &&& (r14 ^^^ (-1 : Int32))) = 0 then jX8_goesOn_64 q_round q_st x1 x5 (y9 / (128 : Int32)) r14 q_many q_by q_code q_far q_from q_met else some (q_many, q_by, q_code, q_far, q_from, q_met)))) else some (q_many, q_by, q_code, q_far, q_from, q_met))))))
abbrev gX8_goesOn (p : Program) (l : Launch) (e : Env) (s : State) (m : MethodId) (below : List Frame) (meth : Method) (c : Code) (D : vg) (cI cL cS cH : ClassId) (a_this : Nat) (a_this_st : Nat) (a_this_past : Nat) (a_this_image : Nat) (a_this_imagePast : Nat) (a_this_tape : Nat) (a_this_laneOf : Nat) (a_this_sizeOf : Nat) (a_this_items : Nat) (a_this_code : Nat) (a_this_from : Nat) (a_this_by : Nat) (a_this_far : Nat) (a_this_met : Nat) (a_this_told : Nat) (q_acts : Int32) (q_imageActs : Int32) (q_tapeMany : Int32) (q_many : Int32) (q_round : Int32) (q_readAt : Int32) (q_isFault : Int32) (q_toldMany : Int32) (q_by : Nat → Int32) (q_code : Nat → Int32) (q_far : Nat → Int32) (q_from : Nat → Int32) (q_met : Nat → Int32) (q_st : Nat → Int32) (x1 : Int32) (x2 : Int32) (x3 : Int32) (x4 : Int32) (x5 : Int32) (res : Int32 × (Nat → Int32) × (Nat → Int32) × (Nat → Int32) × (Nat → Int32) × (Nat → Int32)) (H : Heap) (locs : List Loc) (g : JFrame) : Prop := W p l e (headSpec wsX8_goesOn ({ frames := 4, cells := 0, slots := 0, locals := 92 })).room s m ([.ref a_this, .int x1, .int x2, .int x3, .int x4, .int x5] : List Value).toArray below meth c H locs 0 0 (MQ below (va_Qv (fun (_ : Unit) => True) (fun _ t => pos1 D s.heap.size (wX8_goesOn cI cL cS cH a_this a_this_st a_this_past a_this_image a_this_imagePast a_this_tape a_this_laneOf a_this_sizeOf a_this_items a_this_code a_this_from a_this_by a_this_far a_this_met a_this_told q_acts q_imageActs q_tapeMany q_many q_round q_readAt q_isFault q_toldMany q_by q_code q_far q_from q_met q_st) (wX8_goesOn cI cL cS cH a_this a_this_st a_this_past a_this_image a_this_imagePast a_this_tape a_this_laneOf a_this_sizeOf a_this_items a_this_code a_this_from a_this_by a_this_far a_this_met a_this_told q_acts q_imageActs q_tapeMany res.1 q_round q_readAt q_isFault q_toldMany res.2.1 res.2.2.1 res.2.2.2.1 res.2.2.2.2.1 res.2.2.2.2.2 q_st) t) (va_A (wX8_goesOn cI cL cS cH a_this a_this_st a_this_past a_this_image a_this_imagePast a_this_tape a_this_laneOf a_this_sizeOf a_this_items a_this_code a_this_from a_this_by a_this_far a_this_met a_this_told q_acts q_imageActs q_tapeMany q_many q_round q_readAt q_isFault q_toldMany q_by q_code q_far q_from q_met q_st) s.heap.size)) ([.ref a_this, .int x1, .int x2, .int x3, .int x4, .int x5] : List Value).toArray s 0 0 (va_A (wX8_goesOn cI cL cS cH a_this a_this_st a_this_past a_this_image a_this_imagePast a_this_tape a_this_laneOf a_this_sizeOf a_this_items a_this_code a_this_from a_this_by a_this_far a_this_met a_this_told q_acts q_imageActs q_tapeMany q_many q_round q_readAt q_isFault q_toldMany q_by q_code q_far q_from q_met q_st) s.heap.size)) g
set_option maxHeartbeats 4000000 in
set_option maxRecDepth 100000 in
theorem mX8_goesOn (l : Launch) (D : vg) (cI cL cS cH : ClassId) (sz : Nat) (a_this : Nat) (a_this_st : Nat) (a_this_past : Nat) (a_this_image : Nat) (a_this_imagePast : Nat) (a_this_tape : Nat) (a_this_laneOf : Nat) (a_this_sizeOf : Nat) (a_this_items : Nat) (a_this_code : Nat) (a_this_from : Nat) (a_this_by : Nat) (a_this_far : Nat) (a_this_met : Nat) (a_this_told : Nat) (q_acts : Int32) (q_imageActs : Int32) (q_tapeMany : Int32) (q_many : Int32) (q_round : Int32) (q_readAt : Int32) (q_isFault : Int32) (q_toldMany : Int32) (q_by : Nat → Int32) (q_code : Nat → Int32) (q_far : Nat → Int32) (q_from : Nat → Int32) (q_met : Nat → Int32) (q_st : Nat → Int32) (x1 : Int32) (x2 : Int32) (x3 : Int32) (x4 : Int32) (x5 : Int32) {res : Int32 × (Nat → Int32) × (Nat → Int32) × (Nat → Int32) × (Nat → Int32) × (Nat → Int32)} (hf : fX8_goesOn q_many q_round q_by q_code q_far q_from q_met q_st x1 x2 x3 x4 x5 = some res) : ctv l yX8_goesOn wsX8_goesOn ({ frames := 4, cells := 0, slots := 0, locals := 92 }) D (ty4 cI cL cS cH) sz [.ref a_this, .int x1, .int x2, .int x3, .int x4, .int x5] (wX8_goesOn cI cL cS cH a_this a_this_st a_this_past a_this_image a_this_imagePast a_this_tape a_this_laneOf a_this_sizeOf a_this_items a_this_code a_this_from a_this_by a_this_far a_this_met a_this_told q_acts q_imageActs q_tapeMany q_many q_round q_readAt q_isFault q_toldMany q_by q_code q_far q_from q_met q_st) (wX8_goesOn cI cL cS cH a_this a_this_st a_this_past a_this_image a_this_imagePast a_this_tape a_this_laneOf a_this_sizeOf a_this_items a_this_code a_this_from a_this_by a_this_far a_this_met a_this_told q_acts q_imageActs q_tapeMany res.1 q_round q_readAt q_isFault q_toldMany res.2.1 res.2.2.1 res.2.2.2.1 res.2.2.2.2.1 res.2.2.2.2.2 q_st) := by
  refine Met.ofW (cc := cX8_goesOn) (maxL := 9) (ret := none) (by decide) rfl ?_
  intro p e s m args below meth c s₁ B hml hv
  obtain ⟨rfl, hpre⟩ := hv
  obtain rfl := hpre.1
  have C : CallFix p m c cX8_goesOn 9 s _ wsX8_goesOn RX8 := ⟨B.exec, B.bytes, hml, findClass_of_methodNamed B.named, atoms_spec (ws := wsX8_goesOn) B.pre⟩
  have hr := B.returns
  have hlocks := B.notSynchronized
  have w := wd_start hpre
  clear hpre B
  have hl := lv_entry ([.ref a_this, .int x1, .int x2, .int x3, .int x4, .int x5]) (n := 9) (Nat.le_of_ble_eq_true rfl)
  rw [lg_entry_eq]
  generalize (lg_sl ([.ref a_this, .int x1, .int x2, .int x3, .int x4, .int x5]) ++ List.replicate (9 - (lg_sl ([.ref a_this, .int x1, .int x2, .int x3, .int x4, .int x5])).length) Slot.unset).toArray = ls at hl ⊢
  have hl : lv_has ls 9 [(0, .ref a_this), (1, .int x1), (2, .int x2), (3, .int x3), (4, .int x4), (5, .int x5)] := hl
  unfold fX8_goesOn at hf
  have hj64 : ∀ (y64_7 : Int32) (y64_8 : Int32) (k64_q_many : Int32) (k64_q_by : Nat → Int32) (k64_q_code : Nat → Int32) (k64_q_far : Nat → Int32) (k64_q_from : Nat → Int32) (k64_q_met : Nat → Int32) (H : Heap) (locs : List Loc) (ls : Array Slot), wd D (ty4 cI cL cS cH) s (va_A (wX8_goesOn cI cL cS cH a_this a_this_st a_this_past a_this_image a_this_imagePast a_this_tape a_this_laneOf a_this_sizeOf a_this_items a_this_code a_this_from a_this_by a_this_far a_this_met a_this_told q_acts q_imageActs q_tapeMany q_many q_round q_readAt q_isFault q_toldMany q_by q_code q_far q_from q_met q_st) s.heap.size) s.heap H locs (wX8_goesOn cI cL cS cH a_this a_this_st a_this_past a_this_image a_this_imagePast a_this_tape a_this_laneOf a_this_sizeOf a_this_items a_this_code a_this_from a_this_by a_this_far a_this_met a_this_told q_acts q_imageActs q_tapeMany k64_q_many q_round q_readAt q_isFault q_toldMany k64_q_by k64_q_code k64_q_far k64_q_from k64_q_met q_st) → lv_has ls 9 [(0, .ref a_this), (1, .int x1), (5, .int x5), (7, .int y64_7), (8, .int y64_8)] → jX8_goesOn_64 q_round q_st x1 x5 y64_7 y64_8 k64_q_many k64_q_by k64_q_code k64_q_far k64_q_from k64_q_met = some res → gX8_goesOn p l e s m below meth c D cI cL cS cH a_this a_this_st a_this_past a_this_image a_this_imagePast a_this_tape a_this_laneOf a_this_sizeOf a_this_items a_this_code a_this_from a_this_by a_this_far a_this_met a_this_told q_acts q_imageActs q_tapeMany q_many q_round q_readAt q_isFault q_toldMany q_by q_code q_far q_from q_met q_st x1 x2 x3 x4 x5 res H locs (F0 m 64 ls []) := by
    intro y64_7 y64_8 k64_q_many k64_q_by k64_q_code k64_q_far k64_q_from k64_q_met H locs ls w hl hf
    unfold jX8_goesOn_64 at hf
    refine lv_aload_n C.1 C.2.1 dX8_goesOn_64 rfl (lv_at hl 0 rfl) ?_
    refine lv_iload C.1 C.2.1 dX8_goesOn_65 (lv_at hl 4 rfl) ?_
    refine lv_sipush (v := (128 : Int32)) C.1 C.2.1 dX8_goesOn_67 (by decide) ?_
    refine lv_iload C.1 C.2.1 dX8_goesOn_70 (lv_at hl 3 rfl) ?_
    refine lv_iload C.1 C.2.1 dX8_goesOn_72 (lv_at hl 2 rfl) ?_
    obtain ⟨r1, hc2, hf⟩ := bd hf
    refine call_Si (ws' := (wX8_goesOn cI cL cS cH a_this a_this_st a_this_past a_this_image a_this_imagePast a_this_tape a_this_laneOf a_this_sizeOf a_this_items a_this_code a_this_from a_this_by a_this_far a_this_met a_this_told q_acts q_imageActs q_tapeMany k64_q_many q_round q_readAt q_isFault q_toldMany k64_q_by k64_q_code k64_q_far k64_q_from k64_q_met q_st)) (rest := [.int (128 : Int32), .int y64_8, .ref a_this]) C w (mX8_guardsBehind l D cI cL cS cH _ y64_7 x5 hc2) (va_cwS 2 C.2.2.2.2 gX8_goesOn_X8_guardsBehind rfl rfl rfl (by decide +kernel) ⟨Nat.le_of_ble_eq_true rfl, Nat.le_of_ble_eq_true rfl⟩) [] [0, 1, 2, 3, 4, 5, 6] 7 trivial trivial ⟨⟨_, rfl, rfl⟩, ⟨_, rfl, rfl⟩, ⟨_, rfl, rfl⟩, ⟨_, rfl, rfl⟩, ⟨_, rfl, rfl⟩, ⟨_, rfl, rfl⟩, ⟨_, rfl, rfl⟩, trivial⟩ rfl (by decide) (by decide) rfl hl.1 rfl (lv_room (Nat.le_of_ble_eq_true rfl)) dX8_goesOn_74 ⟨Nat.zero_le _, Nat.zero_le _⟩ (fun H locs w => ?_)
    refine lv_imul C.1 C.2.1 dX8_goesOn_77 ?_
    refine lv_iadd C.1 C.2.1 dX8_goesOn_78 ?_
    refine lv_iload_n C.1 C.2.1 dX8_goesOn_79 rfl (lv_at hl 1 rfl) ?_
    refine lv_iload C.1 C.2.1 dX8_goesOn_80 (lv_at hl 2 rfl) ?_
    obtain ⟨r3, hc4, hf⟩ := bd hf
    refine call_Vv (ws' := (wX8_goesOn cI cL cS cH a_this a_this_st a_this_past a_this_image a_this_imagePast a_this_tape a_this_laneOf a_this_sizeOf a_this_items a_this_code a_this_from a_this_by a_this_far a_this_met a_this_told q_acts q_imageActs q_tapeMany r3.1 q_round q_readAt q_isFault q_toldMany r3.2.1 r3.2.2.1 r3.2.2.2.1 r3.2.2.2.2.1 r3.2.2.2.2.2 q_st)) (rest := []) C w (mX8_meets l D cI cL cS cH _ a_this a_this_st a_this_past a_this_image a_this_imagePast a_this_tape a_this_laneOf a_this_sizeOf a_this_items a_this_code a_this_from a_this_by a_this_far a_this_met a_this_told q_acts q_imageActs q_tapeMany k64_q_many q_round q_readAt q_isFault q_toldMany k64_q_by k64_q_code k64_q_far k64_q_from k64_q_met (y64_8 + ((128 : Int32) * r1)) x1 x5 hc4) (cwV 3 C.2.2.2.2 gX8_goesOn_X8_meets rfl rfl rfl (by decide +kernel) ⟨Nat.le_of_ble_eq_true rfl, Nat.le_of_ble_eq_true rfl⟩) [0, 1, 2, 3, 4, 5] [6] 7 ⟨rfl, rfl, rfl, rfl, rfl, rfl, trivial⟩ ⟨rfl, rfl, rfl, rfl, rfl, rfl, trivial⟩ ⟨⟨_, rfl, rfl⟩, trivial⟩ rfl (by decide) (by decide) (ci := 8) (q0 := 0) rfl rfl rfl hl.1 rfl (lv_room (Nat.le_of_ble_eq_true rfl)) dX8_goesOn_82 ⟨Nat.zero_le _, Nat.zero_le _⟩ (fun H locs w => ?_)
    have hres := Option.some.inj hf
    subst hres
    exact ret_v C hr hlocks w dX8_goesOn_85
  refine lv_aload_n C.1 C.2.1 dX8_goesOn_0 rfl (lv_at hl 0 rfl) ?_
  refine r_get C w inX8_goesOn_X8 0 rfl rfl 11 (by decide) lkX8_goesOn_39 rfl dX8_goesOn_1 ?_
  refine lv_iload_n C.1 C.2.1 dX8_goesOn_4 rfl (lv_at hl 1 rfl) ?_
  obtain ⟨y5, hy6, hf⟩ := bd hf
  refine r_iald C w 2 0 rfl rfl (rd_in hy6) dX8_goesOn_5 ?_
  refine lv_sipush (v := (128 : Int32)) C.1 C.2.1 dX8_goesOn_6 (by decide) ?_
  refine lv_irem C.1 C.2.1 dX8_goesOn_9 (by decide) ?_
  obtain ⟨y7, hy8, hf⟩ := bnd_e hf
  refine lt_topi hy8 ?_
  refine lv_istore (lv' := [(6, .int y7), (0, .ref a_this), (1, .int x1), (2, .int x2), (3, .int x3), (4, .int x4), (5, .int x5)]) C.1 C.2.1 dX8_goesOn_10 hl (by decide) rfl (fun ls hl => ?_)
  refine lv_aload_n C.1 C.2.1 dX8_goesOn_12 rfl (lv_at hl 1 rfl) ?_
  refine r_get C w inX8_goesOn_X8 0 rfl rfl 11 (by decide) lkX8_goesOn_39 rfl dX8_goesOn_13 ?_
  refine lv_iload_n C.1 C.2.1 dX8_goesOn_16 rfl (lv_at hl 2 rfl) ?_
  obtain ⟨y9, hy10, hf⟩ := bd hf
  refine r_iald C w 2 0 rfl rfl (rd_in hy10) dX8_goesOn_17 ?_
  refine lv_sipush (v := (128 : Int32)) C.1 C.2.1 dX8_goesOn_18 (by decide) ?_
  refine lv_idiv C.1 C.2.1 dX8_goesOn_21 (by decide) ?_
  refine lv_istore (lv' := [(7, .int (y9 / (128 : Int32))), (6, .int y7), (0, .ref a_this), (1, .int x1), (2, .int x2), (3, .int x3), (4, .int x4), (5, .int x5)]) C.1 C.2.1 dX8_goesOn_22 hl (by decide) rfl (fun ls hl => ?_)
  refine lv_aload_n C.1 C.2.1 dX8_goesOn_24 rfl (lv_at hl 2 rfl) ?_
  refine lv_iload_n C.1 C.2.1 dX8_goesOn_25 rfl (lv_at hl 4 rfl) ?_
  refine lv_iload_n C.1 C.2.1 dX8_goesOn_26 rfl (lv_at hl 5 rfl) ?_
  refine lv_iload C.1 C.2.1 dX8_goesOn_27 (lv_at hl 0 rfl) ?_
  refine lv_iload C.1 C.2.1 dX8_goesOn_29 (lv_at hl 7 rfl) ?_
  obtain ⟨r11, hc12, hf⟩ := bd hf
  refine call_Vi (ws' := (wX8_goesOn cI cL cS cH a_this a_this_st a_this_past a_this_image a_this_imagePast a_this_tape a_this_laneOf a_this_sizeOf a_this_items a_this_code a_this_from a_this_by a_this_far a_this_met a_this_told q_acts q_imageActs q_tapeMany q_many q_round q_readAt q_isFault q_toldMany q_by q_code q_far q_from q_met q_st)) (rest := []) C w (mX8_against l D cI cL cS cH _ a_this a_this_st a_this_past a_this_image a_this_imagePast a_this_tape a_this_laneOf a_this_sizeOf a_this_items a_this_code a_this_from a_this_by a_this_far a_this_met a_this_told q_acts q_imageActs q_tapeMany q_many q_round q_readAt q_isFault q_toldMany q_st x2 x3 (y9 / (128 : Int32)) x5 hc12) (cwV 4 C.2.2.2.2 gX8_goesOn_X8_against rfl rfl rfl (by decide +kernel) ⟨Nat.le_of_ble_eq_true rfl, Nat.le_of_ble_eq_true rfl⟩) [0, 6] [1, 2, 3, 4, 5] 7 ⟨rfl, rfl, trivial⟩ ⟨rfl, rfl, trivial⟩ ⟨⟨_, rfl, rfl⟩, ⟨_, rfl, rfl⟩, ⟨_, rfl, rfl⟩, ⟨_, rfl, rfl⟩, ⟨_, rfl, rfl⟩, trivial⟩ rfl (by decide) (by decide) (ci := 8) (q0 := 0) rfl rfl rfl hl.1 rfl (lv_room (Nat.le_of_ble_eq_true rfl)) dX8_goesOn_31 ⟨Nat.zero_le _, Nat.zero_le _⟩ (fun H locs w => ?_)
  refine lv_if_ne (tgt := 85) C.1 C.2.1 dX8_goesOn_34 (by decide) (fun hq13 => ?_) (fun hq13 => ?_)
  · have hf := ite_f hf hq13
    have hres := Option.some.inj hf
    subst hres
    exact ret_v C hr hlocks w dX8_goesOn_85
  · have hf := ite_t hf hq13
    refine lv_aload_n C.1 C.2.1 dX8_goesOn_37 rfl (lv_at hl 2 rfl) ?_
    refine lv_iload C.1 C.2.1 dX8_goesOn_38 (lv_at hl 1 rfl) ?_
    refine lv_iload C.1 C.2.1 dX8_goesOn_40 (lv_at hl 0 rfl) ?_
    refine lv_iload C.1 C.2.1 dX8_goesOn_42 (lv_at hl 7 rfl) ?_
    obtain ⟨r14, hc15, hf⟩ := bd hf
    refine call_Vi (ws' := (wX8_goesOn cI cL cS cH a_this a_this_st a_this_past a_this_image a_this_imagePast a_this_tape a_this_laneOf a_this_sizeOf a_this_items a_this_code a_this_from a_this_by a_this_far a_this_met a_this_told q_acts q_imageActs q_tapeMany q_many q_round q_readAt q_isFault q_toldMany q_by q_code q_far q_from q_met q_st)) (rest := []) C w (mX8_cleanBehind l D cI cL cS cH _ a_this a_this_st a_this_past a_this_image a_this_imagePast a_this_tape a_this_laneOf a_this_sizeOf a_this_items a_this_code a_this_from a_this_by a_this_far a_this_met a_this_told q_acts q_imageActs q_tapeMany q_many q_round q_readAt q_isFault q_toldMany q_st y7 (y9 / (128 : Int32)) x5 hc15) (cwV 3 C.2.2.2.2 gX8_goesOn_X8_cleanBehind rfl rfl rfl (by decide +kernel) ⟨Nat.le_of_ble_eq_true rfl, Nat.le_of_ble_eq_true rfl⟩) [0, 6] [1, 2, 3, 4, 5] 7 ⟨rfl, rfl, trivial⟩ ⟨rfl, rfl, trivial⟩ ⟨⟨_, rfl, rfl⟩, ⟨_, rfl, rfl⟩, ⟨_, rfl, rfl⟩, ⟨_, rfl, rfl⟩, ⟨_, rfl, rfl⟩, trivial⟩ rfl (by decide) (by decide) (ci := 8) (q0 := 0) rfl rfl rfl hl.1 rfl (lv_room (Nat.le_of_ble_eq_true rfl)) dX8_goesOn_44 ⟨Nat.zero_le _, Nat.zero_le _⟩ (fun H locs w => ?_)
    refine lv_istore (lv' := [(8, .int r14), (7, .int (y9 / (128 : Int32))), (6, .int y7), (0, .ref a_this), (1, .int x1), (2, .int x2), (3, .int x3), (4, .int x4), (5, .int x5)]) C.1 C.2.1 dX8_goesOn_47 hl (by decide) rfl (fun ls hl => ?_)
    refine lv_iload C.1 C.2.1 dX8_goesOn_49 (lv_at hl 7 rfl) ?_
    refine lv_if_eq (tgt := 64) C.1 C.2.1 dX8_goesOn_51 (by decide) (fun hq16 => ?_) (fun hq16 => ?_)
    · have hf := ite_t hf hq16
      exact hj64 (y9 / (128 : Int32)) r14 q_many q_by q_code q_far q_from q_met _ _ _ w (lv_sub hl [3, 4, 8, 1, 0] rfl) hf
    · have hf := ite_f hf hq16
      refine lv_iload C.1 C.2.1 dX8_goesOn_54 (lv_at hl 2 rfl) ?_
      refine lv_iload C.1 C.2.1 dX8_goesOn_56 (lv_at hl 0 rfl) ?_
      refine lv_iconst (v := (-1 : Int32)) C.1 C.2.1 dX8_goesOn_58 (by decide) ?_
      refine lv_ixor C.1 C.2.1 dX8_goesOn_59 ?_
      refine lv_iand C.1 C.2.1 dX8_goesOn_60 ?_
      refine lv_if_ne (tgt := 85) C.1 C.2.1 dX8_goesOn_61 (by decide) (fun hq17 => ?_) (fun hq17 => ?_)
      · have hf := ite_f hf hq17
        have hres := Option.some.inj hf
        subst hres
        exact ret_v C hr hlocks w dX8_goesOn_85
      · have hf := ite_t hf hq17
        exact hj64 (y9 / (128 : Int32)) r14 q_many q_by q_code q_far q_from q_met _ _ _ w (lv_sub hl [3, 4, 8, 1, 0] rfl) hf

set_option maxRecDepth 100000 in
theorem inX8_search_X8 : ∀ w ∈ u_ws RX8 TX8 22, w ∈ wsX8_search := by decide +kernel
set_option maxRecDepth 100000 in
theorem lkX8_search_7 : Cond.fieldLink RX8 7 "CleanNetsModel" "st" "[I" ∈ wsX8_search := by decide +kernel
set_option maxRecDepth 100000 in
theorem lkX8_search_137 : Cond.fieldLink RX8 137 "CleanNetsModel" "many" "I" ∈ wsX8_search := by decide +kernel
set_option maxRecDepth 100000 in
theorem lkX8_search_39 : Cond.fieldLink RX8 39 "CleanNetsModel" "code" "[I" ∈ wsX8_search := by decide +kernel
set_option maxRecDepth 100000 in
theorem lkX8_search_134 : Cond.fieldLink RX8 134 "CleanNetsModel" "round" "I" ∈ wsX8_search := by decide +kernel
abbrev wX8_search (cI cL cS cH : ClassId) (a_this : Nat) (a_this_st : Nat) (a_this_past : Nat) (a_this_image : Nat) (a_this_imagePast : Nat) (a_this_tape : Nat) (a_this_laneOf : Nat) (a_this_sizeOf : Nat) (a_this_items : Nat) (a_this_code : Nat) (a_this_from : Nat) (a_this_by : Nat) (a_this_far : Nat) (a_this_met : Nat) (a_this_told : Nat) (q_acts : Int32) (q_imageActs : Int32) (q_tapeMany : Int32) (q_many : Int32) (q_round : Int32) (q_readAt : Int32) (q_isFault : Int32) (q_toldMany : Int32) (q_by : Nat → Int32) (q_code : Nat → Int32) (q_far : Nat → Int32) (q_from : Nat → Int32) (q_met : Nat → Int32) (q_st : Nat → Int32) : va_W := [(a_this, .inr (8, [.ref a_this_st, .ref a_this_past, .int q_acts, .ref a_this_image, .ref a_this_imagePast, .int q_imageActs, .ref a_this_tape, .int q_tapeMany, .ref a_this_laneOf, .ref a_this_sizeOf, .ref a_this_items, .ref a_this_code, .ref a_this_from, .ref a_this_by, .ref a_this_far, .int q_many, .ref a_this_met, .int q_round, .int q_readAt, .int q_isFault, .int q_toldMany, .ref a_this_told])),
  (a_this_by, .inl (cI, 2187, .inl q_by)),
  (a_this_code, .inl (cI, 2187, .inl q_code)),
  (a_this_far, .inl (cI, 2187, .inl q_far)),
  (a_this_from, .inl (cI, 2187, .inl q_from)),
  (a_this_met, .inl (cI, 16384, .inl q_met)),
  (a_this_st, .inl (cI, 13, .inl q_st))]
def jX8_search_175 (q_st : Nat → Int32) (y134_3 : Int32) (y134_4 : Int32) (y134_5 : Int32) (y134_6 : Int32) (y175_7 : Int32) (k175_q_many : Int32) (k134_q_round : Int32) (k175_q_by : Nat → Int32) (k175_q_code : Nat → Int32) (k175_q_far : Nat → Int32) (k175_q_from : Nat → Int32) (k175_q_met : Nat → Int32) : Option ((Int32 × Int32 × (Nat → Int32) × (Nat → Int32) × (Nat → Int32) × (Nat → Int32) × (Nat → Int32)) ⊕ (Int32 × Int32 × (Nat → Int32) × (Nat → Int32) × (Nat → Int32) × (Nat → Int32) × (Nat → Int32))) := some (.inl ((y175_7 + (1 : Int32)), k175_q_many, k175_q_by, k175_q_code, k175_q_far, k175_q_from, k175_q_met))
def bX8_search_134 (q_st : Nat → Int32) (y134_3 : Int32) (y134_4 : Int32) (y134_5 : Int32) (y134_6 : Int32) (k134_q_round : Int32) (v134 : Int32 × Int32 × (Nat → Int32) × (Nat → Int32) × (Nat → Int32) × (Nat → Int32) × (Nat → Int32)) : Option ((Int32 × Int32 × (Nat → Int32) × (Nat → Int32) × (Nat → Int32) × (Nat → Int32) × (Nat → Int32)) ⊕ (Int32 × Int32 × (Nat → Int32) × (Nat → Int32) × (Nat → Int32) × (Nat → Int32) × (Nat → Int32))) := (if (70 : Int32) ≤ v134.1 then some (.inr (v134.1, v134.2.1, v134.2.2.1, v134.2.2.2.1, v134.2.2.2.2.1, v134.2.2.2.2.2.1, v134.2.2.2.2.2.2)) else (if y134_3 = (1 : Int32) then Option.bind (fX8_isAct q_st ((((100 : Int32) + v134.1)).toInt64)) (fun r3 => (if r3 = 0 then jX8_search_175 q_st y134_3 y134_4 y134_5 y134_6 v134.1 v134.2.1 k134_q_round v134.2.2.1 v134.2.2.2.1 v134.2.2.2.2.1 v134.2.2.2.2.2.1 v134.2.2.2.2.2.2 else Option.bind (fX8_goesOn v134.2.1 k134_q_round v134.2.2.1 v134.2.2.2.1 v134.2.2.2.2.1 v134.2.2.2.2.2.1 v134.2.2.2.2.2.2 q_st y134_6 y134_3 y134_4 y134_5 ((100 : Int32) + v134.1)) (fun r6 => jX8_search_175 q_st y134_3 y134_4 y134_5 y134_6 v134.1 r6.1 k134_q_round r6.2.1 r6.2.2.1 r6.2.2.2.1 r6.2.2.2.2.1 r6.2.2.2.2.2))) else some (.inr (v134.1, v134.2.1, v134.2.2.1, v134.2.2.2.1, v134.2.2.2.2.1, v134.2.2.2.2.2.1, v134.2.2.2.2.2.2))))
def bX8_search_98 (q_st : Nat → Int32) (y98_3 : Int32) (y98_4 : Int32) (y98_5 : Int32) (y98_6 : Int32) (k98_q_round : Int32) (v98 : Int32 × Int32 × (Nat → Int32) × (Nat → Int32) × (Nat → Int32) × (Nat → Int32) × (Nat → Int32)) : Option ((Int32 × Int32 × (Nat → Int32) × (Nat → Int32) × (Nat → Int32) × (Nat → Int32) × (Nat → Int32)) ⊕ (Int32 × Int32 × (Nat → Int32) × (Nat → Int32) × (Nat → Int32) × (Nat → Int32) × (Nat → Int32))) := Option.bind (rd q_st 13 (0 : Int32)) (fun y8 => (if y8 ≤ v98.1 then some (.inr (v98.1, v98.2.1, v98.2.2.1, v98.2.2.2.1, v98.2.2.2.2.1, v98.2.2.2.2.2.1, v98.2.2.2.2.2.2)) else Option.bind (fX8_goesOn v98.2.1 k98_q_round v98.2.2.1 v98.2.2.2.1 v98.2.2.2.2.1 v98.2.2.2.2.2.1 v98.2.2.2.2.2.2 q_st y98_6 y98_3 y98_4 y98_5 ((10 : Int32) + v98.1)) (fun r11 => some (.inl ((v98.1 + (1 : Int32)), r11.1, r11.2.1, r11.2.2.1, r11.2.2.2.1, r11.2.2.2.2.1, r11.2.2.2.2.2)))))
def bX8_search_65 (q_st : Nat → Int32) (y65_3 : Int32) (y65_4 : Int32) (y65_5 : Int32) (y65_6 : Int32) (k65_q_round : Int32) (v65 : Int32 × Int32 × (Nat → Int32) × (Nat → Int32) × (Nat → Int32) × (Nat → Int32) × (Nat → Int32)) : Option ((Int32 × Int32 × (Nat → Int32) × (Nat → Int32) × (Nat → Int32) × (Nat → Int32) × (Nat → Int32)) ⊕ (Int32 × Int32 × (Nat → Int32) × (Nat → Int32) × (Nat → Int32) × (Nat → Int32) × (Nat → Int32))) := Option.bind (rd q_st 13 (0 : Int32)) (fun y13 => (if y13 ≤ v65.1 then some (.inr (v65.1, v65.2.1, v65.2.2.1, v65.2.2.2.1, v65.2.2.2.2.1, v65.2.2.2.2.2.1, v65.2.2.2.2.2.2)) else Option.bind (fX8_goesOn v65.2.1 k65_q_round v65.2.2.1 v65.2.2.2.1 v65.2.2.2.2.1 v65.2.2.2.2.2.1 v65.2.2.2.2.2.2 q_st y65_6 y65_3 y65_4 y65_5 v65.1) (fun r16 => some (.inl ((v65.1 + (1 : Int32)), r16.1, r16.2.1, r16.2.2.1, r16.2.2.2.1, r16.2.2.2.2.1, r16.2.2.2.2.2)))))
def bX8_search_32 (q_st : Nat → Int32) (y32_3 : Int32) (y32_4 : Int32) (y32_5 : Int32) (k32_q_round : Int32) (v32 : Int32 × Int32 × (Nat → Int32) × (Nat → Int32) × (Nat → Int32) × (Nat → Int32) × (Nat → Int32)) : Option ((Int32 × Int32 × (Nat → Int32) × (Nat → Int32) × (Nat → Int32) × (Nat → Int32) × (Nat → Int32)) ⊕ ((Int32 × Int32 × Int32 × (Nat → Int32) × (Nat → Int32) × (Nat → Int32) × (Nat → Int32) × (Nat → Int32)) ⊕ (Int32 × Int32 × (Nat → Int32) × (Nat → Int32) × (Nat → Int32) × (Nat → Int32) × (Nat → Int32)))) := (if v32.2.1 ≤ v32.1 then some (.inr (.inr (v32.1, v32.2.1, v32.2.2.1, v32.2.2.2.1, v32.2.2.2.2.1, v32.2.2.2.2.2.1, v32.2.2.2.2.2.2))) else Option.bind (rd v32.2.2.2.1 2187 v32.1) (fun y19 => Option.bind (fX8_all q_st) (fun r21 => (if (y19 - y19 / (128 : Int32) * (128 : Int32)) = r21 then some (.inr (.inl (v32.1, v32.2.1, k32_q_round, v32.2.2.1, v32.2.2.2.1, v32.2.2.2.2.1, v32.2.2.2.2.2.1, v32.2.2.2.2.2.2))) else Option.bind (itL (bX8_search_65 q_st y32_3 y32_4 y32_5 v32.1 k32_q_round) fu ((0 : Int32), v32.2.1, v32.2.2.1, v32.2.2.2.1, v32.2.2.2.2.1, v32.2.2.2.2.2.1, v32.2.2.2.2.2.2)) (fun ex24 => Option.bind (itL (bX8_search_98 q_st y32_3 y32_4 y32_5 v32.1 k32_q_round) fu ((0 : Int32), ex24.2.1, ex24.2.2.1, ex24.2.2.2.1, ex24.2.2.2.2.1, ex24.2.2.2.2.2.1, ex24.2.2.2.2.2.2)) (fun ex26 => Option.bind (itL (bX8_search_134 q_st y32_3 y32_4 y32_5 v32.1 k32_q_round) fu ((0 : Int32), ex26.2.1, ex26.2.2.1, ex26.2.2.2.1, ex26.2.2.2.2.1, ex26.2.2.2.2.2.1, ex26.2.2.2.2.2.2)) (fun ex28 => some (.inl ((v32.1 + (1 : Int32)), ex28.2.1, ex28.2.2.1, ex28.2.2.2.1, ex28.2.2.2.2.1, ex28.2.2.2.2.2.1, ex28.2.2.2.2.2.2)))))))))
def fX8_search (q_many : Int32) (q_round : Int32) (q_by : Nat → Int32) (q_code : Nat → Int32) (q_far : Nat → Int32) (q_from : Nat → Int32) (q_met : Nat → Int32) (q_st : Nat → Int32) (x1 : Int32) (x2 : Int32) (x3 : Int32) (x4 : Int32) (x5 : Int32) : Option (Int32 × Int32 × Int32 × (Nat → Int32) × (Nat → Int32) × (Nat → Int32) × (Nat → Int32) × (Nat → Int32)) := Option.bind (fX8_meets (0 : Int32) (q_round + (1 : Int32)) q_by q_code q_far q_from q_met (x1 + ((128 : Int32) * x2)) (-1 : Int32) (-4 : Int32)) (fun r30 => Option.bind (itL (bX8_search_32 q_st x3 x4 x5 (q_round + (1 : Int32))) fu ((0 : Int32), r30.1, r30.2.1, r30.2.2.1, r30.2.2.2.1, r30.2.2.2.2.1, r30.2.2.2.2.2)) (fun o => Sum.elim (fun ex32 => some ex32) (fun ex32 => some ((-4 : Int32), ex32.2.1, (q_round + (1 : Int32)), ex32.2.2.1, ex32.2.2.2.1, ex32.2.2.2.2.1, ex32.2.2.2.2.2.1, ex32.2.2.2.2.2.2)) o))
abbrev gX8_search (p : Program) (l : Launch) (e : Env) (s : State) (m : MethodId) (below : List Frame) (meth : Method) (c : Code) (D : vg) (cI cL cS cH : ClassId) (a_this : Nat) (a_this_st : Nat) (a_this_past : Nat) (a_this_image : Nat) (a_this_imagePast : Nat) (a_this_tape : Nat) (a_this_laneOf : Nat) (a_this_sizeOf : Nat) (a_this_items : Nat) (a_this_code : Nat) (a_this_from : Nat) (a_this_by : Nat) (a_this_far : Nat) (a_this_met : Nat) (a_this_told : Nat) (q_acts : Int32) (q_imageActs : Int32) (q_tapeMany : Int32) (q_many : Int32) (q_round : Int32) (q_readAt : Int32) (q_isFault : Int32) (q_toldMany : Int32) (q_by : Nat → Int32) (q_code : Nat → Int32) (q_far : Nat → Int32) (q_from : Nat → Int32) (q_met : Nat → Int32) (q_st : Nat → Int32) (x1 : Int32) (x2 : Int32) (x3 : Int32) (x4 : Int32) (x5 : Int32) (res : Int32 × Int32 × Int32 × (Nat → Int32) × (Nat → Int32) × (Nat → Int32) × (Nat → Int32) × (Nat → Int32)) (H : Heap) (locs : List Loc) (g : JFrame) : Prop := W p l e (headSpec wsX8_search ({ frames := 5, cells := 0, slots := 0, locals := 120 })).room s m ([.ref a_this, .int x1, .int x2, .int x3, .int x4, .int x5] : List Value).toArray below meth c H locs 0 0 (MQ below (va_Qi (fun r' (_ : Unit) => r' = res.1) (fun _ t => pos1 D s.heap.size (wX8_search cI cL cS cH a_this a_this_st a_this_past a_this_image a_this_imagePast a_this_tape a_this_laneOf a_this_sizeOf a_this_items a_this_code a_this_from a_this_by a_this_far a_this_met a_this_told q_acts q_imageActs q_tapeMany q_many q_round q_readAt q_isFault q_toldMany q_by q_code q_far q_from q_met q_st) (wX8_search cI cL cS cH a_this a_this_st a_this_past a_this_image a_this_imagePast a_this_tape a_this_laneOf a_this_sizeOf a_this_items a_this_code a_this_from a_this_by a_this_far a_this_met a_this_told q_acts q_imageActs q_tapeMany res.2.1 res.2.2.1 q_readAt q_isFault q_toldMany res.2.2.2.1 res.2.2.2.2.1 res.2.2.2.2.2.1 res.2.2.2.2.2.2.1 res.2.2.2.2.2.2.2 q_st) t) (va_A (wX8_search cI cL cS cH a_this a_this_st a_this_past a_this_image a_this_imagePast a_this_tape a_this_laneOf a_this_sizeOf a_this_items a_this_code a_this_from a_this_by a_this_far a_this_met a_this_told q_acts q_imageActs q_tapeMany q_many q_round q_readAt q_isFault q_toldMany q_by q_code q_far q_from q_met q_st) s.heap.size)) ([.ref a_this, .int x1, .int x2, .int x3, .int x4, .int x5] : List Value).toArray s 0 0 (va_A (wX8_search cI cL cS cH a_this a_this_st a_this_past a_this_image a_this_imagePast a_this_tape a_this_laneOf a_this_sizeOf a_this_items a_this_code a_this_from a_this_by a_this_far a_this_met a_this_told q_acts q_imageActs q_tapeMany q_many q_round q_readAt q_isFault q_toldMany q_by q_code q_far q_from q_met q_st) s.heap.size)) g
set_option maxHeartbeats 4000000 in
set_option maxRecDepth 100000 in
theorem mX8_search (l : Launch) (D : vg) (cI cL cS cH : ClassId) (sz : Nat) (a_this : Nat) (a_this_st : Nat) (a_this_past : Nat) (a_this_image : Nat) (a_this_imagePast : Nat) (a_this_tape : Nat) (a_this_laneOf : Nat) (a_this_sizeOf : Nat) (a_this_items : Nat) (a_this_code : Nat) (a_this_from : Nat) (a_this_by : Nat) (a_this_far : Nat) (a_this_met : Nat) (a_this_told : Nat) (q_acts : Int32) (q_imageActs : Int32) (q_tapeMany : Int32) (q_many : Int32) (q_round : Int32) (q_readAt : Int32) (q_isFault : Int32) (q_toldMany : Int32) (q_by : Nat → Int32) (q_code : Nat → Int32) (q_far : Nat → Int32) (q_from : Nat → Int32) (q_met : Nat → Int32) (q_st : Nat → Int32) (x1 : Int32) (x2 : Int32) (x3 : Int32) (x4 : Int32) (x5 : Int32) {res : Int32 × Int32 × Int32 × (Nat → Int32) × (Nat → Int32) × (Nat → Int32) × (Nat → Int32) × (Nat → Int32)} (hf : fX8_search q_many q_round q_by q_code q_far q_from q_met q_st x1 x2 x3 x4 x5 = some res) : cti l yX8_search wsX8_search ({ frames := 5, cells := 0, slots := 0, locals := 120 }) D (ty4 cI cL cS cH) sz [.ref a_this, .int x1, .int x2, .int x3, .int x4, .int x5] (wX8_search cI cL cS cH a_this a_this_st a_this_past a_this_image a_this_imagePast a_this_tape a_this_laneOf a_this_sizeOf a_this_items a_this_code a_this_from a_this_by a_this_far a_this_met a_this_told q_acts q_imageActs q_tapeMany q_many q_round q_readAt q_isFault q_toldMany q_by q_code q_far q_from q_met q_st) (wX8_search cI cL cS cH a_this a_this_st a_this_past a_this_image a_this_imagePast a_this_tape a_this_laneOf a_this_sizeOf a_this_items a_this_code a_this_from a_this_by a_this_far a_this_met a_this_told q_acts q_imageActs q_tapeMany res.2.1 res.2.2.1 q_readAt q_isFault q_toldMany res.2.2.2.1 res.2.2.2.2.1 res.2.2.2.2.2.1 res.2.2.2.2.2.2.1 res.2.2.2.2.2.2.2 q_st) res.1 := by
  refine Met.ofW (cc := cX8_search) (maxL := 8) (ret := (some .int)) (by decide) rfl ?_
  intro p e s m args below meth c s₁ B hml hv
  obtain ⟨rfl, hpre⟩ := hv
  obtain rfl := hpre.1
  have C : CallFix p m c cX8_search 8 s _ wsX8_search RX8 := ⟨B.exec, B.bytes, hml, findClass_of_methodNamed B.named, atoms_spec (ws := wsX8_search) B.pre⟩
  have hr := B.returns
  have hlocks := B.notSynchronized
  have w := wd_start hpre
  clear hpre B
  have hl := lv_entry ([.ref a_this, .int x1, .int x2, .int x3, .int x4, .int x5]) (n := 8) (Nat.le_of_ble_eq_true rfl)
  rw [lg_entry_eq]
  generalize (lg_sl ([.ref a_this, .int x1, .int x2, .int x3, .int x4, .int x5]) ++ List.replicate (8 - (lg_sl ([.ref a_this, .int x1, .int x2, .int x3, .int x4, .int x5])).length) Slot.unset).toArray = ls at hl ⊢
  have hl : lv_has ls 8 [(0, .ref a_this), (1, .int x1), (2, .int x2), (3, .int x3), (4, .int x4), (5, .int x5)] := hl
  unfold fX8_search at hf
  have hlp32 : ∀ (y32_3 : Int32) (y32_4 : Int32) (y32_5 : Int32) (k32_q_round : Int32) (ex32 : (Int32 × Int32 × Int32 × (Nat → Int32) × (Nat → Int32) × (Nat → Int32) × (Nat → Int32) × (Nat → Int32)) ⊕ (Int32 × Int32 × (Nat → Int32) × (Nat → Int32) × (Nat → Int32) × (Nat → Int32) × (Nat → Int32))) (hk : (match ex32 with | .inl r => r = res | .inr u => ∀ (H : Heap) (locs : List Loc) (ls : Array Slot), wd D (ty4 cI cL cS cH) s (va_A (wX8_search cI cL cS cH a_this a_this_st a_this_past a_this_image a_this_imagePast a_this_tape a_this_laneOf a_this_sizeOf a_this_items a_this_code a_this_from a_this_by a_this_far a_this_met a_this_told q_acts q_imageActs q_tapeMany q_many q_round q_readAt q_isFault q_toldMany q_by q_code q_far q_from q_met q_st) s.heap.size) s.heap H locs (wX8_search cI cL cS cH a_this a_this_st a_this_past a_this_image a_this_imagePast a_this_tape a_this_laneOf a_this_sizeOf a_this_items a_this_code a_this_from a_this_by a_this_far a_this_met a_this_told q_acts q_imageActs q_tapeMany u.2.1 k32_q_round q_readAt q_isFault q_toldMany u.2.2.1 u.2.2.2.1 u.2.2.2.2.1 u.2.2.2.2.2.1 u.2.2.2.2.2.2 q_st) → lv_has ls 8 [] → gX8_search p l e s m below meth c D cI cL cS cH a_this a_this_st a_this_past a_this_image a_this_imagePast a_this_tape a_this_laneOf a_this_sizeOf a_this_items a_this_code a_this_from a_this_by a_this_far a_this_met a_this_told q_acts q_imageActs q_tapeMany q_many q_round q_readAt q_isFault q_toldMany q_by q_code q_far q_from q_met q_st x1 x2 x3 x4 x5 res H locs (F0 m 187 ls []))) (n : Nat) (v32 : Int32 × Int32 × (Nat → Int32) × (Nat → Int32) × (Nat → Int32) × (Nat → Int32) × (Nat → Int32)) (H : Heap) (locs : List Loc) (ls : Array Slot), itL (bX8_search_32 q_st y32_3 y32_4 y32_5 k32_q_round) n v32 = some ex32 → wd D (ty4 cI cL cS cH) s (va_A (wX8_search cI cL cS cH a_this a_this_st a_this_past a_this_image a_this_imagePast a_this_tape a_this_laneOf a_this_sizeOf a_this_items a_this_code a_this_from a_this_by a_this_far a_this_met a_this_told q_acts q_imageActs q_tapeMany q_many q_round q_readAt q_isFault q_toldMany q_by q_code q_far q_from q_met q_st) s.heap.size) s.heap H locs (wX8_search cI cL cS cH a_this a_this_st a_this_past a_this_image a_this_imagePast a_this_tape a_this_laneOf a_this_sizeOf a_this_items a_this_code a_this_from a_this_by a_this_far a_this_met a_this_told q_acts q_imageActs q_tapeMany v32.2.1 k32_q_round q_readAt q_isFault q_toldMany v32.2.2.1 v32.2.2.2.1 v32.2.2.2.2.1 v32.2.2.2.2.2.1 v32.2.2.2.2.2.2 q_st) → lv_has ls 8 [(0, .ref a_this), (3, .int y32_3), (4, .int y32_4), (5, .int y32_5), (6, .int v32.1)] → gX8_search p l e s m below meth c D cI cL cS cH a_this a_this_st a_this_past a_this_image a_this_imagePast a_this_tape a_this_laneOf a_this_sizeOf a_this_items a_this_code a_this_from a_this_by a_this_far a_this_met a_this_told q_acts q_imageActs q_tapeMany q_many q_round q_readAt q_isFault q_toldMany q_by q_code q_far q_from q_met q_st x1 x2 x3 x4 x5 res H locs (F0 m 32 ls []) := by
    intro y32_3 y32_4 y32_5 k32_q_round ex32 hk n
    induction n with
    | zero => intro v32 H locs ls hi w hl; exact (itL_zero hi).elim
    | succ n ih =>
      intro v32 H locs ls hi w hl
      obtain ⟨o, hf, hn⟩ := itL_succ hi
      unfold bX8_search_32 at hf
      have hlp134 : ∀ (y134_3 : Int32) (y134_4 : Int32) (y134_5 : Int32) (y134_6 : Int32) (k134_q_round : Int32) (ex134 : Int32 × Int32 × (Nat → Int32) × (Nat → Int32) × (Nat → Int32) × (Nat → Int32) × (Nat → Int32)) (hk : (∀ (H : Heap) (locs : List Loc) (ls : Array Slot), wd D (ty4 cI cL cS cH) s (va_A (wX8_search cI cL cS cH a_this a_this_st a_this_past a_this_image a_this_imagePast a_this_tape a_this_laneOf a_this_sizeOf a_this_items a_this_code a_this_from a_this_by a_this_far a_this_met a_this_told q_acts q_imageActs q_tapeMany q_many q_round q_readAt q_isFault q_toldMany q_by q_code q_far q_from q_met q_st) s.heap.size) s.heap H locs (wX8_search cI cL cS cH a_this a_this_st a_this_past a_this_image a_this_imagePast a_this_tape a_this_laneOf a_this_sizeOf a_this_items a_this_code a_this_from a_this_by a_this_far a_this_met a_this_told q_acts q_imageActs q_tapeMany ex134.2.1 k134_q_round q_readAt q_isFault q_toldMany ex134.2.2.1 ex134.2.2.2.1 ex134.2.2.2.2.1 ex134.2.2.2.2.2.1 ex134.2.2.2.2.2.2 q_st) → lv_has ls 8 [(0, .ref a_this), (3, .int y134_3), (4, .int y134_4), (5, .int y134_5), (6, .int y134_6)] → gX8_search p l e s m below meth c D cI cL cS cH a_this a_this_st a_this_past a_this_image a_this_imagePast a_this_tape a_this_laneOf a_this_sizeOf a_this_items a_this_code a_this_from a_this_by a_this_far a_this_met a_this_told q_acts q_imageActs q_tapeMany q_many q_round q_readAt q_isFault q_toldMany q_by q_code q_far q_from q_met q_st x1 x2 x3 x4 x5 res H locs (F0 m 181 ls []))) (n : Nat) (v134 : Int32 × Int32 × (Nat → Int32) × (Nat → Int32) × (Nat → Int32) × (Nat → Int32) × (Nat → Int32)) (H : Heap) (locs : List Loc) (ls : Array Slot), itL (bX8_search_134 q_st y134_3 y134_4 y134_5 y134_6 k134_q_round) n v134 = some ex134 → wd D (ty4 cI cL cS cH) s (va_A (wX8_search cI cL cS cH a_this a_this_st a_this_past a_this_image a_this_imagePast a_this_tape a_this_laneOf a_this_sizeOf a_this_items a_this_code a_this_from a_this_by a_this_far a_this_met a_this_told q_acts q_imageActs q_tapeMany q_many q_round q_readAt q_isFault q_toldMany q_by q_code q_far q_from q_met q_st) s.heap.size) s.heap H locs (wX8_search cI cL cS cH a_this a_this_st a_this_past a_this_image a_this_imagePast a_this_tape a_this_laneOf a_this_sizeOf a_this_items a_this_code a_this_from a_this_by a_this_far a_this_met a_this_told q_acts q_imageActs q_tapeMany v134.2.1 k134_q_round q_readAt q_isFault q_toldMany v134.2.2.1 v134.2.2.2.1 v134.2.2.2.2.1 v134.2.2.2.2.2.1 v134.2.2.2.2.2.2 q_st) → lv_has ls 8 [(0, .ref a_this), (3, .int y134_3), (4, .int y134_4), (5, .int y134_5), (6, .int y134_6), (7, .int v134.1)] → gX8_search p l e s m below meth c D cI cL cS cH a_this a_this_st a_this_past a_this_image a_this_imagePast a_this_tape a_this_laneOf a_this_sizeOf a_this_items a_this_code a_this_from a_this_by a_this_far a_this_met a_this_told q_acts q_imageActs q_tapeMany q_many q_round q_readAt q_isFault q_toldMany q_by q_code q_far q_from q_met q_st x1 x2 x3 x4 x5 res H locs (F0 m 134 ls []) := by
        intro y134_3 y134_4 y134_5 y134_6 k134_q_round ex134 hk n
        induction n with
        | zero => intro v134 H locs ls hi w hl; exact (itL_zero hi).elim
        | succ n ih =>
          intro v134 H locs ls hi w hl
          obtain ⟨o, hf, hn⟩ := itL_succ hi
          unfold bX8_search_134 at hf
          have hj175 : ∀ (y175_7 : Int32) (k175_q_many : Int32) (k175_q_by : Nat → Int32) (k175_q_code : Nat → Int32) (k175_q_far : Nat → Int32) (k175_q_from : Nat → Int32) (k175_q_met : Nat → Int32) (H : Heap) (locs : List Loc) (ls : Array Slot), wd D (ty4 cI cL cS cH) s (va_A (wX8_search cI cL cS cH a_this a_this_st a_this_past a_this_image a_this_imagePast a_this_tape a_this_laneOf a_this_sizeOf a_this_items a_this_code a_this_from a_this_by a_this_far a_this_met a_this_told q_acts q_imageActs q_tapeMany q_many q_round q_readAt q_isFault q_toldMany q_by q_code q_far q_from q_met q_st) s.heap.size) s.heap H locs (wX8_search cI cL cS cH a_this a_this_st a_this_past a_this_image a_this_imagePast a_this_tape a_this_laneOf a_this_sizeOf a_this_items a_this_code a_this_from a_this_by a_this_far a_this_met a_this_told q_acts q_imageActs q_tapeMany k175_q_many k134_q_round q_readAt q_isFault q_toldMany k175_q_by k175_q_code k175_q_far k175_q_from k175_q_met q_st) → lv_has ls 8 [(0, .ref a_this), (3, .int y134_3), (4, .int y134_4), (5, .int y134_5), (6, .int y134_6), (7, .int y175_7)] → jX8_search_175 q_st y134_3 y134_4 y134_5 y134_6 y175_7 k175_q_many k134_q_round k175_q_by k175_q_code k175_q_far k175_q_from k175_q_met = some o → gX8_search p l e s m below meth c D cI cL cS cH a_this a_this_st a_this_past a_this_image a_this_imagePast a_this_tape a_this_laneOf a_this_sizeOf a_this_items a_this_code a_this_from a_this_by a_this_far a_this_met a_this_told q_acts q_imageActs q_tapeMany q_many q_round q_readAt q_isFault q_toldMany q_by q_code q_far q_from q_met q_st x1 x2 x3 x4 x5 res H locs (F0 m 175 ls []) := by
            intro y175_7 k175_q_many k175_q_by k175_q_code k175_q_far k175_q_from k175_q_met H locs ls w hl hf
            unfold jX8_search_175 at hf
            refine lv_iinc (v := (y175_7 + (1 : Int32))) (lv' := [(7, .int (y175_7 + (1 : Int32))), (0, .ref a_this), (3, .int y134_3), (4, .int y134_4), (5, .int y134_5), (6, .int y134_6)]) C.1 C.2.1 dX8_search_175 hl (k := 5) rfl rfl (by decide) rfl (fun ls hl => ?_)
            refine lv_goto (tgt := 134) C.1 C.2.1 dX8_search_178 (by decide) ?_
            obtain rfl := Option.some.inj hf
            exact ih ((y175_7 + (1 : Int32)), k175_q_many, k175_q_by, k175_q_code, k175_q_far, k175_q_from, k175_q_met) _ _ _ hn w (lv_sub hl [1, 2, 3, 4, 5, 0] rfl)
          refine lv_iload C.1 C.2.1 dX8_search_134 (lv_at hl 5 rfl) ?_
          refine lv_bipush (v := (70 : Int32)) C.1 C.2.1 dX8_search_136 (by decide) ?_
          refine lv_icmp_ge (tgt := 181) C.1 C.2.1 dX8_search_138 (by decide) (fun hq1 => ?_) (fun hq1 => ?_)
          · have hf := ite_t hf hq1
            obtain rfl := Option.some.inj hf
            obtain rfl := hn
            exact hk _ _ _ w (lv_sub hl [0, 1, 2, 3, 4] rfl)
          · have hf := ite_f hf hq1
            refine lv_iload_n C.1 C.2.1 dX8_search_141 rfl (lv_at hl 1 rfl) ?_
            refine lv_iconst (v := (1 : Int32)) C.1 C.2.1 dX8_search_142 (by decide) ?_
            refine lv_icmp_ne (tgt := 181) C.1 C.2.1 dX8_search_143 (by decide) (fun hq2 => ?_) (fun hq2 => ?_)
            · have hf := ite_f hf hq2
              obtain rfl := Option.some.inj hf
              obtain rfl := hn
              exact hk _ _ _ w (lv_sub hl [0, 1, 2, 3, 4] rfl)
            · have hf := ite_t hf hq2
              refine lv_aload_n C.1 C.2.1 dX8_search_146 rfl (lv_at hl 0 rfl) ?_
              refine lv_bipush (v := (100 : Int32)) C.1 C.2.1 dX8_search_147 (by decide) ?_
              refine lv_iload C.1 C.2.1 dX8_search_149 (lv_at hl 5 rfl) ?_
              refine lv_iadd C.1 C.2.1 dX8_search_151 ?_
              refine lv_i2l C.1 C.2.1 dX8_search_152 rfl ?_
              obtain ⟨r3, hc4, hf⟩ := bd hf
              refine call_Vi (ws' := (wX8_search cI cL cS cH a_this a_this_st a_this_past a_this_image a_this_imagePast a_this_tape a_this_laneOf a_this_sizeOf a_this_items a_this_code a_this_from a_this_by a_this_far a_this_met a_this_told q_acts q_imageActs q_tapeMany v134.2.1 k134_q_round q_readAt q_isFault q_toldMany v134.2.2.1 v134.2.2.2.1 v134.2.2.2.2.1 v134.2.2.2.2.2.1 v134.2.2.2.2.2.2 q_st)) (rest := []) C w (mX8_isAct l D cI cL cS cH _ a_this a_this_st a_this_past a_this_image a_this_imagePast a_this_tape a_this_laneOf a_this_sizeOf a_this_items a_this_code a_this_from a_this_by a_this_far a_this_met a_this_told q_acts q_imageActs q_tapeMany v134.2.1 k134_q_round q_readAt q_isFault q_toldMany q_st ((((100 : Int32) + v134.1)).toInt64) hc4) (cwV 1 C.2.2.2.2 gX8_search_X8_isAct rfl rfl rfl (by decide +kernel) ⟨Nat.le_of_ble_eq_true rfl, Nat.le_of_ble_eq_true rfl⟩) [0, 6] [1, 2, 3, 4, 5] 7 ⟨rfl, rfl, trivial⟩ ⟨rfl, rfl, trivial⟩ ⟨⟨_, rfl, rfl⟩, ⟨_, rfl, rfl⟩, ⟨_, rfl, rfl⟩, ⟨_, rfl, rfl⟩, ⟨_, rfl, rfl⟩, trivial⟩ rfl (by decide) (by decide) (ci := 8) (q0 := 0) rfl rfl rfl hl.1 rfl (lv_room (Nat.le_of_ble_eq_true rfl)) dX8_search_153 ⟨Nat.zero_le _, Nat.zero_le _⟩ (fun H locs w => ?_)
              refine lv_if_eq (tgt := 175) C.1 C.2.1 dX8_search_156 (by decide) (fun hq5 => ?_) (fun hq5 => ?_)
              · have hf := ite_t hf hq5
                exact hj175 v134.1 v134.2.1 v134.2.2.1 v134.2.2.2.1 v134.2.2.2.2.1 v134.2.2.2.2.2.1 v134.2.2.2.2.2.2 _ _ _ w (lv_sub hl [0, 1, 2, 3, 4, 5] rfl) hf
              · have hf := ite_f hf hq5
                refine lv_aload_n C.1 C.2.1 dX8_search_159 rfl (lv_at hl 0 rfl) ?_
                refine lv_iload C.1 C.2.1 dX8_search_160 (lv_at hl 4 rfl) ?_
                refine lv_iload_n C.1 C.2.1 dX8_search_162 rfl (lv_at hl 1 rfl) ?_
                refine lv_iload C.1 C.2.1 dX8_search_163 (lv_at hl 2 rfl) ?_
                refine lv_iload C.1 C.2.1 dX8_search_165 (lv_at hl 3 rfl) ?_
                refine lv_bipush (v := (100 : Int32)) C.1 C.2.1 dX8_search_167 (by decide) ?_
                refine lv_iload C.1 C.2.1 dX8_search_169 (lv_at hl 5 rfl) ?_
                refine lv_iadd C.1 C.2.1 dX8_search_171 ?_
                obtain ⟨r6, hc7, hf⟩ := bd hf
                refine call_Vv (ws' := (wX8_search cI cL cS cH a_this a_this_st a_this_past a_this_image a_this_imagePast a_this_tape a_this_laneOf a_this_sizeOf a_this_items a_this_code a_this_from a_this_by a_this_far a_this_met a_this_told q_acts q_imageActs q_tapeMany r6.1 k134_q_round q_readAt q_isFault q_toldMany r6.2.1 r6.2.2.1 r6.2.2.2.1 r6.2.2.2.2.1 r6.2.2.2.2.2 q_st)) (rest := []) C w (mX8_goesOn l D cI cL cS cH _ a_this a_this_st a_this_past a_this_image a_this_imagePast a_this_tape a_this_laneOf a_this_sizeOf a_this_items a_this_code a_this_from a_this_by a_this_far a_this_met a_this_told q_acts q_imageActs q_tapeMany v134.2.1 k134_q_round q_readAt q_isFault q_toldMany v134.2.2.1 v134.2.2.2.1 v134.2.2.2.2.1 v134.2.2.2.2.2.1 v134.2.2.2.2.2.2 q_st y134_6 y134_3 y134_4 y134_5 ((100 : Int32) + v134.1) hc7) (cwV 5 C.2.2.2.2 gX8_search_X8_goesOn rfl rfl rfl (by decide +kernel) ⟨Nat.le_of_ble_eq_true rfl, Nat.le_of_ble_eq_true rfl⟩) [0, 1, 2, 3, 4, 5, 6] [] 7 ⟨rfl, rfl, rfl, rfl, rfl, rfl, rfl, trivial⟩ ⟨rfl, rfl, rfl, rfl, rfl, rfl, rfl, trivial⟩ trivial rfl (by decide) (by decide) (ci := 8) (q0 := 0) rfl rfl rfl hl.1 rfl (lv_room (Nat.le_of_ble_eq_true rfl)) dX8_search_172 ⟨Nat.zero_le _, Nat.zero_le _⟩ (fun H locs w => ?_)
                exact hj175 v134.1 r6.1 r6.2.1 r6.2.2.1 r6.2.2.2.1 r6.2.2.2.2.1 r6.2.2.2.2.2 _ _ _ w (lv_sub hl [0, 1, 2, 3, 4, 5] rfl) hf
      have hlp98 : ∀ (y98_3 : Int32) (y98_4 : Int32) (y98_5 : Int32) (y98_6 : Int32) (k98_q_round : Int32) (ex98 : Int32 × Int32 × (Nat → Int32) × (Nat → Int32) × (Nat → Int32) × (Nat → Int32) × (Nat → Int32)) (hk : (∀ (H : Heap) (locs : List Loc) (ls : Array Slot), wd D (ty4 cI cL cS cH) s (va_A (wX8_search cI cL cS cH a_this a_this_st a_this_past a_this_image a_this_imagePast a_this_tape a_this_laneOf a_this_sizeOf a_this_items a_this_code a_this_from a_this_by a_this_far a_this_met a_this_told q_acts q_imageActs q_tapeMany q_many q_round q_readAt q_isFault q_toldMany q_by q_code q_far q_from q_met q_st) s.heap.size) s.heap H locs (wX8_search cI cL cS cH a_this a_this_st a_this_past a_this_image a_this_imagePast a_this_tape a_this_laneOf a_this_sizeOf a_this_items a_this_code a_this_from a_this_by a_this_far a_this_met a_this_told q_acts q_imageActs q_tapeMany ex98.2.1 k98_q_round q_readAt q_isFault q_toldMany ex98.2.2.1 ex98.2.2.2.1 ex98.2.2.2.2.1 ex98.2.2.2.2.2.1 ex98.2.2.2.2.2.2 q_st) → lv_has ls 8 [(0, .ref a_this), (3, .int y98_3), (4, .int y98_4), (5, .int y98_5), (6, .int y98_6)] → gX8_search p l e s m below meth c D cI cL cS cH a_this a_this_st a_this_past a_this_image a_this_imagePast a_this_tape a_this_laneOf a_this_sizeOf a_this_items a_this_code a_this_from a_this_by a_this_far a_this_met a_this_told q_acts q_imageActs q_tapeMany q_many q_round q_readAt q_isFault q_toldMany q_by q_code q_far q_from q_met q_st x1 x2 x3 x4 x5 res H locs (F0 m 131 ls []))) (n : Nat) (v98 : Int32 × Int32 × (Nat → Int32) × (Nat → Int32) × (Nat → Int32) × (Nat → Int32) × (Nat → Int32)) (H : Heap) (locs : List Loc) (ls : Array Slot), itL (bX8_search_98 q_st y98_3 y98_4 y98_5 y98_6 k98_q_round) n v98 = some ex98 → wd D (ty4 cI cL cS cH) s (va_A (wX8_search cI cL cS cH a_this a_this_st a_this_past a_this_image a_this_imagePast a_this_tape a_this_laneOf a_this_sizeOf a_this_items a_this_code a_this_from a_this_by a_this_far a_this_met a_this_told q_acts q_imageActs q_tapeMany q_many q_round q_readAt q_isFault q_toldMany q_by q_code q_far q_from q_met q_st) s.heap.size) s.heap H locs (wX8_search cI cL cS cH a_this a_this_st a_this_past a_this_image a_this_imagePast a_this_tape a_this_laneOf a_this_sizeOf a_this_items a_this_code a_this_from a_this_by a_this_far a_this_met a_this_told q_acts q_imageActs q_tapeMany v98.2.1 k98_q_round q_readAt q_isFault q_toldMany v98.2.2.1 v98.2.2.2.1 v98.2.2.2.2.1 v98.2.2.2.2.2.1 v98.2.2.2.2.2.2 q_st) → lv_has ls 8 [(0, .ref a_this), (3, .int y98_3), (4, .int y98_4), (5, .int y98_5), (6, .int y98_6), (7, .int v98.1)] → gX8_search p l e s m below meth c D cI cL cS cH a_this a_this_st a_this_past a_this_image a_this_imagePast a_this_tape a_this_laneOf a_this_sizeOf a_this_items a_this_code a_this_from a_this_by a_this_far a_this_met a_this_told q_acts q_imageActs q_tapeMany q_many q_round q_readAt q_isFault q_toldMany q_by q_code q_far q_from q_met q_st x1 x2 x3 x4 x5 res H locs (F0 m 98 ls []) := by
        intro y98_3 y98_4 y98_5 y98_6 k98_q_round ex98 hk n
        induction n with
        | zero => intro v98 H locs ls hi w hl; exact (itL_zero hi).elim
        | succ n ih =>
          intro v98 H locs ls hi w hl
          obtain ⟨o, hf, hn⟩ := itL_succ hi
          unfold bX8_search_98 at hf
          refine lv_iload C.1 C.2.1 dX8_search_98 (lv_at hl 5 rfl) ?_
          refine lv_aload_n C.1 C.2.1 dX8_search_100 rfl (lv_at hl 0 rfl) ?_
          refine r_get C w inX8_search_X8 0 rfl rfl 0 (by decide) lkX8_search_7 rfl dX8_search_101 ?_
          refine lv_iconst (v := (0 : Int32)) C.1 C.2.1 dX8_search_104 (by decide) ?_
          obtain ⟨y8, hy9, hf⟩ := bd hf
          refine r_iald C w 6 0 rfl rfl (rd_in hy9) dX8_search_105 ?_
          refine lv_icmp_ge (tgt := 131) C.1 C.2.1 dX8_search_106 (by decide) (fun hq10 => ?_) (fun hq10 => ?_)
          · have hf := ite_t hf hq10
            obtain rfl := Option.some.inj hf
            obtain rfl := hn
            exact hk _ _ _ w (lv_sub hl [0, 1, 2, 3, 4] rfl)
          · have hf := ite_f hf hq10
            refine lv_aload_n C.1 C.2.1 dX8_search_109 rfl (lv_at hl 0 rfl) ?_
            refine lv_iload C.1 C.2.1 dX8_search_110 (lv_at hl 4 rfl) ?_
            refine lv_iload_n C.1 C.2.1 dX8_search_112 rfl (lv_at hl 1 rfl) ?_
            refine lv_iload C.1 C.2.1 dX8_search_113 (lv_at hl 2 rfl) ?_
            refine lv_iload C.1 C.2.1 dX8_search_115 (lv_at hl 3 rfl) ?_
            refine lv_bipush (v := (10 : Int32)) C.1 C.2.1 dX8_search_117 (by decide) ?_
            refine lv_iload C.1 C.2.1 dX8_search_119 (lv_at hl 5 rfl) ?_
            refine lv_iadd C.1 C.2.1 dX8_search_121 ?_
            obtain ⟨r11, hc12, hf⟩ := bd hf
            refine call_Vv (ws' := (wX8_search cI cL cS cH a_this a_this_st a_this_past a_this_image a_this_imagePast a_this_tape a_this_laneOf a_this_sizeOf a_this_items a_this_code a_this_from a_this_by a_this_far a_this_met a_this_told q_acts q_imageActs q_tapeMany r11.1 k98_q_round q_readAt q_isFault q_toldMany r11.2.1 r11.2.2.1 r11.2.2.2.1 r11.2.2.2.2.1 r11.2.2.2.2.2 q_st)) (rest := []) C w (mX8_goesOn l D cI cL cS cH _ a_this a_this_st a_this_past a_this_image a_this_imagePast a_this_tape a_this_laneOf a_this_sizeOf a_this_items a_this_code a_this_from a_this_by a_this_far a_this_met a_this_told q_acts q_imageActs q_tapeMany v98.2.1 k98_q_round q_readAt q_isFault q_toldMany v98.2.2.1 v98.2.2.2.1 v98.2.2.2.2.1 v98.2.2.2.2.2.1 v98.2.2.2.2.2.2 q_st y98_6 y98_3 y98_4 y98_5 ((10 : Int32) + v98.1) hc12) (cwV 5 C.2.2.2.2 gX8_search_X8_goesOn rfl rfl rfl (by decide +kernel) ⟨Nat.le_of_ble_eq_true rfl, Nat.le_of_ble_eq_true rfl⟩) [0, 1, 2, 3, 4, 5, 6] [] 7 ⟨rfl, rfl, rfl, rfl, rfl, rfl, rfl, trivial⟩ ⟨rfl, rfl, rfl, rfl, rfl, rfl, rfl, trivial⟩ trivial rfl (by decide) (by decide) (ci := 8) (q0 := 0) rfl rfl rfl hl.1 rfl (lv_room (Nat.le_of_ble_eq_true rfl)) dX8_search_122 ⟨Nat.zero_le _, Nat.zero_le _⟩ (fun H locs w => ?_)
            refine lv_iinc (v := (v98.1 + (1 : Int32))) (lv' := [(7, .int (v98.1 + (1 : Int32))), (0, .ref a_this), (3, .int y98_3), (4, .int y98_4), (5, .int y98_5), (6, .int y98_6)]) C.1 C.2.1 dX8_search_125 hl (k := 5) rfl rfl (by decide) rfl (fun ls hl => ?_)
            refine lv_goto (tgt := 98) C.1 C.2.1 dX8_search_128 (by decide) ?_
            obtain rfl := Option.some.inj hf
            exact ih ((v98.1 + (1 : Int32)), r11.1, r11.2.1, r11.2.2.1, r11.2.2.2.1, r11.2.2.2.2.1, r11.2.2.2.2.2) _ _ _ hn w (lv_sub hl [1, 2, 3, 4, 5, 0] rfl)
      have hlp65 : ∀ (y65_3 : Int32) (y65_4 : Int32) (y65_5 : Int32) (y65_6 : Int32) (k65_q_round : Int32) (ex65 : Int32 × Int32 × (Nat → Int32) × (Nat → Int32) × (Nat → Int32) × (Nat → Int32) × (Nat → Int32)) (hk : (∀ (H : Heap) (locs : List Loc) (ls : Array Slot), wd D (ty4 cI cL cS cH) s (va_A (wX8_search cI cL cS cH a_this a_this_st a_this_past a_this_image a_this_imagePast a_this_tape a_this_laneOf a_this_sizeOf a_this_items a_this_code a_this_from a_this_by a_this_far a_this_met a_this_told q_acts q_imageActs q_tapeMany q_many q_round q_readAt q_isFault q_toldMany q_by q_code q_far q_from q_met q_st) s.heap.size) s.heap H locs (wX8_search cI cL cS cH a_this a_this_st a_this_past a_this_image a_this_imagePast a_this_tape a_this_laneOf a_this_sizeOf a_this_items a_this_code a_this_from a_this_by a_this_far a_this_met a_this_told q_acts q_imageActs q_tapeMany ex65.2.1 k65_q_round q_readAt q_isFault q_toldMany ex65.2.2.1 ex65.2.2.2.1 ex65.2.2.2.2.1 ex65.2.2.2.2.2.1 ex65.2.2.2.2.2.2 q_st) → lv_has ls 8 [(0, .ref a_this), (3, .int y65_3), (4, .int y65_4), (5, .int y65_5), (6, .int y65_6)] → gX8_search p l e s m below meth c D cI cL cS cH a_this a_this_st a_this_past a_this_image a_this_imagePast a_this_tape a_this_laneOf a_this_sizeOf a_this_items a_this_code a_this_from a_this_by a_this_far a_this_met a_this_told q_acts q_imageActs q_tapeMany q_many q_round q_readAt q_isFault q_toldMany q_by q_code q_far q_from q_met q_st x1 x2 x3 x4 x5 res H locs (F0 m 95 ls []))) (n : Nat) (v65 : Int32 × Int32 × (Nat → Int32) × (Nat → Int32) × (Nat → Int32) × (Nat → Int32) × (Nat → Int32)) (H : Heap) (locs : List Loc) (ls : Array Slot), itL (bX8_search_65 q_st y65_3 y65_4 y65_5 y65_6 k65_q_round) n v65 = some ex65 → wd D (ty4 cI cL cS cH) s (va_A (wX8_search cI cL cS cH a_this a_this_st a_this_past a_this_image a_this_imagePast a_this_tape a_this_laneOf a_this_sizeOf a_this_items a_this_code a_this_from a_this_by a_this_far a_this_met a_this_told q_acts q_imageActs q_tapeMany q_many q_round q_readAt q_isFault q_toldMany q_by q_code q_far q_from q_met q_st) s.heap.size) s.heap H locs (wX8_search cI cL cS cH a_this a_this_st a_this_past a_this_image a_this_imagePast a_this_tape a_this_laneOf a_this_sizeOf a_this_items a_this_code a_this_from a_this_by a_this_far a_this_met a_this_told q_acts q_imageActs q_tapeMany v65.2.1 k65_q_round q_readAt q_isFault q_toldMany v65.2.2.1 v65.2.2.2.1 v65.2.2.2.2.1 v65.2.2.2.2.2.1 v65.2.2.2.2.2.2 q_st) → lv_has ls 8 [(0, .ref a_this), (3, .int y65_3), (4, .int y65_4), (5, .int y65_5), (6, .int y65_6), (7, .int v65.1)] → gX8_search p l e s m below meth c D cI cL cS cH a_this a_this_st a_this_past a_this_image a_this_imagePast a_this_tape a_this_laneOf a_this_sizeOf a_this_items a_this_code a_this_from a_this_by a_this_far a_this_met a_this_told q_acts q_imageActs q_tapeMany q_many q_round q_readAt q_isFault q_toldMany q_by q_code q_far q_from q_met q_st x1 x2 x3 x4 x5 res H locs (F0 m 65 ls []) := by
        intro y65_3 y65_4 y65_5 y65_6 k65_q_round ex65 hk n
        induction n with
        | zero => intro v65 H locs ls hi w hl; exact (itL_zero hi).elim
        | succ n ih =>
          intro v65 H locs ls hi w hl
          obtain ⟨o, hf, hn⟩ := itL_succ hi
          unfold bX8_search_65 at hf
          refine lv_iload C.1 C.2.1 dX8_search_65 (lv_at hl 5 rfl) ?_
          refine lv_aload_n C.1 C.2.1 dX8_search_67 rfl (lv_at hl 0 rfl) ?_
          refine r_get C w inX8_search_X8 0 rfl rfl 0 (by decide) lkX8_search_7 rfl dX8_search_68 ?_
          refine lv_iconst (v := (0 : Int32)) C.1 C.2.1 dX8_search_71 (by decide) ?_
          obtain ⟨y13, hy14, hf⟩ := bd hf
          refine r_iald C w 6 0 rfl rfl (rd_in hy14) dX8_search_72 ?_
          refine lv_icmp_ge (tgt := 95) C.1 C.2.1 dX8_search_73 (by decide) (fun hq15 => ?_) (fun hq15 => ?_)
          · have hf := ite_t hf hq15
            obtain rfl := Option.some.inj hf
            obtain rfl := hn
            exact hk _ _ _ w (lv_sub hl [0, 1, 2, 3, 4] rfl)
          · have hf := ite_f hf hq15
            refine lv_aload_n C.1 C.2.1 dX8_search_76 rfl (lv_at hl 0 rfl) ?_
            refine lv_iload C.1 C.2.1 dX8_search_77 (lv_at hl 4 rfl) ?_
            refine lv_iload_n C.1 C.2.1 dX8_search_79 rfl (lv_at hl 1 rfl) ?_
            refine lv_iload C.1 C.2.1 dX8_search_80 (lv_at hl 2 rfl) ?_
            refine lv_iload C.1 C.2.1 dX8_search_82 (lv_at hl 3 rfl) ?_
            refine lv_iload C.1 C.2.1 dX8_search_84 (lv_at hl 5 rfl) ?_
            obtain ⟨r16, hc17, hf⟩ := bd hf
            refine call_Vv (ws' := (wX8_search cI cL cS cH a_this a_this_st a_this_past a_this_image a_this_imagePast a_this_tape a_this_laneOf a_this_sizeOf a_this_items a_this_code a_this_from a_this_by a_this_far a_this_met a_this_told q_acts q_imageActs q_tapeMany r16.1 k65_q_round q_readAt q_isFault q_toldMany r16.2.1 r16.2.2.1 r16.2.2.2.1 r16.2.2.2.2.1 r16.2.2.2.2.2 q_st)) (rest := []) C w (mX8_goesOn l D cI cL cS cH _ a_this a_this_st a_this_past a_this_image a_this_imagePast a_this_tape a_this_laneOf a_this_sizeOf a_this_items a_this_code a_this_from a_this_by a_this_far a_this_met a_this_told q_acts q_imageActs q_tapeMany v65.2.1 k65_q_round q_readAt q_isFault q_toldMany v65.2.2.1 v65.2.2.2.1 v65.2.2.2.2.1 v65.2.2.2.2.2.1 v65.2.2.2.2.2.2 q_st y65_6 y65_3 y65_4 y65_5 v65.1 hc17) (cwV 5 C.2.2.2.2 gX8_search_X8_goesOn rfl rfl rfl (by decide +kernel) ⟨Nat.le_of_ble_eq_true rfl, Nat.le_of_ble_eq_true rfl⟩) [0, 1, 2, 3, 4, 5, 6] [] 7 ⟨rfl, rfl, rfl, rfl, rfl, rfl, rfl, trivial⟩ ⟨rfl, rfl, rfl, rfl, rfl, rfl, rfl, trivial⟩ trivial rfl (by decide) (by decide) (ci := 8) (q0 := 0) rfl rfl rfl hl.1 rfl (lv_room (Nat.le_of_ble_eq_true rfl)) dX8_search_86 ⟨Nat.zero_le _, Nat.zero_le _⟩ (fun H locs w => ?_)
            refine lv_iinc (v := (v65.1 + (1 : Int32))) (lv' := [(7, .int (v65.1 + (1 : Int32))), (0, .ref a_this), (3, .int y65_3), (4, .int y65_4), (5, .int y65_5), (6, .int y65_6)]) C.1 C.2.1 dX8_search_89 hl (k := 5) rfl rfl (by decide) rfl (fun ls hl => ?_)
            refine lv_goto (tgt := 65) C.1 C.2.1 dX8_search_92 (by decide) ?_
            obtain rfl := Option.some.inj hf
            exact ih ((v65.1 + (1 : Int32)), r16.1, r16.2.1, r16.2.2.1, r16.2.2.2.1, r16.2.2.2.2.1, r16.2.2.2.2.2) _ _ _ hn w (lv_sub hl [1, 2, 3, 4, 5, 0] rfl)
      refine lv_iload C.1 C.2.1 dX8_search_32 (lv_at hl 4 rfl) ?_
      refine lv_aload_n C.1 C.2.1 dX8_search_34 rfl (lv_at hl 0 rfl) ?_
      refine r_get C w inX8_search_X8 0 rfl rfl 15 (by decide) lkX8_search_137 rfl dX8_search_35 ?_
      refine lv_icmp_ge (tgt := 187) C.1 C.2.1 dX8_search_38 (by decide) (fun hq18 => ?_) (fun hq18 => ?_)
      · have hf := ite_t hf hq18
        obtain rfl := Option.some.inj hf
        obtain rfl := hn
        exact hk _ _ _ w (lv_sub hl [] rfl)
      · have hf := ite_f hf hq18
        refine lv_aload_n C.1 C.2.1 dX8_search_41 rfl (lv_at hl 0 rfl) ?_
        refine r_get C w inX8_search_X8 0 rfl rfl 11 (by decide) lkX8_search_39 rfl dX8_search_42 ?_
        refine lv_iload C.1 C.2.1 dX8_search_45 (lv_at hl 4 rfl) ?_
        obtain ⟨y19, hy20, hf⟩ := bd hf
        refine r_iald C w 2 0 rfl rfl (rd_in hy20) dX8_search_47 ?_
        refine lv_sipush (v := (128 : Int32)) C.1 C.2.1 dX8_search_48 (by decide) ?_
        refine lv_irem C.1 C.2.1 dX8_search_51 (by decide) ?_
        refine lv_aload_n C.1 C.2.1 dX8_search_52 rfl (lv_at hl 0 rfl) ?_
        obtain ⟨r21, hc22, hf⟩ := bd hf
        refine call_Vi (ws' := (wX8_search cI cL cS cH a_this a_this_st a_this_past a_this_image a_this_imagePast a_this_tape a_this_laneOf a_this_sizeOf a_this_items a_this_code a_this_from a_this_by a_this_far a_this_met a_this_told q_acts q_imageActs q_tapeMany v32.2.1 k32_q_round q_readAt q_isFault q_toldMany v32.2.2.1 v32.2.2.2.1 v32.2.2.2.2.1 v32.2.2.2.2.2.1 v32.2.2.2.2.2.2 q_st)) (rest := [.int (y19 - y19 / (128 : Int32) * (128 : Int32))]) C w (mX8_all l D cI cL cS cH _ a_this a_this_st a_this_past a_this_image a_this_imagePast a_this_tape a_this_laneOf a_this_sizeOf a_this_items a_this_code a_this_from a_this_by a_this_far a_this_met a_this_told q_acts q_imageActs q_tapeMany v32.2.1 k32_q_round q_readAt q_isFault q_toldMany q_st hc22) (cwV 0 C.2.2.2.2 gX8_search_X8_all rfl rfl rfl (by decide +kernel) ⟨Nat.le_of_ble_eq_true rfl, Nat.le_of_ble_eq_true rfl⟩) [0, 6] [1, 2, 3, 4, 5] 7 ⟨rfl, rfl, trivial⟩ ⟨rfl, rfl, trivial⟩ ⟨⟨_, rfl, rfl⟩, ⟨_, rfl, rfl⟩, ⟨_, rfl, rfl⟩, ⟨_, rfl, rfl⟩, ⟨_, rfl, rfl⟩, trivial⟩ rfl (by decide) (by decide) (ci := 8) (q0 := 0) rfl rfl rfl hl.1 rfl (lv_room (Nat.le_of_ble_eq_true rfl)) dX8_search_53 ⟨Nat.zero_le _, Nat.zero_le _⟩ (fun H locs w => ?_)
        refine lv_icmp_ne (tgt := 62) C.1 C.2.1 dX8_search_56 (by decide) (fun hq23 => ?_) (fun hq23 => ?_)
        · have hf := ite_f hf hq23
          refine lv_iconst (v := (0 : Int32)) C.1 C.2.1 dX8_search_62 (by decide) ?_
          refine lv_istore (lv' := [(7, .int (0 : Int32)), (0, .ref a_this), (3, .int y32_3), (4, .int y32_4), (5, .int y32_5), (6, .int v32.1)]) C.1 C.2.1 dX8_search_63 hl (by decide) rfl (fun ls hl => ?_)
          obtain ⟨ex24, hx25, hf⟩ := bd hf
          refine hlp65 y32_3 y32_4 y32_5 v32.1 k32_q_round ex24 ?_ fu ((0 : Int32), v32.2.1, v32.2.2.1, v32.2.2.2.1, v32.2.2.2.2.1, v32.2.2.2.2.2.1, v32.2.2.2.2.2.2) _ _ _ hx25 w (lv_sub hl [1, 2, 3, 4, 5, 0] rfl)
          intro H locs ls w hl
          refine lv_iconst (v := (0 : Int32)) C.1 C.2.1 dX8_search_95 (by decide) ?_
          refine lv_istore (lv' := [(7, .int (0 : Int32)), (0, .ref a_this), (3, .int y32_3), (4, .int y32_4), (5, .int y32_5), (6, .int v32.1)]) C.1 C.2.1 dX8_search_96 hl (by decide) rfl (fun ls hl => ?_)
          obtain ⟨ex26, hx27, hf⟩ := bd hf
          refine hlp98 y32_3 y32_4 y32_5 v32.1 k32_q_round ex26 ?_ fu ((0 : Int32), ex24.2.1, ex24.2.2.1, ex24.2.2.2.1, ex24.2.2.2.2.1, ex24.2.2.2.2.2.1, ex24.2.2.2.2.2.2) _ _ _ hx27 w (lv_sub hl [1, 2, 3, 4, 5, 0] rfl)
          intro H locs ls w hl
          refine lv_iconst (v := (0 : Int32)) C.1 C.2.1 dX8_search_131 (by decide) ?_
          refine lv_istore (lv' := [(7, .int (0 : Int32)), (0, .ref a_this), (3, .int y32_3), (4, .int y32_4), (5, .int y32_5), (6, .int v32.1)]) C.1 C.2.1 dX8_search_132 hl (by decide) rfl (fun ls hl => ?_)
          obtain ⟨ex28, hx29, hf⟩ := bd hf
          refine hlp134 y32_3 y32_4 y32_5 v32.1 k32_q_round ex28 ?_ fu ((0 : Int32), ex26.2.1, ex26.2.2.1, ex26.2.2.2.1, ex26.2.2.2.2.1, ex26.2.2.2.2.2.1, ex26.2.2.2.2.2.2) _ _ _ hx29 w (lv_sub hl [1, 2, 3, 4, 5, 0] rfl)
          intro H locs ls w hl
          refine lv_iinc (v := (v32.1 + (1 : Int32))) (lv' := [(6, .int (v32.1 + (1 : Int32))), (0, .ref a_this), (3, .int y32_3), (4, .int y32_4), (5, .int y32_5)]) C.1 C.2.1 dX8_search_181 hl (k := 4) rfl rfl (by decide) rfl (fun ls hl => ?_)
          refine lv_goto (tgt := 32) C.1 C.2.1 dX8_search_184 (by decide) ?_
          obtain rfl := Option.some.inj hf
          exact ih ((v32.1 + (1 : Int32)), ex28.2.1, ex28.2.2.1, ex28.2.2.2.1, ex28.2.2.2.2.1, ex28.2.2.2.2.2.1, ex28.2.2.2.2.2.2) _ _ _ hn w (lv_sub hl [1, 2, 3, 4, 0] rfl)
        · have hf := ite_t hf hq23
          refine lv_iload C.1 C.2.1 dX8_search_59 (lv_at hl 4 rfl) ?_
          obtain rfl := Option.some.inj hf
          obtain rfl := hn
          have hres : _ = res := hk
          subst hres
          exact ret_i C hr hlocks w rfl dX8_search_61
  refine lv_aload_n C.1 C.2.1 dX8_search_0 rfl (lv_at hl 0 rfl) ?_
  refine lv_dup C.1 C.2.1 dX8_search_1 rfl ?_
  refine r_get C w inX8_search_X8 0 rfl rfl 17 (by decide) lkX8_search_134 rfl dX8_search_2 ?_
  refine lv_iconst (v := (1 : Int32)) C.1 C.2.1 dX8_search_5 (by decide) ?_
  refine lv_iadd C.1 C.2.1 dX8_search_6 ?_
  refine r_put (ws' := (wX8_search cI cL cS cH a_this a_this_st a_this_past a_this_image a_this_imagePast a_this_tape a_this_laneOf a_this_sizeOf a_this_items a_this_code a_this_from a_this_by a_this_far a_this_met a_this_told q_acts q_imageActs q_tapeMany q_many (q_round + (1 : Int32)) q_readAt q_isFault q_toldMany q_by q_code q_far q_from q_met q_st)) C w inX8_search_X8 tyX8 tyX8_ok nmX8 0 rfl rfl 17 (by decide) lkX8_search_134 rfl rfl rfl (Nat.le_of_ble_eq_true rfl) rfl dX8_search_7 (fun H locs w => ?_)
  refine lv_aload_n C.1 C.2.1 dX8_search_10 rfl (lv_at hl 0 rfl) ?_
  refine lv_iconst (v := (0 : Int32)) C.1 C.2.1 dX8_search_11 (by decide) ?_
  refine r_put (ws' := (wX8_search cI cL cS cH a_this a_this_st a_this_past a_this_image a_this_imagePast a_this_tape a_this_laneOf a_this_sizeOf a_this_items a_this_code a_this_from a_this_by a_this_far a_this_met a_this_told q_acts q_imageActs q_tapeMany (0 : Int32) (q_round + (1 : Int32)) q_readAt q_isFault q_toldMany q_by q_code q_far q_from q_met q_st)) C w inX8_search_X8 tyX8 tyX8_ok nmX8 0 rfl rfl 15 (by decide) lkX8_search_137 rfl rfl rfl (Nat.le_of_ble_eq_true rfl) rfl dX8_search_12 (fun H locs w => ?_)
  refine lv_aload_n C.1 C.2.1 dX8_search_15 rfl (lv_at hl 0 rfl) ?_
  refine lv_iload_n C.1 C.2.1 dX8_search_16 rfl (lv_at hl 1 rfl) ?_
  refine lv_sipush (v := (128 : Int32)) C.1 C.2.1 dX8_search_17 (by decide) ?_
  refine lv_iload_n C.1 C.2.1 dX8_search_20 rfl (lv_at hl 2 rfl) ?_
  refine lv_imul C.1 C.2.1 dX8_search_21 ?_
  refine lv_iadd C.1 C.2.1 dX8_search_22 ?_
  refine lv_iconst (v := (-1 : Int32)) C.1 C.2.1 dX8_search_23 (by decide) ?_
  refine lv_bipush (v := (-4 : Int32)) C.1 C.2.1 dX8_search_24 (by decide) ?_
  obtain ⟨r30, hc31, hf⟩ := bd hf
  refine call_Vv (ws' := (wX8_search cI cL cS cH a_this a_this_st a_this_past a_this_image a_this_imagePast a_this_tape a_this_laneOf a_this_sizeOf a_this_items a_this_code a_this_from a_this_by a_this_far a_this_met a_this_told q_acts q_imageActs q_tapeMany r30.1 (q_round + (1 : Int32)) q_readAt q_isFault q_toldMany r30.2.1 r30.2.2.1 r30.2.2.2.1 r30.2.2.2.2.1 r30.2.2.2.2.2 q_st)) (rest := []) C w (mX8_meets l D cI cL cS cH _ a_this a_this_st a_this_past a_this_image a_this_imagePast a_this_tape a_this_laneOf a_this_sizeOf a_this_items a_this_code a_this_from a_this_by a_this_far a_this_met a_this_told q_acts q_imageActs q_tapeMany (0 : Int32) (q_round + (1 : Int32)) q_readAt q_isFault q_toldMany q_by q_code q_far q_from q_met (x1 + ((128 : Int32) * x2)) (-1 : Int32) (-4 : Int32) hc31) (cwV 3 C.2.2.2.2 gX8_search_X8_meets rfl rfl rfl (by decide +kernel) ⟨Nat.le_of_ble_eq_true rfl, Nat.le_of_ble_eq_true rfl⟩) [0, 1, 2, 3, 4, 5] [6] 7 ⟨rfl, rfl, rfl, rfl, rfl, rfl, trivial⟩ ⟨rfl, rfl, rfl, rfl, rfl, rfl, trivial⟩ ⟨⟨_, rfl, rfl⟩, trivial⟩ rfl (by decide) (by decide) (ci := 8) (q0 := 0) rfl rfl rfl hl.1 rfl (lv_room (Nat.le_of_ble_eq_true rfl)) dX8_search_26 ⟨Nat.zero_le _, Nat.zero_le _⟩ (fun H locs w => ?_)
  refine lv_iconst (v := (0 : Int32)) C.1 C.2.1 dX8_search_29 (by decide) ?_
  refine lv_istore (lv' := [(6, .int (0 : Int32)), (0, .ref a_this), (1, .int x1), (2, .int x2), (3, .int x3), (4, .int x4), (5, .int x5)]) C.1 C.2.1 dX8_search_30 hl (by decide) rfl (fun ls hl => ?_)
  obtain ⟨ex32, hx33, hf⟩ := bd hf
  rcases ex32 with ex32 | ex32
  · have hf := se_l hf
    have hres := Option.some.inj hf
    exact hlp32 x3 x4 x5 (q_round + (1 : Int32)) (.inl ex32) hres fu ((0 : Int32), r30.1, r30.2.1, r30.2.2.1, r30.2.2.2.1, r30.2.2.2.2.1, r30.2.2.2.2.2) _ _ _ hx33 w (lv_sub hl [1, 4, 5, 6, 0] rfl)
  · have hf := se_r hf
    refine hlp32 x3 x4 x5 (q_round + (1 : Int32)) (.inr ex32) ?_ fu ((0 : Int32), r30.1, r30.2.1, r30.2.2.1, r30.2.2.2.1, r30.2.2.2.2.1, r30.2.2.2.2.2) _ _ _ hx33 w (lv_sub hl [1, 4, 5, 6, 0] rfl)
    intro H locs ls w hl
    refine lv_bipush (v := (-4 : Int32)) C.1 C.2.1 dX8_search_187 (by decide) ?_
    have hres := Option.some.inj hf
    subst hres
    exact ret_i C hr hlocks w rfl dX8_search_189

set_option maxRecDepth 100000 in
theorem inX8_leastTeam_X8 : ∀ w ∈ u_ws RX8 TX8 22, w ∈ wsX8_leastTeam := by decide +kernel
set_option maxRecDepth 100000 in
theorem lkX8_leastTeam_7 : Cond.fieldLink RX8 7 "CleanNetsModel" "st" "[I" ∈ wsX8_leastTeam := by decide +kernel
abbrev wX8_leastTeam (cI cL cS cH : ClassId) (a_this : Nat) (a_this_st : Nat) (a_this_past : Nat) (a_this_image : Nat) (a_this_imagePast : Nat) (a_this_tape : Nat) (a_this_laneOf : Nat) (a_this_sizeOf : Nat) (a_this_items : Nat) (a_this_code : Nat) (a_this_from : Nat) (a_this_by : Nat) (a_this_far : Nat) (a_this_met : Nat) (a_this_told : Nat) (q_acts : Int32) (q_imageActs : Int32) (q_tapeMany : Int32) (q_many : Int32) (q_round : Int32) (q_readAt : Int32) (q_isFault : Int32) (q_toldMany : Int32) (q_by : Nat → Int32) (q_code : Nat → Int32) (q_far : Nat → Int32) (q_from : Nat → Int32) (q_met : Nat → Int32) (q_st : Nat → Int32) : va_W := [(a_this, .inr (8, [.ref a_this_st, .ref a_this_past, .int q_acts, .ref a_this_image, .ref a_this_imagePast, .int q_imageActs, .ref a_this_tape, .int q_tapeMany, .ref a_this_laneOf, .ref a_this_sizeOf, .ref a_this_items, .ref a_this_code, .ref a_this_from, .ref a_this_by, .ref a_this_far, .int q_many, .ref a_this_met, .int q_round, .int q_readAt, .int q_isFault, .int q_toldMany, .ref a_this_told])),
  (a_this_by, .inl (cI, 2187, .inl q_by)),
  (a_this_code, .inl (cI, 2187, .inl q_code)),
  (a_this_far, .inl (cI, 2187, .inl q_far)),
  (a_this_from, .inl (cI, 2187, .inl q_from)),
  (a_this_met, .inl (cI, 16384, .inl q_met)),
  (a_this_st, .inl (cI, 13, .inl q_st))]
def bX8_leastTeam_2 (q_st : Nat → Int32) (y2_1 : Int32) (y2_2 : Int32) (v2 : Int32 × Int32 × Int32 × (Nat → Int32) × (Nat → Int32) × (Nat → Int32) × (Nat → Int32) × (Nat → Int32)) : Option ((Int32 × Int32 × Int32 × (Nat → Int32) × (Nat → Int32) × (Nat → Int32) × (Nat → Int32) × (Nat → Int32)) ⊕ ((Int32 × Int32 × Int32 × (Nat → Int32) × (Nat → Int32) × (Nat → Int32) × (Nat → Int32) × (Nat → Int32)) ⊕ (Int32 × Int32 × Int32 × (Nat → Int32) × (Nat → Int32) × (Nat → Int32) × (Nat → Int32) × (Nat → Int32)))) := Option.bind (rd q_st 13 (0 : Int32)) (fun y1 => (if y1 < v2.1 then some (.inr (.inr (v2.1, v2.2.1, v2.2.2.1, v2.2.2.2.1, v2.2.2.2.2.1, v2.2.2.2.2.2.1, v2.2.2.2.2.2.2.1, v2.2.2.2.2.2.2.2))) else Option.bind (fX8_search v2.2.1 v2.2.2.1 v2.2.2.2.1 v2.2.2.2.2.1 v2.2.2.2.2.2.1 v2.2.2.2.2.2.2.1 v2.2.2.2.2.2.2.2 q_st (0 : Int32) (0 : Int32) y2_1 v2.1 y2_2) (fun r4 => (if r4.1 < 0 then some (.inl ((v2.1 + (1 : Int32)), r4.2.1, r4.2.2.1, r4.2.2.2.1, r4.2.2.2.2.1, r4.2.2.2.2.2.1, r4.2.2.2.2.2.2.1, r4.2.2.2.2.2.2.2)) else some (.inr (.inl (v2.1, r4.2.1, r4.2.2.1, r4.2.2.2.1, r4.2.2.2.2.1, r4.2.2.2.2.2.1, r4.2.2.2.2.2.2.1, r4.2.2.2.2.2.2.2)))))))
def fX8_leastTeam (q_many : Int32) (q_round : Int32) (q_by : Nat → Int32) (q_code : Nat → Int32) (q_far : Nat → Int32) (q_from : Nat → Int32) (q_met : Nat → Int32) (q_st : Nat → Int32) (x1 : Int32) (x2 : Int32) : Option (Int32 × Int32 × Int32 × (Nat → Int32) × (Nat → Int32) × (Nat → Int32) × (Nat → Int32) × (Nat → Int32)) := Option.bind (itL (bX8_leastTeam_2 q_st x1 x2) fu ((1 : Int32), q_many, q_round, q_by, q_code, q_far, q_from, q_met)) (fun o => Sum.elim (fun ex7 => some ex7) (fun ex7 => some ((-4 : Int32), ex7.2.1, ex7.2.2.1, ex7.2.2.2.1, ex7.2.2.2.2.1, ex7.2.2.2.2.2.1, ex7.2.2.2.2.2.2.1, ex7.2.2.2.2.2.2.2)) o)
abbrev gX8_leastTeam (p : Program) (l : Launch) (e : Env) (s : State) (m : MethodId) (below : List Frame) (meth : Method) (c : Code) (D : vg) (cI cL cS cH : ClassId) (a_this : Nat) (a_this_st : Nat) (a_this_past : Nat) (a_this_image : Nat) (a_this_imagePast : Nat) (a_this_tape : Nat) (a_this_laneOf : Nat) (a_this_sizeOf : Nat) (a_this_items : Nat) (a_this_code : Nat) (a_this_from : Nat) (a_this_by : Nat) (a_this_far : Nat) (a_this_met : Nat) (a_this_told : Nat) (q_acts : Int32) (q_imageActs : Int32) (q_tapeMany : Int32) (q_many : Int32) (q_round : Int32) (q_readAt : Int32) (q_isFault : Int32) (q_toldMany : Int32) (q_by : Nat → Int32) (q_code : Nat → Int32) (q_far : Nat → Int32) (q_from : Nat → Int32) (q_met : Nat → Int32) (q_st : Nat → Int32) (x1 : Int32) (x2 : Int32) (res : Int32 × Int32 × Int32 × (Nat → Int32) × (Nat → Int32) × (Nat → Int32) × (Nat → Int32) × (Nat → Int32)) (H : Heap) (locs : List Loc) (g : JFrame) : Prop := W p l e (headSpec wsX8_leastTeam ({ frames := 6, cells := 0, slots := 0, locals := 147 })).room s m ([.ref a_this, .int x1, .int x2] : List Value).toArray below meth c H locs 0 0 (MQ below (va_Qi (fun r' (_ : Unit) => r' = res.1) (fun _ t => pos1 D s.heap.size (wX8_leastTeam cI cL cS cH a_this a_this_st a_this_past a_this_image a_this_imagePast a_this_tape a_this_laneOf a_this_sizeOf a_this_items a_this_code a_this_from a_this_by a_this_far a_this_met a_this_told q_acts q_imageActs q_tapeMany q_many q_round q_readAt q_isFault q_toldMany q_by q_code q_far q_from q_met q_st) (wX8_leastTeam cI cL cS cH a_this a_this_st a_this_past a_this_image a_this_imagePast a_this_tape a_this_laneOf a_this_sizeOf a_this_items a_this_code a_this_from a_this_by a_this_far a_this_met a_this_told q_acts q_imageActs q_tapeMany res.2.1 res.2.2.1 q_readAt q_isFault q_toldMany res.2.2.2.1 res.2.2.2.2.1 res.2.2.2.2.2.1 res.2.2.2.2.2.2.1 res.2.2.2.2.2.2.2 q_st) t) (va_A (wX8_leastTeam cI cL cS cH a_this a_this_st a_this_past a_this_image a_this_imagePast a_this_tape a_this_laneOf a_this_sizeOf a_this_items a_this_code a_this_from a_this_by a_this_far a_this_met a_this_told q_acts q_imageActs q_tapeMany q_many q_round q_readAt q_isFault q_toldMany q_by q_code q_far q_from q_met q_st) s.heap.size)) ([.ref a_this, .int x1, .int x2] : List Value).toArray s 0 0 (va_A (wX8_leastTeam cI cL cS cH a_this a_this_st a_this_past a_this_image a_this_imagePast a_this_tape a_this_laneOf a_this_sizeOf a_this_items a_this_code a_this_from a_this_by a_this_far a_this_met a_this_told q_acts q_imageActs q_tapeMany q_many q_round q_readAt q_isFault q_toldMany q_by q_code q_far q_from q_met q_st) s.heap.size)) g
set_option maxHeartbeats 4000000 in
set_option maxRecDepth 100000 in
theorem mX8_leastTeam (l : Launch) (D : vg) (cI cL cS cH : ClassId) (sz : Nat) (a_this : Nat) (a_this_st : Nat) (a_this_past : Nat) (a_this_image : Nat) (a_this_imagePast : Nat) (a_this_tape : Nat) (a_this_laneOf : Nat) (a_this_sizeOf : Nat) (a_this_items : Nat) (a_this_code : Nat) (a_this_from : Nat) (a_this_by : Nat) (a_this_far : Nat) (a_this_met : Nat) (a_this_told : Nat) (q_acts : Int32) (q_imageActs : Int32) (q_tapeMany : Int32) (q_many : Int32) (q_round : Int32) (q_readAt : Int32) (q_isFault : Int32) (q_toldMany : Int32) (q_by : Nat → Int32) (q_code : Nat → Int32) (q_far : Nat → Int32) (q_from : Nat → Int32) (q_met : Nat → Int32) (q_st : Nat → Int32) (x1 : Int32) (x2 : Int32) {res : Int32 × Int32 × Int32 × (Nat → Int32) × (Nat → Int32) × (Nat → Int32) × (Nat → Int32) × (Nat → Int32)} (hf : fX8_leastTeam q_many q_round q_by q_code q_far q_from q_met q_st x1 x2 = some res) : cti l yX8_leastTeam wsX8_leastTeam ({ frames := 6, cells := 0, slots := 0, locals := 147 }) D (ty4 cI cL cS cH) sz [.ref a_this, .int x1, .int x2] (wX8_leastTeam cI cL cS cH a_this a_this_st a_this_past a_this_image a_this_imagePast a_this_tape a_this_laneOf a_this_sizeOf a_this_items a_this_code a_this_from a_this_by a_this_far a_this_met a_this_told q_acts q_imageActs q_tapeMany q_many q_round q_readAt q_isFault q_toldMany q_by q_code q_far q_from q_met q_st) (wX8_leastTeam cI cL cS cH a_this a_this_st a_this_past a_this_image a_this_imagePast a_this_tape a_this_laneOf a_this_sizeOf a_this_items a_this_code a_this_from a_this_by a_this_far a_this_met a_this_told q_acts q_imageActs q_tapeMany res.2.1 res.2.2.1 q_readAt q_isFault q_toldMany res.2.2.2.1 res.2.2.2.2.1 res.2.2.2.2.2.1 res.2.2.2.2.2.2.1 res.2.2.2.2.2.2.2 q_st) res.1 := by
  refine Met.ofW (cc := cX8_leastTeam) (maxL := 4) (ret := (some .int)) (by decide) rfl ?_
  intro p e s m args below meth c s₁ B hml hv
  obtain ⟨rfl, hpre⟩ := hv
  obtain rfl := hpre.1
  have C : CallFix p m c cX8_leastTeam 4 s _ wsX8_leastTeam RX8 := ⟨B.exec, B.bytes, hml, findClass_of_methodNamed B.named, atoms_spec (ws := wsX8_leastTeam) B.pre⟩
  have hr := B.returns
  have hlocks := B.notSynchronized
  have w := wd_start hpre
  clear hpre B
  have hl := lv_entry ([.ref a_this, .int x1, .int x2]) (n := 4) (Nat.le_of_ble_eq_true rfl)
  rw [lg_entry_eq]
  generalize (lg_sl ([.ref a_this, .int x1, .int x2]) ++ List.replicate (4 - (lg_sl ([.ref a_this, .int x1, .int x2])).length) Slot.unset).toArray = ls at hl ⊢
  have hl : lv_has ls 4 [(0, .ref a_this), (1, .int x1), (2, .int x2)] := hl
  unfold fX8_leastTeam at hf
  have hlp2 : ∀ (y2_1 : Int32) (y2_2 : Int32) (ex2 : (Int32 × Int32 × Int32 × (Nat → Int32) × (Nat → Int32) × (Nat → Int32) × (Nat → Int32) × (Nat → Int32)) ⊕ (Int32 × Int32 × Int32 × (Nat → Int32) × (Nat → Int32) × (Nat → Int32) × (Nat → Int32) × (Nat → Int32))) (hk : (match ex2 with | .inl r => r = res | .inr u => ∀ (H : Heap) (locs : List Loc) (ls : Array Slot), wd D (ty4 cI cL cS cH) s (va_A (wX8_leastTeam cI cL cS cH a_this a_this_st a_this_past a_this_image a_this_imagePast a_this_tape a_this_laneOf a_this_sizeOf a_this_items a_this_code a_this_from a_this_by a_this_far a_this_met a_this_told q_acts q_imageActs q_tapeMany q_many q_round q_readAt q_isFault q_toldMany q_by q_code q_far q_from q_met q_st) s.heap.size) s.heap H locs (wX8_leastTeam cI cL cS cH a_this a_this_st a_this_past a_this_image a_this_imagePast a_this_tape a_this_laneOf a_this_sizeOf a_this_items a_this_code a_this_from a_this_by a_this_far a_this_met a_this_told q_acts q_imageActs q_tapeMany u.2.1 u.2.2.1 q_readAt q_isFault q_toldMany u.2.2.2.1 u.2.2.2.2.1 u.2.2.2.2.2.1 u.2.2.2.2.2.2.1 u.2.2.2.2.2.2.2 q_st) → lv_has ls 4 [] → gX8_leastTeam p l e s m below meth c D cI cL cS cH a_this a_this_st a_this_past a_this_image a_this_imagePast a_this_tape a_this_laneOf a_this_sizeOf a_this_items a_this_code a_this_from a_this_by a_this_far a_this_met a_this_told q_acts q_imageActs q_tapeMany q_many q_round q_readAt q_isFault q_toldMany q_by q_code q_far q_from q_met q_st x1 x2 res H locs (F0 m 32 ls []))) (n : Nat) (v2 : Int32 × Int32 × Int32 × (Nat → Int32) × (Nat → Int32) × (Nat → Int32) × (Nat → Int32) × (Nat → Int32)) (H : Heap) (locs : List Loc) (ls : Array Slot), itL (bX8_leastTeam_2 q_st y2_1 y2_2) n v2 = some ex2 → wd D (ty4 cI cL cS cH) s (va_A (wX8_leastTeam cI cL cS cH a_this a_this_st a_this_past a_this_image a_this_imagePast a_this_tape a_this_laneOf a_this_sizeOf a_this_items a_this_code a_this_from a_this_by a_this_far a_this_met a_this_told q_acts q_imageActs q_tapeMany q_many q_round q_readAt q_isFault q_toldMany q_by q_code q_far q_from q_met q_st) s.heap.size) s.heap H locs (wX8_leastTeam cI cL cS cH a_this a_this_st a_this_past a_this_image a_this_imagePast a_this_tape a_this_laneOf a_this_sizeOf a_this_items a_this_code a_this_from a_this_by a_this_far a_this_met a_this_told q_acts q_imageActs q_tapeMany v2.2.1 v2.2.2.1 q_readAt q_isFault q_toldMany v2.2.2.2.1 v2.2.2.2.2.1 v2.2.2.2.2.2.1 v2.2.2.2.2.2.2.1 v2.2.2.2.2.2.2.2 q_st) → lv_has ls 4 [(0, .ref a_this), (1, .int y2_1), (2, .int y2_2), (3, .int v2.1)] → gX8_leastTeam p l e s m below meth c D cI cL cS cH a_this a_this_st a_this_past a_this_image a_this_imagePast a_this_tape a_this_laneOf a_this_sizeOf a_this_items a_this_code a_this_from a_this_by a_this_far a_this_met a_this_told q_acts q_imageActs q_tapeMany q_many q_round q_readAt q_isFault q_toldMany q_by q_code q_far q_from q_met q_st x1 x2 res H locs (F0 m 2 ls []) := by
    intro y2_1 y2_2 ex2 hk n
    induction n with
    | zero => intro v2 H locs ls hi w hl; exact (itL_zero hi).elim
    | succ n ih =>
      intro v2 H locs ls hi w hl
      obtain ⟨o, hf, hn⟩ := itL_succ hi
      unfold bX8_leastTeam_2 at hf
      refine lv_iload_n C.1 C.2.1 dX8_leastTeam_2 rfl (lv_at hl 3 rfl) ?_
      refine lv_aload_n C.1 C.2.1 dX8_leastTeam_3 rfl (lv_at hl 0 rfl) ?_
      refine r_get C w inX8_leastTeam_X8 0 rfl rfl 0 (by decide) lkX8_leastTeam_7 rfl dX8_leastTeam_4 ?_
      refine lv_iconst (v := (0 : Int32)) C.1 C.2.1 dX8_leastTeam_7 (by decide) ?_
      obtain ⟨y1, hy2, hf⟩ := bd hf
      refine r_iald C w 6 0 rfl rfl (rd_in hy2) dX8_leastTeam_8 ?_
      refine lv_icmp_gt (tgt := 32) C.1 C.2.1 dX8_leastTeam_9 (by decide) (fun hq3 => ?_) (fun hq3 => ?_)
      · have hf := ite_t hf hq3
        obtain rfl := Option.some.inj hf
        obtain rfl := hn
        exact hk _ _ _ w (lv_sub hl [] rfl)
      · have hf := ite_f hf hq3
        refine lv_aload_n C.1 C.2.1 dX8_leastTeam_12 rfl (lv_at hl 0 rfl) ?_
        refine lv_iconst (v := (0 : Int32)) C.1 C.2.1 dX8_leastTeam_13 (by decide) ?_
        refine lv_iconst (v := (0 : Int32)) C.1 C.2.1 dX8_leastTeam_14 (by decide) ?_
        refine lv_iload_n C.1 C.2.1 dX8_leastTeam_15 rfl (lv_at hl 1 rfl) ?_
        refine lv_iload_n C.1 C.2.1 dX8_leastTeam_16 rfl (lv_at hl 3 rfl) ?_
        refine lv_iload_n C.1 C.2.1 dX8_leastTeam_17 rfl (lv_at hl 2 rfl) ?_
        obtain ⟨r4, hc5, hf⟩ := bd hf
        refine call_Vi (ws' := (wX8_leastTeam cI cL cS cH a_this a_this_st a_this_past a_this_image a_this_imagePast a_this_tape a_this_laneOf a_this_sizeOf a_this_items a_this_code a_this_from a_this_by a_this_far a_this_met a_this_told q_acts q_imageActs q_tapeMany r4.2.1 r4.2.2.1 q_readAt q_isFault q_toldMany r4.2.2.2.1 r4.2.2.2.2.1 r4.2.2.2.2.2.1 r4.2.2.2.2.2.2.1 r4.2.2.2.2.2.2.2 q_st)) (rest := []) C w (mX8_search l D cI cL cS cH _ a_this a_this_st a_this_past a_this_image a_this_imagePast a_this_tape a_this_laneOf a_this_sizeOf a_this_items a_this_code a_this_from a_this_by a_this_far a_this_met a_this_told q_acts q_imageActs q_tapeMany v2.2.1 v2.2.2.1 q_readAt q_isFault q_toldMany v2.2.2.2.1 v2.2.2.2.2.1 v2.2.2.2.2.2.1 v2.2.2.2.2.2.2.1 v2.2.2.2.2.2.2.2 q_st (0 : Int32) (0 : Int32) y2_1 v2.1 y2_2 hc5) (cwV 5 C.2.2.2.2 gX8_leastTeam_X8_search rfl rfl rfl (by decide +kernel) ⟨Nat.le_of_ble_eq_true rfl, Nat.le_of_ble_eq_true rfl⟩) [0, 1, 2, 3, 4, 5, 6] [] 7 ⟨rfl, rfl, rfl, rfl, rfl, rfl, rfl, trivial⟩ ⟨rfl, rfl, rfl, rfl, rfl, rfl, rfl, trivial⟩ trivial rfl (by decide) (by decide) (ci := 8) (q0 := 0) rfl rfl rfl hl.1 rfl (lv_room (Nat.le_of_ble_eq_true rfl)) dX8_leastTeam_18 ⟨Nat.zero_le _, Nat.zero_le _⟩ (fun H locs w => ?_)
        refine lv_if_lt (tgt := 26) C.1 C.2.1 dX8_leastTeam_21 (by decide) (fun hq6 => ?_) (fun hq6 => ?_)
        · have hf := ite_t hf hq6
          refine lv_iinc (v := (v2.1 + (1 : Int32))) (lv' := [(3, .int (v2.1 + (1 : Int32))), (0, .ref a_this), (1, .int y2_1), (2, .int y2_2)]) C.1 C.2.1 dX8_leastTeam_26 hl (k := 3) rfl rfl (by decide) rfl (fun ls hl => ?_)
          refine lv_goto (tgt := 2) C.1 C.2.1 dX8_leastTeam_29 (by decide) ?_
          obtain rfl := Option.some.inj hf
          exact ih ((v2.1 + (1 : Int32)), r4.2.1, r4.2.2.1, r4.2.2.2.1, r4.2.2.2.2.1, r4.2.2.2.2.2.1, r4.2.2.2.2.2.2.1, r4.2.2.2.2.2.2.2) _ _ _ hn w (lv_sub hl [1, 2, 3, 0] rfl)
        · have hf := ite_f hf hq6
          refine lv_iload_n C.1 C.2.1 dX8_leastTeam_24 rfl (lv_at hl 3 rfl) ?_
          obtain rfl := Option.some.inj hf
          obtain rfl := hn
          have hres : _ = res := hk
          subst hres
          exact ret_i C hr hlocks w rfl dX8_leastTeam_25
  refine lv_iconst (v := (1 : Int32)) C.1 C.2.1 dX8_leastTeam_0 (by decide) ?_
  refine lv_istore_n (lv' := [(3, .int (1 : Int32)), (0, .ref a_this), (1, .int x1), (2, .int x2)]) C.1 C.2.1 dX8_leastTeam_1 rfl hl (by decide) rfl (fun ls hl => ?_)
  obtain ⟨ex7, hx8, hf⟩ := bd hf
  rcases ex7 with ex7 | ex7
  · have hf := se_l hf
    have hres := Option.some.inj hf
    exact hlp2 x1 x2 (.inl ex7) hres fu ((1 : Int32), q_many, q_round, q_by, q_code, q_far, q_from, q_met) _ _ _ hx8 w (lv_sub hl [1, 2, 3, 0] rfl)
  · have hf := se_r hf
    refine hlp2 x1 x2 (.inr ex7) ?_ fu ((1 : Int32), q_many, q_round, q_by, q_code, q_far, q_from, q_met) _ _ _ hx8 w (lv_sub hl [1, 2, 3, 0] rfl)
    intro H locs ls w hl
    refine lv_bipush (v := (-4 : Int32)) C.1 C.2.1 dX8_leastTeam_32 (by decide) ?_
    have hres := Option.some.inj hf
    subst hres
    exact ret_i C hr hlocks w rfl dX8_leastTeam_34

abbrev wX8_isKind (cI cL cS cH : ClassId) : va_W := []
def fX8_isKind  (x0 : Int32) (x1 : Int32) : Option (Int32) := Option.bind (fX8_in ((x0).toInt64) (0 : Int64) (2 : Int64)) (fun r1 => (if r1 = 0 then some (0 : Int32) else Option.bind (fX8_in ((x1).toInt64) (0 : Int64) (1 : Int64)) (fun r4 => (if r4 = 0 then some (0 : Int32) else some (1 : Int32)))))
set_option maxHeartbeats 4000000 in
set_option maxRecDepth 100000 in
theorem mX8_isKind (l : Launch) (D : vg) (cI cL cS cH : ClassId) (sz : Nat) (x0 : Int32) (x1 : Int32) {res : Int32} (hf : fX8_isKind x0 x1 = some res) : cti l yX8_isKind wsX8_isKind ({ frames := 1, cells := 0, slots := 0, locals := 25 }) D (ty4 cI cL cS cH) sz [.int x0, .int x1] (wX8_isKind cI cL cS cH ) (wX8_isKind cI cL cS cH ) res := by
  refine Met.ofW (cc := cX8_isKind) (maxL := 2) (ret := (some .boolean)) (by decide) rfl ?_
  intro p e s m args below meth c s₁ B hml hv
  obtain ⟨rfl, hpre⟩ := hv
  obtain rfl := hpre.1
  have C : CallFix p m c cX8_isKind 2 s _ wsX8_isKind RX8 := ⟨B.exec, B.bytes, hml, findClass_of_methodNamed B.named, atoms_spec (ws := wsX8_isKind) B.pre⟩
  have hr := B.returns
  have hlocks := B.notSynchronized
  have w := wd_start hpre
  clear hpre B
  have hl := lv_entry ([.int x0, .int x1]) (n := 2) (Nat.le_of_ble_eq_true rfl)
  rw [lg_entry_eq]
  generalize (lg_sl ([.int x0, .int x1]) ++ List.replicate (2 - (lg_sl ([.int x0, .int x1])).length) Slot.unset).toArray = ls at hl ⊢
  have hl : lv_has ls 2 [(0, .int x0), (1, .int x1)] := hl
  unfold fX8_isKind at hf
  refine lv_iload_n C.1 C.2.1 dX8_isKind_0 rfl (lv_at hl 0 rfl) ?_
  refine lv_i2l C.1 C.2.1 dX8_isKind_1 rfl ?_
  refine lv_lconst (v := (0 : Int64)) C.1 C.2.1 dX8_isKind_2 (by decide) ?_
  refine lv_ldc2 (v := (2 : Int64)) C.1 C.2.1 C.2.2.2.1 (C.2.2.2.2 (.constantLong RX8 152 (2 : Int64)) (by decide +kernel)) dX8_isKind_3 ?_
  obtain ⟨r1, hc2, hf⟩ := bd hf
  refine call_Si (ws' := (wX8_isKind cI cL cS cH )) (rest := []) C w (mX8_in l D cI cL cS cH _ ((x0).toInt64) (0 : Int64) (2 : Int64) hc2) (va_cwS 3 C.2.2.2.2 gX8_isKind_X8_in rfl rfl rfl (by decide +kernel) ⟨Nat.le_of_ble_eq_true rfl, Nat.le_of_ble_eq_true rfl⟩) [] [] 0 trivial trivial trivial rfl (by decide) (by decide) rfl hl.1 rfl (lv_room (Nat.le_of_ble_eq_true rfl)) dX8_isKind_6 ⟨Nat.zero_le _, Nat.zero_le _⟩ (fun H locs w => ?_)
  refine lv_if_eq (tgt := 26) C.1 C.2.1 dX8_isKind_9 (by decide) (fun hq3 => ?_) (fun hq3 => ?_)
  · have hf := ite_t hf hq3
    refine lv_iconst (v := (0 : Int32)) C.1 C.2.1 dX8_isKind_26 (by decide) ?_
    have hres := Option.some.inj hf
    subst hres
    exact ret_z C hr hlocks w (by decide) rfl dX8_isKind_27
  · have hf := ite_f hf hq3
    refine lv_iload_n C.1 C.2.1 dX8_isKind_12 rfl (lv_at hl 1 rfl) ?_
    refine lv_i2l C.1 C.2.1 dX8_isKind_13 rfl ?_
    refine lv_lconst (v := (0 : Int64)) C.1 C.2.1 dX8_isKind_14 (by decide) ?_
    refine lv_lconst (v := (1 : Int64)) C.1 C.2.1 dX8_isKind_15 (by decide) ?_
    obtain ⟨r4, hc5, hf⟩ := bd hf
    refine call_Si (ws' := (wX8_isKind cI cL cS cH )) (rest := []) C w (mX8_in l D cI cL cS cH _ ((x1).toInt64) (0 : Int64) (1 : Int64) hc5) (va_cwS 3 C.2.2.2.2 gX8_isKind_X8_in rfl rfl rfl (by decide +kernel) ⟨Nat.le_of_ble_eq_true rfl, Nat.le_of_ble_eq_true rfl⟩) [] [] 0 trivial trivial trivial rfl (by decide) (by decide) rfl hl.1 rfl (lv_room (Nat.le_of_ble_eq_true rfl)) dX8_isKind_16 ⟨Nat.zero_le _, Nat.zero_le _⟩ (fun H locs w => ?_)
    refine lv_if_eq (tgt := 26) C.1 C.2.1 dX8_isKind_19 (by decide) (fun hq6 => ?_) (fun hq6 => ?_)
    · have hf := ite_t hf hq6
      refine lv_iconst (v := (0 : Int32)) C.1 C.2.1 dX8_isKind_26 (by decide) ?_
      have hres := Option.some.inj hf
      subst hres
      exact ret_z C hr hlocks w (by decide) rfl dX8_isKind_27
    · have hf := ite_f hf hq6
      refine lv_iconst (v := (1 : Int32)) C.1 C.2.1 dX8_isKind_22 (by decide) ?_
      refine lv_goto (tgt := 27) C.1 C.2.1 dX8_isKind_23 (by decide) ?_
      have hres := Option.some.inj hf
      subst hres
      exact ret_z C hr hlocks w (by decide) rfl dX8_isKind_27

abbrev wX8_team (cI cL cS cH : ClassId) (a_this : Nat) (a_this_st : Nat) (a_this_past : Nat) (a_this_image : Nat) (a_this_imagePast : Nat) (a_this_tape : Nat) (a_this_laneOf : Nat) (a_this_sizeOf : Nat) (a_this_items : Nat) (a_this_code : Nat) (a_this_from : Nat) (a_this_by : Nat) (a_this_far : Nat) (a_this_met : Nat) (a_this_told : Nat) (q_acts : Int32) (q_imageActs : Int32) (q_tapeMany : Int32) (q_many : Int32) (q_round : Int32) (q_readAt : Int32) (q_isFault : Int32) (q_toldMany : Int32) (q_by : Nat → Int32) (q_code : Nat → Int32) (q_far : Nat → Int32) (q_from : Nat → Int32) (q_met : Nat → Int32) (q_st : Nat → Int32) : va_W := [(a_this, .inr (8, [.ref a_this_st, .ref a_this_past, .int q_acts, .ref a_this_image, .ref a_this_imagePast, .int q_imageActs, .ref a_this_tape, .int q_tapeMany, .ref a_this_laneOf, .ref a_this_sizeOf, .ref a_this_items, .ref a_this_code, .ref a_this_from, .ref a_this_by, .ref a_this_far, .int q_many, .ref a_this_met, .int q_round, .int q_readAt, .int q_isFault, .int q_toldMany, .ref a_this_told])),
  (a_this_by, .inl (cI, 2187, .inl q_by)),
  (a_this_code, .inl (cI, 2187, .inl q_code)),
  (a_this_far, .inl (cI, 2187, .inl q_far)),
  (a_this_from, .inl (cI, 2187, .inl q_from)),
  (a_this_met, .inl (cI, 16384, .inl q_met)),
  (a_this_st, .inl (cI, 13, .inl q_st))]
def jX8_team_20 (q_st : Nat → Int32) (z20_0 : Int32) (z20_1 : Int32) (k20_q_many : Int32) (k20_q_round : Int32) (k20_q_by : Nat → Int32) (k20_q_code : Nat → Int32) (k20_q_far : Nat → Int32) (k20_q_from : Nat → Int32) (k20_q_met : Nat → Int32) : Option (Int32 × Int32 × Int32 × (Nat → Int32) × (Nat → Int32) × (Nat → Int32) × (Nat → Int32) × (Nat → Int32)) := Option.bind (fX8_leastTeam k20_q_many k20_q_round k20_q_by k20_q_code k20_q_far k20_q_from k20_q_met q_st z20_1 z20_0) (fun r1 => some (r1.1, r1.2.1, r1.2.2.1, r1.2.2.2.1, r1.2.2.2.2.1, r1.2.2.2.2.2.1, r1.2.2.2.2.2.2.1, r1.2.2.2.2.2.2.2))
def fX8_team (q_many : Int32) (q_round : Int32) (q_by : Nat → Int32) (q_code : Nat → Int32) (q_far : Nat → Int32) (q_from : Nat → Int32) (q_met : Nat → Int32) (q_st : Nat → Int32) (x1 : Int32) (x2 : Int32) : Option (Int32 × Int32 × Int32 × (Nat → Int32) × (Nat → Int32) × (Nat → Int32) × (Nat → Int32) × (Nat → Int32)) := Option.bind (fX8_isKind x1 x2) (fun r3 => (if r3 = 0 then some ((-1 : Int32), q_many, q_round, q_by, q_code, q_far, q_from, q_met) else (if x2 = (1 : Int32) then jX8_team_20 q_st (1 : Int32) x1 q_many q_round q_by q_code q_far q_from q_met else jX8_team_20 q_st (0 : Int32) x1 q_many q_round q_by q_code q_far q_from q_met)))
abbrev gX8_team (p : Program) (l : Launch) (e : Env) (s : State) (m : MethodId) (below : List Frame) (meth : Method) (c : Code) (D : vg) (cI cL cS cH : ClassId) (a_this : Nat) (a_this_st : Nat) (a_this_past : Nat) (a_this_image : Nat) (a_this_imagePast : Nat) (a_this_tape : Nat) (a_this_laneOf : Nat) (a_this_sizeOf : Nat) (a_this_items : Nat) (a_this_code : Nat) (a_this_from : Nat) (a_this_by : Nat) (a_this_far : Nat) (a_this_met : Nat) (a_this_told : Nat) (q_acts : Int32) (q_imageActs : Int32) (q_tapeMany : Int32) (q_many : Int32) (q_round : Int32) (q_readAt : Int32) (q_isFault : Int32) (q_toldMany : Int32) (q_by : Nat → Int32) (q_code : Nat → Int32) (q_far : Nat → Int32) (q_from : Nat → Int32) (q_met : Nat → Int32) (q_st : Nat → Int32) (x1 : Int32) (x2 : Int32) (res : Int32 × Int32 × Int32 × (Nat → Int32) × (Nat → Int32) × (Nat → Int32) × (Nat → Int32) × (Nat → Int32)) (H : Heap) (locs : List Loc) (g : JFrame) : Prop := W p l e (headSpec wsX8_team ({ frames := 7, cells := 0, slots := 0, locals := 170 })).room s m ([.ref a_this, .int x1, .int x2] : List Value).toArray below meth c H locs 0 0 (MQ below (va_Qi (fun r' (_ : Unit) => r' = res.1) (fun _ t => pos1 D s.heap.size (wX8_team cI cL cS cH a_this a_this_st a_this_past a_this_image a_this_imagePast a_this_tape a_this_laneOf a_this_sizeOf a_this_items a_this_code a_this_from a_this_by a_this_far a_this_met a_this_told q_acts q_imageActs q_tapeMany q_many q_round q_readAt q_isFault q_toldMany q_by q_code q_far q_from q_met q_st) (wX8_team cI cL cS cH a_this a_this_st a_this_past a_this_image a_this_imagePast a_this_tape a_this_laneOf a_this_sizeOf a_this_items a_this_code a_this_from a_this_by a_this_far a_this_met a_this_told q_acts q_imageActs q_tapeMany res.2.1 res.2.2.1 q_readAt q_isFault q_toldMany res.2.2.2.1 res.2.2.2.2.1 res.2.2.2.2.2.1 res.2.2.2.2.2.2.1 res.2.2.2.2.2.2.2 q_st) t) (va_A (wX8_team cI cL cS cH a_this a_this_st a_this_past a_this_image a_this_imagePast a_this_tape a_this_laneOf a_this_sizeOf a_this_items a_this_code a_this_from a_this_by a_this_far a_this_met a_this_told q_acts q_imageActs q_tapeMany q_many q_round q_readAt q_isFault q_toldMany q_by q_code q_far q_from q_met q_st) s.heap.size)) ([.ref a_this, .int x1, .int x2] : List Value).toArray s 0 0 (va_A (wX8_team cI cL cS cH a_this a_this_st a_this_past a_this_image a_this_imagePast a_this_tape a_this_laneOf a_this_sizeOf a_this_items a_this_code a_this_from a_this_by a_this_far a_this_met a_this_told q_acts q_imageActs q_tapeMany q_many q_round q_readAt q_isFault q_toldMany q_by q_code q_far q_from q_met q_st) s.heap.size)) g
set_option maxHeartbeats 4000000 in
set_option maxRecDepth 100000 in
theorem mX8_team (l : Launch) (D : vg) (cI cL cS cH : ClassId) (sz : Nat) (a_this : Nat) (a_this_st : Nat) (a_this_past : Nat) (a_this_image : Nat) (a_this_imagePast : Nat) (a_this_tape : Nat) (a_this_laneOf : Nat) (a_this_sizeOf : Nat) (a_this_items : Nat) (a_this_code : Nat) (a_this_from : Nat) (a_this_by : Nat) (a_this_far : Nat) (a_this_met : Nat) (a_this_told : Nat) (q_acts : Int32) (q_imageActs : Int32) (q_tapeMany : Int32) (q_many : Int32) (q_round : Int32) (q_readAt : Int32) (q_isFault : Int32) (q_toldMany : Int32) (q_by : Nat → Int32) (q_code : Nat → Int32) (q_far : Nat → Int32) (q_from : Nat → Int32) (q_met : Nat → Int32) (q_st : Nat → Int32) (x1 : Int32) (x2 : Int32) {res : Int32 × Int32 × Int32 × (Nat → Int32) × (Nat → Int32) × (Nat → Int32) × (Nat → Int32) × (Nat → Int32)} (hf : fX8_team q_many q_round q_by q_code q_far q_from q_met q_st x1 x2 = some res) : cti l yX8_team wsX8_team ({ frames := 7, cells := 0, slots := 0, locals := 170 }) D (ty4 cI cL cS cH) sz [.ref a_this, .int x1, .int x2] (wX8_team cI cL cS cH a_this a_this_st a_this_past a_this_image a_this_imagePast a_this_tape a_this_laneOf a_this_sizeOf a_this_items a_this_code a_this_from a_this_by a_this_far a_this_met a_this_told q_acts q_imageActs q_tapeMany q_many q_round q_readAt q_isFault q_toldMany q_by q_code q_far q_from q_met q_st) (wX8_team cI cL cS cH a_this a_this_st a_this_past a_this_image a_this_imagePast a_this_tape a_this_laneOf a_this_sizeOf a_this_items a_this_code a_this_from a_this_by a_this_far a_this_met a_this_told q_acts q_imageActs q_tapeMany res.2.1 res.2.2.1 q_readAt q_isFault q_toldMany res.2.2.2.1 res.2.2.2.2.1 res.2.2.2.2.2.1 res.2.2.2.2.2.2.1 res.2.2.2.2.2.2.2 q_st) res.1 := by
  refine Met.ofW (cc := cX8_team) (maxL := 3) (ret := (some .int)) (by decide) rfl ?_
  intro p e s m args below meth c s₁ B hml hv
  obtain ⟨rfl, hpre⟩ := hv
  obtain rfl := hpre.1
  have C : CallFix p m c cX8_team 3 s _ wsX8_team RX8 := ⟨B.exec, B.bytes, hml, findClass_of_methodNamed B.named, atoms_spec (ws := wsX8_team) B.pre⟩
  have hr := B.returns
  have hlocks := B.notSynchronized
  have w := wd_start hpre
  clear hpre B
  have hl := lv_entry ([.ref a_this, .int x1, .int x2]) (n := 3) (Nat.le_of_ble_eq_true rfl)
  rw [lg_entry_eq]
  generalize (lg_sl ([.ref a_this, .int x1, .int x2]) ++ List.replicate (3 - (lg_sl ([.ref a_this, .int x1, .int x2])).length) Slot.unset).toArray = ls at hl ⊢
  have hl : lv_has ls 3 [(0, .ref a_this), (1, .int x1), (2, .int x2)] := hl
  unfold fX8_team at hf
  have hj20 : ∀ (z20_0 : Int32) (z20_1 : Int32) (k20_q_many : Int32) (k20_q_round : Int32) (k20_q_by : Nat → Int32) (k20_q_code : Nat → Int32) (k20_q_far : Nat → Int32) (k20_q_from : Nat → Int32) (k20_q_met : Nat → Int32) (H : Heap) (locs : List Loc) (ls : Array Slot), wd D (ty4 cI cL cS cH) s (va_A (wX8_team cI cL cS cH a_this a_this_st a_this_past a_this_image a_this_imagePast a_this_tape a_this_laneOf a_this_sizeOf a_this_items a_this_code a_this_from a_this_by a_this_far a_this_met a_this_told q_acts q_imageActs q_tapeMany q_many q_round q_readAt q_isFault q_toldMany q_by q_code q_far q_from q_met q_st) s.heap.size) s.heap H locs (wX8_team cI cL cS cH a_this a_this_st a_this_past a_this_image a_this_imagePast a_this_tape a_this_laneOf a_this_sizeOf a_this_items a_this_code a_this_from a_this_by a_this_far a_this_met a_this_told q_acts q_imageActs q_tapeMany k20_q_many k20_q_round q_readAt q_isFault q_toldMany k20_q_by k20_q_code k20_q_far k20_q_from k20_q_met q_st) → lv_has ls 3 [] → jX8_team_20 q_st z20_0 z20_1 k20_q_many k20_q_round k20_q_by k20_q_code k20_q_far k20_q_from k20_q_met = some res → gX8_team p l e s m below meth c D cI cL cS cH a_this a_this_st a_this_past a_this_image a_this_imagePast a_this_tape a_this_laneOf a_this_sizeOf a_this_items a_this_code a_this_from a_this_by a_this_far a_this_met a_this_told q_acts q_imageActs q_tapeMany q_many q_round q_readAt q_isFault q_toldMany q_by q_code q_far q_from q_met q_st x1 x2 res H locs (F0 m 20 ls [.int z20_0, .int z20_1, .ref a_this]) := by
    intro z20_0 z20_1 k20_q_many k20_q_round k20_q_by k20_q_code k20_q_far k20_q_from k20_q_met H locs ls w hl hf
    unfold jX8_team_20 at hf
    obtain ⟨r1, hc2, hf⟩ := bd hf
    refine call_Vi (ws' := (wX8_team cI cL cS cH a_this a_this_st a_this_past a_this_image a_this_imagePast a_this_tape a_this_laneOf a_this_sizeOf a_this_items a_this_code a_this_from a_this_by a_this_far a_this_met a_this_told q_acts q_imageActs q_tapeMany r1.2.1 r1.2.2.1 q_readAt q_isFault q_toldMany r1.2.2.2.1 r1.2.2.2.2.1 r1.2.2.2.2.2.1 r1.2.2.2.2.2.2.1 r1.2.2.2.2.2.2.2 q_st)) (rest := []) C w (mX8_leastTeam l D cI cL cS cH _ a_this a_this_st a_this_past a_this_image a_this_imagePast a_this_tape a_this_laneOf a_this_sizeOf a_this_items a_this_code a_this_from a_this_by a_this_far a_this_met a_this_told q_acts q_imageActs q_tapeMany k20_q_many k20_q_round q_readAt q_isFault q_toldMany k20_q_by k20_q_code k20_q_far k20_q_from k20_q_met q_st z20_1 z20_0 hc2) (cwV 2 C.2.2.2.2 gX8_team_X8_leastTeam rfl rfl rfl (by decide +kernel) ⟨Nat.le_of_ble_eq_true rfl, Nat.le_of_ble_eq_true rfl⟩) [0, 1, 2, 3, 4, 5, 6] [] 7 ⟨rfl, rfl, rfl, rfl, rfl, rfl, rfl, trivial⟩ ⟨rfl, rfl, rfl, rfl, rfl, rfl, rfl, trivial⟩ trivial rfl (by decide) (by decide) (ci := 8) (q0 := 0) rfl rfl rfl hl.1 rfl (lv_room (Nat.le_of_ble_eq_true rfl)) dX8_team_20 ⟨Nat.zero_le _, Nat.zero_le _⟩ (fun H locs w => ?_)
    refine lv_goto (tgt := 27) C.1 C.2.1 dX8_team_23 (by decide) ?_
    have hres := Option.some.inj hf
    subst hres
    exact ret_i C hr hlocks w rfl dX8_team_27
  refine lv_iload_n C.1 C.2.1 dX8_team_0 rfl (lv_at hl 1 rfl) ?_
  refine lv_iload_n C.1 C.2.1 dX8_team_1 rfl (lv_at hl 2 rfl) ?_
  obtain ⟨r3, hc4, hf⟩ := bd hf
  refine call_Si (ws' := (wX8_team cI cL cS cH a_this a_this_st a_this_past a_this_image a_this_imagePast a_this_tape a_this_laneOf a_this_sizeOf a_this_items a_this_code a_this_from a_this_by a_this_far a_this_met a_this_told q_acts q_imageActs q_tapeMany q_many q_round q_readAt q_isFault q_toldMany q_by q_code q_far q_from q_met q_st)) (rest := []) C w (mX8_isKind l D cI cL cS cH _ x1 x2 hc4) (va_cwS 2 C.2.2.2.2 gX8_team_X8_isKind rfl rfl rfl (by decide +kernel) ⟨Nat.le_of_ble_eq_true rfl, Nat.le_of_ble_eq_true rfl⟩) [] [0, 1, 2, 3, 4, 5, 6] 7 trivial trivial ⟨⟨_, rfl, rfl⟩, ⟨_, rfl, rfl⟩, ⟨_, rfl, rfl⟩, ⟨_, rfl, rfl⟩, ⟨_, rfl, rfl⟩, ⟨_, rfl, rfl⟩, ⟨_, rfl, rfl⟩, trivial⟩ rfl (by decide) (by decide) rfl hl.1 rfl (lv_room (Nat.le_of_ble_eq_true rfl)) dX8_team_2 ⟨Nat.zero_le _, Nat.zero_le _⟩ (fun H locs w => ?_)
  refine lv_if_eq (tgt := 26) C.1 C.2.1 dX8_team_5 (by decide) (fun hq5 => ?_) (fun hq5 => ?_)
  · have hf := ite_t hf hq5
    refine lv_iconst (v := (-1 : Int32)) C.1 C.2.1 dX8_team_26 (by decide) ?_
    have hres := Option.some.inj hf
    subst hres
    exact ret_i C hr hlocks w rfl dX8_team_27
  · have hf := ite_f hf hq5
    refine lv_aload_n C.1 C.2.1 dX8_team_8 rfl (lv_at hl 0 rfl) ?_
    refine lv_iload_n C.1 C.2.1 dX8_team_9 rfl (lv_at hl 1 rfl) ?_
    refine lv_iload_n C.1 C.2.1 dX8_team_10 rfl (lv_at hl 2 rfl) ?_
    refine lv_iconst (v := (1 : Int32)) C.1 C.2.1 dX8_team_11 (by decide) ?_
    refine lv_icmp_ne (tgt := 19) C.1 C.2.1 dX8_team_12 (by decide) (fun hq6 => ?_) (fun hq6 => ?_)
    · have hf := ite_f hf hq6
      refine lv_iconst (v := (0 : Int32)) C.1 C.2.1 dX8_team_19 (by decide) ?_
      exact hj20 (0 : Int32) x1 q_many q_round q_by q_code q_far q_from q_met _ _ _ w (lv_sub hl [] rfl) hf
    · have hf := ite_t hf hq6
      refine lv_iconst (v := (1 : Int32)) C.1 C.2.1 dX8_team_15 (by decide) ?_
      refine lv_goto (tgt := 20) C.1 C.2.1 dX8_team_16 (by decide) ?_
      exact hj20 (1 : Int32) x1 q_many q_round q_by q_code q_far q_from q_met _ _ _ w (lv_sub hl [] rfl) hf

set_option maxRecDepth 100000 in
theorem inX8_fewest_X8 : ∀ w ∈ u_ws RX8 TX8 22, w ∈ wsX8_fewest := by decide +kernel
set_option maxRecDepth 100000 in
theorem lkX8_fewest_48 : Cond.fieldLink RX8 48 "CleanNetsModel" "far" "[I" ∈ wsX8_fewest := by decide +kernel
abbrev wX8_fewest (cI cL cS cH : ClassId) (a_this : Nat) (a_this_st : Nat) (a_this_past : Nat) (a_this_image : Nat) (a_this_imagePast : Nat) (a_this_tape : Nat) (a_this_laneOf : Nat) (a_this_sizeOf : Nat) (a_this_items : Nat) (a_this_code : Nat) (a_this_from : Nat) (a_this_by : Nat) (a_this_far : Nat) (a_this_met : Nat) (a_this_told : Nat) (q_acts : Int32) (q_imageActs : Int32) (q_tapeMany : Int32) (q_many : Int32) (q_round : Int32) (q_readAt : Int32) (q_isFault : Int32) (q_toldMany : Int32) (q_by : Nat → Int32) (q_code : Nat → Int32) (q_far : Nat → Int32) (q_from : Nat → Int32) (q_met : Nat → Int32) (q_st : Nat → Int32) : va_W := [(a_this, .inr (8, [.ref a_this_st, .ref a_this_past, .int q_acts, .ref a_this_image, .ref a_this_imagePast, .int q_imageActs, .ref a_this_tape, .int q_tapeMany, .ref a_this_laneOf, .ref a_this_sizeOf, .ref a_this_items, .ref a_this_code, .ref a_this_from, .ref a_this_by, .ref a_this_far, .int q_many, .ref a_this_met, .int q_round, .int q_readAt, .int q_isFault, .int q_toldMany, .ref a_this_told])),
  (a_this_by, .inl (cI, 2187, .inl q_by)),
  (a_this_code, .inl (cI, 2187, .inl q_code)),
  (a_this_far, .inl (cI, 2187, .inl q_far)),
  (a_this_from, .inl (cI, 2187, .inl q_from)),
  (a_this_met, .inl (cI, 16384, .inl q_met)),
  (a_this_st, .inl (cI, 13, .inl q_st))]
def jX8_fewest_37 (q_st : Nat → Int32) (z37_0 : Int32) (z37_1 : Int32) (z37_2 : Int32) (z37_3 : Int32) (z37_4 : Int32) (k37_q_many : Int32) (k37_q_round : Int32) (k37_q_by : Nat → Int32) (k37_q_code : Nat → Int32) (k37_q_far : Nat → Int32) (k37_q_from : Nat → Int32) (k37_q_met : Nat → Int32) : Option (Int32 × Int32 × Int32 × (Nat → Int32) × (Nat → Int32) × (Nat → Int32) × (Nat → Int32) × (Nat → Int32)) := Option.bind (fX8_search k37_q_many k37_q_round k37_q_by k37_q_code k37_q_far k37_q_from k37_q_met q_st z37_4 z37_3 z37_2 z37_1 z37_0) (fun r1 => (if 0 ≤ r1.1 then Option.bind (rd r1.2.2.2.2.2.1 2187 r1.1) (fun y4 => some (y4, r1.2.1, r1.2.2.1, r1.2.2.2.1, r1.2.2.2.2.1, r1.2.2.2.2.2.1, r1.2.2.2.2.2.2.1, r1.2.2.2.2.2.2.2)) else some ((-4 : Int32), r1.2.1, r1.2.2.1, r1.2.2.2.1, r1.2.2.2.2.1, r1.2.2.2.2.2.1, r1.2.2.2.2.2.2.1, r1.2.2.2.2.2.2.2)))
def fX8_fewest (q_many : Int32) (q_round : Int32) (q_by : Nat → Int32) (q_code : Nat → Int32) (q_far : Nat → Int32) (q_from : Nat → Int32) (q_met : Nat → Int32) (q_st : Nat → Int32) (x1 : Int32) (x2 : Int32) (x3 : Int32) : Option (Int32 × Int32 × Int32 × (Nat → Int32) × (Nat → Int32) × (Nat → Int32) × (Nat → Int32) × (Nat → Int32)) := Option.bind (fX8_isKind x1 x3) (fun r6 => (if r6 = 0 then some ((-1 : Int32), q_many, q_round, q_by, q_code, q_far, q_from, q_met) else Option.bind (fX8_in ((x2).toInt64) (1 : Int64) (7 : Int64)) (fun r9 => (if r9 = 0 then some ((-1 : Int32), q_many, q_round, q_by, q_code, q_far, q_from, q_met) else (if x3 = (1 : Int32) then jX8_fewest_37 q_st (1 : Int32) x2 x1 (0 : Int32) (0 : Int32) q_many q_round q_by q_code q_far q_from q_met else jX8_fewest_37 q_st (0 : Int32) x2 x1 (0 : Int32) (0 : Int32) q_many q_round q_by q_code q_far q_from q_met)))))
abbrev gX8_fewest (p : Program) (l : Launch) (e : Env) (s : State) (m : MethodId) (below : List Frame) (meth : Method) (c : Code) (D : vg) (cI cL cS cH : ClassId) (a_this : Nat) (a_this_st : Nat) (a_this_past : Nat) (a_this_image : Nat) (a_this_imagePast : Nat) (a_this_tape : Nat) (a_this_laneOf : Nat) (a_this_sizeOf : Nat) (a_this_items : Nat) (a_this_code : Nat) (a_this_from : Nat) (a_this_by : Nat) (a_this_far : Nat) (a_this_met : Nat) (a_this_told : Nat) (q_acts : Int32) (q_imageActs : Int32) (q_tapeMany : Int32) (q_many : Int32) (q_round : Int32) (q_readAt : Int32) (q_isFault : Int32) (q_toldMany : Int32) (q_by : Nat → Int32) (q_code : Nat → Int32) (q_far : Nat → Int32) (q_from : Nat → Int32) (q_met : Nat → Int32) (q_st : Nat → Int32) (x1 : Int32) (x2 : Int32) (x3 : Int32) (res : Int32 × Int32 × Int32 × (Nat → Int32) × (Nat → Int32) × (Nat → Int32) × (Nat → Int32) × (Nat → Int32)) (H : Heap) (locs : List Loc) (g : JFrame) : Prop := W p l e (headSpec wsX8_fewest ({ frames := 6, cells := 0, slots := 0, locals := 147 })).room s m ([.ref a_this, .int x1, .int x2, .int x3] : List Value).toArray below meth c H locs 0 0 (MQ below (va_Qi (fun r' (_ : Unit) => r' = res.1) (fun _ t => pos1 D s.heap.size (wX8_fewest cI cL cS cH a_this a_this_st a_this_past a_this_image a_this_imagePast a_this_tape a_this_laneOf a_this_sizeOf a_this_items a_this_code a_this_from a_this_by a_this_far a_this_met a_this_told q_acts q_imageActs q_tapeMany q_many q_round q_readAt q_isFault q_toldMany q_by q_code q_far q_from q_met q_st) (wX8_fewest cI cL cS cH a_this a_this_st a_this_past a_this_image a_this_imagePast a_this_tape a_this_laneOf a_this_sizeOf a_this_items a_this_code a_this_from a_this_by a_this_far a_this_met a_this_told q_acts q_imageActs q_tapeMany res.2.1 res.2.2.1 q_readAt q_isFault q_toldMany res.2.2.2.1 res.2.2.2.2.1 res.2.2.2.2.2.1 res.2.2.2.2.2.2.1 res.2.2.2.2.2.2.2 q_st) t) (va_A (wX8_fewest cI cL cS cH a_this a_this_st a_this_past a_this_image a_this_imagePast a_this_tape a_this_laneOf a_this_sizeOf a_this_items a_this_code a_this_from a_this_by a_this_far a_this_met a_this_told q_acts q_imageActs q_tapeMany q_many q_round q_readAt q_isFault q_toldMany q_by q_code q_far q_from q_met q_st) s.heap.size)) ([.ref a_this, .int x1, .int x2, .int x3] : List Value).toArray s 0 0 (va_A (wX8_fewest cI cL cS cH a_this a_this_st a_this_past a_this_image a_this_imagePast a_this_tape a_this_laneOf a_this_sizeOf a_this_items a_this_code a_this_from a_this_by a_this_far a_this_met a_this_told q_acts q_imageActs q_tapeMany q_many q_round q_readAt q_isFault q_toldMany q_by q_code q_far q_from q_met q_st) s.heap.size)) g
set_option maxHeartbeats 4000000 in
set_option maxRecDepth 100000 in
theorem mX8_fewest (l : Launch) (D : vg) (cI cL cS cH : ClassId) (sz : Nat) (a_this : Nat) (a_this_st : Nat) (a_this_past : Nat) (a_this_image : Nat) (a_this_imagePast : Nat) (a_this_tape : Nat) (a_this_laneOf : Nat) (a_this_sizeOf : Nat) (a_this_items : Nat) (a_this_code : Nat) (a_this_from : Nat) (a_this_by : Nat) (a_this_far : Nat) (a_this_met : Nat) (a_this_told : Nat) (q_acts : Int32) (q_imageActs : Int32) (q_tapeMany : Int32) (q_many : Int32) (q_round : Int32) (q_readAt : Int32) (q_isFault : Int32) (q_toldMany : Int32) (q_by : Nat → Int32) (q_code : Nat → Int32) (q_far : Nat → Int32) (q_from : Nat → Int32) (q_met : Nat → Int32) (q_st : Nat → Int32) (x1 : Int32) (x2 : Int32) (x3 : Int32) {res : Int32 × Int32 × Int32 × (Nat → Int32) × (Nat → Int32) × (Nat → Int32) × (Nat → Int32) × (Nat → Int32)} (hf : fX8_fewest q_many q_round q_by q_code q_far q_from q_met q_st x1 x2 x3 = some res) : cti l yX8_fewest wsX8_fewest ({ frames := 6, cells := 0, slots := 0, locals := 147 }) D (ty4 cI cL cS cH) sz [.ref a_this, .int x1, .int x2, .int x3] (wX8_fewest cI cL cS cH a_this a_this_st a_this_past a_this_image a_this_imagePast a_this_tape a_this_laneOf a_this_sizeOf a_this_items a_this_code a_this_from a_this_by a_this_far a_this_met a_this_told q_acts q_imageActs q_tapeMany q_many q_round q_readAt q_isFault q_toldMany q_by q_code q_far q_from q_met q_st) (wX8_fewest cI cL cS cH a_this a_this_st a_this_past a_this_image a_this_imagePast a_this_tape a_this_laneOf a_this_sizeOf a_this_items a_this_code a_this_from a_this_by a_this_far a_this_met a_this_told q_acts q_imageActs q_tapeMany res.2.1 res.2.2.1 q_readAt q_isFault q_toldMany res.2.2.2.1 res.2.2.2.2.1 res.2.2.2.2.2.1 res.2.2.2.2.2.2.1 res.2.2.2.2.2.2.2 q_st) res.1 := by
  refine Met.ofW (cc := cX8_fewest) (maxL := 5) (ret := (some .int)) (by decide) rfl ?_
  intro p e s m args below meth c s₁ B hml hv
  obtain ⟨rfl, hpre⟩ := hv
  obtain rfl := hpre.1
  have C : CallFix p m c cX8_fewest 5 s _ wsX8_fewest RX8 := ⟨B.exec, B.bytes, hml, findClass_of_methodNamed B.named, atoms_spec (ws := wsX8_fewest) B.pre⟩
  have hr := B.returns
  have hlocks := B.notSynchronized
  have w := wd_start hpre
  clear hpre B
  have hl := lv_entry ([.ref a_this, .int x1, .int x2, .int x3]) (n := 5) (Nat.le_of_ble_eq_true rfl)
  rw [lg_entry_eq]
  generalize (lg_sl ([.ref a_this, .int x1, .int x2, .int x3]) ++ List.replicate (5 - (lg_sl ([.ref a_this, .int x1, .int x2, .int x3])).length) Slot.unset).toArray = ls at hl ⊢
  have hl : lv_has ls 5 [(0, .ref a_this), (1, .int x1), (2, .int x2), (3, .int x3)] := hl
  unfold fX8_fewest at hf
  have hj37 : ∀ (z37_0 : Int32) (z37_1 : Int32) (z37_2 : Int32) (z37_3 : Int32) (z37_4 : Int32) (k37_q_many : Int32) (k37_q_round : Int32) (k37_q_by : Nat → Int32) (k37_q_code : Nat → Int32) (k37_q_far : Nat → Int32) (k37_q_from : Nat → Int32) (k37_q_met : Nat → Int32) (H : Heap) (locs : List Loc) (ls : Array Slot), wd D (ty4 cI cL cS cH) s (va_A (wX8_fewest cI cL cS cH a_this a_this_st a_this_past a_this_image a_this_imagePast a_this_tape a_this_laneOf a_this_sizeOf a_this_items a_this_code a_this_from a_this_by a_this_far a_this_met a_this_told q_acts q_imageActs q_tapeMany q_many q_round q_readAt q_isFault q_toldMany q_by q_code q_far q_from q_met q_st) s.heap.size) s.heap H locs (wX8_fewest cI cL cS cH a_this a_this_st a_this_past a_this_image a_this_imagePast a_this_tape a_this_laneOf a_this_sizeOf a_this_items a_this_code a_this_from a_this_by a_this_far a_this_met a_this_told q_acts q_imageActs q_tapeMany k37_q_many k37_q_round q_readAt q_isFault q_toldMany k37_q_by k37_q_code k37_q_far k37_q_from k37_q_met q_st) → lv_has ls 5 [(0, .ref a_this)] → jX8_fewest_37 q_st z37_0 z37_1 z37_2 z37_3 z37_4 k37_q_many k37_q_round k37_q_by k37_q_code k37_q_far k37_q_from k37_q_met = some res → gX8_fewest p l e s m below meth c D cI cL cS cH a_this a_this_st a_this_past a_this_image a_this_imagePast a_this_tape a_this_laneOf a_this_sizeOf a_this_items a_this_code a_this_from a_this_by a_this_far a_this_met a_this_told q_acts q_imageActs q_tapeMany q_many q_round q_readAt q_isFault q_toldMany q_by q_code q_far q_from q_met q_st x1 x2 x3 res H locs (F0 m 37 ls [.int z37_0, .int z37_1, .int z37_2, .int z37_3, .int z37_4, .ref a_this]) := by
    intro z37_0 z37_1 z37_2 z37_3 z37_4 k37_q_many k37_q_round k37_q_by k37_q_code k37_q_far k37_q_from k37_q_met H locs ls w hl hf
    unfold jX8_fewest_37 at hf
    obtain ⟨r1, hc2, hf⟩ := bd hf
    refine call_Vi (ws' := (wX8_fewest cI cL cS cH a_this a_this_st a_this_past a_this_image a_this_imagePast a_this_tape a_this_laneOf a_this_sizeOf a_this_items a_this_code a_this_from a_this_by a_this_far a_this_met a_this_told q_acts q_imageActs q_tapeMany r1.2.1 r1.2.2.1 q_readAt q_isFault q_toldMany r1.2.2.2.1 r1.2.2.2.2.1 r1.2.2.2.2.2.1 r1.2.2.2.2.2.2.1 r1.2.2.2.2.2.2.2 q_st)) (rest := []) C w (mX8_search l D cI cL cS cH _ a_this a_this_st a_this_past a_this_image a_this_imagePast a_this_tape a_this_laneOf a_this_sizeOf a_this_items a_this_code a_this_from a_this_by a_this_far a_this_met a_this_told q_acts q_imageActs q_tapeMany k37_q_many k37_q_round q_readAt q_isFault q_toldMany k37_q_by k37_q_code k37_q_far k37_q_from k37_q_met q_st z37_4 z37_3 z37_2 z37_1 z37_0 hc2) (cwV 5 C.2.2.2.2 gX8_fewest_X8_search rfl rfl rfl (by decide +kernel) ⟨Nat.le_of_ble_eq_true rfl, Nat.le_of_ble_eq_true rfl⟩) [0, 1, 2, 3, 4, 5, 6] [] 7 ⟨rfl, rfl, rfl, rfl, rfl, rfl, rfl, trivial⟩ ⟨rfl, rfl, rfl, rfl, rfl, rfl, rfl, trivial⟩ trivial rfl (by decide) (by decide) (ci := 8) (q0 := 0) rfl rfl rfl hl.1 rfl (lv_room (Nat.le_of_ble_eq_true rfl)) dX8_fewest_37 ⟨Nat.zero_le _, Nat.zero_le _⟩ (fun H locs w => ?_)
    refine lv_istore (lv' := [(4, .int r1.1), (0, .ref a_this)]) C.1 C.2.1 dX8_fewest_40 hl (by decide) rfl (fun ls hl => ?_)
    refine lv_iload C.1 C.2.1 dX8_fewest_42 (lv_at hl 0 rfl) ?_
    refine lv_if_ge (tgt := 52) C.1 C.2.1 dX8_fewest_44 (by decide) (fun hq3 => ?_) (fun hq3 => ?_)
    · have hf := ite_t hf hq3
      refine lv_aload_n C.1 C.2.1 dX8_fewest_52 rfl (lv_at hl 1 rfl) ?_
      refine r_get C w inX8_fewest_X8 0 rfl rfl 14 (by decide) lkX8_fewest_48 rfl dX8_fewest_53 ?_
      refine lv_iload C.1 C.2.1 dX8_fewest_56 (lv_at hl 0 rfl) ?_
      obtain ⟨y4, hy5, hf⟩ := bd hf
      refine r_iald C w 3 0 rfl rfl (rd_in hy5) dX8_fewest_58 ?_
      have hres := Option.some.inj hf
      subst hres
      exact ret_i C hr hlocks w rfl dX8_fewest_59
    · have hf := ite_f hf hq3
      refine lv_bipush (v := (-4 : Int32)) C.1 C.2.1 dX8_fewest_47 (by decide) ?_
      refine lv_goto (tgt := 59) C.1 C.2.1 dX8_fewest_49 (by decide) ?_
      have hres := Option.some.inj hf
      subst hres
      exact ret_i C hr hlocks w rfl dX8_fewest_59
  refine lv_iload_n C.1 C.2.1 dX8_fewest_0 rfl (lv_at hl 1 rfl) ?_
  refine lv_iload_n C.1 C.2.1 dX8_fewest_1 rfl (lv_at hl 3 rfl) ?_
  obtain ⟨r6, hc7, hf⟩ := bd hf
  refine call_Si (ws' := (wX8_fewest cI cL cS cH a_this a_this_st a_this_past a_this_image a_this_imagePast a_this_tape a_this_laneOf a_this_sizeOf a_this_items a_this_code a_this_from a_this_by a_this_far a_this_met a_this_told q_acts q_imageActs q_tapeMany q_many q_round q_readAt q_isFault q_toldMany q_by q_code q_far q_from q_met q_st)) (rest := []) C w (mX8_isKind l D cI cL cS cH _ x1 x3 hc7) (va_cwS 2 C.2.2.2.2 gX8_fewest_X8_isKind rfl rfl rfl (by decide +kernel) ⟨Nat.le_of_ble_eq_true rfl, Nat.le_of_ble_eq_true rfl⟩) [] [0, 1, 2, 3, 4, 5, 6] 7 trivial trivial ⟨⟨_, rfl, rfl⟩, ⟨_, rfl, rfl⟩, ⟨_, rfl, rfl⟩, ⟨_, rfl, rfl⟩, ⟨_, rfl, rfl⟩, ⟨_, rfl, rfl⟩, ⟨_, rfl, rfl⟩, trivial⟩ rfl (by decide) (by decide) rfl hl.1 rfl (lv_room (Nat.le_of_ble_eq_true rfl)) dX8_fewest_2 ⟨Nat.zero_le _, Nat.zero_le _⟩ (fun H locs w => ?_)
  refine lv_if_eq (tgt := 20) C.1 C.2.1 dX8_fewest_5 (by decide) (fun hq8 => ?_) (fun hq8 => ?_)
  · have hf := ite_t hf hq8
    refine lv_iconst (v := (-1 : Int32)) C.1 C.2.1 dX8_fewest_20 (by decide) ?_
    have hres := Option.some.inj hf
    subst hres
    exact ret_i C hr hlocks w rfl dX8_fewest_21
  · have hf := ite_f hf hq8
    refine lv_iload_n C.1 C.2.1 dX8_fewest_8 rfl (lv_at hl 2 rfl) ?_
    refine lv_i2l C.1 C.2.1 dX8_fewest_9 rfl ?_
    refine lv_lconst (v := (1 : Int64)) C.1 C.2.1 dX8_fewest_10 (by decide) ?_
    refine lv_ldc2 (v := (7 : Int64)) C.1 C.2.1 C.2.2.2.1 (C.2.2.2.2 (.constantLong RX8 161 (7 : Int64)) (by decide +kernel)) dX8_fewest_11 ?_
    obtain ⟨r9, hc10, hf⟩ := bd hf
    refine call_Si (ws' := (wX8_fewest cI cL cS cH a_this a_this_st a_this_past a_this_image a_this_imagePast a_this_tape a_this_laneOf a_this_sizeOf a_this_items a_this_code a_this_from a_this_by a_this_far a_this_met a_this_told q_acts q_imageActs q_tapeMany q_many q_round q_readAt q_isFault q_toldMany q_by q_code q_far q_from q_met q_st)) (rest := []) C w (mX8_in l D cI cL cS cH _ ((x2).toInt64) (1 : Int64) (7 : Int64) hc10) (va_cwS 3 C.2.2.2.2 gX8_fewest_X8_in rfl rfl rfl (by decide +kernel) ⟨Nat.le_of_ble_eq_true rfl, Nat.le_of_ble_eq_true rfl⟩) [] [0, 1, 2, 3, 4, 5, 6] 7 trivial trivial ⟨⟨_, rfl, rfl⟩, ⟨_, rfl, rfl⟩, ⟨_, rfl, rfl⟩, ⟨_, rfl, rfl⟩, ⟨_, rfl, rfl⟩, ⟨_, rfl, rfl⟩, ⟨_, rfl, rfl⟩, trivial⟩ rfl (by decide) (by decide) rfl hl.1 rfl (lv_room (Nat.le_of_ble_eq_true rfl)) dX8_fewest_14 ⟨Nat.zero_le _, Nat.zero_le _⟩ (fun H locs w => ?_)
    refine lv_if_ne (tgt := 22) C.1 C.2.1 dX8_fewest_17 (by decide) (fun hq11 => ?_) (fun hq11 => ?_)
    · have hf := ite_f hf hq11
      refine lv_aload_n C.1 C.2.1 dX8_fewest_22 rfl (lv_at hl 0 rfl) ?_
      refine lv_iconst (v := (0 : Int32)) C.1 C.2.1 dX8_fewest_23 (by decide) ?_
      refine lv_iconst (v := (0 : Int32)) C.1 C.2.1 dX8_fewest_24 (by decide) ?_
      refine lv_iload_n C.1 C.2.1 dX8_fewest_25 rfl (lv_at hl 1 rfl) ?_
      refine lv_iload_n C.1 C.2.1 dX8_fewest_26 rfl (lv_at hl 2 rfl) ?_
      refine lv_iload_n C.1 C.2.1 dX8_fewest_27 rfl (lv_at hl 3 rfl) ?_
      refine lv_iconst (v := (1 : Int32)) C.1 C.2.1 dX8_fewest_28 (by decide) ?_
      refine lv_icmp_ne (tgt := 36) C.1 C.2.1 dX8_fewest_29 (by decide) (fun hq12 => ?_) (fun hq12 => ?_)
      · have hf := ite_f hf hq12
        refine lv_iconst (v := (0 : Int32)) C.1 C.2.1 dX8_fewest_36 (by decide) ?_
        exact hj37 (0 : Int32) x2 x1 (0 : Int32) (0 : Int32) q_many q_round q_by q_code q_far q_from q_met _ _ _ w (lv_sub hl [0] rfl) hf
      · have hf := ite_t hf hq12
        refine lv_iconst (v := (1 : Int32)) C.1 C.2.1 dX8_fewest_32 (by decide) ?_
        refine lv_goto (tgt := 37) C.1 C.2.1 dX8_fewest_33 (by decide) ?_
        exact hj37 (1 : Int32) x2 x1 (0 : Int32) (0 : Int32) q_many q_round q_by q_code q_far q_from q_met _ _ _ w (lv_sub hl [0] rfl) hf
    · have hf := ite_t hf hq11
      refine lv_iconst (v := (-1 : Int32)) C.1 C.2.1 dX8_fewest_20 (by decide) ?_
      have hres := Option.some.inj hf
      subst hres
      exact ret_i C hr hlocks w rfl dX8_fewest_21

set_option maxRecDepth 100000 in
theorem inX8_actOf_X8 : ∀ w ∈ u_ws RX8 TX8 22, w ∈ wsX8_actOf := by decide +kernel
set_option maxRecDepth 100000 in
theorem lkX8_actOf_48 : Cond.fieldLink RX8 48 "CleanNetsModel" "far" "[I" ∈ wsX8_actOf := by decide +kernel
set_option maxRecDepth 100000 in
theorem lkX8_actOf_42 : Cond.fieldLink RX8 42 "CleanNetsModel" "from" "[I" ∈ wsX8_actOf := by decide +kernel
set_option maxRecDepth 100000 in
theorem lkX8_actOf_45 : Cond.fieldLink RX8 45 "CleanNetsModel" "by" "[I" ∈ wsX8_actOf := by decide +kernel
abbrev wX8_actOf (cI cL cS cH : ClassId) (a_this : Nat) (a_this_st : Nat) (a_this_past : Nat) (a_this_image : Nat) (a_this_imagePast : Nat) (a_this_tape : Nat) (a_this_laneOf : Nat) (a_this_sizeOf : Nat) (a_this_items : Nat) (a_this_code : Nat) (a_this_from : Nat) (a_this_by : Nat) (a_this_far : Nat) (a_this_met : Nat) (a_this_told : Nat) (q_acts : Int32) (q_imageActs : Int32) (q_tapeMany : Int32) (q_many : Int32) (q_round : Int32) (q_readAt : Int32) (q_isFault : Int32) (q_toldMany : Int32) (q_by : Nat → Int32) (q_far : Nat → Int32) (q_from : Nat → Int32) : va_W := [(a_this, .inr (8, [.ref a_this_st, .ref a_this_past, .int q_acts, .ref a_this_image, .ref a_this_imagePast, .int q_imageActs, .ref a_this_tape, .int q_tapeMany, .ref a_this_laneOf, .ref a_this_sizeOf, .ref a_this_items, .ref a_this_code, .ref a_this_from, .ref a_this_by, .ref a_this_far, .int q_many, .ref a_this_met, .int q_round, .int q_readAt, .int q_isFault, .int q_toldMany, .ref a_this_told])),
  (a_this_by, .inl (cI, 2187, .inl q_by)),
  (a_this_far, .inl (cI, 2187, .inl q_far)),
  (a_this_from, .inl (cI, 2187, .inl q_from))]
def bX8_actOf_15 (q_by : Nat → Int32) (q_far : Nat → Int32) (q_from : Nat → Int32) (y15_2 : Int32) (v15 : Int32) : Option ((Int32) ⊕ (Int32)) := Option.bind (rd q_far 2187 v15) (fun y1 => (if y1 ≤ (y15_2 + (1 : Int32)) then some (.inr v15) else Option.bind (rd q_from 2187 v15) (fun y4 => some (.inl y4))))
def fX8_actOf (q_by : Nat → Int32) (q_far : Nat → Int32) (q_from : Nat → Int32) (x1 : Int32) (x2 : Int32) : Option (Int32) := Option.bind (rd q_far 2187 x1) (fun y6 => (if x2 < y6 then Option.bind (itL (bX8_actOf_15 q_by q_far q_from x2) fu x1) (fun ex9 => Option.bind (rd q_by 2187 ex9) (fun y11 => some y11)) else some (-4 : Int32)))
abbrev gX8_actOf (p : Program) (l : Launch) (e : Env) (s : State) (m : MethodId) (below : List Frame) (meth : Method) (c : Code) (D : vg) (cI cL cS cH : ClassId) (a_this : Nat) (a_this_st : Nat) (a_this_past : Nat) (a_this_image : Nat) (a_this_imagePast : Nat) (a_this_tape : Nat) (a_this_laneOf : Nat) (a_this_sizeOf : Nat) (a_this_items : Nat) (a_this_code : Nat) (a_this_from : Nat) (a_this_by : Nat) (a_this_far : Nat) (a_this_met : Nat) (a_this_told : Nat) (q_acts : Int32) (q_imageActs : Int32) (q_tapeMany : Int32) (q_many : Int32) (q_round : Int32) (q_readAt : Int32) (q_isFault : Int32) (q_toldMany : Int32) (q_by : Nat → Int32) (q_far : Nat → Int32) (q_from : Nat → Int32) (x1 : Int32) (x2 : Int32) (res : Int32) (H : Heap) (locs : List Loc) (g : JFrame) : Prop := W p l e (headSpec wsX8_actOf ({ frames := 0, cells := 0, slots := 0, locals := 0 })).room s m ([.ref a_this, .int x1, .int x2] : List Value).toArray below meth c H locs 0 0 (MQ below (va_Qi (fun r' (_ : Unit) => r' = res) (fun _ t => pos1 D s.heap.size (wX8_actOf cI cL cS cH a_this a_this_st a_this_past a_this_image a_this_imagePast a_this_tape a_this_laneOf a_this_sizeOf a_this_items a_this_code a_this_from a_this_by a_this_far a_this_met a_this_told q_acts q_imageActs q_tapeMany q_many q_round q_readAt q_isFault q_toldMany q_by q_far q_from) (wX8_actOf cI cL cS cH a_this a_this_st a_this_past a_this_image a_this_imagePast a_this_tape a_this_laneOf a_this_sizeOf a_this_items a_this_code a_this_from a_this_by a_this_far a_this_met a_this_told q_acts q_imageActs q_tapeMany q_many q_round q_readAt q_isFault q_toldMany q_by q_far q_from) t) (va_A (wX8_actOf cI cL cS cH a_this a_this_st a_this_past a_this_image a_this_imagePast a_this_tape a_this_laneOf a_this_sizeOf a_this_items a_this_code a_this_from a_this_by a_this_far a_this_met a_this_told q_acts q_imageActs q_tapeMany q_many q_round q_readAt q_isFault q_toldMany q_by q_far q_from) s.heap.size)) ([.ref a_this, .int x1, .int x2] : List Value).toArray s 0 0 (va_A (wX8_actOf cI cL cS cH a_this a_this_st a_this_past a_this_image a_this_imagePast a_this_tape a_this_laneOf a_this_sizeOf a_this_items a_this_code a_this_from a_this_by a_this_far a_this_met a_this_told q_acts q_imageActs q_tapeMany q_many q_round q_readAt q_isFault q_toldMany q_by q_far q_from) s.heap.size)) g
set_option maxHeartbeats 4000000 in
set_option maxRecDepth 100000 in
theorem mX8_actOf (l : Launch) (D : vg) (cI cL cS cH : ClassId) (sz : Nat) (a_this : Nat) (a_this_st : Nat) (a_this_past : Nat) (a_this_image : Nat) (a_this_imagePast : Nat) (a_this_tape : Nat) (a_this_laneOf : Nat) (a_this_sizeOf : Nat) (a_this_items : Nat) (a_this_code : Nat) (a_this_from : Nat) (a_this_by : Nat) (a_this_far : Nat) (a_this_met : Nat) (a_this_told : Nat) (q_acts : Int32) (q_imageActs : Int32) (q_tapeMany : Int32) (q_many : Int32) (q_round : Int32) (q_readAt : Int32) (q_isFault : Int32) (q_toldMany : Int32) (q_by : Nat → Int32) (q_far : Nat → Int32) (q_from : Nat → Int32) (x1 : Int32) (x2 : Int32) {res : Int32} (hf : fX8_actOf q_by q_far q_from x1 x2 = some res) : cti l yX8_actOf wsX8_actOf ({ frames := 0, cells := 0, slots := 0, locals := 0 }) D (ty4 cI cL cS cH) sz [.ref a_this, .int x1, .int x2] (wX8_actOf cI cL cS cH a_this a_this_st a_this_past a_this_image a_this_imagePast a_this_tape a_this_laneOf a_this_sizeOf a_this_items a_this_code a_this_from a_this_by a_this_far a_this_met a_this_told q_acts q_imageActs q_tapeMany q_many q_round q_readAt q_isFault q_toldMany q_by q_far q_from) (wX8_actOf cI cL cS cH a_this a_this_st a_this_past a_this_image a_this_imagePast a_this_tape a_this_laneOf a_this_sizeOf a_this_items a_this_code a_this_from a_this_by a_this_far a_this_met a_this_told q_acts q_imageActs q_tapeMany q_many q_round q_readAt q_isFault q_toldMany q_by q_far q_from) res := by
  refine Met.ofW (cc := cX8_actOf) (maxL := 4) (ret := (some .int)) (by decide) rfl ?_
  intro p e s m args below meth c s₁ B hml hv
  obtain ⟨rfl, hpre⟩ := hv
  obtain rfl := hpre.1
  have C : CallFix p m c cX8_actOf 4 s _ wsX8_actOf RX8 := ⟨B.exec, B.bytes, hml, findClass_of_methodNamed B.named, atoms_spec (ws := wsX8_actOf) B.pre⟩
  have hr := B.returns
  have hlocks := B.notSynchronized
  have w := wd_start hpre
  clear hpre B
  have hl := lv_entry ([.ref a_this, .int x1, .int x2]) (n := 4) (Nat.le_of_ble_eq_true rfl)
  rw [lg_entry_eq]
  generalize (lg_sl ([.ref a_this, .int x1, .int x2]) ++ List.replicate (4 - (lg_sl ([.ref a_this, .int x1, .int x2])).length) Slot.unset).toArray = ls at hl ⊢
  have hl : lv_has ls 4 [(0, .ref a_this), (1, .int x1), (2, .int x2)] := hl
  unfold fX8_actOf at hf
  have hlp15 : ∀ (y15_2 : Int32) (ex15 : Int32) (hk : (∀ (H : Heap) (locs : List Loc) (ls : Array Slot), wd D (ty4 cI cL cS cH) s (va_A (wX8_actOf cI cL cS cH a_this a_this_st a_this_past a_this_image a_this_imagePast a_this_tape a_this_laneOf a_this_sizeOf a_this_items a_this_code a_this_from a_this_by a_this_far a_this_met a_this_told q_acts q_imageActs q_tapeMany q_many q_round q_readAt q_isFault q_toldMany q_by q_far q_from) s.heap.size) s.heap H locs (wX8_actOf cI cL cS cH a_this a_this_st a_this_past a_this_image a_this_imagePast a_this_tape a_this_laneOf a_this_sizeOf a_this_items a_this_code a_this_from a_this_by a_this_far a_this_met a_this_told q_acts q_imageActs q_tapeMany q_many q_round q_readAt q_isFault q_toldMany q_by q_far q_from) → lv_has ls 4 [(0, .ref a_this), (3, .int ex15)] → gX8_actOf p l e s m below meth c D cI cL cS cH a_this a_this_st a_this_past a_this_image a_this_imagePast a_this_tape a_this_laneOf a_this_sizeOf a_this_items a_this_code a_this_from a_this_by a_this_far a_this_met a_this_told q_acts q_imageActs q_tapeMany q_many q_round q_readAt q_isFault q_toldMany q_by q_far q_from x1 x2 res H locs (F0 m 37 ls []))) (n : Nat) (v15 : Int32) (H : Heap) (locs : List Loc) (ls : Array Slot), itL (bX8_actOf_15 q_by q_far q_from y15_2) n v15 = some ex15 → wd D (ty4 cI cL cS cH) s (va_A (wX8_actOf cI cL cS cH a_this a_this_st a_this_past a_this_image a_this_imagePast a_this_tape a_this_laneOf a_this_sizeOf a_this_items a_this_code a_this_from a_this_by a_this_far a_this_met a_this_told q_acts q_imageActs q_tapeMany q_many q_round q_readAt q_isFault q_toldMany q_by q_far q_from) s.heap.size) s.heap H locs (wX8_actOf cI cL cS cH a_this a_this_st a_this_past a_this_image a_this_imagePast a_this_tape a_this_laneOf a_this_sizeOf a_this_items a_this_code a_this_from a_this_by a_this_far a_this_met a_this_told q_acts q_imageActs q_tapeMany q_many q_round q_readAt q_isFault q_toldMany q_by q_far q_from) → lv_has ls 4 [(0, .ref a_this), (2, .int y15_2), (3, .int v15)] → gX8_actOf p l e s m below meth c D cI cL cS cH a_this a_this_st a_this_past a_this_image a_this_imagePast a_this_tape a_this_laneOf a_this_sizeOf a_this_items a_this_code a_this_from a_this_by a_this_far a_this_met a_this_told q_acts q_imageActs q_tapeMany q_many q_round q_readAt q_isFault q_toldMany q_by q_far q_from x1 x2 res H locs (F0 m 15 ls []) := by
    intro y15_2 ex15 hk n
    induction n with
    | zero => intro v15 H locs ls hi w hl; exact (itL_zero hi).elim
    | succ n ih =>
      intro v15 H locs ls hi w hl
      obtain ⟨o, hf, hn⟩ := itL_succ hi
      unfold bX8_actOf_15 at hf
      refine lv_aload_n C.1 C.2.1 dX8_actOf_15 rfl (lv_at hl 0 rfl) ?_
      refine r_get C w inX8_actOf_X8 0 rfl rfl 14 (by decide) lkX8_actOf_48 rfl dX8_actOf_16 ?_
      refine lv_iload_n C.1 C.2.1 dX8_actOf_19 rfl (lv_at hl 2 rfl) ?_
      obtain ⟨y1, hy2, hf⟩ := bd hf
      refine r_iald C w 2 0 rfl rfl (rd_in hy2) dX8_actOf_20 ?_
      refine lv_iload_n C.1 C.2.1 dX8_actOf_21 rfl (lv_at hl 1 rfl) ?_
      refine lv_iconst (v := (1 : Int32)) C.1 C.2.1 dX8_actOf_22 (by decide) ?_
      refine lv_iadd C.1 C.2.1 dX8_actOf_23 ?_
      refine lv_icmp_le (tgt := 37) C.1 C.2.1 dX8_actOf_24 (by decide) (fun hq3 => ?_) (fun hq3 => ?_)
      · have hf := ite_t hf hq3
        obtain rfl := Option.some.inj hf
        obtain rfl := hn
        exact hk _ _ _ w (lv_sub hl [0, 2] rfl)
      · have hf := ite_f hf hq3
        refine lv_aload_n C.1 C.2.1 dX8_actOf_27 rfl (lv_at hl 0 rfl) ?_
        refine r_get C w inX8_actOf_X8 0 rfl rfl 12 (by decide) lkX8_actOf_42 rfl dX8_actOf_28 ?_
        refine lv_iload_n C.1 C.2.1 dX8_actOf_31 rfl (lv_at hl 2 rfl) ?_
        obtain ⟨y4, hy5, hf⟩ := bd hf
        refine r_iald C w 3 0 rfl rfl (rd_in hy5) dX8_actOf_32 ?_
        refine lv_istore_n (lv' := [(3, .int y4), (0, .ref a_this), (2, .int y15_2)]) C.1 C.2.1 dX8_actOf_33 rfl hl (by decide) rfl (fun ls hl => ?_)
        refine lv_goto (tgt := 15) C.1 C.2.1 dX8_actOf_34 (by decide) ?_
        obtain rfl := Option.some.inj hf
        exact ih y4 _ _ _ hn w (lv_sub hl [1, 2, 0] rfl)
  refine lv_iload_n C.1 C.2.1 dX8_actOf_0 rfl (lv_at hl 1 rfl) ?_
  refine lv_istore_n (lv' := [(3, .int x1), (0, .ref a_this), (1, .int x1), (2, .int x2)]) C.1 C.2.1 dX8_actOf_1 rfl hl (by decide) rfl (fun ls hl => ?_)
  refine lv_iload_n C.1 C.2.1 dX8_actOf_2 rfl (lv_at hl 3 rfl) ?_
  refine lv_aload_n C.1 C.2.1 dX8_actOf_3 rfl (lv_at hl 1 rfl) ?_
  refine r_get C w inX8_actOf_X8 0 rfl rfl 14 (by decide) lkX8_actOf_48 rfl dX8_actOf_4 ?_
  refine lv_iload_n C.1 C.2.1 dX8_actOf_7 rfl (lv_at hl 0 rfl) ?_
  obtain ⟨y6, hy7, hf⟩ := bd hf
  refine r_iald C w 2 0 rfl rfl (rd_in hy7) dX8_actOf_8 ?_
  refine lv_icmp_lt (tgt := 15) C.1 C.2.1 dX8_actOf_9 (by decide) (fun hq8 => ?_) (fun hq8 => ?_)
  · have hf := ite_t hf hq8
    obtain ⟨ex9, hx10, hf⟩ := bd hf
    refine hlp15 x2 ex9 ?_ fu x1 _ _ _ hx10 w (lv_sub hl [1, 3, 0] rfl)
    intro H locs ls w hl
    refine lv_aload_n C.1 C.2.1 dX8_actOf_37 rfl (lv_at hl 0 rfl) ?_
    refine r_get C w inX8_actOf_X8 0 rfl rfl 13 (by decide) lkX8_actOf_45 rfl dX8_actOf_38 ?_
    refine lv_iload_n C.1 C.2.1 dX8_actOf_41 rfl (lv_at hl 1 rfl) ?_
    obtain ⟨y11, hy12, hf⟩ := bd hf
    refine r_iald C w 1 0 rfl rfl (rd_in hy12) dX8_actOf_42 ?_
    have hres := Option.some.inj hf
    subst hres
    exact ret_i C hr hlocks w rfl dX8_actOf_43
  · have hf := ite_f hf hq8
    refine lv_bipush (v := (-4 : Int32)) C.1 C.2.1 dX8_actOf_12 (by decide) ?_
    have hres := Option.some.inj hf
    subst hres
    exact ret_i C hr hlocks w rfl dX8_actOf_14

abbrev wX8_plan (cI cL cS cH : ClassId) (a_this : Nat) (a_this_st : Nat) (a_this_past : Nat) (a_this_image : Nat) (a_this_imagePast : Nat) (a_this_tape : Nat) (a_this_laneOf : Nat) (a_this_sizeOf : Nat) (a_this_items : Nat) (a_this_code : Nat) (a_this_from : Nat) (a_this_by : Nat) (a_this_far : Nat) (a_this_met : Nat) (a_this_told : Nat) (q_acts : Int32) (q_imageActs : Int32) (q_tapeMany : Int32) (q_many : Int32) (q_round : Int32) (q_readAt : Int32) (q_isFault : Int32) (q_toldMany : Int32) (q_by : Nat → Int32) (q_code : Nat → Int32) (q_far : Nat → Int32) (q_from : Nat → Int32) (q_met : Nat → Int32) (q_st : Nat → Int32) : va_W := [(a_this, .inr (8, [.ref a_this_st, .ref a_this_past, .int q_acts, .ref a_this_image, .ref a_this_imagePast, .int q_imageActs, .ref a_this_tape, .int q_tapeMany, .ref a_this_laneOf, .ref a_this_sizeOf, .ref a_this_items, .ref a_this_code, .ref a_this_from, .ref a_this_by, .ref a_this_far, .int q_many, .ref a_this_met, .int q_round, .int q_readAt, .int q_isFault, .int q_toldMany, .ref a_this_told])),
  (a_this_by, .inl (cI, 2187, .inl q_by)),
  (a_this_code, .inl (cI, 2187, .inl q_code)),
  (a_this_far, .inl (cI, 2187, .inl q_far)),
  (a_this_from, .inl (cI, 2187, .inl q_from)),
  (a_this_met, .inl (cI, 16384, .inl q_met)),
  (a_this_st, .inl (cI, 13, .inl q_st))]
def jX8_plan_58 (q_st : Nat → Int32) (x3 : Int32) (z58_0 : Int32) (z58_1 : Int32) (z58_2 : Int32) (z58_3 : Int32) (z58_4 : Int32) (k58_q_many : Int32) (k58_q_round : Int32) (k58_q_by : Nat → Int32) (k58_q_code : Nat → Int32) (k58_q_far : Nat → Int32) (k58_q_from : Nat → Int32) (k58_q_met : Nat → Int32) : Option (Int32 × Int32 × Int32 × (Nat → Int32) × (Nat → Int32) × (Nat → Int32) × (Nat → Int32) × (Nat → Int32)) := Option.bind (fX8_search k58_q_many k58_q_round k58_q_by k58_q_code k58_q_far k58_q_from k58_q_met q_st z58_4 z58_3 z58_2 z58_1 z58_0) (fun r1 => Option.bind (fX8_actOf r1.2.2.2.1 r1.2.2.2.2.2.1 r1.2.2.2.2.2.2.1 r1.1 x3) (fun r3 => some (r3, r1.2.1, r1.2.2.1, r1.2.2.2.1, r1.2.2.2.2.1, r1.2.2.2.2.2.1, r1.2.2.2.2.2.2.1, r1.2.2.2.2.2.2.2)))
def jX8_plan_26 (q_st : Nat → Int32) (x1 : Int32) (x2 : Int32) (x3 : Int32) (z26_0 : Int32) (z26_1 : Int32) (k26_q_many : Int32) (k26_q_round : Int32) (k26_q_by : Nat → Int32) (k26_q_code : Nat → Int32) (k26_q_far : Nat → Int32) (k26_q_from : Nat → Int32) (k26_q_met : Nat → Int32) : Option (Int32 × Int32 × Int32 × (Nat → Int32) × (Nat → Int32) × (Nat → Int32) × (Nat → Int32) × (Nat → Int32)) := Option.bind (fX8_leastTeam k26_q_many k26_q_round k26_q_by k26_q_code k26_q_far k26_q_from k26_q_met q_st z26_1 z26_0) (fun r5 => (if 0 ≤ r5.1 then (if x2 = (1 : Int32) then jX8_plan_58 q_st x3 (1 : Int32) r5.1 x1 (0 : Int32) (0 : Int32) r5.2.1 r5.2.2.1 r5.2.2.2.1 r5.2.2.2.2.1 r5.2.2.2.2.2.1 r5.2.2.2.2.2.2.1 r5.2.2.2.2.2.2.2 else jX8_plan_58 q_st x3 (0 : Int32) r5.1 x1 (0 : Int32) (0 : Int32) r5.2.1 r5.2.2.1 r5.2.2.2.1 r5.2.2.2.2.1 r5.2.2.2.2.2.1 r5.2.2.2.2.2.2.1 r5.2.2.2.2.2.2.2) else some ((-4 : Int32), r5.2.1, r5.2.2.1, r5.2.2.2.1, r5.2.2.2.2.1, r5.2.2.2.2.2.1, r5.2.2.2.2.2.2.1, r5.2.2.2.2.2.2.2)))
def fX8_plan (q_many : Int32) (q_round : Int32) (q_by : Nat → Int32) (q_code : Nat → Int32) (q_far : Nat → Int32) (q_from : Nat → Int32) (q_met : Nat → Int32) (q_st : Nat → Int32) (x1 : Int32) (x2 : Int32) (x3 : Int32) : Option (Int32 × Int32 × Int32 × (Nat → Int32) × (Nat → Int32) × (Nat → Int32) × (Nat → Int32) × (Nat → Int32)) := Option.bind (fX8_isKind x1 x2) (fun r9 => (if r9 = 0 then some ((-1 : Int32), q_many, q_round, q_by, q_code, q_far, q_from, q_met) else (if 0 ≤ x3 then (if x2 = (1 : Int32) then jX8_plan_26 q_st x1 x2 x3 (1 : Int32) x1 q_many q_round q_by q_code q_far q_from q_met else jX8_plan_26 q_st x1 x2 x3 (0 : Int32) x1 q_many q_round q_by q_code q_far q_from q_met) else some ((-1 : Int32), q_many, q_round, q_by, q_code, q_far, q_from, q_met))))
abbrev gX8_plan (p : Program) (l : Launch) (e : Env) (s : State) (m : MethodId) (below : List Frame) (meth : Method) (c : Code) (D : vg) (cI cL cS cH : ClassId) (a_this : Nat) (a_this_st : Nat) (a_this_past : Nat) (a_this_image : Nat) (a_this_imagePast : Nat) (a_this_tape : Nat) (a_this_laneOf : Nat) (a_this_sizeOf : Nat) (a_this_items : Nat) (a_this_code : Nat) (a_this_from : Nat) (a_this_by : Nat) (a_this_far : Nat) (a_this_met : Nat) (a_this_told : Nat) (q_acts : Int32) (q_imageActs : Int32) (q_tapeMany : Int32) (q_many : Int32) (q_round : Int32) (q_readAt : Int32) (q_isFault : Int32) (q_toldMany : Int32) (q_by : Nat → Int32) (q_code : Nat → Int32) (q_far : Nat → Int32) (q_from : Nat → Int32) (q_met : Nat → Int32) (q_st : Nat → Int32) (x1 : Int32) (x2 : Int32) (x3 : Int32) (res : Int32 × Int32 × Int32 × (Nat → Int32) × (Nat → Int32) × (Nat → Int32) × (Nat → Int32) × (Nat → Int32)) (H : Heap) (locs : List Loc) (g : JFrame) : Prop := W p l e (headSpec wsX8_plan ({ frames := 7, cells := 0, slots := 0, locals := 170 })).room s m ([.ref a_this, .int x1, .int x2, .int x3] : List Value).toArray below meth c H locs 0 0 (MQ below (va_Qi (fun r' (_ : Unit) => r' = res.1) (fun _ t => pos1 D s.heap.size (wX8_plan cI cL cS cH a_this a_this_st a_this_past a_this_image a_this_imagePast a_this_tape a_this_laneOf a_this_sizeOf a_this_items a_this_code a_this_from a_this_by a_this_far a_this_met a_this_told q_acts q_imageActs q_tapeMany q_many q_round q_readAt q_isFault q_toldMany q_by q_code q_far q_from q_met q_st) (wX8_plan cI cL cS cH a_this a_this_st a_this_past a_this_image a_this_imagePast a_this_tape a_this_laneOf a_this_sizeOf a_this_items a_this_code a_this_from a_this_by a_this_far a_this_met a_this_told q_acts q_imageActs q_tapeMany res.2.1 res.2.2.1 q_readAt q_isFault q_toldMany res.2.2.2.1 res.2.2.2.2.1 res.2.2.2.2.2.1 res.2.2.2.2.2.2.1 res.2.2.2.2.2.2.2 q_st) t) (va_A (wX8_plan cI cL cS cH a_this a_this_st a_this_past a_this_image a_this_imagePast a_this_tape a_this_laneOf a_this_sizeOf a_this_items a_this_code a_this_from a_this_by a_this_far a_this_met a_this_told q_acts q_imageActs q_tapeMany q_many q_round q_readAt q_isFault q_toldMany q_by q_code q_far q_from q_met q_st) s.heap.size)) ([.ref a_this, .int x1, .int x2, .int x3] : List Value).toArray s 0 0 (va_A (wX8_plan cI cL cS cH a_this a_this_st a_this_past a_this_image a_this_imagePast a_this_tape a_this_laneOf a_this_sizeOf a_this_items a_this_code a_this_from a_this_by a_this_far a_this_met a_this_told q_acts q_imageActs q_tapeMany q_many q_round q_readAt q_isFault q_toldMany q_by q_code q_far q_from q_met q_st) s.heap.size)) g
set_option maxHeartbeats 4000000 in
set_option maxRecDepth 100000 in
theorem mX8_plan (l : Launch) (D : vg) (cI cL cS cH : ClassId) (sz : Nat) (a_this : Nat) (a_this_st : Nat) (a_this_past : Nat) (a_this_image : Nat) (a_this_imagePast : Nat) (a_this_tape : Nat) (a_this_laneOf : Nat) (a_this_sizeOf : Nat) (a_this_items : Nat) (a_this_code : Nat) (a_this_from : Nat) (a_this_by : Nat) (a_this_far : Nat) (a_this_met : Nat) (a_this_told : Nat) (q_acts : Int32) (q_imageActs : Int32) (q_tapeMany : Int32) (q_many : Int32) (q_round : Int32) (q_readAt : Int32) (q_isFault : Int32) (q_toldMany : Int32) (q_by : Nat → Int32) (q_code : Nat → Int32) (q_far : Nat → Int32) (q_from : Nat → Int32) (q_met : Nat → Int32) (q_st : Nat → Int32) (x1 : Int32) (x2 : Int32) (x3 : Int32) {res : Int32 × Int32 × Int32 × (Nat → Int32) × (Nat → Int32) × (Nat → Int32) × (Nat → Int32) × (Nat → Int32)} (hf : fX8_plan q_many q_round q_by q_code q_far q_from q_met q_st x1 x2 x3 = some res) : cti l yX8_plan wsX8_plan ({ frames := 7, cells := 0, slots := 0, locals := 170 }) D (ty4 cI cL cS cH) sz [.ref a_this, .int x1, .int x2, .int x3] (wX8_plan cI cL cS cH a_this a_this_st a_this_past a_this_image a_this_imagePast a_this_tape a_this_laneOf a_this_sizeOf a_this_items a_this_code a_this_from a_this_by a_this_far a_this_met a_this_told q_acts q_imageActs q_tapeMany q_many q_round q_readAt q_isFault q_toldMany q_by q_code q_far q_from q_met q_st) (wX8_plan cI cL cS cH a_this a_this_st a_this_past a_this_image a_this_imagePast a_this_tape a_this_laneOf a_this_sizeOf a_this_items a_this_code a_this_from a_this_by a_this_far a_this_met a_this_told q_acts q_imageActs q_tapeMany res.2.1 res.2.2.1 q_readAt q_isFault q_toldMany res.2.2.2.1 res.2.2.2.2.1 res.2.2.2.2.2.1 res.2.2.2.2.2.2.1 res.2.2.2.2.2.2.2 q_st) res.1 := by
  refine Met.ofW (cc := cX8_plan) (maxL := 5) (ret := (some .int)) (by decide) rfl ?_
  intro p e s m args below meth c s₁ B hml hv
  obtain ⟨rfl, hpre⟩ := hv
  obtain rfl := hpre.1
  have C : CallFix p m c cX8_plan 5 s _ wsX8_plan RX8 := ⟨B.exec, B.bytes, hml, findClass_of_methodNamed B.named, atoms_spec (ws := wsX8_plan) B.pre⟩
  have hr := B.returns
  have hlocks := B.notSynchronized
  have w := wd_start hpre
  clear hpre B
  have hl := lv_entry ([.ref a_this, .int x1, .int x2, .int x3]) (n := 5) (Nat.le_of_ble_eq_true rfl)
  rw [lg_entry_eq]
  generalize (lg_sl ([.ref a_this, .int x1, .int x2, .int x3]) ++ List.replicate (5 - (lg_sl ([.ref a_this, .int x1, .int x2, .int x3])).length) Slot.unset).toArray = ls at hl ⊢
  have hl : lv_has ls 5 [(0, .ref a_this), (1, .int x1), (2, .int x2), (3, .int x3)] := hl
  unfold fX8_plan at hf
  have hj58 : ∀ (z58_0 : Int32) (z58_1 : Int32) (z58_2 : Int32) (z58_3 : Int32) (z58_4 : Int32) (k58_q_many : Int32) (k58_q_round : Int32) (k58_q_by : Nat → Int32) (k58_q_code : Nat → Int32) (k58_q_far : Nat → Int32) (k58_q_from : Nat → Int32) (k58_q_met : Nat → Int32) (H : Heap) (locs : List Loc) (ls : Array Slot), wd D (ty4 cI cL cS cH) s (va_A (wX8_plan cI cL cS cH a_this a_this_st a_this_past a_this_image a_this_imagePast a_this_tape a_this_laneOf a_this_sizeOf a_this_items a_this_code a_this_from a_this_by a_this_far a_this_met a_this_told q_acts q_imageActs q_tapeMany q_many q_round q_readAt q_isFault q_toldMany q_by q_code q_far q_from q_met q_st) s.heap.size) s.heap H locs (wX8_plan cI cL cS cH a_this a_this_st a_this_past a_this_image a_this_imagePast a_this_tape a_this_laneOf a_this_sizeOf a_this_items a_this_code a_this_from a_this_by a_this_far a_this_met a_this_told q_acts q_imageActs q_tapeMany k58_q_many k58_q_round q_readAt q_isFault q_toldMany k58_q_by k58_q_code k58_q_far k58_q_from k58_q_met q_st) → lv_has ls 5 [(3, .int x3)] → jX8_plan_58 q_st x3 z58_0 z58_1 z58_2 z58_3 z58_4 k58_q_many k58_q_round k58_q_by k58_q_code k58_q_far k58_q_from k58_q_met = some res → gX8_plan p l e s m below meth c D cI cL cS cH a_this a_this_st a_this_past a_this_image a_this_imagePast a_this_tape a_this_laneOf a_this_sizeOf a_this_items a_this_code a_this_from a_this_by a_this_far a_this_met a_this_told q_acts q_imageActs q_tapeMany q_many q_round q_readAt q_isFault q_toldMany q_by q_code q_far q_from q_met q_st x1 x2 x3 res H locs (F0 m 58 ls [.int z58_0, .int z58_1, .int z58_2, .int z58_3, .int z58_4, .ref a_this, .ref a_this]) := by
    intro z58_0 z58_1 z58_2 z58_3 z58_4 k58_q_many k58_q_round k58_q_by k58_q_code k58_q_far k58_q_from k58_q_met H locs ls w hl hf
    unfold jX8_plan_58 at hf
    obtain ⟨r1, hc2, hf⟩ := bd hf
    refine call_Vi (ws' := (wX8_plan cI cL cS cH a_this a_this_st a_this_past a_this_image a_this_imagePast a_this_tape a_this_laneOf a_this_sizeOf a_this_items a_this_code a_this_from a_this_by a_this_far a_this_met a_this_told q_acts q_imageActs q_tapeMany r1.2.1 r1.2.2.1 q_readAt q_isFault q_toldMany r1.2.2.2.1 r1.2.2.2.2.1 r1.2.2.2.2.2.1 r1.2.2.2.2.2.2.1 r1.2.2.2.2.2.2.2 q_st)) (rest := [.ref a_this]) C w (mX8_search l D cI cL cS cH _ a_this a_this_st a_this_past a_this_image a_this_imagePast a_this_tape a_this_laneOf a_this_sizeOf a_this_items a_this_code a_this_from a_this_by a_this_far a_this_met a_this_told q_acts q_imageActs q_tapeMany k58_q_many k58_q_round q_readAt q_isFault q_toldMany k58_q_by k58_q_code k58_q_far k58_q_from k58_q_met q_st z58_4 z58_3 z58_2 z58_1 z58_0 hc2) (cwV 5 C.2.2.2.2 gX8_plan_X8_search rfl rfl rfl (by decide +kernel) ⟨Nat.le_of_ble_eq_true rfl, Nat.le_of_ble_eq_true rfl⟩) [0, 1, 2, 3, 4, 5, 6] [] 7 ⟨rfl, rfl, rfl, rfl, rfl, rfl, rfl, trivial⟩ ⟨rfl, rfl, rfl, rfl, rfl, rfl, rfl, trivial⟩ trivial rfl (by decide) (by decide) (ci := 8) (q0 := 0) rfl rfl rfl hl.1 rfl (lv_room (Nat.le_of_ble_eq_true rfl)) dX8_plan_58 ⟨Nat.zero_le _, Nat.zero_le _⟩ (fun H locs w => ?_)
    refine lv_iload_n C.1 C.2.1 dX8_plan_61 rfl (lv_at hl 0 rfl) ?_
    obtain ⟨r3, hc4, hf⟩ := bd hf
    refine call_Vi (ws' := (wX8_plan cI cL cS cH a_this a_this_st a_this_past a_this_image a_this_imagePast a_this_tape a_this_laneOf a_this_sizeOf a_this_items a_this_code a_this_from a_this_by a_this_far a_this_met a_this_told q_acts q_imageActs q_tapeMany r1.2.1 r1.2.2.1 q_readAt q_isFault q_toldMany r1.2.2.2.1 r1.2.2.2.2.1 r1.2.2.2.2.2.1 r1.2.2.2.2.2.2.1 r1.2.2.2.2.2.2.2 q_st)) (rest := []) C w (mX8_actOf l D cI cL cS cH _ a_this a_this_st a_this_past a_this_image a_this_imagePast a_this_tape a_this_laneOf a_this_sizeOf a_this_items a_this_code a_this_from a_this_by a_this_far a_this_met a_this_told q_acts q_imageActs q_tapeMany r1.2.1 r1.2.2.1 q_readAt q_isFault q_toldMany r1.2.2.2.1 r1.2.2.2.2.2.1 r1.2.2.2.2.2.2.1 r1.1 x3 hc4) (cwV 2 C.2.2.2.2 gX8_plan_X8_actOf rfl rfl rfl (by decide +kernel) ⟨Nat.le_of_ble_eq_true rfl, Nat.le_of_ble_eq_true rfl⟩) [0, 1, 3, 4] [2, 5, 6] 7 ⟨rfl, rfl, rfl, rfl, trivial⟩ ⟨rfl, rfl, rfl, rfl, trivial⟩ ⟨⟨_, rfl, rfl⟩, ⟨_, rfl, rfl⟩, ⟨_, rfl, rfl⟩, trivial⟩ rfl (by decide) (by decide) (ci := 8) (q0 := 0) rfl rfl rfl hl.1 rfl (lv_room (Nat.le_of_ble_eq_true rfl)) dX8_plan_62 ⟨Nat.zero_le _, Nat.zero_le _⟩ (fun H locs w => ?_)
    have hres := Option.some.inj hf
    subst hres
    exact ret_i C hr hlocks w rfl dX8_plan_65
  have hj26 : ∀ (z26_0 : Int32) (z26_1 : Int32) (k26_q_many : Int32) (k26_q_round : Int32) (k26_q_by : Nat → Int32) (k26_q_code : Nat → Int32) (k26_q_far : Nat → Int32) (k26_q_from : Nat → Int32) (k26_q_met : Nat → Int32) (H : Heap) (locs : List Loc) (ls : Array Slot), wd D (ty4 cI cL cS cH) s (va_A (wX8_plan cI cL cS cH a_this a_this_st a_this_past a_this_image a_this_imagePast a_this_tape a_this_laneOf a_this_sizeOf a_this_items a_this_code a_this_from a_this_by a_this_far a_this_met a_this_told q_acts q_imageActs q_tapeMany q_many q_round q_readAt q_isFault q_toldMany q_by q_code q_far q_from q_met q_st) s.heap.size) s.heap H locs (wX8_plan cI cL cS cH a_this a_this_st a_this_past a_this_image a_this_imagePast a_this_tape a_this_laneOf a_this_sizeOf a_this_items a_this_code a_this_from a_this_by a_this_far a_this_met a_this_told q_acts q_imageActs q_tapeMany k26_q_many k26_q_round q_readAt q_isFault q_toldMany k26_q_by k26_q_code k26_q_far k26_q_from k26_q_met q_st) → lv_has ls 5 [(0, .ref a_this), (1, .int x1), (2, .int x2), (3, .int x3)] → jX8_plan_26 q_st x1 x2 x3 z26_0 z26_1 k26_q_many k26_q_round k26_q_by k26_q_code k26_q_far k26_q_from k26_q_met = some res → gX8_plan p l e s m below meth c D cI cL cS cH a_this a_this_st a_this_past a_this_image a_this_imagePast a_this_tape a_this_laneOf a_this_sizeOf a_this_items a_this_code a_this_from a_this_by a_this_far a_this_met a_this_told q_acts q_imageActs q_tapeMany q_many q_round q_readAt q_isFault q_toldMany q_by q_code q_far q_from q_met q_st x1 x2 x3 res H locs (F0 m 26 ls [.int z26_0, .int z26_1, .ref a_this]) := by
    intro z26_0 z26_1 k26_q_many k26_q_round k26_q_by k26_q_code k26_q_far k26_q_from k26_q_met H locs ls w hl hf
    unfold jX8_plan_26 at hf
    obtain ⟨r5, hc6, hf⟩ := bd hf
    refine call_Vi (ws' := (wX8_plan cI cL cS cH a_this a_this_st a_this_past a_this_image a_this_imagePast a_this_tape a_this_laneOf a_this_sizeOf a_this_items a_this_code a_this_from a_this_by a_this_far a_this_met a_this_told q_acts q_imageActs q_tapeMany r5.2.1 r5.2.2.1 q_readAt q_isFault q_toldMany r5.2.2.2.1 r5.2.2.2.2.1 r5.2.2.2.2.2.1 r5.2.2.2.2.2.2.1 r5.2.2.2.2.2.2.2 q_st)) (rest := []) C w (mX8_leastTeam l D cI cL cS cH _ a_this a_this_st a_this_past a_this_image a_this_imagePast a_this_tape a_this_laneOf a_this_sizeOf a_this_items a_this_code a_this_from a_this_by a_this_far a_this_met a_this_told q_acts q_imageActs q_tapeMany k26_q_many k26_q_round q_readAt q_isFault q_toldMany k26_q_by k26_q_code k26_q_far k26_q_from k26_q_met q_st z26_1 z26_0 hc6) (cwV 2 C.2.2.2.2 gX8_plan_X8_leastTeam rfl rfl rfl (by decide +kernel) ⟨Nat.le_of_ble_eq_true rfl, Nat.le_of_ble_eq_true rfl⟩) [0, 1, 2, 3, 4, 5, 6] [] 7 ⟨rfl, rfl, rfl, rfl, rfl, rfl, rfl, trivial⟩ ⟨rfl, rfl, rfl, rfl, rfl, rfl, rfl, trivial⟩ trivial rfl (by decide) (by decide) (ci := 8) (q0 := 0) rfl rfl rfl hl.1 rfl (lv_room (Nat.le_of_ble_eq_true rfl)) dX8_plan_26 ⟨Nat.zero_le _, Nat.zero_le _⟩ (fun H locs w => ?_)
    refine lv_istore (lv' := [(4, .int r5.1), (0, .ref a_this), (1, .int x1), (2, .int x2), (3, .int x3)]) C.1 C.2.1 dX8_plan_29 hl (by decide) rfl (fun ls hl => ?_)
    refine lv_iload C.1 C.2.1 dX8_plan_31 (lv_at hl 0 rfl) ?_
    refine lv_if_ge (tgt := 41) C.1 C.2.1 dX8_plan_33 (by decide) (fun hq7 => ?_) (fun hq7 => ?_)
    · have hf := ite_t hf hq7
      refine lv_aload_n C.1 C.2.1 dX8_plan_41 rfl (lv_at hl 1 rfl) ?_
      refine lv_aload_n C.1 C.2.1 dX8_plan_42 rfl (lv_at hl 1 rfl) ?_
      refine lv_iconst (v := (0 : Int32)) C.1 C.2.1 dX8_plan_43 (by decide) ?_
      refine lv_iconst (v := (0 : Int32)) C.1 C.2.1 dX8_plan_44 (by decide) ?_
      refine lv_iload_n C.1 C.2.1 dX8_plan_45 rfl (lv_at hl 2 rfl) ?_
      refine lv_iload C.1 C.2.1 dX8_plan_46 (lv_at hl 0 rfl) ?_
      refine lv_iload_n C.1 C.2.1 dX8_plan_48 rfl (lv_at hl 3 rfl) ?_
      refine lv_iconst (v := (1 : Int32)) C.1 C.2.1 dX8_plan_49 (by decide) ?_
      refine lv_icmp_ne (tgt := 57) C.1 C.2.1 dX8_plan_50 (by decide) (fun hq8 => ?_) (fun hq8 => ?_)
      · have hf := ite_f hf hq8
        refine lv_iconst (v := (0 : Int32)) C.1 C.2.1 dX8_plan_57 (by decide) ?_
        exact hj58 (0 : Int32) r5.1 x1 (0 : Int32) (0 : Int32) r5.2.1 r5.2.2.1 r5.2.2.2.1 r5.2.2.2.2.1 r5.2.2.2.2.2.1 r5.2.2.2.2.2.2.1 r5.2.2.2.2.2.2.2 _ _ _ w (lv_sub hl [4] rfl) hf
      · have hf := ite_t hf hq8
        refine lv_iconst (v := (1 : Int32)) C.1 C.2.1 dX8_plan_53 (by decide) ?_
        refine lv_goto (tgt := 58) C.1 C.2.1 dX8_plan_54 (by decide) ?_
        exact hj58 (1 : Int32) r5.1 x1 (0 : Int32) (0 : Int32) r5.2.1 r5.2.2.1 r5.2.2.2.1 r5.2.2.2.2.1 r5.2.2.2.2.2.1 r5.2.2.2.2.2.2.1 r5.2.2.2.2.2.2.2 _ _ _ w (lv_sub hl [4] rfl) hf
    · have hf := ite_f hf hq7
      refine lv_bipush (v := (-4 : Int32)) C.1 C.2.1 dX8_plan_36 (by decide) ?_
      refine lv_goto (tgt := 65) C.1 C.2.1 dX8_plan_38 (by decide) ?_
      have hres := Option.some.inj hf
      subst hres
      exact ret_i C hr hlocks w rfl dX8_plan_65
  refine lv_iload_n C.1 C.2.1 dX8_plan_0 rfl (lv_at hl 1 rfl) ?_
  refine lv_iload_n C.1 C.2.1 dX8_plan_1 rfl (lv_at hl 2 rfl) ?_
  obtain ⟨r9, hc10, hf⟩ := bd hf
  refine call_Si (ws' := (wX8_plan cI cL cS cH a_this a_this_st a_this_past a_this_image a_this_imagePast a_this_tape a_this_laneOf a_this_sizeOf a_this_items a_this_code a_this_from a_this_by a_this_far a_this_met a_this_told q_acts q_imageActs q_tapeMany q_many q_round q_readAt q_isFault q_toldMany q_by q_code q_far q_from q_met q_st)) (rest := []) C w (mX8_isKind l D cI cL cS cH _ x1 x2 hc10) (va_cwS 2 C.2.2.2.2 gX8_plan_X8_isKind rfl rfl rfl (by decide +kernel) ⟨Nat.le_of_ble_eq_true rfl, Nat.le_of_ble_eq_true rfl⟩) [] [0, 1, 2, 3, 4, 5, 6] 7 trivial trivial ⟨⟨_, rfl, rfl⟩, ⟨_, rfl, rfl⟩, ⟨_, rfl, rfl⟩, ⟨_, rfl, rfl⟩, ⟨_, rfl, rfl⟩, ⟨_, rfl, rfl⟩, ⟨_, rfl, rfl⟩, trivial⟩ rfl (by decide) (by decide) rfl hl.1 rfl (lv_room (Nat.le_of_ble_eq_true rfl)) dX8_plan_2 ⟨Nat.zero_le _, Nat.zero_le _⟩ (fun H locs w => ?_)
  refine lv_if_eq (tgt := 12) C.1 C.2.1 dX8_plan_5 (by decide) (fun hq11 => ?_) (fun hq11 => ?_)
  · have hf := ite_t hf hq11
    refine lv_iconst (v := (-1 : Int32)) C.1 C.2.1 dX8_plan_12 (by decide) ?_
    have hres := Option.some.inj hf
    subst hres
    exact ret_i C hr hlocks w rfl dX8_plan_13
  · have hf := ite_f hf hq11
    refine lv_iload_n C.1 C.2.1 dX8_plan_8 rfl (lv_at hl 3 rfl) ?_
    refine lv_if_ge (tgt := 14) C.1 C.2.1 dX8_plan_9 (by decide) (fun hq12 => ?_) (fun hq12 => ?_)
    · have hf := ite_t hf hq12
      refine lv_aload_n C.1 C.2.1 dX8_plan_14 rfl (lv_at hl 0 rfl) ?_
      refine lv_iload_n C.1 C.2.1 dX8_plan_15 rfl (lv_at hl 1 rfl) ?_
      refine lv_iload_n C.1 C.2.1 dX8_plan_16 rfl (lv_at hl 2 rfl) ?_
      refine lv_iconst (v := (1 : Int32)) C.1 C.2.1 dX8_plan_17 (by decide) ?_
      refine lv_icmp_ne (tgt := 25) C.1 C.2.1 dX8_plan_18 (by decide) (fun hq13 => ?_) (fun hq13 => ?_)
      · have hf := ite_f hf hq13
        refine lv_iconst (v := (0 : Int32)) C.1 C.2.1 dX8_plan_25 (by decide) ?_
        exact hj26 (0 : Int32) x1 q_many q_round q_by q_code q_far q_from q_met _ _ _ w (lv_sub hl [0, 1, 2, 3] rfl) hf
      · have hf := ite_t hf hq13
        refine lv_iconst (v := (1 : Int32)) C.1 C.2.1 dX8_plan_21 (by decide) ?_
        refine lv_goto (tgt := 26) C.1 C.2.1 dX8_plan_22 (by decide) ?_
        exact hj26 (1 : Int32) x1 q_many q_round q_by q_code q_far q_from q_met _ _ _ w (lv_sub hl [0, 1, 2, 3] rfl) hf
    · have hf := ite_f hf hq12
      refine lv_iconst (v := (-1 : Int32)) C.1 C.2.1 dX8_plan_12 (by decide) ?_
      have hres := Option.some.inj hf
      subst hres
      exact ret_i C hr hlocks w rfl dX8_plan_13

set_option maxRecDepth 100000 in
theorem inX8_rest_X8 : ∀ w ∈ u_ws RX8 TX8 22, w ∈ wsX8_rest := by decide +kernel
set_option maxRecDepth 100000 in
theorem lkX8_rest_7 : Cond.fieldLink RX8 7 "CleanNetsModel" "st" "[I" ∈ wsX8_rest := by decide +kernel
set_option maxRecDepth 100000 in
theorem lkX8_rest_48 : Cond.fieldLink RX8 48 "CleanNetsModel" "far" "[I" ∈ wsX8_rest := by decide +kernel
abbrev wX8_rest (cI cL cS cH : ClassId) (a_this : Nat) (a_this_st : Nat) (a_this_past : Nat) (a_this_image : Nat) (a_this_imagePast : Nat) (a_this_tape : Nat) (a_this_laneOf : Nat) (a_this_sizeOf : Nat) (a_this_items : Nat) (a_this_code : Nat) (a_this_from : Nat) (a_this_by : Nat) (a_this_far : Nat) (a_this_met : Nat) (a_this_told : Nat) (q_acts : Int32) (q_imageActs : Int32) (q_tapeMany : Int32) (q_many : Int32) (q_round : Int32) (q_readAt : Int32) (q_isFault : Int32) (q_toldMany : Int32) (q_by : Nat → Int32) (q_code : Nat → Int32) (q_far : Nat → Int32) (q_from : Nat → Int32) (q_met : Nat → Int32) (q_st : Nat → Int32) : va_W := [(a_this, .inr (8, [.ref a_this_st, .ref a_this_past, .int q_acts, .ref a_this_image, .ref a_this_imagePast, .int q_imageActs, .ref a_this_tape, .int q_tapeMany, .ref a_this_laneOf, .ref a_this_sizeOf, .ref a_this_items, .ref a_this_code, .ref a_this_from, .ref a_this_by, .ref a_this_far, .int q_many, .ref a_this_met, .int q_round, .int q_readAt, .int q_isFault, .int q_toldMany, .ref a_this_told])),
  (a_this_by, .inl (cI, 2187, .inl q_by)),
  (a_this_code, .inl (cI, 2187, .inl q_code)),
  (a_this_far, .inl (cI, 2187, .inl q_far)),
  (a_this_from, .inl (cI, 2187, .inl q_from)),
  (a_this_met, .inl (cI, 16384, .inl q_met)),
  (a_this_st, .inl (cI, 13, .inl q_st))]
def fX8_rest (q_many : Int32) (q_round : Int32) (q_by : Nat → Int32) (q_code : Nat → Int32) (q_far : Nat → Int32) (q_from : Nat → Int32) (q_met : Nat → Int32) (q_st : Nat → Int32) (x1 : Int32) : Option (Int32 × Int32 × Int32 × (Nat → Int32) × (Nat → Int32) × (Nat → Int32) × (Nat → Int32) × (Nat → Int32)) := Option.bind (fX8_in ((x1).toInt64) (0 : Int64) (1 : Int64)) (fun r1 => (if r1 = 0 then some ((-1 : Int32), q_many, q_round, q_by, q_code, q_far, q_from, q_met) else Option.bind (rd q_st 13 (8 : Int32)) (fun y4 => Option.bind (rd q_st 13 (9 : Int32)) (fun y6 => Option.bind (rd q_st 13 (10 : Int32)) (fun y8 => Option.bind (rd q_st 13 (11 : Int32)) (fun y10 => Option.bind (fX8_search q_many q_round q_by q_code q_far q_from q_met q_st y4 y6 y8 y10 (0 : Int32)) (fun r12 => (if 0 ≤ r12.1 then (if x1 = 0 then Option.bind (rd r12.2.2.2.2.2.1 2187 r12.1) (fun y18 => some (y18, r12.2.1, r12.2.2.1, r12.2.2.2.1, r12.2.2.2.2.1, r12.2.2.2.2.2.1, r12.2.2.2.2.2.2.1, r12.2.2.2.2.2.2.2)) else Option.bind (fX8_actOf r12.2.2.2.1 r12.2.2.2.2.2.1 r12.2.2.2.2.2.2.1 r12.1 (0 : Int32)) (fun r16 => some (r16, r12.2.1, r12.2.2.1, r12.2.2.2.1, r12.2.2.2.2.1, r12.2.2.2.2.2.1, r12.2.2.2.2.2.2.1, r12.2.2.2.2.2.2.2))) else some ((-4 : Int32), r12.2.1, r12.2.2.1, r12.2.2.2.1, r12.2.2.2.2.1, r12.2.2.2.2.2.1, r12.2.2.2.2.2.2.1, r12.2.2.2.2.2.2.2)))))))))
set_option maxHeartbeats 4000000 in
set_option maxRecDepth 100000 in
theorem mX8_rest (l : Launch) (D : vg) (cI cL cS cH : ClassId) (sz : Nat) (a_this : Nat) (a_this_st : Nat) (a_this_past : Nat) (a_this_image : Nat) (a_this_imagePast : Nat) (a_this_tape : Nat) (a_this_laneOf : Nat) (a_this_sizeOf : Nat) (a_this_items : Nat) (a_this_code : Nat) (a_this_from : Nat) (a_this_by : Nat) (a_this_far : Nat) (a_this_met : Nat) (a_this_told : Nat) (q_acts : Int32) (q_imageActs : Int32) (q_tapeMany : Int32) (q_many : Int32) (q_round : Int32) (q_readAt : Int32) (q_isFault : Int32) (q_toldMany : Int32) (q_by : Nat → Int32) (q_code : Nat → Int32) (q_far : Nat → Int32) (q_from : Nat → Int32) (q_met : Nat → Int32) (q_st : Nat → Int32) (x1 : Int32) {res : Int32 × Int32 × Int32 × (Nat → Int32) × (Nat → Int32) × (Nat → Int32) × (Nat → Int32) × (Nat → Int32)} (hf : fX8_rest q_many q_round q_by q_code q_far q_from q_met q_st x1 = some res) : cti l yX8_rest wsX8_rest ({ frames := 6, cells := 0, slots := 0, locals := 147 }) D (ty4 cI cL cS cH) sz [.ref a_this, .int x1] (wX8_rest cI cL cS cH a_this a_this_st a_this_past a_this_image a_this_imagePast a_this_tape a_this_laneOf a_this_sizeOf a_this_items a_this_code a_this_from a_this_by a_this_far a_this_met a_this_told q_acts q_imageActs q_tapeMany q_many q_round q_readAt q_isFault q_toldMany q_by q_code q_far q_from q_met q_st) (wX8_rest cI cL cS cH a_this a_this_st a_this_past a_this_image a_this_imagePast a_this_tape a_this_laneOf a_this_sizeOf a_this_items a_this_code a_this_from a_this_by a_this_far a_this_met a_this_told q_acts q_imageActs q_tapeMany res.2.1 res.2.2.1 q_readAt q_isFault q_toldMany res.2.2.2.1 res.2.2.2.2.1 res.2.2.2.2.2.1 res.2.2.2.2.2.2.1 res.2.2.2.2.2.2.2 q_st) res.1 := by
  refine Met.ofW (cc := cX8_rest) (maxL := 3) (ret := (some .int)) (by decide) rfl ?_
  intro p e s m args below meth c s₁ B hml hv
  obtain ⟨rfl, hpre⟩ := hv
  obtain rfl := hpre.1
  have C : CallFix p m c cX8_rest 3 s _ wsX8_rest RX8 := ⟨B.exec, B.bytes, hml, findClass_of_methodNamed B.named, atoms_spec (ws := wsX8_rest) B.pre⟩
  have hr := B.returns
  have hlocks := B.notSynchronized
  have w := wd_start hpre
  clear hpre B
  have hl := lv_entry ([.ref a_this, .int x1]) (n := 3) (Nat.le_of_ble_eq_true rfl)
  rw [lg_entry_eq]
  generalize (lg_sl ([.ref a_this, .int x1]) ++ List.replicate (3 - (lg_sl ([.ref a_this, .int x1])).length) Slot.unset).toArray = ls at hl ⊢
  have hl : lv_has ls 3 [(0, .ref a_this), (1, .int x1)] := hl
  unfold fX8_rest at hf
  refine lv_iload_n C.1 C.2.1 dX8_rest_0 rfl (lv_at hl 1 rfl) ?_
  refine lv_i2l C.1 C.2.1 dX8_rest_1 rfl ?_
  refine lv_lconst (v := (0 : Int64)) C.1 C.2.1 dX8_rest_2 (by decide) ?_
  refine lv_lconst (v := (1 : Int64)) C.1 C.2.1 dX8_rest_3 (by decide) ?_
  obtain ⟨r1, hc2, hf⟩ := bd hf
  refine call_Si (ws' := (wX8_rest cI cL cS cH a_this a_this_st a_this_past a_this_image a_this_imagePast a_this_tape a_this_laneOf a_this_sizeOf a_this_items a_this_code a_this_from a_this_by a_this_far a_this_met a_this_told q_acts q_imageActs q_tapeMany q_many q_round q_readAt q_isFault q_toldMany q_by q_code q_far q_from q_met q_st)) (rest := []) C w (mX8_in l D cI cL cS cH _ ((x1).toInt64) (0 : Int64) (1 : Int64) hc2) (va_cwS 3 C.2.2.2.2 gX8_rest_X8_in rfl rfl rfl (by decide +kernel) ⟨Nat.le_of_ble_eq_true rfl, Nat.le_of_ble_eq_true rfl⟩) [] [0, 1, 2, 3, 4, 5, 6] 7 trivial trivial ⟨⟨_, rfl, rfl⟩, ⟨_, rfl, rfl⟩, ⟨_, rfl, rfl⟩, ⟨_, rfl, rfl⟩, ⟨_, rfl, rfl⟩, ⟨_, rfl, rfl⟩, ⟨_, rfl, rfl⟩, trivial⟩ rfl (by decide) (by decide) rfl hl.1 rfl (lv_room (Nat.le_of_ble_eq_true rfl)) dX8_rest_4 ⟨Nat.zero_le _, Nat.zero_le _⟩ (fun H locs w => ?_)
  refine lv_if_ne (tgt := 12) C.1 C.2.1 dX8_rest_7 (by decide) (fun hq3 => ?_) (fun hq3 => ?_)
  · have hf := ite_f hf hq3
    refine lv_aload_n C.1 C.2.1 dX8_rest_12 rfl (lv_at hl 0 rfl) ?_
    refine lv_aload_n C.1 C.2.1 dX8_rest_13 rfl (lv_at hl 0 rfl) ?_
    refine r_get C w inX8_rest_X8 0 rfl rfl 0 (by decide) lkX8_rest_7 rfl dX8_rest_14 ?_
    refine lv_bipush (v := (8 : Int32)) C.1 C.2.1 dX8_rest_17 (by decide) ?_
    obtain ⟨y4, hy5, hf⟩ := bd hf
    refine r_iald C w 6 0 rfl rfl (rd_in hy5) dX8_rest_19 ?_
    refine lv_aload_n C.1 C.2.1 dX8_rest_20 rfl (lv_at hl 0 rfl) ?_
    refine r_get C w inX8_rest_X8 0 rfl rfl 0 (by decide) lkX8_rest_7 rfl dX8_rest_21 ?_
    refine lv_bipush (v := (9 : Int32)) C.1 C.2.1 dX8_rest_24 (by decide) ?_
    obtain ⟨y6, hy7, hf⟩ := bd hf
    refine r_iald C w 6 0 rfl rfl (rd_in hy7) dX8_rest_26 ?_
    refine lv_aload_n C.1 C.2.1 dX8_rest_27 rfl (lv_at hl 0 rfl) ?_
    refine r_get C w inX8_rest_X8 0 rfl rfl 0 (by decide) lkX8_rest_7 rfl dX8_rest_28 ?_
    refine lv_bipush (v := (10 : Int32)) C.1 C.2.1 dX8_rest_31 (by decide) ?_
    obtain ⟨y8, hy9, hf⟩ := bd hf
    refine r_iald C w 6 0 rfl rfl (rd_in hy9) dX8_rest_33 ?_
    refine lv_aload_n C.1 C.2.1 dX8_rest_34 rfl (lv_at hl 0 rfl) ?_
    refine r_get C w inX8_rest_X8 0 rfl rfl 0 (by decide) lkX8_rest_7 rfl dX8_rest_35 ?_
    refine lv_bipush (v := (11 : Int32)) C.1 C.2.1 dX8_rest_38 (by decide) ?_
    obtain ⟨y10, hy11, hf⟩ := bd hf
    refine r_iald C w 6 0 rfl rfl (rd_in hy11) dX8_rest_40 ?_
    refine lv_iconst (v := (0 : Int32)) C.1 C.2.1 dX8_rest_41 (by decide) ?_
    obtain ⟨r12, hc13, hf⟩ := bd hf
    refine call_Vi (ws' := (wX8_rest cI cL cS cH a_this a_this_st a_this_past a_this_image a_this_imagePast a_this_tape a_this_laneOf a_this_sizeOf a_this_items a_this_code a_this_from a_this_by a_this_far a_this_met a_this_told q_acts q_imageActs q_tapeMany r12.2.1 r12.2.2.1 q_readAt q_isFault q_toldMany r12.2.2.2.1 r12.2.2.2.2.1 r12.2.2.2.2.2.1 r12.2.2.2.2.2.2.1 r12.2.2.2.2.2.2.2 q_st)) (rest := []) C w (mX8_search l D cI cL cS cH _ a_this a_this_st a_this_past a_this_image a_this_imagePast a_this_tape a_this_laneOf a_this_sizeOf a_this_items a_this_code a_this_from a_this_by a_this_far a_this_met a_this_told q_acts q_imageActs q_tapeMany q_many q_round q_readAt q_isFault q_toldMany q_by q_code q_far q_from q_met q_st y4 y6 y8 y10 (0 : Int32) hc13) (cwV 5 C.2.2.2.2 gX8_rest_X8_search rfl rfl rfl (by decide +kernel) ⟨Nat.le_of_ble_eq_true rfl, Nat.le_of_ble_eq_true rfl⟩) [0, 1, 2, 3, 4, 5, 6] [] 7 ⟨rfl, rfl, rfl, rfl, rfl, rfl, rfl, trivial⟩ ⟨rfl, rfl, rfl, rfl, rfl, rfl, rfl, trivial⟩ trivial rfl (by decide) (by decide) (ci := 8) (q0 := 0) rfl rfl rfl hl.1 rfl (lv_room (Nat.le_of_ble_eq_true rfl)) dX8_rest_42 ⟨Nat.zero_le _, Nat.zero_le _⟩ (fun H locs w => ?_)
    refine lv_istore_n (lv' := [(2, .int r12.1), (0, .ref a_this), (1, .int x1)]) C.1 C.2.1 dX8_rest_45 rfl hl (by decide) rfl (fun ls hl => ?_)
    refine lv_iload_n C.1 C.2.1 dX8_rest_46 rfl (lv_at hl 0 rfl) ?_
    refine lv_if_ge (tgt := 53) C.1 C.2.1 dX8_rest_47 (by decide) (fun hq14 => ?_) (fun hq14 => ?_)
    · have hf := ite_t hf hq14
      refine lv_iload_n C.1 C.2.1 dX8_rest_53 rfl (lv_at hl 2 rfl) ?_
      refine lv_if_ne (tgt := 66) C.1 C.2.1 dX8_rest_54 (by decide) (fun hq15 => ?_) (fun hq15 => ?_)
      · have hf := ite_f hf hq15
        refine lv_aload_n C.1 C.2.1 dX8_rest_66 rfl (lv_at hl 1 rfl) ?_
        refine lv_iload_n C.1 C.2.1 dX8_rest_67 rfl (lv_at hl 0 rfl) ?_
        refine lv_iconst (v := (0 : Int32)) C.1 C.2.1 dX8_rest_68 (by decide) ?_
        obtain ⟨r16, hc17, hf⟩ := bd hf
        refine call_Vi (ws' := (wX8_rest cI cL cS cH a_this a_this_st a_this_past a_this_image a_this_imagePast a_this_tape a_this_laneOf a_this_sizeOf a_this_items a_this_code a_this_from a_this_by a_this_far a_this_met a_this_told q_acts q_imageActs q_tapeMany r12.2.1 r12.2.2.1 q_readAt q_isFault q_toldMany r12.2.2.2.1 r12.2.2.2.2.1 r12.2.2.2.2.2.1 r12.2.2.2.2.2.2.1 r12.2.2.2.2.2.2.2 q_st)) (rest := []) C w (mX8_actOf l D cI cL cS cH _ a_this a_this_st a_this_past a_this_image a_this_imagePast a_this_tape a_this_laneOf a_this_sizeOf a_this_items a_this_code a_this_from a_this_by a_this_far a_this_met a_this_told q_acts q_imageActs q_tapeMany r12.2.1 r12.2.2.1 q_readAt q_isFault q_toldMany r12.2.2.2.1 r12.2.2.2.2.2.1 r12.2.2.2.2.2.2.1 r12.1 (0 : Int32) hc17) (cwV 2 C.2.2.2.2 gX8_rest_X8_actOf rfl rfl rfl (by decide +kernel) ⟨Nat.le_of_ble_eq_true rfl, Nat.le_of_ble_eq_true rfl⟩) [0, 1, 3, 4] [2, 5, 6] 7 ⟨rfl, rfl, rfl, rfl, trivial⟩ ⟨rfl, rfl, rfl, rfl, trivial⟩ ⟨⟨_, rfl, rfl⟩, ⟨_, rfl, rfl⟩, ⟨_, rfl, rfl⟩, trivial⟩ rfl (by decide) (by decide) (ci := 8) (q0 := 0) rfl rfl rfl hl.1 rfl (lv_room (Nat.le_of_ble_eq_true rfl)) dX8_rest_69 ⟨Nat.zero_le _, Nat.zero_le _⟩ (fun H locs w => ?_)
        have hres := Option.some.inj hf
        subst hres
        exact ret_i C hr hlocks w rfl dX8_rest_72
      · have hf := ite_t hf hq15
        refine lv_aload_n C.1 C.2.1 dX8_rest_57 rfl (lv_at hl 1 rfl) ?_
        refine r_get C w inX8_rest_X8 0 rfl rfl 14 (by decide) lkX8_rest_48 rfl dX8_rest_58 ?_
        refine lv_iload_n C.1 C.2.1 dX8_rest_61 rfl (lv_at hl 0 rfl) ?_
        obtain ⟨y18, hy19, hf⟩ := bd hf
        refine r_iald C w 3 0 rfl rfl (rd_in hy19) dX8_rest_62 ?_
        refine lv_goto (tgt := 72) C.1 C.2.1 dX8_rest_63 (by decide) ?_
        have hres := Option.some.inj hf
        subst hres
        exact ret_i C hr hlocks w rfl dX8_rest_72
    · have hf := ite_f hf hq14
      refine lv_bipush (v := (-4 : Int32)) C.1 C.2.1 dX8_rest_50 (by decide) ?_
      have hres := Option.some.inj hf
      subst hres
      exact ret_i C hr hlocks w rfl dX8_rest_52
  · have hf := ite_t hf hq3
    refine lv_iconst (v := (-1 : Int32)) C.1 C.2.1 dX8_rest_10 (by decide) ?_
    have hres := Option.some.inj hf
    subst hres
    exact ret_i C hr hlocks w rfl dX8_rest_11

set_option maxRecDepth 100000 in
theorem inX8_lost_X8 : ∀ w ∈ u_ws RX8 TX8 22, w ∈ wsX8_lost := by decide +kernel
set_option maxRecDepth 100000 in
theorem lkX8_lost_7 : Cond.fieldLink RX8 7 "CleanNetsModel" "st" "[I" ∈ wsX8_lost := by decide +kernel
abbrev wX8_lost (cI cL cS cH : ClassId) (a_this : Nat) (a_this_st : Nat) (a_this_past : Nat) (a_this_image : Nat) (a_this_imagePast : Nat) (a_this_tape : Nat) (a_this_laneOf : Nat) (a_this_sizeOf : Nat) (a_this_items : Nat) (a_this_code : Nat) (a_this_from : Nat) (a_this_by : Nat) (a_this_far : Nat) (a_this_met : Nat) (a_this_told : Nat) (q_acts : Int32) (q_imageActs : Int32) (q_tapeMany : Int32) (q_many : Int32) (q_round : Int32) (q_readAt : Int32) (q_isFault : Int32) (q_toldMany : Int32) (q_st : Nat → Int32) : va_W := [(a_this, .inr (8, [.ref a_this_st, .ref a_this_past, .int q_acts, .ref a_this_image, .ref a_this_imagePast, .int q_imageActs, .ref a_this_tape, .int q_tapeMany, .ref a_this_laneOf, .ref a_this_sizeOf, .ref a_this_items, .ref a_this_code, .ref a_this_from, .ref a_this_by, .ref a_this_far, .int q_many, .ref a_this_met, .int q_round, .int q_readAt, .int q_isFault, .int q_toldMany, .ref a_this_told])),
  (a_this_st, .inl (cI, 13, .inl q_st))]
def bX8_lost_173 (q_st : Nat → Int32) (y173_2 : Int32) (y173_3 : Int32) (y173_4 : Int32) (v173 : Int32 × Int32) : Option ((Int32 × Int32) ⊕ (Int32 × Int32)) := (if v173.2 = 0 then some (.inr (v173.1, v173.2)) else Option.bind (rmd v173.1 v173.2) (fun y2 => some (.inl (v173.2, y2))))
def jX8_lost_160 (q_st : Nat → Int32) (y32_1 : Int32) (y32_2 : Int32) (y160_3 : Int32) (y160_4 : Int32) (y160_5 : Int32) : Option ((Int32 × Int32 × Int32) ⊕ (Int32 × Int32 × Int32)) := some (.inl (y160_3, y160_4, (y160_5 + (1 : Int32))))
def jX8_lost_158 (q_st : Nat → Int32) (y32_1 : Int32) (y32_2 : Int32) (y158_4 : Int32) (y158_5 : Int32) (z158_0 : Int32) (z158_1 : Int32) : Option ((Int32 × Int32 × Int32) ⊕ (Int32 × Int32 × Int32)) := jX8_lost_160 q_st y32_1 y32_2 (z158_1 + z158_0) y158_4 y158_5
def jX8_lost_112 (q_st : Nat → Int32) (y62_1 : Int32) (y62_2 : Int32) (y62_3 : Int32) (y62_4 : Int32) (y62_5 : Int32) (y112_7 : Int32) (z112_0 : Int32) (z112_1 : Int32) : Option ((Int32 × Int32) ⊕ (Int32 × Int32)) := some (.inl ((z112_1 * z112_0), (y112_7 + (1 : Int32))))
def bX8_lost_62 (q_st : Nat → Int32) (y62_1 : Int32) (y62_2 : Int32) (y62_3 : Int32) (y62_4 : Int32) (y62_5 : Int32) (v62 : Int32 × Int32) : Option ((Int32 × Int32) ⊕ (Int32 × Int32)) := Option.bind (rd q_st 13 (0 : Int32)) (fun y4 => (if y4 ≤ v62.2 then some (.inr (v62.1, v62.2)) else Option.bind (rd q_st 13 (9 : Int32)) (fun y7 => Option.bind (fX8_has y7 v62.2) (fun r9 => (if r9 = 0 then jX8_lost_112 q_st y62_1 y62_2 y62_3 y62_4 y62_5 v62.2 (1 : Int32) v62.1 else Option.bind (fX8_has y62_5 v62.2) (fun r12 => (if r12 = 0 then jX8_lost_112 q_st y62_1 y62_2 y62_3 y62_4 y62_5 v62.2 y62_1 v62.1 else jX8_lost_112 q_st y62_1 y62_2 y62_3 y62_4 y62_5 v62.2 ((10 : Int32) - y62_1) v62.1)))))))
def bX8_lost_32 (q_st : Nat → Int32) (y32_1 : Int32) (y32_2 : Int32) (v32 : Int32 × Int32 × Int32) : Option ((Int32 × Int32 × Int32) ⊕ (Int32 × Int32 × Int32)) := Option.bind (fX8_all q_st) (fun r15 => (if r15 < v32.2.2 then some (.inr (v32.1, v32.2.1, v32.2.2)) else Option.bind (rd q_st 13 (9 : Int32)) (fun y18 => (if (v32.2.2 &&& (y18 ^^^ (-1 : Int32))) = 0 then Option.bind (itL (bX8_lost_62 q_st y32_1 y32_2 v32.1 v32.2.1 v32.2.2) fu ((1 : Int32), (0 : Int32))) (fun ex21 => Option.bind (rd q_st 13 (8 : Int32)) (fun y23 => Option.bind (fX8_fouled q_st y23 v32.2.2) (fun r25 => Option.bind (rd q_st 13 (8 : Int32)) (fun y27 => (if r25 = y27 then jX8_lost_158 q_st y32_1 y32_2 (v32.2.1 + ex21.1) v32.2.2 ex21.1 v32.1 else jX8_lost_158 q_st y32_1 y32_2 (v32.2.1 + ex21.1) v32.2.2 (0 : Int32) v32.1))))) else jX8_lost_160 q_st y32_1 y32_2 v32.1 v32.2.1 v32.2.2))))
def fX8_lost (q_st : Nat → Int32) (x1 : Int32) (x2 : Int32) : Option (Int32) := Option.bind (fX8_in ((x1).toInt64) (0 : Int64) (10 : Int64)) (fun r30 => (if r30 = 0 then some (-1 : Int32) else Option.bind (fX8_in ((x2).toInt64) (0 : Int64) (1 : Int64)) (fun r33 => (if r33 = 0 then some (-1 : Int32) else Option.bind (itL (bX8_lost_32 q_st x1 x2) fu ((0 : Int32), (0 : Int32), (0 : Int32))) (fun ex36 => Option.bind (itL (bX8_lost_173 q_st x2 ex36.1 ex36.2.1) fu (ex36.1, ex36.2.1)) (fun ex38 => (if x2 = 0 then Option.bind (dv ex36.1 ex38.1) (fun y43 => some y43) else Option.bind (dv ex36.2.1 ex38.1) (fun y41 => some y41))))))))
abbrev gX8_lost (p : Program) (l : Launch) (e : Env) (s : State) (m : MethodId) (below : List Frame) (meth : Method) (c : Code) (D : vg) (cI cL cS cH : ClassId) (a_this : Nat) (a_this_st : Nat) (a_this_past : Nat) (a_this_image : Nat) (a_this_imagePast : Nat) (a_this_tape : Nat) (a_this_laneOf : Nat) (a_this_sizeOf : Nat) (a_this_items : Nat) (a_this_code : Nat) (a_this_from : Nat) (a_this_by : Nat) (a_this_far : Nat) (a_this_met : Nat) (a_this_told : Nat) (q_acts : Int32) (q_imageActs : Int32) (q_tapeMany : Int32) (q_many : Int32) (q_round : Int32) (q_readAt : Int32) (q_isFault : Int32) (q_toldMany : Int32) (q_st : Nat → Int32) (x1 : Int32) (x2 : Int32) (res : Int32) (H : Heap) (locs : List Loc) (g : JFrame) : Prop := W p l e (headSpec wsX8_lost ({ frames := 3, cells := 0, slots := 0, locals := 68 })).room s m ([.ref a_this, .int x1, .int x2] : List Value).toArray below meth c H locs 0 0 (MQ below (va_Qi (fun r' (_ : Unit) => r' = res) (fun _ t => pos1 D s.heap.size (wX8_lost cI cL cS cH a_this a_this_st a_this_past a_this_image a_this_imagePast a_this_tape a_this_laneOf a_this_sizeOf a_this_items a_this_code a_this_from a_this_by a_this_far a_this_met a_this_told q_acts q_imageActs q_tapeMany q_many q_round q_readAt q_isFault q_toldMany q_st) (wX8_lost cI cL cS cH a_this a_this_st a_this_past a_this_image a_this_imagePast a_this_tape a_this_laneOf a_this_sizeOf a_this_items a_this_code a_this_from a_this_by a_this_far a_this_met a_this_told q_acts q_imageActs q_tapeMany q_many q_round q_readAt q_isFault q_toldMany q_st) t) (va_A (wX8_lost cI cL cS cH a_this a_this_st a_this_past a_this_image a_this_imagePast a_this_tape a_this_laneOf a_this_sizeOf a_this_items a_this_code a_this_from a_this_by a_this_far a_this_met a_this_told q_acts q_imageActs q_tapeMany q_many q_round q_readAt q_isFault q_toldMany q_st) s.heap.size)) ([.ref a_this, .int x1, .int x2] : List Value).toArray s 0 0 (va_A (wX8_lost cI cL cS cH a_this a_this_st a_this_past a_this_image a_this_imagePast a_this_tape a_this_laneOf a_this_sizeOf a_this_items a_this_code a_this_from a_this_by a_this_far a_this_met a_this_told q_acts q_imageActs q_tapeMany q_many q_round q_readAt q_isFault q_toldMany q_st) s.heap.size)) g
set_option maxHeartbeats 4000000 in
set_option maxRecDepth 100000 in
theorem mX8_lost (l : Launch) (D : vg) (cI cL cS cH : ClassId) (sz : Nat) (a_this : Nat) (a_this_st : Nat) (a_this_past : Nat) (a_this_image : Nat) (a_this_imagePast : Nat) (a_this_tape : Nat) (a_this_laneOf : Nat) (a_this_sizeOf : Nat) (a_this_items : Nat) (a_this_code : Nat) (a_this_from : Nat) (a_this_by : Nat) (a_this_far : Nat) (a_this_met : Nat) (a_this_told : Nat) (q_acts : Int32) (q_imageActs : Int32) (q_tapeMany : Int32) (q_many : Int32) (q_round : Int32) (q_readAt : Int32) (q_isFault : Int32) (q_toldMany : Int32) (q_st : Nat → Int32) (x1 : Int32) (x2 : Int32) {res : Int32} (hf : fX8_lost q_st x1 x2 = some res) : cti l yX8_lost wsX8_lost ({ frames := 3, cells := 0, slots := 0, locals := 68 }) D (ty4 cI cL cS cH) sz [.ref a_this, .int x1, .int x2] (wX8_lost cI cL cS cH a_this a_this_st a_this_past a_this_image a_this_imagePast a_this_tape a_this_laneOf a_this_sizeOf a_this_items a_this_code a_this_from a_this_by a_this_far a_this_met a_this_told q_acts q_imageActs q_tapeMany q_many q_round q_readAt q_isFault q_toldMany q_st) (wX8_lost cI cL cS cH a_this a_this_st a_this_past a_this_image a_this_imagePast a_this_tape a_this_laneOf a_this_sizeOf a_this_items a_this_code a_this_from a_this_by a_this_far a_this_met a_this_told q_acts q_imageActs q_tapeMany q_many q_round q_readAt q_isFault q_toldMany q_st) res := by
  refine Met.ofW (cc := cX8_lost) (maxL := 8) (ret := (some .int)) (by decide) rfl ?_
  intro p e s m args below meth c s₁ B hml hv
  obtain ⟨rfl, hpre⟩ := hv
  obtain rfl := hpre.1
  have C : CallFix p m c cX8_lost 8 s _ wsX8_lost RX8 := ⟨B.exec, B.bytes, hml, findClass_of_methodNamed B.named, atoms_spec (ws := wsX8_lost) B.pre⟩
  have hr := B.returns
  have hlocks := B.notSynchronized
  have w := wd_start hpre
  clear hpre B
  have hl := lv_entry ([.ref a_this, .int x1, .int x2]) (n := 8) (Nat.le_of_ble_eq_true rfl)
  rw [lg_entry_eq]
  generalize (lg_sl ([.ref a_this, .int x1, .int x2]) ++ List.replicate (8 - (lg_sl ([.ref a_this, .int x1, .int x2])).length) Slot.unset).toArray = ls at hl ⊢
  have hl : lv_has ls 8 [(0, .ref a_this), (1, .int x1), (2, .int x2)] := hl
  unfold fX8_lost at hf
  have hlp173 : ∀ (y173_2 : Int32) (y173_3 : Int32) (y173_4 : Int32) (ex173 : Int32 × Int32) (hk : (∀ (H : Heap) (locs : List Loc) (ls : Array Slot), wd D (ty4 cI cL cS cH) s (va_A (wX8_lost cI cL cS cH a_this a_this_st a_this_past a_this_image a_this_imagePast a_this_tape a_this_laneOf a_this_sizeOf a_this_items a_this_code a_this_from a_this_by a_this_far a_this_met a_this_told q_acts q_imageActs q_tapeMany q_many q_round q_readAt q_isFault q_toldMany q_st) s.heap.size) s.heap H locs (wX8_lost cI cL cS cH a_this a_this_st a_this_past a_this_image a_this_imagePast a_this_tape a_this_laneOf a_this_sizeOf a_this_items a_this_code a_this_from a_this_by a_this_far a_this_met a_this_told q_acts q_imageActs q_tapeMany q_many q_round q_readAt q_isFault q_toldMany q_st) → lv_has ls 8 [(2, .int y173_2), (3, .int y173_3), (4, .int y173_4), (5, .int ex173.1)] → gX8_lost p l e s m below meth c D cI cL cS cH a_this a_this_st a_this_past a_this_image a_this_imagePast a_this_tape a_this_laneOf a_this_sizeOf a_this_items a_this_code a_this_from a_this_by a_this_far a_this_met a_this_told q_acts q_imageActs q_tapeMany q_many q_round q_readAt q_isFault q_toldMany q_st x1 x2 res H locs (F0 m 196 ls []))) (n : Nat) (v173 : Int32 × Int32) (H : Heap) (locs : List Loc) (ls : Array Slot), itL (bX8_lost_173 q_st y173_2 y173_3 y173_4) n v173 = some ex173 → wd D (ty4 cI cL cS cH) s (va_A (wX8_lost cI cL cS cH a_this a_this_st a_this_past a_this_image a_this_imagePast a_this_tape a_this_laneOf a_this_sizeOf a_this_items a_this_code a_this_from a_this_by a_this_far a_this_met a_this_told q_acts q_imageActs q_tapeMany q_many q_round q_readAt q_isFault q_toldMany q_st) s.heap.size) s.heap H locs (wX8_lost cI cL cS cH a_this a_this_st a_this_past a_this_image a_this_imagePast a_this_tape a_this_laneOf a_this_sizeOf a_this_items a_this_code a_this_from a_this_by a_this_far a_this_met a_this_told q_acts q_imageActs q_tapeMany q_many q_round q_readAt q_isFault q_toldMany q_st) → lv_has ls 8 [(2, .int y173_2), (3, .int y173_3), (4, .int y173_4), (5, .int v173.1), (6, .int v173.2)] → gX8_lost p l e s m below meth c D cI cL cS cH a_this a_this_st a_this_past a_this_image a_this_imagePast a_this_tape a_this_laneOf a_this_sizeOf a_this_items a_this_code a_this_from a_this_by a_this_far a_this_met a_this_told q_acts q_imageActs q_tapeMany q_many q_round q_readAt q_isFault q_toldMany q_st x1 x2 res H locs (F0 m 173 ls []) := by
    intro y173_2 y173_3 y173_4 ex173 hk n
    induction n with
    | zero => intro v173 H locs ls hi w hl; exact (itL_zero hi).elim
    | succ n ih =>
      intro v173 H locs ls hi w hl
      obtain ⟨o, hf, hn⟩ := itL_succ hi
      unfold bX8_lost_173 at hf
      refine lv_iload C.1 C.2.1 dX8_lost_173 (lv_at hl 4 rfl) ?_
      refine lv_if_eq (tgt := 196) C.1 C.2.1 dX8_lost_175 (by decide) (fun hq1 => ?_) (fun hq1 => ?_)
      · have hf := ite_t hf hq1
        obtain rfl := Option.some.inj hf
        obtain rfl := hn
        exact hk _ _ _ w (lv_sub hl [0, 1, 2, 3] rfl)
      · have hf := ite_f hf hq1
        refine lv_iload C.1 C.2.1 dX8_lost_178 (lv_at hl 3 rfl) ?_
        refine lv_iload C.1 C.2.1 dX8_lost_180 (lv_at hl 4 rfl) ?_
        obtain ⟨y2, hy3, hf⟩ := bd hf
        refine lv_irem C.1 C.2.1 dX8_lost_182 (rmd_in hy3).1 ?_
        refine lt_topi (rmd_in hy3).2 ?_
        refine lv_istore (lv' := [(7, .int y2), (2, .int y173_2), (3, .int y173_3), (4, .int y173_4), (5, .int v173.1), (6, .int v173.2)]) C.1 C.2.1 dX8_lost_183 hl (by decide) rfl (fun ls hl => ?_)
        refine lv_iload C.1 C.2.1 dX8_lost_185 (lv_at hl 5 rfl) ?_
        refine lv_istore (lv' := [(5, .int v173.2), (7, .int y2), (2, .int y173_2), (3, .int y173_3), (4, .int y173_4), (6, .int v173.2)]) C.1 C.2.1 dX8_lost_187 hl (by decide) rfl (fun ls hl => ?_)
        refine lv_iload C.1 C.2.1 dX8_lost_189 (lv_at hl 1 rfl) ?_
        refine lv_istore (lv' := [(6, .int y2), (5, .int v173.2), (7, .int y2), (2, .int y173_2), (3, .int y173_3), (4, .int y173_4)]) C.1 C.2.1 dX8_lost_191 hl (by decide) rfl (fun ls hl => ?_)
        refine lv_goto (tgt := 173) C.1 C.2.1 dX8_lost_193 (by decide) ?_
        obtain rfl := Option.some.inj hf
        exact ih (v173.2, y2) _ _ _ hn w (lv_sub hl [3, 4, 5, 1, 0] rfl)
  have hlp32 : ∀ (y32_1 : Int32) (y32_2 : Int32) (ex32 : Int32 × Int32 × Int32) (hk : (∀ (H : Heap) (locs : List Loc) (ls : Array Slot), wd D (ty4 cI cL cS cH) s (va_A (wX8_lost cI cL cS cH a_this a_this_st a_this_past a_this_image a_this_imagePast a_this_tape a_this_laneOf a_this_sizeOf a_this_items a_this_code a_this_from a_this_by a_this_far a_this_met a_this_told q_acts q_imageActs q_tapeMany q_many q_round q_readAt q_isFault q_toldMany q_st) s.heap.size) s.heap H locs (wX8_lost cI cL cS cH a_this a_this_st a_this_past a_this_image a_this_imagePast a_this_tape a_this_laneOf a_this_sizeOf a_this_items a_this_code a_this_from a_this_by a_this_far a_this_met a_this_told q_acts q_imageActs q_tapeMany q_many q_round q_readAt q_isFault q_toldMany q_st) → lv_has ls 8 [(2, .int y32_2), (3, .int ex32.1), (4, .int ex32.2.1)] → gX8_lost p l e s m below meth c D cI cL cS cH a_this a_this_st a_this_past a_this_image a_this_imagePast a_this_tape a_this_laneOf a_this_sizeOf a_this_items a_this_code a_this_from a_this_by a_this_far a_this_met a_this_told q_acts q_imageActs q_tapeMany q_many q_round q_readAt q_isFault q_toldMany q_st x1 x2 res H locs (F0 m 166 ls []))) (n : Nat) (v32 : Int32 × Int32 × Int32) (H : Heap) (locs : List Loc) (ls : Array Slot), itL (bX8_lost_32 q_st y32_1 y32_2) n v32 = some ex32 → wd D (ty4 cI cL cS cH) s (va_A (wX8_lost cI cL cS cH a_this a_this_st a_this_past a_this_image a_this_imagePast a_this_tape a_this_laneOf a_this_sizeOf a_this_items a_this_code a_this_from a_this_by a_this_far a_this_met a_this_told q_acts q_imageActs q_tapeMany q_many q_round q_readAt q_isFault q_toldMany q_st) s.heap.size) s.heap H locs (wX8_lost cI cL cS cH a_this a_this_st a_this_past a_this_image a_this_imagePast a_this_tape a_this_laneOf a_this_sizeOf a_this_items a_this_code a_this_from a_this_by a_this_far a_this_met a_this_told q_acts q_imageActs q_tapeMany q_many q_round q_readAt q_isFault q_toldMany q_st) → lv_has ls 8 [(0, .ref a_this), (1, .int y32_1), (2, .int y32_2), (3, .int v32.1), (4, .int v32.2.1), (5, .int v32.2.2)] → gX8_lost p l e s m below meth c D cI cL cS cH a_this a_this_st a_this_past a_this_image a_this_imagePast a_this_tape a_this_laneOf a_this_sizeOf a_this_items a_this_code a_this_from a_this_by a_this_far a_this_met a_this_told q_acts q_imageActs q_tapeMany q_many q_round q_readAt q_isFault q_toldMany q_st x1 x2 res H locs (F0 m 32 ls []) := by
    intro y32_1 y32_2 ex32 hk n
    induction n with
    | zero => intro v32 H locs ls hi w hl; exact (itL_zero hi).elim
    | succ n ih =>
      intro v32 H locs ls hi w hl
      obtain ⟨o, hf, hn⟩ := itL_succ hi
      unfold bX8_lost_32 at hf
      have hj160 : ∀ (y160_3 : Int32) (y160_4 : Int32) (y160_5 : Int32) (H : Heap) (locs : List Loc) (ls : Array Slot), wd D (ty4 cI cL cS cH) s (va_A (wX8_lost cI cL cS cH a_this a_this_st a_this_past a_this_image a_this_imagePast a_this_tape a_this_laneOf a_this_sizeOf a_this_items a_this_code a_this_from a_this_by a_this_far a_this_met a_this_told q_acts q_imageActs q_tapeMany q_many q_round q_readAt q_isFault q_toldMany q_st) s.heap.size) s.heap H locs (wX8_lost cI cL cS cH a_this a_this_st a_this_past a_this_image a_this_imagePast a_this_tape a_this_laneOf a_this_sizeOf a_this_items a_this_code a_this_from a_this_by a_this_far a_this_met a_this_told q_acts q_imageActs q_tapeMany q_many q_round q_readAt q_isFault q_toldMany q_st) → lv_has ls 8 [(0, .ref a_this), (1, .int y32_1), (2, .int y32_2), (3, .int y160_3), (4, .int y160_4), (5, .int y160_5)] → jX8_lost_160 q_st y32_1 y32_2 y160_3 y160_4 y160_5 = some o → gX8_lost p l e s m below meth c D cI cL cS cH a_this a_this_st a_this_past a_this_image a_this_imagePast a_this_tape a_this_laneOf a_this_sizeOf a_this_items a_this_code a_this_from a_this_by a_this_far a_this_met a_this_told q_acts q_imageActs q_tapeMany q_many q_round q_readAt q_isFault q_toldMany q_st x1 x2 res H locs (F0 m 160 ls []) := by
        intro y160_3 y160_4 y160_5 H locs ls w hl hf
        unfold jX8_lost_160 at hf
        refine lv_iinc (v := (y160_5 + (1 : Int32))) (lv' := [(5, .int (y160_5 + (1 : Int32))), (0, .ref a_this), (1, .int y32_1), (2, .int y32_2), (3, .int y160_3), (4, .int y160_4)]) C.1 C.2.1 dX8_lost_160 hl (k := 5) rfl rfl (by decide) rfl (fun ls hl => ?_)
        refine lv_goto (tgt := 32) C.1 C.2.1 dX8_lost_163 (by decide) ?_
        obtain rfl := Option.some.inj hf
        exact ih (y160_3, y160_4, (y160_5 + (1 : Int32))) _ _ _ hn w (lv_sub hl [1, 2, 3, 4, 5, 0] rfl)
      have hj158 : ∀ (y158_4 : Int32) (y158_5 : Int32) (z158_0 : Int32) (z158_1 : Int32) (H : Heap) (locs : List Loc) (ls : Array Slot), wd D (ty4 cI cL cS cH) s (va_A (wX8_lost cI cL cS cH a_this a_this_st a_this_past a_this_image a_this_imagePast a_this_tape a_this_laneOf a_this_sizeOf a_this_items a_this_code a_this_from a_this_by a_this_far a_this_met a_this_told q_acts q_imageActs q_tapeMany q_many q_round q_readAt q_isFault q_toldMany q_st) s.heap.size) s.heap H locs (wX8_lost cI cL cS cH a_this a_this_st a_this_past a_this_image a_this_imagePast a_this_tape a_this_laneOf a_this_sizeOf a_this_items a_this_code a_this_from a_this_by a_this_far a_this_met a_this_told q_acts q_imageActs q_tapeMany q_many q_round q_readAt q_isFault q_toldMany q_st) → lv_has ls 8 [(0, .ref a_this), (1, .int y32_1), (2, .int y32_2), (4, .int y158_4), (5, .int y158_5)] → jX8_lost_158 q_st y32_1 y32_2 y158_4 y158_5 z158_0 z158_1 = some o → gX8_lost p l e s m below meth c D cI cL cS cH a_this a_this_st a_this_past a_this_image a_this_imagePast a_this_tape a_this_laneOf a_this_sizeOf a_this_items a_this_code a_this_from a_this_by a_this_far a_this_met a_this_told q_acts q_imageActs q_tapeMany q_many q_round q_readAt q_isFault q_toldMany q_st x1 x2 res H locs (F0 m 158 ls [.int z158_0, .int z158_1]) := by
        intro y158_4 y158_5 z158_0 z158_1 H locs ls w hl hf
        unfold jX8_lost_158 at hf
        refine lv_iadd C.1 C.2.1 dX8_lost_158 ?_
        refine lv_istore_n (lv' := [(3, .int (z158_1 + z158_0)), (0, .ref a_this), (1, .int y32_1), (2, .int y32_2), (4, .int y158_4), (5, .int y158_5)]) C.1 C.2.1 dX8_lost_159 rfl hl (by decide) rfl (fun ls hl => ?_)
        exact hj160 (z158_1 + z158_0) y158_4 y158_5 _ _ _ w (lv_sub hl [1, 2, 3, 0, 4, 5] rfl) hf
      have hlp62 : ∀ (y62_1 : Int32) (y62_2 : Int32) (y62_3 : Int32) (y62_4 : Int32) (y62_5 : Int32) (ex62 : Int32 × Int32) (hk : (∀ (H : Heap) (locs : List Loc) (ls : Array Slot), wd D (ty4 cI cL cS cH) s (va_A (wX8_lost cI cL cS cH a_this a_this_st a_this_past a_this_image a_this_imagePast a_this_tape a_this_laneOf a_this_sizeOf a_this_items a_this_code a_this_from a_this_by a_this_far a_this_met a_this_told q_acts q_imageActs q_tapeMany q_many q_round q_readAt q_isFault q_toldMany q_st) s.heap.size) s.heap H locs (wX8_lost cI cL cS cH a_this a_this_st a_this_past a_this_image a_this_imagePast a_this_tape a_this_laneOf a_this_sizeOf a_this_items a_this_code a_this_from a_this_by a_this_far a_this_met a_this_told q_acts q_imageActs q_tapeMany q_many q_round q_readAt q_isFault q_toldMany q_st) → lv_has ls 8 [(0, .ref a_this), (1, .int y62_1), (2, .int y62_2), (3, .int y62_3), (4, .int y62_4), (5, .int y62_5), (6, .int ex62.1)] → gX8_lost p l e s m below meth c D cI cL cS cH a_this a_this_st a_this_past a_this_image a_this_imagePast a_this_tape a_this_laneOf a_this_sizeOf a_this_items a_this_code a_this_from a_this_by a_this_far a_this_met a_this_told q_acts q_imageActs q_tapeMany q_many q_round q_readAt q_isFault q_toldMany q_st x1 x2 res H locs (F0 m 121 ls []))) (n : Nat) (v62 : Int32 × Int32) (H : Heap) (locs : List Loc) (ls : Array Slot), itL (bX8_lost_62 q_st y62_1 y62_2 y62_3 y62_4 y62_5) n v62 = some ex62 → wd D (ty4 cI cL cS cH) s (va_A (wX8_lost cI cL cS cH a_this a_this_st a_this_past a_this_image a_this_imagePast a_this_tape a_this_laneOf a_this_sizeOf a_this_items a_this_code a_this_from a_this_by a_this_far a_this_met a_this_told q_acts q_imageActs q_tapeMany q_many q_round q_readAt q_isFault q_toldMany q_st) s.heap.size) s.heap H locs (wX8_lost cI cL cS cH a_this a_this_st a_this_past a_this_image a_this_imagePast a_this_tape a_this_laneOf a_this_sizeOf a_this_items a_this_code a_this_from a_this_by a_this_far a_this_met a_this_told q_acts q_imageActs q_tapeMany q_many q_round q_readAt q_isFault q_toldMany q_st) → lv_has ls 8 [(0, .ref a_this), (1, .int y62_1), (2, .int y62_2), (3, .int y62_3), (4, .int y62_4), (5, .int y62_5), (6, .int v62.1), (7, .int v62.2)] → gX8_lost p l e s m below meth c D cI cL cS cH a_this a_this_st a_this_past a_this_image a_this_imagePast a_this_tape a_this_laneOf a_this_sizeOf a_this_items a_this_code a_this_from a_this_by a_this_far a_this_met a_this_told q_acts q_imageActs q_tapeMany q_many q_round q_readAt q_isFault q_toldMany q_st x1 x2 res H locs (F0 m 62 ls []) := by
        intro y62_1 y62_2 y62_3 y62_4 y62_5 ex62 hk n
        induction n with
        | zero => intro v62 H locs ls hi w hl; exact (itL_zero hi).elim
        | succ n ih =>
          intro v62 H locs ls hi w hl
          obtain ⟨o, hf, hn⟩ := itL_succ hi
          unfold bX8_lost_62 at hf
          have hj112 : ∀ (y112_7 : Int32) (z112_0 : Int32) (z112_1 : Int32) (H : Heap) (locs : List Loc) (ls : Array Slot), wd D (ty4 cI cL cS cH) s (va_A (wX8_lost cI cL cS cH a_this a_this_st a_this_past a_this_image a_this_imagePast a_this_tape a_this_laneOf a_this_sizeOf a_this_items a_this_code a_this_from a_this_by a_this_far a_this_met a_this_told q_acts q_imageActs q_tapeMany q_many q_round q_readAt q_isFault q_toldMany q_st) s.heap.size) s.heap H locs (wX8_lost cI cL cS cH a_this a_this_st a_this_past a_this_image a_this_imagePast a_this_tape a_this_laneOf a_this_sizeOf a_this_items a_this_code a_this_from a_this_by a_this_far a_this_met a_this_told q_acts q_imageActs q_tapeMany q_many q_round q_readAt q_isFault q_toldMany q_st) → lv_has ls 8 [(0, .ref a_this), (1, .int y62_1), (2, .int y62_2), (3, .int y62_3), (4, .int y62_4), (5, .int y62_5), (7, .int y112_7)] → jX8_lost_112 q_st y62_1 y62_2 y62_3 y62_4 y62_5 y112_7 z112_0 z112_1 = some o → gX8_lost p l e s m below meth c D cI cL cS cH a_this a_this_st a_this_past a_this_image a_this_imagePast a_this_tape a_this_laneOf a_this_sizeOf a_this_items a_this_code a_this_from a_this_by a_this_far a_this_met a_this_told q_acts q_imageActs q_tapeMany q_many q_round q_readAt q_isFault q_toldMany q_st x1 x2 res H locs (F0 m 112 ls [.int z112_0, .int z112_1]) := by
            intro y112_7 z112_0 z112_1 H locs ls w hl hf
            unfold jX8_lost_112 at hf
            refine lv_imul C.1 C.2.1 dX8_lost_112 ?_
            refine lv_istore (lv' := [(6, .int (z112_1 * z112_0)), (0, .ref a_this), (1, .int y62_1), (2, .int y62_2), (3, .int y62_3), (4, .int y62_4), (5, .int y62_5), (7, .int y112_7)]) C.1 C.2.1 dX8_lost_113 hl (by decide) rfl (fun ls hl => ?_)
            refine lv_iinc (v := (y112_7 + (1 : Int32))) (lv' := [(7, .int (y112_7 + (1 : Int32))), (6, .int (z112_1 * z112_0)), (0, .ref a_this), (1, .int y62_1), (2, .int y62_2), (3, .int y62_3), (4, .int y62_4), (5, .int y62_5)]) C.1 C.2.1 dX8_lost_115 hl (k := 7) rfl rfl (by decide) rfl (fun ls hl => ?_)
            refine lv_goto (tgt := 62) C.1 C.2.1 dX8_lost_118 (by decide) ?_
            obtain rfl := Option.some.inj hf
            exact ih ((z112_1 * z112_0), (y112_7 + (1 : Int32))) _ _ _ hn w (lv_sub hl [2, 3, 4, 5, 6, 7, 1, 0] rfl)
          refine lv_iload C.1 C.2.1 dX8_lost_62 (lv_at hl 7 rfl) ?_
          refine lv_aload_n C.1 C.2.1 dX8_lost_64 rfl (lv_at hl 0 rfl) ?_
          refine r_get C w inX8_lost_X8 0 rfl rfl 0 (by decide) lkX8_lost_7 rfl dX8_lost_65 ?_
          refine lv_iconst (v := (0 : Int32)) C.1 C.2.1 dX8_lost_68 (by decide) ?_
          obtain ⟨y4, hy5, hf⟩ := bd hf
          refine r_iald C w 1 0 rfl rfl (rd_in hy5) dX8_lost_69 ?_
          refine lv_icmp_ge (tgt := 121) C.1 C.2.1 dX8_lost_70 (by decide) (fun hq6 => ?_) (fun hq6 => ?_)
          · have hf := ite_t hf hq6
            obtain rfl := Option.some.inj hf
            obtain rfl := hn
            exact hk _ _ _ w (lv_sub hl [0, 1, 2, 3, 4, 5, 6] rfl)
          · have hf := ite_f hf hq6
            refine lv_iload C.1 C.2.1 dX8_lost_73 (lv_at hl 6 rfl) ?_
            refine lv_aload_n C.1 C.2.1 dX8_lost_75 rfl (lv_at hl 0 rfl) ?_
            refine r_get C w inX8_lost_X8 0 rfl rfl 0 (by decide) lkX8_lost_7 rfl dX8_lost_76 ?_
            refine lv_bipush (v := (9 : Int32)) C.1 C.2.1 dX8_lost_79 (by decide) ?_
            obtain ⟨y7, hy8, hf⟩ := bd hf
            refine r_iald C w 1 0 rfl rfl (rd_in hy8) dX8_lost_81 ?_
            refine lv_iload C.1 C.2.1 dX8_lost_82 (lv_at hl 7 rfl) ?_
            obtain ⟨r9, hc10, hf⟩ := bd hf
            refine call_Si (ws' := (wX8_lost cI cL cS cH a_this a_this_st a_this_past a_this_image a_this_imagePast a_this_tape a_this_laneOf a_this_sizeOf a_this_items a_this_code a_this_from a_this_by a_this_far a_this_met a_this_told q_acts q_imageActs q_tapeMany q_many q_round q_readAt q_isFault q_toldMany q_st)) (rest := [.int v62.1]) C w (mX8_has l D cI cL cS cH _ y7 v62.2 hc10) (va_cwS 2 C.2.2.2.2 gX8_lost_X8_has rfl rfl rfl (by decide +kernel) ⟨Nat.le_of_ble_eq_true rfl, Nat.le_of_ble_eq_true rfl⟩) [] [0, 1] 2 trivial trivial ⟨⟨_, rfl, rfl⟩, ⟨_, rfl, rfl⟩, trivial⟩ rfl (by decide) (by decide) rfl hl.1 rfl (lv_room (Nat.le_of_ble_eq_true rfl)) dX8_lost_84 ⟨Nat.zero_le _, Nat.zero_le _⟩ (fun H locs w => ?_)
            refine lv_if_ne (tgt := 94) C.1 C.2.1 dX8_lost_87 (by decide) (fun hq11 => ?_) (fun hq11 => ?_)
            · have hf := ite_f hf hq11
              refine lv_iload C.1 C.2.1 dX8_lost_94 (lv_at hl 5 rfl) ?_
              refine lv_iload C.1 C.2.1 dX8_lost_96 (lv_at hl 7 rfl) ?_
              obtain ⟨r12, hc13, hf⟩ := bd hf
              refine call_Si (ws' := (wX8_lost cI cL cS cH a_this a_this_st a_this_past a_this_image a_this_imagePast a_this_tape a_this_laneOf a_this_sizeOf a_this_items a_this_code a_this_from a_this_by a_this_far a_this_met a_this_told q_acts q_imageActs q_tapeMany q_many q_round q_readAt q_isFault q_toldMany q_st)) (rest := [.int v62.1]) C w (mX8_has l D cI cL cS cH _ y62_5 v62.2 hc13) (va_cwS 2 C.2.2.2.2 gX8_lost_X8_has rfl rfl rfl (by decide +kernel) ⟨Nat.le_of_ble_eq_true rfl, Nat.le_of_ble_eq_true rfl⟩) [] [0, 1] 2 trivial trivial ⟨⟨_, rfl, rfl⟩, ⟨_, rfl, rfl⟩, trivial⟩ rfl (by decide) (by decide) rfl hl.1 rfl (lv_room (Nat.le_of_ble_eq_true rfl)) dX8_lost_98 ⟨Nat.zero_le _, Nat.zero_le _⟩ (fun H locs w => ?_)
              refine lv_if_eq (tgt := 111) C.1 C.2.1 dX8_lost_101 (by decide) (fun hq14 => ?_) (fun hq14 => ?_)
              · have hf := ite_t hf hq14
                refine lv_iload_n C.1 C.2.1 dX8_lost_111 rfl (lv_at hl 1 rfl) ?_
                exact hj112 v62.2 y62_1 v62.1 _ _ _ w (lv_sub hl [0, 1, 2, 3, 4, 5, 7] rfl) hf
              · have hf := ite_f hf hq14
                refine lv_bipush (v := (10 : Int32)) C.1 C.2.1 dX8_lost_104 (by decide) ?_
                refine lv_iload_n C.1 C.2.1 dX8_lost_106 rfl (lv_at hl 1 rfl) ?_
                refine lv_isub C.1 C.2.1 dX8_lost_107 ?_
                refine lv_goto (tgt := 112) C.1 C.2.1 dX8_lost_108 (by decide) ?_
                exact hj112 v62.2 ((10 : Int32) - y62_1) v62.1 _ _ _ w (lv_sub hl [0, 1, 2, 3, 4, 5, 7] rfl) hf
            · have hf := ite_t hf hq11
              refine lv_iconst (v := (1 : Int32)) C.1 C.2.1 dX8_lost_90 (by decide) ?_
              refine lv_goto (tgt := 112) C.1 C.2.1 dX8_lost_91 (by decide) ?_
              exact hj112 v62.2 (1 : Int32) v62.1 _ _ _ w (lv_sub hl [0, 1, 2, 3, 4, 5, 7] rfl) hf
      refine lv_iload C.1 C.2.1 dX8_lost_32 (lv_at hl 5 rfl) ?_
      refine lv_aload_n C.1 C.2.1 dX8_lost_34 rfl (lv_at hl 0 rfl) ?_
      obtain ⟨r15, hc16, hf⟩ := bd hf
      refine call_Vi (ws' := (wX8_lost cI cL cS cH a_this a_this_st a_this_past a_this_image a_this_imagePast a_this_tape a_this_laneOf a_this_sizeOf a_this_items a_this_code a_this_from a_this_by a_this_far a_this_met a_this_told q_acts q_imageActs q_tapeMany q_many q_round q_readAt q_isFault q_toldMany q_st)) (rest := [.int v32.2.2]) C w (mX8_all l D cI cL cS cH _ a_this a_this_st a_this_past a_this_image a_this_imagePast a_this_tape a_this_laneOf a_this_sizeOf a_this_items a_this_code a_this_from a_this_by a_this_far a_this_met a_this_told q_acts q_imageActs q_tapeMany q_many q_round q_readAt q_isFault q_toldMany q_st hc16) (cwV 0 C.2.2.2.2 gX8_lost_X8_all rfl rfl rfl (by decide +kernel) ⟨Nat.le_of_ble_eq_true rfl, Nat.le_of_ble_eq_true rfl⟩) [0, 1] [] 2 ⟨rfl, rfl, trivial⟩ ⟨rfl, rfl, trivial⟩ trivial rfl (by decide) (by decide) (ci := 8) (q0 := 0) rfl rfl rfl hl.1 rfl (lv_room (Nat.le_of_ble_eq_true rfl)) dX8_lost_35 ⟨Nat.zero_le _, Nat.zero_le _⟩ (fun H locs w => ?_)
      refine lv_icmp_gt (tgt := 166) C.1 C.2.1 dX8_lost_38 (by decide) (fun hq17 => ?_) (fun hq17 => ?_)
      · have hf := ite_t hf hq17
        obtain rfl := Option.some.inj hf
        obtain rfl := hn
        exact hk _ _ _ w (lv_sub hl [2, 3, 4] rfl)
      · have hf := ite_f hf hq17
        refine lv_iload C.1 C.2.1 dX8_lost_41 (lv_at hl 5 rfl) ?_
        refine lv_aload_n C.1 C.2.1 dX8_lost_43 rfl (lv_at hl 0 rfl) ?_
        refine r_get C w inX8_lost_X8 0 rfl rfl 0 (by decide) lkX8_lost_7 rfl dX8_lost_44 ?_
        refine lv_bipush (v := (9 : Int32)) C.1 C.2.1 dX8_lost_47 (by decide) ?_
        obtain ⟨y18, hy19, hf⟩ := bd hf
        refine r_iald C w 1 0 rfl rfl (rd_in hy19) dX8_lost_49 ?_
        refine lv_iconst (v := (-1 : Int32)) C.1 C.2.1 dX8_lost_50 (by decide) ?_
        refine lv_ixor C.1 C.2.1 dX8_lost_51 ?_
        refine lv_iand C.1 C.2.1 dX8_lost_52 ?_
        refine lv_if_ne (tgt := 160) C.1 C.2.1 dX8_lost_53 (by decide) (fun hq20 => ?_) (fun hq20 => ?_)
        · have hf := ite_f hf hq20
          exact hj160 v32.1 v32.2.1 v32.2.2 _ _ _ w (lv_sub hl [0, 1, 2, 3, 4, 5] rfl) hf
        · have hf := ite_t hf hq20
          refine lv_iconst (v := (1 : Int32)) C.1 C.2.1 dX8_lost_56 (by decide) ?_
          refine lv_istore (lv' := [(6, .int (1 : Int32)), (0, .ref a_this), (1, .int y32_1), (2, .int y32_2), (3, .int v32.1), (4, .int v32.2.1), (5, .int v32.2.2)]) C.1 C.2.1 dX8_lost_57 hl (by decide) rfl (fun ls hl => ?_)
          refine lv_iconst (v := (0 : Int32)) C.1 C.2.1 dX8_lost_59 (by decide) ?_
          refine lv_istore (lv' := [(7, .int (0 : Int32)), (6, .int (1 : Int32)), (0, .ref a_this), (1, .int y32_1), (2, .int y32_2), (3, .int v32.1), (4, .int v32.2.1), (5, .int v32.2.2)]) C.1 C.2.1 dX8_lost_60 hl (by decide) rfl (fun ls hl => ?_)
          obtain ⟨ex21, hx22, hf⟩ := bd hf
          refine hlp62 y32_1 y32_2 v32.1 v32.2.1 v32.2.2 ex21 ?_ fu ((1 : Int32), (0 : Int32)) _ _ _ hx22 w (lv_sub hl [2, 3, 4, 5, 6, 7, 1, 0] rfl)
          intro H locs ls w hl
          refine lv_iload C.1 C.2.1 dX8_lost_121 (lv_at hl 4 rfl) ?_
          refine lv_iload C.1 C.2.1 dX8_lost_123 (lv_at hl 6 rfl) ?_
          refine lv_iadd C.1 C.2.1 dX8_lost_125 ?_
          refine lv_istore (lv' := [(4, .int (v32.2.1 + ex21.1)), (0, .ref a_this), (1, .int y32_1), (2, .int y32_2), (3, .int v32.1), (5, .int v32.2.2), (6, .int ex21.1)]) C.1 C.2.1 dX8_lost_126 hl (by decide) rfl (fun ls hl => ?_)
          refine lv_iload_n C.1 C.2.1 dX8_lost_128 rfl (lv_at hl 4 rfl) ?_
          refine lv_aload_n C.1 C.2.1 dX8_lost_129 rfl (lv_at hl 1 rfl) ?_
          refine lv_aload_n C.1 C.2.1 dX8_lost_130 rfl (lv_at hl 1 rfl) ?_
          refine r_get C w inX8_lost_X8 0 rfl rfl 0 (by decide) lkX8_lost_7 rfl dX8_lost_131 ?_
          refine lv_bipush (v := (8 : Int32)) C.1 C.2.1 dX8_lost_134 (by decide) ?_
          obtain ⟨y23, hy24, hf⟩ := bd hf
          refine r_iald C w 1 0 rfl rfl (rd_in hy24) dX8_lost_136 ?_
          refine lv_iload C.1 C.2.1 dX8_lost_137 (lv_at hl 5 rfl) ?_
          obtain ⟨r25, hc26, hf⟩ := bd hf
          refine call_Vi (ws' := (wX8_lost cI cL cS cH a_this a_this_st a_this_past a_this_image a_this_imagePast a_this_tape a_this_laneOf a_this_sizeOf a_this_items a_this_code a_this_from a_this_by a_this_far a_this_met a_this_told q_acts q_imageActs q_tapeMany q_many q_round q_readAt q_isFault q_toldMany q_st)) (rest := [.int v32.1]) C w (mX8_fouled l D cI cL cS cH _ a_this a_this_st a_this_past a_this_image a_this_imagePast a_this_tape a_this_laneOf a_this_sizeOf a_this_items a_this_code a_this_from a_this_by a_this_far a_this_met a_this_told q_acts q_imageActs q_tapeMany q_many q_round q_readAt q_isFault q_toldMany q_st y23 v32.2.2 hc26) (cwV 2 C.2.2.2.2 gX8_lost_X8_fouled rfl rfl rfl (by decide +kernel) ⟨Nat.le_of_ble_eq_true rfl, Nat.le_of_ble_eq_true rfl⟩) [0, 1] [] 2 ⟨rfl, rfl, trivial⟩ ⟨rfl, rfl, trivial⟩ trivial rfl (by decide) (by decide) (ci := 8) (q0 := 0) rfl rfl rfl hl.1 rfl (lv_room (Nat.le_of_ble_eq_true rfl)) dX8_lost_139 ⟨Nat.zero_le _, Nat.zero_le _⟩ (fun H locs w => ?_)
          refine lv_aload_n C.1 C.2.1 dX8_lost_142 rfl (lv_at hl 1 rfl) ?_
          refine r_get C w inX8_lost_X8 0 rfl rfl 0 (by decide) lkX8_lost_7 rfl dX8_lost_143 ?_
          refine lv_bipush (v := (8 : Int32)) C.1 C.2.1 dX8_lost_146 (by decide) ?_
          obtain ⟨y27, hy28, hf⟩ := bd hf
          refine r_iald C w 1 0 rfl rfl (rd_in hy28) dX8_lost_148 ?_
          refine lv_icmp_ne (tgt := 157) C.1 C.2.1 dX8_lost_149 (by decide) (fun hq29 => ?_) (fun hq29 => ?_)
          · have hf := ite_f hf hq29
            refine lv_iconst (v := (0 : Int32)) C.1 C.2.1 dX8_lost_157 (by decide) ?_
            exact hj158 (v32.2.1 + ex21.1) v32.2.2 (0 : Int32) v32.1 _ _ _ w (lv_sub hl [1, 2, 3, 0, 5] rfl) hf
          · have hf := ite_t hf hq29
            refine lv_iload C.1 C.2.1 dX8_lost_152 (lv_at hl 6 rfl) ?_
            refine lv_goto (tgt := 158) C.1 C.2.1 dX8_lost_154 (by decide) ?_
            exact hj158 (v32.2.1 + ex21.1) v32.2.2 ex21.1 v32.1 _ _ _ w (lv_sub hl [1, 2, 3, 0, 5] rfl) hf
  refine lv_iload_n C.1 C.2.1 dX8_lost_0 rfl (lv_at hl 1 rfl) ?_
  refine lv_i2l C.1 C.2.1 dX8_lost_1 rfl ?_
  refine lv_lconst (v := (0 : Int64)) C.1 C.2.1 dX8_lost_2 (by decide) ?_
  refine lv_ldc2 (v := (10 : Int64)) C.1 C.2.1 C.2.2.2.1 (C.2.2.2.2 (.constantLong RX8 107 (10 : Int64)) (by decide +kernel)) dX8_lost_3 ?_
  obtain ⟨r30, hc31, hf⟩ := bd hf
  refine call_Si (ws' := (wX8_lost cI cL cS cH a_this a_this_st a_this_past a_this_image a_this_imagePast a_this_tape a_this_laneOf a_this_sizeOf a_this_items a_this_code a_this_from a_this_by a_this_far a_this_met a_this_told q_acts q_imageActs q_tapeMany q_many q_round q_readAt q_isFault q_toldMany q_st)) (rest := []) C w (mX8_in l D cI cL cS cH _ ((x1).toInt64) (0 : Int64) (10 : Int64) hc31) (va_cwS 3 C.2.2.2.2 gX8_lost_X8_in rfl rfl rfl (by decide +kernel) ⟨Nat.le_of_ble_eq_true rfl, Nat.le_of_ble_eq_true rfl⟩) [] [0, 1] 2 trivial trivial ⟨⟨_, rfl, rfl⟩, ⟨_, rfl, rfl⟩, trivial⟩ rfl (by decide) (by decide) rfl hl.1 rfl (lv_room (Nat.le_of_ble_eq_true rfl)) dX8_lost_6 ⟨Nat.zero_le _, Nat.zero_le _⟩ (fun H locs w => ?_)
  refine lv_if_eq (tgt := 22) C.1 C.2.1 dX8_lost_9 (by decide) (fun hq32 => ?_) (fun hq32 => ?_)
  · have hf := ite_t hf hq32
    refine lv_iconst (v := (-1 : Int32)) C.1 C.2.1 dX8_lost_22 (by decide) ?_
    have hres := Option.some.inj hf
    subst hres
    exact ret_i C hr hlocks w rfl dX8_lost_23
  · have hf := ite_f hf hq32
    refine lv_iload_n C.1 C.2.1 dX8_lost_12 rfl (lv_at hl 2 rfl) ?_
    refine lv_i2l C.1 C.2.1 dX8_lost_13 rfl ?_
    refine lv_lconst (v := (0 : Int64)) C.1 C.2.1 dX8_lost_14 (by decide) ?_
    refine lv_lconst (v := (1 : Int64)) C.1 C.2.1 dX8_lost_15 (by decide) ?_
    obtain ⟨r33, hc34, hf⟩ := bd hf
    refine call_Si (ws' := (wX8_lost cI cL cS cH a_this a_this_st a_this_past a_this_image a_this_imagePast a_this_tape a_this_laneOf a_this_sizeOf a_this_items a_this_code a_this_from a_this_by a_this_far a_this_met a_this_told q_acts q_imageActs q_tapeMany q_many q_round q_readAt q_isFault q_toldMany q_st)) (rest := []) C w (mX8_in l D cI cL cS cH _ ((x2).toInt64) (0 : Int64) (1 : Int64) hc34) (va_cwS 3 C.2.2.2.2 gX8_lost_X8_in rfl rfl rfl (by decide +kernel) ⟨Nat.le_of_ble_eq_true rfl, Nat.le_of_ble_eq_true rfl⟩) [] [0, 1] 2 trivial trivial ⟨⟨_, rfl, rfl⟩, ⟨_, rfl, rfl⟩, trivial⟩ rfl (by decide) (by decide) rfl hl.1 rfl (lv_room (Nat.le_of_ble_eq_true rfl)) dX8_lost_16 ⟨Nat.zero_le _, Nat.zero_le _⟩ (fun H locs w => ?_)
    refine lv_if_ne (tgt := 24) C.1 C.2.1 dX8_lost_19 (by decide) (fun hq35 => ?_) (fun hq35 => ?_)
    · have hf := ite_f hf hq35
      refine lv_iconst (v := (0 : Int32)) C.1 C.2.1 dX8_lost_24 (by decide) ?_
      refine lv_istore_n (lv' := [(3, .int (0 : Int32)), (0, .ref a_this), (1, .int x1), (2, .int x2)]) C.1 C.2.1 dX8_lost_25 rfl hl (by decide) rfl (fun ls hl => ?_)
      refine lv_iconst (v := (0 : Int32)) C.1 C.2.1 dX8_lost_26 (by decide) ?_
      refine lv_istore (lv' := [(4, .int (0 : Int32)), (3, .int (0 : Int32)), (0, .ref a_this), (1, .int x1), (2, .int x2)]) C.1 C.2.1 dX8_lost_27 hl (by decide) rfl (fun ls hl => ?_)
      refine lv_iconst (v := (0 : Int32)) C.1 C.2.1 dX8_lost_29 (by decide) ?_
      refine lv_istore (lv' := [(5, .int (0 : Int32)), (4, .int (0 : Int32)), (3, .int (0 : Int32)), (0, .ref a_this), (1, .int x1), (2, .int x2)]) C.1 C.2.1 dX8_lost_30 hl (by decide) rfl (fun ls hl => ?_)
      obtain ⟨ex36, hx37, hf⟩ := bd hf
      refine hlp32 x1 x2 ex36 ?_ fu ((0 : Int32), (0 : Int32), (0 : Int32)) _ _ _ hx37 w (lv_sub hl [3, 4, 5, 2, 1, 0] rfl)
      intro H locs ls w hl
      refine lv_iload_n C.1 C.2.1 dX8_lost_166 rfl (lv_at hl 1 rfl) ?_
      refine lv_istore (lv' := [(5, .int ex36.1), (2, .int x2), (3, .int ex36.1), (4, .int ex36.2.1)]) C.1 C.2.1 dX8_lost_167 hl (by decide) rfl (fun ls hl => ?_)
      refine lv_iload C.1 C.2.1 dX8_lost_169 (lv_at hl 3 rfl) ?_
      refine lv_istore (lv' := [(6, .int ex36.2.1), (5, .int ex36.1), (2, .int x2), (3, .int ex36.1), (4, .int ex36.2.1)]) C.1 C.2.1 dX8_lost_171 hl (by decide) rfl (fun ls hl => ?_)
      obtain ⟨ex38, hx39, hf⟩ := bd hf
      refine hlp173 x2 ex36.1 ex36.2.1 ex38 ?_ fu (ex36.1, ex36.2.1) _ _ _ hx39 w (lv_sub hl [2, 3, 4, 1, 0] rfl)
      intro H locs ls w hl
      refine lv_iload_n C.1 C.2.1 dX8_lost_196 rfl (lv_at hl 0 rfl) ?_
      refine lv_if_ne (tgt := 207) C.1 C.2.1 dX8_lost_197 (by decide) (fun hq40 => ?_) (fun hq40 => ?_)
      · have hf := ite_f hf hq40
        refine lv_iload C.1 C.2.1 dX8_lost_207 (lv_at hl 2 rfl) ?_
        refine lv_iload C.1 C.2.1 dX8_lost_209 (lv_at hl 3 rfl) ?_
        obtain ⟨y41, hy42, hf⟩ := bd hf
        refine lv_idiv C.1 C.2.1 dX8_lost_211 (dv_in hy42).1 ?_
        refine lt_topi (dv_in hy42).2 ?_
        have hres := Option.some.inj hf
        subst hres
        exact ret_i C hr hlocks w rfl dX8_lost_212
      · have hf := ite_t hf hq40
        refine lv_iload_n C.1 C.2.1 dX8_lost_200 rfl (lv_at hl 1 rfl) ?_
        refine lv_iload C.1 C.2.1 dX8_lost_201 (lv_at hl 3 rfl) ?_
        obtain ⟨y43, hy44, hf⟩ := bd hf
        refine lv_idiv C.1 C.2.1 dX8_lost_203 (dv_in hy44).1 ?_
        refine lt_topi (dv_in hy44).2 ?_
        refine lv_goto (tgt := 212) C.1 C.2.1 dX8_lost_204 (by decide) ?_
        have hres := Option.some.inj hf
        subst hres
        exact ret_i C hr hlocks w rfl dX8_lost_212
    · have hf := ite_t hf hq35
      refine lv_iconst (v := (-1 : Int32)) C.1 C.2.1 dX8_lost_22 (by decide) ?_
      have hres := Option.some.inj hf
      subst hres
      exact ret_i C hr hlocks w rfl dX8_lost_23
