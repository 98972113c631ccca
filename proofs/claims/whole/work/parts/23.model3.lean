set_option maxRecDepth 100000 in
theorem inX8_notes_X8 : ∀ w ∈ u_ws RX8 TX8 22, w ∈ wsX8_notes := by decide +kernel
set_option maxRecDepth 100000 in
theorem lkX8_notes_7 : Cond.fieldLink RX8 7 "CleanNetsModel" "st" "[I" ∈ wsX8_notes := by decide +kernel
set_option maxRecDepth 100000 in
theorem lkX8_notes_13 : Cond.fieldLink RX8 13 "CleanNetsModel" "past" "[I" ∈ wsX8_notes := by decide +kernel
set_option maxRecDepth 100000 in
theorem lkX8_notes_102 : Cond.fieldLink RX8 102 "CleanNetsModel" "acts" "I" ∈ wsX8_notes := by decide +kernel
abbrev wX8_notes (cI cL cS cH : ClassId) (a_this : Nat) (a_this_st : Nat) (a_this_past : Nat) (a_this_image : Nat) (a_this_imagePast : Nat) (a_this_tape : Nat) (a_this_laneOf : Nat) (a_this_sizeOf : Nat) (a_this_items : Nat) (a_this_code : Nat) (a_this_from : Nat) (a_this_by : Nat) (a_this_far : Nat) (a_this_met : Nat) (a_this_told : Nat) (q_acts : Int32) (q_imageActs : Int32) (q_tapeMany : Int32) (q_many : Int32) (q_round : Int32) (q_readAt : Int32) (q_isFault : Int32) (q_toldMany : Int32) (q_past : Nat → Int32) (q_st : Nat → Int32) : va_W := [(a_this, .inr (8, [.ref a_this_st, .ref a_this_past, .int q_acts, .ref a_this_image, .ref a_this_imagePast, .int q_imageActs, .ref a_this_tape, .int q_tapeMany, .ref a_this_laneOf, .ref a_this_sizeOf, .ref a_this_items, .ref a_this_code, .ref a_this_from, .ref a_this_by, .ref a_this_far, .int q_many, .ref a_this_met, .int q_round, .int q_readAt, .int q_isFault, .int q_toldMany, .ref a_this_told])),
  (a_this_past, .inl (cI, 78, .inl q_past)),
  (a_this_st, .inl (cI, 13, .inl q_st))]
def jX8_notes_35 (q_st : Nat → Int32) (k35_q_acts : Int32) (k35_q_past : Nat → Int32) : Option (Int32 × (Nat → Int32)) := Option.bind (fX8_bring 13 78 q_st k35_q_past (0 : Int32) ((13 : Int32) * k35_q_acts) (13 : Int32)) (fun r1 => some ((k35_q_acts + (1 : Int32)), r1))
def fX8_notes (q_acts : Int32) (q_past : Nat → Int32) (q_st : Nat → Int32)  : Option (Int32 × (Nat → Int32)) := (if q_acts = (6 : Int32) then Option.bind (fX8_bringS 78 q_past (13 : Int32) (0 : Int32) (65 : Int32)) (fun r4 => jX8_notes_35 q_st (q_acts - (1 : Int32)) r4) else jX8_notes_35 q_st q_acts q_past)
abbrev gX8_notes (p : Program) (l : Launch) (e : Env) (s : State) (m : MethodId) (below : List Frame) (meth : Method) (c : Code) (D : vg) (cI cL cS cH : ClassId) (a_this : Nat) (a_this_st : Nat) (a_this_past : Nat) (a_this_image : Nat) (a_this_imagePast : Nat) (a_this_tape : Nat) (a_this_laneOf : Nat) (a_this_sizeOf : Nat) (a_this_items : Nat) (a_this_code : Nat) (a_this_from : Nat) (a_this_by : Nat) (a_this_far : Nat) (a_this_met : Nat) (a_this_told : Nat) (q_acts : Int32) (q_imageActs : Int32) (q_tapeMany : Int32) (q_many : Int32) (q_round : Int32) (q_readAt : Int32) (q_isFault : Int32) (q_toldMany : Int32) (q_past : Nat → Int32) (q_st : Nat → Int32) (res : Int32 × (Nat → Int32)) (H : Heap) (locs : List Loc) (g : JFrame) : Prop := W p l e (headSpec wsX8_notes ({ frames := 1, cells := 0, slots := 0, locals := 25 })).room s m ([.ref a_this] : List Value).toArray below meth c H locs 0 0 (MQ below (va_Qv (fun (_ : Unit) => True) (fun _ t => pos1 D s.heap.size (wX8_notes cI cL cS cH a_this a_this_st a_this_past a_this_image a_this_imagePast a_this_tape a_this_laneOf a_this_sizeOf a_this_items a_this_code a_this_from a_this_by a_this_far a_this_met a_this_told q_acts q_imageActs q_tapeMany q_many q_round q_readAt q_isFault q_toldMany q_past q_st) (wX8_notes cI cL cS cH a_this a_this_st a_this_past a_this_image a_this_imagePast a_this_tape a_this_laneOf a_this_sizeOf a_this_items a_this_code a_this_from a_this_by a_this_far a_this_met a_this_told res.1 q_imageActs q_tapeMany q_many q_round q_readAt q_isFault q_toldMany res.2 q_st) t) (va_A (wX8_notes cI cL cS cH a_this a_this_st a_this_past a_this_image a_this_imagePast a_this_tape a_this_laneOf a_this_sizeOf a_this_items a_this_code a_this_from a_this_by a_this_far a_this_met a_this_told q_acts q_imageActs q_tapeMany q_many q_round q_readAt q_isFault q_toldMany q_past q_st) s.heap.size)) ([.ref a_this] : List Value).toArray s 0 0 (va_A (wX8_notes cI cL cS cH a_this a_this_st a_this_past a_this_image a_this_imagePast a_this_tape a_this_laneOf a_this_sizeOf a_this_items a_this_code a_this_from a_this_by a_this_far a_this_met a_this_told q_acts q_imageActs q_tapeMany q_many q_round q_readAt q_isFault q_toldMany q_past q_st) s.heap.size)) g
set_option maxHeartbeats 4000000 in
set_option maxRecDepth 100000 in
theorem mX8_notes (l : Launch) (D : vg) (cI cL cS cH : ClassId) (sz : Nat) (a_this : Nat) (a_this_st : Nat) (a_this_past : Nat) (a_this_image : Nat) (a_this_imagePast : Nat) (a_this_tape : Nat) (a_this_laneOf : Nat) (a_this_sizeOf : Nat) (a_this_items : Nat) (a_this_code : Nat) (a_this_from : Nat) (a_this_by : Nat) (a_this_far : Nat) (a_this_met : Nat) (a_this_told : Nat) (q_acts : Int32) (q_imageActs : Int32) (q_tapeMany : Int32) (q_many : Int32) (q_round : Int32) (q_readAt : Int32) (q_isFault : Int32) (q_toldMany : Int32) (q_past : Nat → Int32) (q_st : Nat → Int32) {res : Int32 × (Nat → Int32)} (hf : fX8_notes q_acts q_past q_st = some res) : ctv l yX8_notes wsX8_notes ({ frames := 1, cells := 0, slots := 0, locals := 25 }) D (ty4 cI cL cS cH) sz [.ref a_this] (wX8_notes cI cL cS cH a_this a_this_st a_this_past a_this_image a_this_imagePast a_this_tape a_this_laneOf a_this_sizeOf a_this_items a_this_code a_this_from a_this_by a_this_far a_this_met a_this_told q_acts q_imageActs q_tapeMany q_many q_round q_readAt q_isFault q_toldMany q_past q_st) (wX8_notes cI cL cS cH a_this a_this_st a_this_past a_this_image a_this_imagePast a_this_tape a_this_laneOf a_this_sizeOf a_this_items a_this_code a_this_from a_this_by a_this_far a_this_met a_this_told res.1 q_imageActs q_tapeMany q_many q_round q_readAt q_isFault q_toldMany res.2 q_st) := by
  refine Met.ofW (cc := cX8_notes) (maxL := 1) (ret := none) (by decide) rfl ?_
  intro p e s m args below meth c s₁ B hml hv
  obtain ⟨rfl, hpre⟩ := hv
  obtain rfl := hpre.1
  have C : CallFix p m c cX8_notes 1 s _ wsX8_notes RX8 := ⟨B.exec, B.bytes, hml, findClass_of_methodNamed B.named, atoms_spec (ws := wsX8_notes) B.pre⟩
  have hr := B.returns
  have hlocks := B.notSynchronized
  have w := wd_start hpre
  clear hpre B
  have hl := lv_entry ([.ref a_this]) (n := 1) (Nat.le_of_ble_eq_true rfl)
  rw [lg_entry_eq]
  generalize (lg_sl ([.ref a_this]) ++ List.replicate (1 - (lg_sl ([.ref a_this])).length) Slot.unset).toArray = ls at hl ⊢
  have hl : lv_has ls 1 [(0, .ref a_this)] := hl
  unfold fX8_notes at hf
  have hj35 : ∀ (k35_q_acts : Int32) (k35_q_past : Nat → Int32) (H : Heap) (locs : List Loc) (ls : Array Slot), wd D (ty4 cI cL cS cH) s (va_A (wX8_notes cI cL cS cH a_this a_this_st a_this_past a_this_image a_this_imagePast a_this_tape a_this_laneOf a_this_sizeOf a_this_items a_this_code a_this_from a_this_by a_this_far a_this_met a_this_told q_acts q_imageActs q_tapeMany q_many q_round q_readAt q_isFault q_toldMany q_past q_st) s.heap.size) s.heap H locs (wX8_notes cI cL cS cH a_this a_this_st a_this_past a_this_image a_this_imagePast a_this_tape a_this_laneOf a_this_sizeOf a_this_items a_this_code a_this_from a_this_by a_this_far a_this_met a_this_told k35_q_acts q_imageActs q_tapeMany q_many q_round q_readAt q_isFault q_toldMany k35_q_past q_st) → lv_has ls 1 [(0, .ref a_this)] → jX8_notes_35 q_st k35_q_acts k35_q_past = some res → gX8_notes p l e s m below meth c D cI cL cS cH a_this a_this_st a_this_past a_this_image a_this_imagePast a_this_tape a_this_laneOf a_this_sizeOf a_this_items a_this_code a_this_from a_this_by a_this_far a_this_met a_this_told q_acts q_imageActs q_tapeMany q_many q_round q_readAt q_isFault q_toldMany q_past q_st res H locs (F0 m 35 ls []) := by
    intro k35_q_acts k35_q_past H locs ls w hl hf
    unfold jX8_notes_35 at hf
    refine lv_aload_n C.1 C.2.1 dX8_notes_35 rfl (lv_at hl 0 rfl) ?_
    refine r_get C w inX8_notes_X8 0 rfl rfl 0 (by decide) lkX8_notes_7 rfl dX8_notes_36 ?_
    refine lv_iconst (v := (0 : Int32)) C.1 C.2.1 dX8_notes_39 (by decide) ?_
    refine lv_aload_n C.1 C.2.1 dX8_notes_40 rfl (lv_at hl 0 rfl) ?_
    refine r_get C w inX8_notes_X8 0 rfl rfl 1 (by decide) lkX8_notes_13 rfl dX8_notes_41 ?_
    refine lv_bipush (v := (13 : Int32)) C.1 C.2.1 dX8_notes_44 (by decide) ?_
    refine lv_aload_n C.1 C.2.1 dX8_notes_46 rfl (lv_at hl 0 rfl) ?_
    refine r_get C w inX8_notes_X8 0 rfl rfl 2 (by decide) lkX8_notes_102 rfl dX8_notes_47 ?_
    refine lv_imul C.1 C.2.1 dX8_notes_50 ?_
    refine lv_bipush (v := (13 : Int32)) C.1 C.2.1 dX8_notes_51 (by decide) ?_
    obtain ⟨r1, hc2, hf⟩ := bd hf
    refine call_Sv (ws' := (wX8_notes cI cL cS cH a_this a_this_st a_this_past a_this_image a_this_imagePast a_this_tape a_this_laneOf a_this_sizeOf a_this_items a_this_code a_this_from a_this_by a_this_far a_this_met a_this_told k35_q_acts q_imageActs q_tapeMany q_many q_round q_readAt q_isFault q_toldMany r1 q_st)) (rest := []) C w (mX8_bring l D cI cL cS cH _ 13 78 a_this_st a_this_past q_st k35_q_past (0 : Int32) ((13 : Int32) * k35_q_acts) (13 : Int32) hc2) (va_cwS 5 C.2.2.2.2 gX8_notes_X8_bring rfl rfl rfl (by decide +kernel) ⟨Nat.le_of_ble_eq_true rfl, Nat.le_of_ble_eq_true rfl⟩) [2, 1] [0] 3 ⟨rfl, rfl, trivial⟩ ⟨rfl, rfl, trivial⟩ ⟨⟨_, rfl, rfl⟩, trivial⟩ rfl (by decide) (by decide) rfl hl.1 rfl (lv_room (Nat.le_of_ble_eq_true rfl)) dX8_notes_53 ⟨Nat.zero_le _, Nat.zero_le _⟩ (fun H locs w => ?_)
    refine lv_aload_n C.1 C.2.1 dX8_notes_56 rfl (lv_at hl 0 rfl) ?_
    refine lv_dup C.1 C.2.1 dX8_notes_57 rfl ?_
    refine r_get C w inX8_notes_X8 0 rfl rfl 2 (by decide) lkX8_notes_102 rfl dX8_notes_58 ?_
    refine lv_iconst (v := (1 : Int32)) C.1 C.2.1 dX8_notes_61 (by decide) ?_
    refine lv_iadd C.1 C.2.1 dX8_notes_62 ?_
    refine r_put (ws' := (wX8_notes cI cL cS cH a_this a_this_st a_this_past a_this_image a_this_imagePast a_this_tape a_this_laneOf a_this_sizeOf a_this_items a_this_code a_this_from a_this_by a_this_far a_this_met a_this_told (k35_q_acts + (1 : Int32)) q_imageActs q_tapeMany q_many q_round q_readAt q_isFault q_toldMany r1 q_st)) C w inX8_notes_X8 tyX8 tyX8_ok nmX8 0 rfl rfl 2 (by decide) lkX8_notes_102 rfl rfl rfl (Nat.le_of_ble_eq_true rfl) rfl dX8_notes_63 (fun H locs w => ?_)
    have hres := Option.some.inj hf
    subst hres
    exact ret_v C hr hlocks w dX8_notes_66
  refine lv_aload_n C.1 C.2.1 dX8_notes_0 rfl (lv_at hl 0 rfl) ?_
  refine r_get C w inX8_notes_X8 0 rfl rfl 2 (by decide) lkX8_notes_102 rfl dX8_notes_1 ?_
  refine lv_bipush (v := (6 : Int32)) C.1 C.2.1 dX8_notes_4 (by decide) ?_
  refine lv_icmp_ne (tgt := 35) C.1 C.2.1 dX8_notes_6 (by decide) (fun hq3 => ?_) (fun hq3 => ?_)
  · have hf := ite_f hf hq3
    exact hj35 q_acts q_past _ _ _ w (lv_sub hl [0] rfl) hf
  · have hf := ite_t hf hq3
    refine lv_aload_n C.1 C.2.1 dX8_notes_9 rfl (lv_at hl 0 rfl) ?_
    refine r_get C w inX8_notes_X8 0 rfl rfl 1 (by decide) lkX8_notes_13 rfl dX8_notes_10 ?_
    refine lv_bipush (v := (13 : Int32)) C.1 C.2.1 dX8_notes_13 (by decide) ?_
    refine lv_aload_n C.1 C.2.1 dX8_notes_15 rfl (lv_at hl 0 rfl) ?_
    refine r_get C w inX8_notes_X8 0 rfl rfl 1 (by decide) lkX8_notes_13 rfl dX8_notes_16 ?_
    refine lv_iconst (v := (0 : Int32)) C.1 C.2.1 dX8_notes_19 (by decide) ?_
    refine lv_bipush (v := (65 : Int32)) C.1 C.2.1 dX8_notes_20 (by decide) ?_
    obtain ⟨r4, hc5, hf⟩ := bd hf
    refine call_Sv (ws' := (wX8_notes cI cL cS cH a_this a_this_st a_this_past a_this_image a_this_imagePast a_this_tape a_this_laneOf a_this_sizeOf a_this_items a_this_code a_this_from a_this_by a_this_far a_this_met a_this_told q_acts q_imageActs q_tapeMany q_many q_round q_readAt q_isFault q_toldMany r4 q_st)) (rest := []) C w (mX8_bringS l D cI cL cS cH _ 78 a_this_past q_past (13 : Int32) (0 : Int32) (65 : Int32) hc5) (va_cwS 5 C.2.2.2.2 gX8_notes_X8_bring rfl rfl rfl (by decide +kernel) ⟨Nat.le_of_ble_eq_true rfl, Nat.le_of_ble_eq_true rfl⟩) [1] [0, 2] 3 ⟨rfl, trivial⟩ ⟨rfl, trivial⟩ ⟨⟨_, rfl, rfl⟩, ⟨_, rfl, rfl⟩, trivial⟩ rfl (by decide) (by decide) rfl hl.1 rfl (lv_room (Nat.le_of_ble_eq_true rfl)) dX8_notes_22 ⟨Nat.zero_le _, Nat.zero_le _⟩ (fun H locs w => ?_)
    refine lv_aload_n C.1 C.2.1 dX8_notes_25 rfl (lv_at hl 0 rfl) ?_
    refine lv_dup C.1 C.2.1 dX8_notes_26 rfl ?_
    refine r_get C w inX8_notes_X8 0 rfl rfl 2 (by decide) lkX8_notes_102 rfl dX8_notes_27 ?_
    refine lv_iconst (v := (1 : Int32)) C.1 C.2.1 dX8_notes_30 (by decide) ?_
    refine lv_isub C.1 C.2.1 dX8_notes_31 ?_
    refine r_put (ws' := (wX8_notes cI cL cS cH a_this a_this_st a_this_past a_this_image a_this_imagePast a_this_tape a_this_laneOf a_this_sizeOf a_this_items a_this_code a_this_from a_this_by a_this_far a_this_met a_this_told (q_acts - (1 : Int32)) q_imageActs q_tapeMany q_many q_round q_readAt q_isFault q_toldMany r4 q_st)) C w inX8_notes_X8 tyX8 tyX8_ok nmX8 0 rfl rfl 2 (by decide) lkX8_notes_102 rfl rfl rfl (Nat.le_of_ble_eq_true rfl) rfl dX8_notes_32 (fun H locs w => ?_)
    exact hj35 (q_acts - (1 : Int32)) r4 _ _ _ w (lv_sub hl [0] rfl) hf

set_option maxRecDepth 100000 in
theorem inX8_act_X8 : ∀ w ∈ u_ws RX8 TX8 22, w ∈ wsX8_act := by decide +kernel
set_option maxRecDepth 100000 in
theorem lkX8_act_7 : Cond.fieldLink RX8 7 "CleanNetsModel" "st" "[I" ∈ wsX8_act := by decide +kernel
abbrev wX8_act (cI cL cS cH : ClassId) (a_this : Nat) (a_this_st : Nat) (a_this_past : Nat) (a_this_image : Nat) (a_this_imagePast : Nat) (a_this_tape : Nat) (a_this_laneOf : Nat) (a_this_sizeOf : Nat) (a_this_items : Nat) (a_this_code : Nat) (a_this_from : Nat) (a_this_by : Nat) (a_this_far : Nat) (a_this_met : Nat) (a_this_told : Nat) (q_acts : Int32) (q_imageActs : Int32) (q_tapeMany : Int32) (q_many : Int32) (q_round : Int32) (q_readAt : Int32) (q_isFault : Int32) (q_toldMany : Int32) (q_past : Nat → Int32) (q_st : Nat → Int32) : va_W := [(a_this, .inr (8, [.ref a_this_st, .ref a_this_past, .int q_acts, .ref a_this_image, .ref a_this_imagePast, .int q_imageActs, .ref a_this_tape, .int q_tapeMany, .ref a_this_laneOf, .ref a_this_sizeOf, .ref a_this_items, .ref a_this_code, .ref a_this_from, .ref a_this_by, .ref a_this_far, .int q_many, .ref a_this_met, .int q_round, .int q_readAt, .int q_isFault, .int q_toldMany, .ref a_this_told])),
  (a_this_past, .inl (cI, 78, .inl q_past)),
  (a_this_st, .inl (cI, 13, .inl q_st))]
def fX8_act (q_acts : Int32) (q_past : Nat → Int32) (q_st : Nat → Int32) (x1 : Int32) : Option (Int32 × Int32 × (Nat → Int32) × (Nat → Int32)) := Option.bind (fX8_isAct q_st ((x1).toInt64)) (fun r1 => (if r1 = 0 then some ((-1 : Int32), q_acts, q_past, q_st) else Option.bind (rd q_st 13 (10 : Int32)) (fun y4 => Option.bind (rd q_st 13 (11 : Int32)) (fun y6 => Option.bind (rd q_st 13 (9 : Int32)) (fun y8 => Option.bind (fX8_against q_st y4 y6 y8 x1) (fun r10 => (if r10 = 0 then Option.bind (fX8_notes q_acts q_past q_st) (fun r13 => Option.bind (fX8_lostBy q_st x1) (fun r15 => Option.bind (rd q_st 13 (8 : Int32)) (fun y17 => Option.bind (rd q_st 13 (9 : Int32)) (fun y19 => Option.bind (fX8_cleanBehind q_st y17 y19 x1) (fun r21 => Option.bind (rd q_st 13 (9 : Int32)) (fun y23 => Option.bind (fX8_guardsBehind y23 x1) (fun r25 => Option.bind (wi q_st 13 (9 : Int32) r25) (fun g27 => Option.bind (wi g27 13 (8 : Int32) r21) (fun g29 => some (r15, r13.1, r13.2, g29)))))))))) else some (r10, q_acts, q_past, q_st))))))))
set_option maxHeartbeats 4000000 in
set_option maxRecDepth 100000 in
theorem mX8_act (l : Launch) (D : vg) (cI cL cS cH : ClassId) (sz : Nat) (a_this : Nat) (a_this_st : Nat) (a_this_past : Nat) (a_this_image : Nat) (a_this_imagePast : Nat) (a_this_tape : Nat) (a_this_laneOf : Nat) (a_this_sizeOf : Nat) (a_this_items : Nat) (a_this_code : Nat) (a_this_from : Nat) (a_this_by : Nat) (a_this_far : Nat) (a_this_met : Nat) (a_this_told : Nat) (q_acts : Int32) (q_imageActs : Int32) (q_tapeMany : Int32) (q_many : Int32) (q_round : Int32) (q_readAt : Int32) (q_isFault : Int32) (q_toldMany : Int32) (q_past : Nat → Int32) (q_st : Nat → Int32) (x1 : Int32) {res : Int32 × Int32 × (Nat → Int32) × (Nat → Int32)} (hf : fX8_act q_acts q_past q_st x1 = some res) : cti l yX8_act wsX8_act ({ frames := 5, cells := 0, slots := 0, locals := 113 }) D (ty4 cI cL cS cH) sz [.ref a_this, .int x1] (wX8_act cI cL cS cH a_this a_this_st a_this_past a_this_image a_this_imagePast a_this_tape a_this_laneOf a_this_sizeOf a_this_items a_this_code a_this_from a_this_by a_this_far a_this_met a_this_told q_acts q_imageActs q_tapeMany q_many q_round q_readAt q_isFault q_toldMany q_past q_st) (wX8_act cI cL cS cH a_this a_this_st a_this_past a_this_image a_this_imagePast a_this_tape a_this_laneOf a_this_sizeOf a_this_items a_this_code a_this_from a_this_by a_this_far a_this_met a_this_told res.2.1 q_imageActs q_tapeMany q_many q_round q_readAt q_isFault q_toldMany res.2.2.1 res.2.2.2) res.1 := by
  refine Met.ofW (cc := cX8_act) (maxL := 5) (ret := (some .int)) (by decide) rfl ?_
  intro p e s m args below meth c s₁ B hml hv
  obtain ⟨rfl, hpre⟩ := hv
  obtain rfl := hpre.1
  have C : CallFix p m c cX8_act 5 s _ wsX8_act RX8 := ⟨B.exec, B.bytes, hml, findClass_of_methodNamed B.named, atoms_spec (ws := wsX8_act) B.pre⟩
  have hr := B.returns
  have hlocks := B.notSynchronized
  have w := wd_start hpre
  clear hpre B
  have hl := lv_entry ([.ref a_this, .int x1]) (n := 5) (Nat.le_of_ble_eq_true rfl)
  rw [lg_entry_eq]
  generalize (lg_sl ([.ref a_this, .int x1]) ++ List.replicate (5 - (lg_sl ([.ref a_this, .int x1])).length) Slot.unset).toArray = ls at hl ⊢
  have hl : lv_has ls 5 [(0, .ref a_this), (1, .int x1)] := hl
  unfold fX8_act at hf
  refine lv_aload_n C.1 C.2.1 dX8_act_0 rfl (lv_at hl 0 rfl) ?_
  refine lv_iload_n C.1 C.2.1 dX8_act_1 rfl (lv_at hl 1 rfl) ?_
  refine lv_i2l C.1 C.2.1 dX8_act_2 rfl ?_
  obtain ⟨r1, hc2, hf⟩ := bd hf
  refine call_Vi (ws' := (wX8_act cI cL cS cH a_this a_this_st a_this_past a_this_image a_this_imagePast a_this_tape a_this_laneOf a_this_sizeOf a_this_items a_this_code a_this_from a_this_by a_this_far a_this_met a_this_told q_acts q_imageActs q_tapeMany q_many q_round q_readAt q_isFault q_toldMany q_past q_st)) (rest := []) C w (mX8_isAct l D cI cL cS cH _ a_this a_this_st a_this_past a_this_image a_this_imagePast a_this_tape a_this_laneOf a_this_sizeOf a_this_items a_this_code a_this_from a_this_by a_this_far a_this_met a_this_told q_acts q_imageActs q_tapeMany q_many q_round q_readAt q_isFault q_toldMany q_st ((x1).toInt64) hc2) (cwV 1 C.2.2.2.2 gX8_act_X8_isAct rfl rfl rfl (by decide +kernel) ⟨Nat.le_of_ble_eq_true rfl, Nat.le_of_ble_eq_true rfl⟩) [0, 2] [1] 3 ⟨rfl, rfl, trivial⟩ ⟨rfl, rfl, trivial⟩ ⟨⟨_, rfl, rfl⟩, trivial⟩ rfl (by decide) (by decide) (ci := 8) (q0 := 0) rfl rfl rfl hl.1 rfl (lv_room (Nat.le_of_ble_eq_true rfl)) dX8_act_3 ⟨Nat.zero_le _, Nat.zero_le _⟩ (fun H locs w => ?_)
  refine lv_if_ne (tgt := 11) C.1 C.2.1 dX8_act_6 (by decide) (fun hq3 => ?_) (fun hq3 => ?_)
  · have hf := ite_f hf hq3
    refine lv_aload_n C.1 C.2.1 dX8_act_11 rfl (lv_at hl 0 rfl) ?_
    refine lv_aload_n C.1 C.2.1 dX8_act_12 rfl (lv_at hl 0 rfl) ?_
    refine r_get C w inX8_act_X8 0 rfl rfl 0 (by decide) lkX8_act_7 rfl dX8_act_13 ?_
    refine lv_bipush (v := (10 : Int32)) C.1 C.2.1 dX8_act_16 (by decide) ?_
    obtain ⟨y4, hy5, hf⟩ := bd hf
    refine r_iald C w 2 0 rfl rfl (rd_in hy5) dX8_act_18 ?_
    refine lv_aload_n C.1 C.2.1 dX8_act_19 rfl (lv_at hl 0 rfl) ?_
    refine r_get C w inX8_act_X8 0 rfl rfl 0 (by decide) lkX8_act_7 rfl dX8_act_20 ?_
    refine lv_bipush (v := (11 : Int32)) C.1 C.2.1 dX8_act_23 (by decide) ?_
    obtain ⟨y6, hy7, hf⟩ := bd hf
    refine r_iald C w 2 0 rfl rfl (rd_in hy7) dX8_act_25 ?_
    refine lv_aload_n C.1 C.2.1 dX8_act_26 rfl (lv_at hl 0 rfl) ?_
    refine r_get C w inX8_act_X8 0 rfl rfl 0 (by decide) lkX8_act_7 rfl dX8_act_27 ?_
    refine lv_bipush (v := (9 : Int32)) C.1 C.2.1 dX8_act_30 (by decide) ?_
    obtain ⟨y8, hy9, hf⟩ := bd hf
    refine r_iald C w 2 0 rfl rfl (rd_in hy9) dX8_act_32 ?_
    refine lv_iload_n C.1 C.2.1 dX8_act_33 rfl (lv_at hl 1 rfl) ?_
    obtain ⟨r10, hc11, hf⟩ := bd hf
    refine call_Vi (ws' := (wX8_act cI cL cS cH a_this a_this_st a_this_past a_this_image a_this_imagePast a_this_tape a_this_laneOf a_this_sizeOf a_this_items a_this_code a_this_from a_this_by a_this_far a_this_met a_this_told q_acts q_imageActs q_tapeMany q_many q_round q_readAt q_isFault q_toldMany q_past q_st)) (rest := []) C w (mX8_against l D cI cL cS cH _ a_this a_this_st a_this_past a_this_image a_this_imagePast a_this_tape a_this_laneOf a_this_sizeOf a_this_items a_this_code a_this_from a_this_by a_this_far a_this_met a_this_told q_acts q_imageActs q_tapeMany q_many q_round q_readAt q_isFault q_toldMany q_st y4 y6 y8 x1 hc11) (cwV 4 C.2.2.2.2 gX8_act_X8_against rfl rfl rfl (by decide +kernel) ⟨Nat.le_of_ble_eq_true rfl, Nat.le_of_ble_eq_true rfl⟩) [0, 2] [1] 3 ⟨rfl, rfl, trivial⟩ ⟨rfl, rfl, trivial⟩ ⟨⟨_, rfl, rfl⟩, trivial⟩ rfl (by decide) (by decide) (ci := 8) (q0 := 0) rfl rfl rfl hl.1 rfl (lv_room (Nat.le_of_ble_eq_true rfl)) dX8_act_34 ⟨Nat.zero_le _, Nat.zero_le _⟩ (fun H locs w => ?_)
    refine lv_istore_n (lv' := [(2, .int r10), (0, .ref a_this), (1, .int x1)]) C.1 C.2.1 dX8_act_37 rfl hl (by decide) rfl (fun ls hl => ?_)
    refine lv_iload_n C.1 C.2.1 dX8_act_38 rfl (lv_at hl 0 rfl) ?_
    refine lv_if_eq (tgt := 44) C.1 C.2.1 dX8_act_39 (by decide) (fun hq12 => ?_) (fun hq12 => ?_)
    · have hf := ite_t hf hq12
      refine lv_aload_n C.1 C.2.1 dX8_act_44 rfl (lv_at hl 1 rfl) ?_
      obtain ⟨r13, hc14, hf⟩ := bd hf
      refine call_Vv (ws' := (wX8_act cI cL cS cH a_this a_this_st a_this_past a_this_image a_this_imagePast a_this_tape a_this_laneOf a_this_sizeOf a_this_items a_this_code a_this_from a_this_by a_this_far a_this_met a_this_told r13.1 q_imageActs q_tapeMany q_many q_round q_readAt q_isFault q_toldMany r13.2 q_st)) (rest := []) C w (mX8_notes l D cI cL cS cH _ a_this a_this_st a_this_past a_this_image a_this_imagePast a_this_tape a_this_laneOf a_this_sizeOf a_this_items a_this_code a_this_from a_this_by a_this_far a_this_met a_this_told q_acts q_imageActs q_tapeMany q_many q_round q_readAt q_isFault q_toldMany q_past q_st hc14) (cwV 0 C.2.2.2.2 gX8_act_X8_notes rfl rfl rfl (by decide +kernel) ⟨Nat.le_of_ble_eq_true rfl, Nat.le_of_ble_eq_true rfl⟩) [0, 1, 2] [] 3 ⟨rfl, rfl, rfl, trivial⟩ ⟨rfl, rfl, rfl, trivial⟩ trivial rfl (by decide) (by decide) (ci := 8) (q0 := 0) rfl rfl rfl hl.1 rfl (lv_room (Nat.le_of_ble_eq_true rfl)) dX8_act_45 ⟨Nat.zero_le _, Nat.zero_le _⟩ (fun H locs w => ?_)
      refine lv_aload_n C.1 C.2.1 dX8_act_48 rfl (lv_at hl 1 rfl) ?_
      refine lv_iload_n C.1 C.2.1 dX8_act_49 rfl (lv_at hl 2 rfl) ?_
      obtain ⟨r15, hc16, hf⟩ := bd hf
      refine call_Vi (ws' := (wX8_act cI cL cS cH a_this a_this_st a_this_past a_this_image a_this_imagePast a_this_tape a_this_laneOf a_this_sizeOf a_this_items a_this_code a_this_from a_this_by a_this_far a_this_met a_this_told r13.1 q_imageActs q_tapeMany q_many q_round q_readAt q_isFault q_toldMany r13.2 q_st)) (rest := []) C w (mX8_lostBy l D cI cL cS cH _ a_this a_this_st a_this_past a_this_image a_this_imagePast a_this_tape a_this_laneOf a_this_sizeOf a_this_items a_this_code a_this_from a_this_by a_this_far a_this_met a_this_told r13.1 q_imageActs q_tapeMany q_many q_round q_readAt q_isFault q_toldMany q_st x1 hc16) (cwV 1 C.2.2.2.2 gX8_act_X8_lostBy rfl rfl rfl (by decide +kernel) ⟨Nat.le_of_ble_eq_true rfl, Nat.le_of_ble_eq_true rfl⟩) [0, 2] [1] 3 ⟨rfl, rfl, trivial⟩ ⟨rfl, rfl, trivial⟩ ⟨⟨_, rfl, rfl⟩, trivial⟩ rfl (by decide) (by decide) (ci := 8) (q0 := 0) rfl rfl rfl hl.1 rfl (lv_room (Nat.le_of_ble_eq_true rfl)) dX8_act_50 ⟨Nat.zero_le _, Nat.zero_le _⟩ (fun H locs w => ?_)
      refine lv_istore_n (lv' := [(3, .int r15), (2, .int r10), (0, .ref a_this), (1, .int x1)]) C.1 C.2.1 dX8_act_53 rfl hl (by decide) rfl (fun ls hl => ?_)
      refine lv_aload_n C.1 C.2.1 dX8_act_54 rfl (lv_at hl 2 rfl) ?_
      refine lv_aload_n C.1 C.2.1 dX8_act_55 rfl (lv_at hl 2 rfl) ?_
      refine r_get C w inX8_act_X8 0 rfl rfl 0 (by decide) lkX8_act_7 rfl dX8_act_56 ?_
      refine lv_bipush (v := (8 : Int32)) C.1 C.2.1 dX8_act_59 (by decide) ?_
      obtain ⟨y17, hy18, hf⟩ := bd hf
      refine r_iald C w 2 0 rfl rfl (rd_in hy18) dX8_act_61 ?_
      refine lv_aload_n C.1 C.2.1 dX8_act_62 rfl (lv_at hl 2 rfl) ?_
      refine r_get C w inX8_act_X8 0 rfl rfl 0 (by decide) lkX8_act_7 rfl dX8_act_63 ?_
      refine lv_bipush (v := (9 : Int32)) C.1 C.2.1 dX8_act_66 (by decide) ?_
      obtain ⟨y19, hy20, hf⟩ := bd hf
      refine r_iald C w 2 0 rfl rfl (rd_in hy20) dX8_act_68 ?_
      refine lv_iload_n C.1 C.2.1 dX8_act_69 rfl (lv_at hl 3 rfl) ?_
      obtain ⟨r21, hc22, hf⟩ := bd hf
      refine call_Vi (ws' := (wX8_act cI cL cS cH a_this a_this_st a_this_past a_this_image a_this_imagePast a_this_tape a_this_laneOf a_this_sizeOf a_this_items a_this_code a_this_from a_this_by a_this_far a_this_met a_this_told r13.1 q_imageActs q_tapeMany q_many q_round q_readAt q_isFault q_toldMany r13.2 q_st)) (rest := []) C w (mX8_cleanBehind l D cI cL cS cH _ a_this a_this_st a_this_past a_this_image a_this_imagePast a_this_tape a_this_laneOf a_this_sizeOf a_this_items a_this_code a_this_from a_this_by a_this_far a_this_met a_this_told r13.1 q_imageActs q_tapeMany q_many q_round q_readAt q_isFault q_toldMany q_st y17 y19 x1 hc22) (cwV 3 C.2.2.2.2 gX8_act_X8_cleanBehind rfl rfl rfl (by decide +kernel) ⟨Nat.le_of_ble_eq_true rfl, Nat.le_of_ble_eq_true rfl⟩) [0, 2] [1] 3 ⟨rfl, rfl, trivial⟩ ⟨rfl, rfl, trivial⟩ ⟨⟨_, rfl, rfl⟩, trivial⟩ rfl (by decide) (by decide) (ci := 8) (q0 := 0) rfl rfl rfl hl.1 rfl (lv_room (Nat.le_of_ble_eq_true rfl)) dX8_act_70 ⟨Nat.zero_le _, Nat.zero_le _⟩ (fun H locs w => ?_)
      refine lv_istore (lv' := [(4, .int r21), (3, .int r15), (2, .int r10), (0, .ref a_this), (1, .int x1)]) C.1 C.2.1 dX8_act_73 hl (by decide) rfl (fun ls hl => ?_)
      refine lv_aload_n C.1 C.2.1 dX8_act_75 rfl (lv_at hl 3 rfl) ?_
      refine r_get C w inX8_act_X8 0 rfl rfl 0 (by decide) lkX8_act_7 rfl dX8_act_76 ?_
      refine lv_bipush (v := (9 : Int32)) C.1 C.2.1 dX8_act_79 (by decide) ?_
      refine lv_aload_n C.1 C.2.1 dX8_act_81 rfl (lv_at hl 3 rfl) ?_
      refine r_get C w inX8_act_X8 0 rfl rfl 0 (by decide) lkX8_act_7 rfl dX8_act_82 ?_
      refine lv_bipush (v := (9 : Int32)) C.1 C.2.1 dX8_act_85 (by decide) ?_
      obtain ⟨y23, hy24, hf⟩ := bd hf
      refine r_iald C w 2 0 rfl rfl (rd_in hy24) dX8_act_87 ?_
      refine lv_iload_n C.1 C.2.1 dX8_act_88 rfl (lv_at hl 4 rfl) ?_
      obtain ⟨r25, hc26, hf⟩ := bd hf
      refine call_Si (ws' := (wX8_act cI cL cS cH a_this a_this_st a_this_past a_this_image a_this_imagePast a_this_tape a_this_laneOf a_this_sizeOf a_this_items a_this_code a_this_from a_this_by a_this_far a_this_met a_this_told r13.1 q_imageActs q_tapeMany q_many q_round q_readAt q_isFault q_toldMany r13.2 q_st)) (rest := [.int (9 : Int32), .ref a_this_st]) C w (mX8_guardsBehind l D cI cL cS cH _ y23 x1 hc26) (va_cwS 2 C.2.2.2.2 gX8_act_X8_guardsBehind rfl rfl rfl (by decide +kernel) ⟨Nat.le_of_ble_eq_true rfl, Nat.le_of_ble_eq_true rfl⟩) [] [0, 1, 2] 3 trivial trivial ⟨⟨_, rfl, rfl⟩, ⟨_, rfl, rfl⟩, ⟨_, rfl, rfl⟩, trivial⟩ rfl (by decide) (by decide) rfl hl.1 rfl (lv_room (Nat.le_of_ble_eq_true rfl)) dX8_act_89 ⟨Nat.zero_le _, Nat.zero_le _⟩ (fun H locs w => ?_)
      obtain ⟨g27, hg28, hf⟩ := bd hf
      refine r_iast (ws' := (wX8_act cI cL cS cH a_this a_this_st a_this_past a_this_image a_this_imagePast a_this_tape a_this_laneOf a_this_sizeOf a_this_items a_this_code a_this_from a_this_by a_this_far a_this_met a_this_told r13.1 q_imageActs q_tapeMany q_many q_round q_readAt q_isFault q_toldMany r13.2 g27)) C w 2 0 rfl rfl (wi_in hg28) rfl dX8_act_92 (fun H locs w => ?_)
      refine lv_aload_n C.1 C.2.1 dX8_act_93 rfl (lv_at hl 3 rfl) ?_
      refine r_get C w inX8_act_X8 0 rfl rfl 0 (by decide) lkX8_act_7 rfl dX8_act_94 ?_
      refine lv_bipush (v := (8 : Int32)) C.1 C.2.1 dX8_act_97 (by decide) ?_
      refine lv_iload C.1 C.2.1 dX8_act_99 (lv_at hl 0 rfl) ?_
      obtain ⟨g29, hg30, hf⟩ := bd hf
      refine r_iast (ws' := (wX8_act cI cL cS cH a_this a_this_st a_this_past a_this_image a_this_imagePast a_this_tape a_this_laneOf a_this_sizeOf a_this_items a_this_code a_this_from a_this_by a_this_far a_this_met a_this_told r13.1 q_imageActs q_tapeMany q_many q_round q_readAt q_isFault q_toldMany r13.2 g29)) C w 2 0 rfl rfl (wi_in hg30) rfl dX8_act_101 (fun H locs w => ?_)
      refine lv_iload_n C.1 C.2.1 dX8_act_102 rfl (lv_at hl 1 rfl) ?_
      have hres := Option.some.inj hf
      subst hres
      exact ret_i C hr hlocks w rfl dX8_act_103
    · have hf := ite_f hf hq12
      refine lv_iload_n C.1 C.2.1 dX8_act_42 rfl (lv_at hl 0 rfl) ?_
      have hres := Option.some.inj hf
      subst hres
      exact ret_i C hr hlocks w rfl dX8_act_43
  · have hf := ite_t hf hq3
    refine lv_iconst (v := (-1 : Int32)) C.1 C.2.1 dX8_act_9 (by decide) ?_
    have hres := Option.some.inj hf
    subst hres
    exact ret_i C hr hlocks w rfl dX8_act_10

set_option maxRecDepth 100000 in
theorem inX8_turnsLink_X8 : ∀ w ∈ u_ws RX8 TX8 22, w ∈ wsX8_turnsLink := by decide +kernel
set_option maxRecDepth 100000 in
theorem lkX8_turnsLink_7 : Cond.fieldLink RX8 7 "CleanNetsModel" "st" "[I" ∈ wsX8_turnsLink := by decide +kernel
abbrev wX8_turnsLink (cI cL cS cH : ClassId) (a_this : Nat) (a_this_st : Nat) (a_this_past : Nat) (a_this_image : Nat) (a_this_imagePast : Nat) (a_this_tape : Nat) (a_this_laneOf : Nat) (a_this_sizeOf : Nat) (a_this_items : Nat) (a_this_code : Nat) (a_this_from : Nat) (a_this_by : Nat) (a_this_far : Nat) (a_this_met : Nat) (a_this_told : Nat) (q_acts : Int32) (q_imageActs : Int32) (q_tapeMany : Int32) (q_many : Int32) (q_round : Int32) (q_readAt : Int32) (q_isFault : Int32) (q_toldMany : Int32) (q_st : Nat → Int32) : va_W := [(a_this, .inr (8, [.ref a_this_st, .ref a_this_past, .int q_acts, .ref a_this_image, .ref a_this_imagePast, .int q_imageActs, .ref a_this_tape, .int q_tapeMany, .ref a_this_laneOf, .ref a_this_sizeOf, .ref a_this_items, .ref a_this_code, .ref a_this_from, .ref a_this_by, .ref a_this_far, .int q_many, .ref a_this_met, .int q_round, .int q_readAt, .int q_isFault, .int q_toldMany, .ref a_this_told])),
  (a_this_st, .inl (cI, 13, .inl q_st))]
def fX8_turnsLink (q_st : Nat → Int32) (x1 : Int32) (x2 : Int32) : Option (Nat → Int32) := Option.bind (rd q_st 13 ((1 : Int32) + x1)) (fun y1 => Option.bind (wi q_st 13 ((1 : Int32) + x1) (y1 ^^^ ((1 : Int32) <<< (x2 &&& 31)))) (fun g3 => Option.bind (rd g3 13 ((1 : Int32) + x2)) (fun y5 => Option.bind (wi g3 13 ((1 : Int32) + x2) (y5 ^^^ ((1 : Int32) <<< (x1 &&& 31)))) (fun g7 => some g7))))
set_option maxHeartbeats 4000000 in
set_option maxRecDepth 100000 in
theorem mX8_turnsLink (l : Launch) (D : vg) (cI cL cS cH : ClassId) (sz : Nat) (a_this : Nat) (a_this_st : Nat) (a_this_past : Nat) (a_this_image : Nat) (a_this_imagePast : Nat) (a_this_tape : Nat) (a_this_laneOf : Nat) (a_this_sizeOf : Nat) (a_this_items : Nat) (a_this_code : Nat) (a_this_from : Nat) (a_this_by : Nat) (a_this_far : Nat) (a_this_met : Nat) (a_this_told : Nat) (q_acts : Int32) (q_imageActs : Int32) (q_tapeMany : Int32) (q_many : Int32) (q_round : Int32) (q_readAt : Int32) (q_isFault : Int32) (q_toldMany : Int32) (q_st : Nat → Int32) (x1 : Int32) (x2 : Int32) {res : Nat → Int32} (hf : fX8_turnsLink q_st x1 x2 = some res) : ctv l yX8_turnsLink wsX8_turnsLink ({ frames := 0, cells := 0, slots := 0, locals := 0 }) D (ty4 cI cL cS cH) sz [.ref a_this, .int x1, .int x2] (wX8_turnsLink cI cL cS cH a_this a_this_st a_this_past a_this_image a_this_imagePast a_this_tape a_this_laneOf a_this_sizeOf a_this_items a_this_code a_this_from a_this_by a_this_far a_this_met a_this_told q_acts q_imageActs q_tapeMany q_many q_round q_readAt q_isFault q_toldMany q_st) (wX8_turnsLink cI cL cS cH a_this a_this_st a_this_past a_this_image a_this_imagePast a_this_tape a_this_laneOf a_this_sizeOf a_this_items a_this_code a_this_from a_this_by a_this_far a_this_met a_this_told q_acts q_imageActs q_tapeMany q_many q_round q_readAt q_isFault q_toldMany res) := by
  refine Met.ofW (cc := cX8_turnsLink) (maxL := 3) (ret := none) (by decide) rfl ?_
  intro p e s m args below meth c s₁ B hml hv
  obtain ⟨rfl, hpre⟩ := hv
  obtain rfl := hpre.1
  have C : CallFix p m c cX8_turnsLink 3 s _ wsX8_turnsLink RX8 := ⟨B.exec, B.bytes, hml, findClass_of_methodNamed B.named, atoms_spec (ws := wsX8_turnsLink) B.pre⟩
  have hr := B.returns
  have hlocks := B.notSynchronized
  have w := wd_start hpre
  clear hpre B
  have hl := lv_entry ([.ref a_this, .int x1, .int x2]) (n := 3) (Nat.le_of_ble_eq_true rfl)
  rw [lg_entry_eq]
  generalize (lg_sl ([.ref a_this, .int x1, .int x2]) ++ List.replicate (3 - (lg_sl ([.ref a_this, .int x1, .int x2])).length) Slot.unset).toArray = ls at hl ⊢
  have hl : lv_has ls 3 [(0, .ref a_this), (1, .int x1), (2, .int x2)] := hl
  unfold fX8_turnsLink at hf
  refine lv_aload_n C.1 C.2.1 dX8_turnsLink_0 rfl (lv_at hl 0 rfl) ?_
  refine r_get C w inX8_turnsLink_X8 0 rfl rfl 0 (by decide) lkX8_turnsLink_7 rfl dX8_turnsLink_1 ?_
  refine lv_iconst (v := (1 : Int32)) C.1 C.2.1 dX8_turnsLink_4 (by decide) ?_
  refine lv_iload_n C.1 C.2.1 dX8_turnsLink_5 rfl (lv_at hl 1 rfl) ?_
  refine lv_iadd C.1 C.2.1 dX8_turnsLink_6 ?_
  refine lv_dup2_11 C.1 C.2.1 dX8_turnsLink_7 rfl rfl ?_
  obtain ⟨y1, hy2, hf⟩ := bd hf
  refine r_iald C w 1 0 rfl rfl (rd_in hy2) dX8_turnsLink_8 ?_
  refine lv_iconst (v := (1 : Int32)) C.1 C.2.1 dX8_turnsLink_9 (by decide) ?_
  refine lv_iload_n C.1 C.2.1 dX8_turnsLink_10 rfl (lv_at hl 2 rfl) ?_
  refine lv_ishl C.1 C.2.1 dX8_turnsLink_11 ?_
  refine lv_ixor C.1 C.2.1 dX8_turnsLink_12 ?_
  obtain ⟨g3, hg4, hf⟩ := bd hf
  refine r_iast (ws' := (wX8_turnsLink cI cL cS cH a_this a_this_st a_this_past a_this_image a_this_imagePast a_this_tape a_this_laneOf a_this_sizeOf a_this_items a_this_code a_this_from a_this_by a_this_far a_this_met a_this_told q_acts q_imageActs q_tapeMany q_many q_round q_readAt q_isFault q_toldMany g3)) C w 1 0 rfl rfl (wi_in hg4) rfl dX8_turnsLink_13 (fun H locs w => ?_)
  refine lv_aload_n C.1 C.2.1 dX8_turnsLink_14 rfl (lv_at hl 0 rfl) ?_
  refine r_get C w inX8_turnsLink_X8 0 rfl rfl 0 (by decide) lkX8_turnsLink_7 rfl dX8_turnsLink_15 ?_
  refine lv_iconst (v := (1 : Int32)) C.1 C.2.1 dX8_turnsLink_18 (by decide) ?_
  refine lv_iload_n C.1 C.2.1 dX8_turnsLink_19 rfl (lv_at hl 2 rfl) ?_
  refine lv_iadd C.1 C.2.1 dX8_turnsLink_20 ?_
  refine lv_dup2_11 C.1 C.2.1 dX8_turnsLink_21 rfl rfl ?_
  obtain ⟨y5, hy6, hf⟩ := bd hf
  refine r_iald C w 1 0 rfl rfl (rd_in hy6) dX8_turnsLink_22 ?_
  refine lv_iconst (v := (1 : Int32)) C.1 C.2.1 dX8_turnsLink_23 (by decide) ?_
  refine lv_iload_n C.1 C.2.1 dX8_turnsLink_24 rfl (lv_at hl 1 rfl) ?_
  refine lv_ishl C.1 C.2.1 dX8_turnsLink_25 ?_
  refine lv_ixor C.1 C.2.1 dX8_turnsLink_26 ?_
  obtain ⟨g7, hg8, hf⟩ := bd hf
  refine r_iast (ws' := (wX8_turnsLink cI cL cS cH a_this a_this_st a_this_past a_this_image a_this_imagePast a_this_tape a_this_laneOf a_this_sizeOf a_this_items a_this_code a_this_from a_this_by a_this_far a_this_met a_this_told q_acts q_imageActs q_tapeMany q_many q_round q_readAt q_isFault q_toldMany g7)) C w 1 0 rfl rfl (wi_in hg8) rfl dX8_turnsLink_27 (fun H locs w => ?_)
  have hres := Option.some.inj hf
  subst hres
  exact ret_v C hr hlocks w dX8_turnsLink_28

set_option maxRecDepth 100000 in
theorem inX8_link_X8 : ∀ w ∈ u_ws RX8 TX8 22, w ∈ wsX8_link := by decide +kernel
set_option maxRecDepth 100000 in
theorem lkX8_link_7 : Cond.fieldLink RX8 7 "CleanNetsModel" "st" "[I" ∈ wsX8_link := by decide +kernel
abbrev wX8_link (cI cL cS cH : ClassId) (a_this : Nat) (a_this_st : Nat) (a_this_past : Nat) (a_this_image : Nat) (a_this_imagePast : Nat) (a_this_tape : Nat) (a_this_laneOf : Nat) (a_this_sizeOf : Nat) (a_this_items : Nat) (a_this_code : Nat) (a_this_from : Nat) (a_this_by : Nat) (a_this_far : Nat) (a_this_met : Nat) (a_this_told : Nat) (q_acts : Int32) (q_imageActs : Int32) (q_tapeMany : Int32) (q_many : Int32) (q_round : Int32) (q_readAt : Int32) (q_isFault : Int32) (q_toldMany : Int32) (q_past : Nat → Int32) (q_st : Nat → Int32) : va_W := [(a_this, .inr (8, [.ref a_this_st, .ref a_this_past, .int q_acts, .ref a_this_image, .ref a_this_imagePast, .int q_imageActs, .ref a_this_tape, .int q_tapeMany, .ref a_this_laneOf, .ref a_this_sizeOf, .ref a_this_items, .ref a_this_code, .ref a_this_from, .ref a_this_by, .ref a_this_far, .int q_many, .ref a_this_met, .int q_round, .int q_readAt, .int q_isFault, .int q_toldMany, .ref a_this_told])),
  (a_this_past, .inl (cI, 78, .inl q_past)),
  (a_this_st, .inl (cI, 13, .inl q_st))]
def jX8_link_49  (x1 : Int32) (x2 : Int32) (z49_0 : Int32) (z49_1 : Int32) (k49_q_acts : Int32) (k49_q_past : Nat → Int32) (k49_q_st : Nat → Int32) : Option (Int32 × Int32 × (Nat → Int32) × (Nat → Int32)) := (if z49_1 = z49_0 then some ((-2 : Int32), k49_q_acts, k49_q_past, k49_q_st) else Option.bind (fX8_notes k49_q_acts k49_q_past k49_q_st) (fun r2 => Option.bind (fX8_turnsLink k49_q_st x1 x2) (fun r4 => Option.bind (rd r4 13 (8 : Int32)) (fun y6 => Option.bind (fX8_fouls r4) (fun r8 => Option.bind (rd r8 13 (8 : Int32)) (fun y10 => Option.bind (fX8_sizeIn (y6 &&& (y10 ^^^ (-1 : Int32)))) (fun r12 => some (r12, r2.1, r2.2, r8))))))))
def fX8_link (q_acts : Int32) (q_past : Nat → Int32) (q_st : Nat → Int32) (x1 : Int32) (x2 : Int32) (x3 : Int32) : Option (Int32 × Int32 × (Nat → Int32) × (Nat → Int32)) := Option.bind (fX8_isNode q_st x1) (fun r14 => (if r14 = 0 then some ((-1 : Int32), q_acts, q_past, q_st) else Option.bind (fX8_isNode q_st x2) (fun r17 => (if r17 = 0 then some ((-1 : Int32), q_acts, q_past, q_st) else (if x1 = x2 then some ((-1 : Int32), q_acts, q_past, q_st) else Option.bind (fX8_in ((x3).toInt64) (0 : Int64) (1 : Int64)) (fun r21 => (if r21 = 0 then some ((-1 : Int32), q_acts, q_past, q_st) else Option.bind (fX8_areLinked q_st x1 x2) (fun r24 => (if x3 = (1 : Int32) then jX8_link_49 x1 x2 (1 : Int32) r24 q_acts q_past q_st else jX8_link_49 x1 x2 (0 : Int32) r24 q_acts q_past q_st)))))))))
abbrev gX8_link (p : Program) (l : Launch) (e : Env) (s : State) (m : MethodId) (below : List Frame) (meth : Method) (c : Code) (D : vg) (cI cL cS cH : ClassId) (a_this : Nat) (a_this_st : Nat) (a_this_past : Nat) (a_this_image : Nat) (a_this_imagePast : Nat) (a_this_tape : Nat) (a_this_laneOf : Nat) (a_this_sizeOf : Nat) (a_this_items : Nat) (a_this_code : Nat) (a_this_from : Nat) (a_this_by : Nat) (a_this_far : Nat) (a_this_met : Nat) (a_this_told : Nat) (q_acts : Int32) (q_imageActs : Int32) (q_tapeMany : Int32) (q_many : Int32) (q_round : Int32) (q_readAt : Int32) (q_isFault : Int32) (q_toldMany : Int32) (q_past : Nat → Int32) (q_st : Nat → Int32) (x1 : Int32) (x2 : Int32) (x3 : Int32) (res : Int32 × Int32 × (Nat → Int32) × (Nat → Int32)) (H : Heap) (locs : List Loc) (g : JFrame) : Prop := W p l e (headSpec wsX8_link ({ frames := 4, cells := 0, slots := 0, locals := 88 })).room s m ([.ref a_this, .int x1, .int x2, .int x3] : List Value).toArray below meth c H locs 0 0 (MQ below (va_Qi (fun r' (_ : Unit) => r' = res.1) (fun _ t => pos1 D s.heap.size (wX8_link cI cL cS cH a_this a_this_st a_this_past a_this_image a_this_imagePast a_this_tape a_this_laneOf a_this_sizeOf a_this_items a_this_code a_this_from a_this_by a_this_far a_this_met a_this_told q_acts q_imageActs q_tapeMany q_many q_round q_readAt q_isFault q_toldMany q_past q_st) (wX8_link cI cL cS cH a_this a_this_st a_this_past a_this_image a_this_imagePast a_this_tape a_this_laneOf a_this_sizeOf a_this_items a_this_code a_this_from a_this_by a_this_far a_this_met a_this_told res.2.1 q_imageActs q_tapeMany q_many q_round q_readAt q_isFault q_toldMany res.2.2.1 res.2.2.2) t) (va_A (wX8_link cI cL cS cH a_this a_this_st a_this_past a_this_image a_this_imagePast a_this_tape a_this_laneOf a_this_sizeOf a_this_items a_this_code a_this_from a_this_by a_this_far a_this_met a_this_told q_acts q_imageActs q_tapeMany q_many q_round q_readAt q_isFault q_toldMany q_past q_st) s.heap.size)) ([.ref a_this, .int x1, .int x2, .int x3] : List Value).toArray s 0 0 (va_A (wX8_link cI cL cS cH a_this a_this_st a_this_past a_this_image a_this_imagePast a_this_tape a_this_laneOf a_this_sizeOf a_this_items a_this_code a_this_from a_this_by a_this_far a_this_met a_this_told q_acts q_imageActs q_tapeMany q_many q_round q_readAt q_isFault q_toldMany q_past q_st) s.heap.size)) g
set_option maxHeartbeats 4000000 in
set_option maxRecDepth 100000 in
theorem mX8_link (l : Launch) (D : vg) (cI cL cS cH : ClassId) (sz : Nat) (a_this : Nat) (a_this_st : Nat) (a_this_past : Nat) (a_this_image : Nat) (a_this_imagePast : Nat) (a_this_tape : Nat) (a_this_laneOf : Nat) (a_this_sizeOf : Nat) (a_this_items : Nat) (a_this_code : Nat) (a_this_from : Nat) (a_this_by : Nat) (a_this_far : Nat) (a_this_met : Nat) (a_this_told : Nat) (q_acts : Int32) (q_imageActs : Int32) (q_tapeMany : Int32) (q_many : Int32) (q_round : Int32) (q_readAt : Int32) (q_isFault : Int32) (q_toldMany : Int32) (q_past : Nat → Int32) (q_st : Nat → Int32) (x1 : Int32) (x2 : Int32) (x3 : Int32) {res : Int32 × Int32 × (Nat → Int32) × (Nat → Int32)} (hf : fX8_link q_acts q_past q_st x1 x2 x3 = some res) : cti l yX8_link wsX8_link ({ frames := 4, cells := 0, slots := 0, locals := 88 }) D (ty4 cI cL cS cH) sz [.ref a_this, .int x1, .int x2, .int x3] (wX8_link cI cL cS cH a_this a_this_st a_this_past a_this_image a_this_imagePast a_this_tape a_this_laneOf a_this_sizeOf a_this_items a_this_code a_this_from a_this_by a_this_far a_this_met a_this_told q_acts q_imageActs q_tapeMany q_many q_round q_readAt q_isFault q_toldMany q_past q_st) (wX8_link cI cL cS cH a_this a_this_st a_this_past a_this_image a_this_imagePast a_this_tape a_this_laneOf a_this_sizeOf a_this_items a_this_code a_this_from a_this_by a_this_far a_this_met a_this_told res.2.1 q_imageActs q_tapeMany q_many q_round q_readAt q_isFault q_toldMany res.2.2.1 res.2.2.2) res.1 := by
  refine Met.ofW (cc := cX8_link) (maxL := 5) (ret := (some .int)) (by decide) rfl ?_
  intro p e s m args below meth c s₁ B hml hv
  obtain ⟨rfl, hpre⟩ := hv
  obtain rfl := hpre.1
  have C : CallFix p m c cX8_link 5 s _ wsX8_link RX8 := ⟨B.exec, B.bytes, hml, findClass_of_methodNamed B.named, atoms_spec (ws := wsX8_link) B.pre⟩
  have hr := B.returns
  have hlocks := B.notSynchronized
  have w := wd_start hpre
  clear hpre B
  have hl := lv_entry ([.ref a_this, .int x1, .int x2, .int x3]) (n := 5) (Nat.le_of_ble_eq_true rfl)
  rw [lg_entry_eq]
  generalize (lg_sl ([.ref a_this, .int x1, .int x2, .int x3]) ++ List.replicate (5 - (lg_sl ([.ref a_this, .int x1, .int x2, .int x3])).length) Slot.unset).toArray = ls at hl ⊢
  have hl : lv_has ls 5 [(0, .ref a_this), (1, .int x1), (2, .int x2), (3, .int x3)] := hl
  unfold fX8_link at hf
  have hj49 : ∀ (z49_0 : Int32) (z49_1 : Int32) (k49_q_acts : Int32) (k49_q_past : Nat → Int32) (k49_q_st : Nat → Int32) (H : Heap) (locs : List Loc) (ls : Array Slot), wd D (ty4 cI cL cS cH) s (va_A (wX8_link cI cL cS cH a_this a_this_st a_this_past a_this_image a_this_imagePast a_this_tape a_this_laneOf a_this_sizeOf a_this_items a_this_code a_this_from a_this_by a_this_far a_this_met a_this_told q_acts q_imageActs q_tapeMany q_many q_round q_readAt q_isFault q_toldMany q_past q_st) s.heap.size) s.heap H locs (wX8_link cI cL cS cH a_this a_this_st a_this_past a_this_image a_this_imagePast a_this_tape a_this_laneOf a_this_sizeOf a_this_items a_this_code a_this_from a_this_by a_this_far a_this_met a_this_told k49_q_acts q_imageActs q_tapeMany q_many q_round q_readAt q_isFault q_toldMany k49_q_past k49_q_st) → lv_has ls 5 [(0, .ref a_this), (1, .int x1), (2, .int x2)] → jX8_link_49 x1 x2 z49_0 z49_1 k49_q_acts k49_q_past k49_q_st = some res → gX8_link p l e s m below meth c D cI cL cS cH a_this a_this_st a_this_past a_this_image a_this_imagePast a_this_tape a_this_laneOf a_this_sizeOf a_this_items a_this_code a_this_from a_this_by a_this_far a_this_met a_this_told q_acts q_imageActs q_tapeMany q_many q_round q_readAt q_isFault q_toldMany q_past q_st x1 x2 x3 res H locs (F0 m 49 ls [.int z49_0, .int z49_1]) := by
    intro z49_0 z49_1 k49_q_acts k49_q_past k49_q_st H locs ls w hl hf
    unfold jX8_link_49 at hf
    refine lv_icmp_ne (tgt := 55) C.1 C.2.1 dX8_link_49 (by decide) (fun hq1 => ?_) (fun hq1 => ?_)
    · have hf := ite_f hf hq1
      refine lv_aload_n C.1 C.2.1 dX8_link_55 rfl (lv_at hl 0 rfl) ?_
      obtain ⟨r2, hc3, hf⟩ := bd hf
      refine call_Vv (ws' := (wX8_link cI cL cS cH a_this a_this_st a_this_past a_this_image a_this_imagePast a_this_tape a_this_laneOf a_this_sizeOf a_this_items a_this_code a_this_from a_this_by a_this_far a_this_met a_this_told r2.1 q_imageActs q_tapeMany q_many q_round q_readAt q_isFault q_toldMany r2.2 k49_q_st)) (rest := []) C w (mX8_notes l D cI cL cS cH _ a_this a_this_st a_this_past a_this_image a_this_imagePast a_this_tape a_this_laneOf a_this_sizeOf a_this_items a_this_code a_this_from a_this_by a_this_far a_this_met a_this_told k49_q_acts q_imageActs q_tapeMany q_many q_round q_readAt q_isFault q_toldMany k49_q_past k49_q_st hc3) (cwV 0 C.2.2.2.2 gX8_link_X8_notes rfl rfl rfl (by decide +kernel) ⟨Nat.le_of_ble_eq_true rfl, Nat.le_of_ble_eq_true rfl⟩) [0, 1, 2] [] 3 ⟨rfl, rfl, rfl, trivial⟩ ⟨rfl, rfl, rfl, trivial⟩ trivial rfl (by decide) (by decide) (ci := 8) (q0 := 0) rfl rfl rfl hl.1 rfl (lv_room (Nat.le_of_ble_eq_true rfl)) dX8_link_56 ⟨Nat.zero_le _, Nat.zero_le _⟩ (fun H locs w => ?_)
      refine lv_aload_n C.1 C.2.1 dX8_link_59 rfl (lv_at hl 0 rfl) ?_
      refine lv_iload_n C.1 C.2.1 dX8_link_60 rfl (lv_at hl 1 rfl) ?_
      refine lv_iload_n C.1 C.2.1 dX8_link_61 rfl (lv_at hl 2 rfl) ?_
      obtain ⟨r4, hc5, hf⟩ := bd hf
      refine call_Vv (ws' := (wX8_link cI cL cS cH a_this a_this_st a_this_past a_this_image a_this_imagePast a_this_tape a_this_laneOf a_this_sizeOf a_this_items a_this_code a_this_from a_this_by a_this_far a_this_met a_this_told r2.1 q_imageActs q_tapeMany q_many q_round q_readAt q_isFault q_toldMany r2.2 r4)) (rest := []) C w (mX8_turnsLink l D cI cL cS cH _ a_this a_this_st a_this_past a_this_image a_this_imagePast a_this_tape a_this_laneOf a_this_sizeOf a_this_items a_this_code a_this_from a_this_by a_this_far a_this_met a_this_told r2.1 q_imageActs q_tapeMany q_many q_round q_readAt q_isFault q_toldMany k49_q_st x1 x2 hc5) (cwV 2 C.2.2.2.2 gX8_link_X8_turnsLink rfl rfl rfl (by decide +kernel) ⟨Nat.le_of_ble_eq_true rfl, Nat.le_of_ble_eq_true rfl⟩) [0, 2] [1] 3 ⟨rfl, rfl, trivial⟩ ⟨rfl, rfl, trivial⟩ ⟨⟨_, rfl, rfl⟩, trivial⟩ rfl (by decide) (by decide) (ci := 8) (q0 := 0) rfl rfl rfl hl.1 rfl (lv_room (Nat.le_of_ble_eq_true rfl)) dX8_link_62 ⟨Nat.zero_le _, Nat.zero_le _⟩ (fun H locs w => ?_)
      refine lv_aload_n C.1 C.2.1 dX8_link_65 rfl (lv_at hl 0 rfl) ?_
      refine r_get C w inX8_link_X8 0 rfl rfl 0 (by decide) lkX8_link_7 rfl dX8_link_66 ?_
      refine lv_bipush (v := (8 : Int32)) C.1 C.2.1 dX8_link_69 (by decide) ?_
      obtain ⟨y6, hy7, hf⟩ := bd hf
      refine r_iald C w 2 0 rfl rfl (rd_in hy7) dX8_link_71 ?_
      refine lv_istore (lv' := [(4, .int y6), (0, .ref a_this), (1, .int x1), (2, .int x2)]) C.1 C.2.1 dX8_link_72 hl (by decide) rfl (fun ls hl => ?_)
      refine lv_aload_n C.1 C.2.1 dX8_link_74 rfl (lv_at hl 1 rfl) ?_
      obtain ⟨r8, hc9, hf⟩ := bd hf
      refine call_Vv (ws' := (wX8_link cI cL cS cH a_this a_this_st a_this_past a_this_image a_this_imagePast a_this_tape a_this_laneOf a_this_sizeOf a_this_items a_this_code a_this_from a_this_by a_this_far a_this_met a_this_told r2.1 q_imageActs q_tapeMany q_many q_round q_readAt q_isFault q_toldMany r2.2 r8)) (rest := []) C w (mX8_fouls l D cI cL cS cH _ a_this a_this_st a_this_past a_this_image a_this_imagePast a_this_tape a_this_laneOf a_this_sizeOf a_this_items a_this_code a_this_from a_this_by a_this_far a_this_met a_this_told r2.1 q_imageActs q_tapeMany q_many q_round q_readAt q_isFault q_toldMany r4 hc9) (cwV 0 C.2.2.2.2 gX8_link_X8_fouls rfl rfl rfl (by decide +kernel) ⟨Nat.le_of_ble_eq_true rfl, Nat.le_of_ble_eq_true rfl⟩) [0, 2] [1] 3 ⟨rfl, rfl, trivial⟩ ⟨rfl, rfl, trivial⟩ ⟨⟨_, rfl, rfl⟩, trivial⟩ rfl (by decide) (by decide) (ci := 8) (q0 := 0) rfl rfl rfl hl.1 rfl (lv_room (Nat.le_of_ble_eq_true rfl)) dX8_link_75 ⟨Nat.zero_le _, Nat.zero_le _⟩ (fun H locs w => ?_)
      refine lv_iload C.1 C.2.1 dX8_link_78 (lv_at hl 0 rfl) ?_
      refine lv_aload_n C.1 C.2.1 dX8_link_80 rfl (lv_at hl 1 rfl) ?_
      refine r_get C w inX8_link_X8 0 rfl rfl 0 (by decide) lkX8_link_7 rfl dX8_link_81 ?_
      refine lv_bipush (v := (8 : Int32)) C.1 C.2.1 dX8_link_84 (by decide) ?_
      obtain ⟨y10, hy11, hf⟩ := bd hf
      refine r_iald C w 2 0 rfl rfl (rd_in hy11) dX8_link_86 ?_
      refine lv_iconst (v := (-1 : Int32)) C.1 C.2.1 dX8_link_87 (by decide) ?_
      refine lv_ixor C.1 C.2.1 dX8_link_88 ?_
      refine lv_iand C.1 C.2.1 dX8_link_89 ?_
      obtain ⟨r12, hc13, hf⟩ := bd hf
      refine call_Si (ws' := (wX8_link cI cL cS cH a_this a_this_st a_this_past a_this_image a_this_imagePast a_this_tape a_this_laneOf a_this_sizeOf a_this_items a_this_code a_this_from a_this_by a_this_far a_this_met a_this_told r2.1 q_imageActs q_tapeMany q_many q_round q_readAt q_isFault q_toldMany r2.2 r8)) (rest := []) C w (mX8_sizeIn l D cI cL cS cH _ (y6 &&& (y10 ^^^ (-1 : Int32))) hc13) (va_cwS 1 C.2.2.2.2 gX8_link_X8_sizeIn rfl rfl rfl (by decide +kernel) ⟨Nat.le_of_ble_eq_true rfl, Nat.le_of_ble_eq_true rfl⟩) [] [0, 1, 2] 3 trivial trivial ⟨⟨_, rfl, rfl⟩, ⟨_, rfl, rfl⟩, ⟨_, rfl, rfl⟩, trivial⟩ rfl (by decide) (by decide) rfl hl.1 rfl (lv_room (Nat.le_of_ble_eq_true rfl)) dX8_link_90 ⟨Nat.zero_le _, Nat.zero_le _⟩ (fun H locs w => ?_)
      have hres := Option.some.inj hf
      subst hres
      exact ret_i C hr hlocks w rfl dX8_link_93
    · have hf := ite_t hf hq1
      refine lv_bipush (v := (-2 : Int32)) C.1 C.2.1 dX8_link_52 (by decide) ?_
      have hres := Option.some.inj hf
      subst hres
      exact ret_i C hr hlocks w rfl dX8_link_54
  refine lv_aload_n C.1 C.2.1 dX8_link_0 rfl (lv_at hl 0 rfl) ?_
  refine lv_iload_n C.1 C.2.1 dX8_link_1 rfl (lv_at hl 1 rfl) ?_
  obtain ⟨r14, hc15, hf⟩ := bd hf
  refine call_Vi (ws' := (wX8_link cI cL cS cH a_this a_this_st a_this_past a_this_image a_this_imagePast a_this_tape a_this_laneOf a_this_sizeOf a_this_items a_this_code a_this_from a_this_by a_this_far a_this_met a_this_told q_acts q_imageActs q_tapeMany q_many q_round q_readAt q_isFault q_toldMany q_past q_st)) (rest := []) C w (mX8_isNode l D cI cL cS cH _ a_this a_this_st a_this_past a_this_image a_this_imagePast a_this_tape a_this_laneOf a_this_sizeOf a_this_items a_this_code a_this_from a_this_by a_this_far a_this_met a_this_told q_acts q_imageActs q_tapeMany q_many q_round q_readAt q_isFault q_toldMany q_st x1 hc15) (cwV 1 C.2.2.2.2 gX8_link_X8_isNode rfl rfl rfl (by decide +kernel) ⟨Nat.le_of_ble_eq_true rfl, Nat.le_of_ble_eq_true rfl⟩) [0, 2] [1] 3 ⟨rfl, rfl, trivial⟩ ⟨rfl, rfl, trivial⟩ ⟨⟨_, rfl, rfl⟩, trivial⟩ rfl (by decide) (by decide) (ci := 8) (q0 := 0) rfl rfl rfl hl.1 rfl (lv_room (Nat.le_of_ble_eq_true rfl)) dX8_link_2 ⟨Nat.zero_le _, Nat.zero_le _⟩ (fun H locs w => ?_)
  refine lv_if_eq (tgt := 31) C.1 C.2.1 dX8_link_5 (by decide) (fun hq16 => ?_) (fun hq16 => ?_)
  · have hf := ite_t hf hq16
    refine lv_iconst (v := (-1 : Int32)) C.1 C.2.1 dX8_link_31 (by decide) ?_
    have hres := Option.some.inj hf
    subst hres
    exact ret_i C hr hlocks w rfl dX8_link_32
  · have hf := ite_f hf hq16
    refine lv_aload_n C.1 C.2.1 dX8_link_8 rfl (lv_at hl 0 rfl) ?_
    refine lv_iload_n C.1 C.2.1 dX8_link_9 rfl (lv_at hl 2 rfl) ?_
    obtain ⟨r17, hc18, hf⟩ := bd hf
    refine call_Vi (ws' := (wX8_link cI cL cS cH a_this a_this_st a_this_past a_this_image a_this_imagePast a_this_tape a_this_laneOf a_this_sizeOf a_this_items a_this_code a_this_from a_this_by a_this_far a_this_met a_this_told q_acts q_imageActs q_tapeMany q_many q_round q_readAt q_isFault q_toldMany q_past q_st)) (rest := []) C w (mX8_isNode l D cI cL cS cH _ a_this a_this_st a_this_past a_this_image a_this_imagePast a_this_tape a_this_laneOf a_this_sizeOf a_this_items a_this_code a_this_from a_this_by a_this_far a_this_met a_this_told q_acts q_imageActs q_tapeMany q_many q_round q_readAt q_isFault q_toldMany q_st x2 hc18) (cwV 1 C.2.2.2.2 gX8_link_X8_isNode rfl rfl rfl (by decide +kernel) ⟨Nat.le_of_ble_eq_true rfl, Nat.le_of_ble_eq_true rfl⟩) [0, 2] [1] 3 ⟨rfl, rfl, trivial⟩ ⟨rfl, rfl, trivial⟩ ⟨⟨_, rfl, rfl⟩, trivial⟩ rfl (by decide) (by decide) (ci := 8) (q0 := 0) rfl rfl rfl hl.1 rfl (lv_room (Nat.le_of_ble_eq_true rfl)) dX8_link_10 ⟨Nat.zero_le _, Nat.zero_le _⟩ (fun H locs w => ?_)
    refine lv_if_eq (tgt := 31) C.1 C.2.1 dX8_link_13 (by decide) (fun hq19 => ?_) (fun hq19 => ?_)
    · have hf := ite_t hf hq19
      refine lv_iconst (v := (-1 : Int32)) C.1 C.2.1 dX8_link_31 (by decide) ?_
      have hres := Option.some.inj hf
      subst hres
      exact ret_i C hr hlocks w rfl dX8_link_32
    · have hf := ite_f hf hq19
      refine lv_iload_n C.1 C.2.1 dX8_link_16 rfl (lv_at hl 1 rfl) ?_
      refine lv_iload_n C.1 C.2.1 dX8_link_17 rfl (lv_at hl 2 rfl) ?_
      refine lv_icmp_eq (tgt := 31) C.1 C.2.1 dX8_link_18 (by decide) (fun hq20 => ?_) (fun hq20 => ?_)
      · have hf := ite_t hf hq20
        refine lv_iconst (v := (-1 : Int32)) C.1 C.2.1 dX8_link_31 (by decide) ?_
        have hres := Option.some.inj hf
        subst hres
        exact ret_i C hr hlocks w rfl dX8_link_32
      · have hf := ite_f hf hq20
        refine lv_iload_n C.1 C.2.1 dX8_link_21 rfl (lv_at hl 3 rfl) ?_
        refine lv_i2l C.1 C.2.1 dX8_link_22 rfl ?_
        refine lv_lconst (v := (0 : Int64)) C.1 C.2.1 dX8_link_23 (by decide) ?_
        refine lv_lconst (v := (1 : Int64)) C.1 C.2.1 dX8_link_24 (by decide) ?_
        obtain ⟨r21, hc22, hf⟩ := bd hf
        refine call_Si (ws' := (wX8_link cI cL cS cH a_this a_this_st a_this_past a_this_image a_this_imagePast a_this_tape a_this_laneOf a_this_sizeOf a_this_items a_this_code a_this_from a_this_by a_this_far a_this_met a_this_told q_acts q_imageActs q_tapeMany q_many q_round q_readAt q_isFault q_toldMany q_past q_st)) (rest := []) C w (mX8_in l D cI cL cS cH _ ((x3).toInt64) (0 : Int64) (1 : Int64) hc22) (va_cwS 3 C.2.2.2.2 gX8_link_X8_in rfl rfl rfl (by decide +kernel) ⟨Nat.le_of_ble_eq_true rfl, Nat.le_of_ble_eq_true rfl⟩) [] [0, 1, 2] 3 trivial trivial ⟨⟨_, rfl, rfl⟩, ⟨_, rfl, rfl⟩, ⟨_, rfl, rfl⟩, trivial⟩ rfl (by decide) (by decide) rfl hl.1 rfl (lv_room (Nat.le_of_ble_eq_true rfl)) dX8_link_25 ⟨Nat.zero_le _, Nat.zero_le _⟩ (fun H locs w => ?_)
        refine lv_if_ne (tgt := 33) C.1 C.2.1 dX8_link_28 (by decide) (fun hq23 => ?_) (fun hq23 => ?_)
        · have hf := ite_f hf hq23
          refine lv_aload_n C.1 C.2.1 dX8_link_33 rfl (lv_at hl 0 rfl) ?_
          refine lv_iload_n C.1 C.2.1 dX8_link_34 rfl (lv_at hl 1 rfl) ?_
          refine lv_iload_n C.1 C.2.1 dX8_link_35 rfl (lv_at hl 2 rfl) ?_
          obtain ⟨r24, hc25, hf⟩ := bd hf
          refine call_Vi (ws' := (wX8_link cI cL cS cH a_this a_this_st a_this_past a_this_image a_this_imagePast a_this_tape a_this_laneOf a_this_sizeOf a_this_items a_this_code a_this_from a_this_by a_this_far a_this_met a_this_told q_acts q_imageActs q_tapeMany q_many q_round q_readAt q_isFault q_toldMany q_past q_st)) (rest := []) C w (mX8_areLinked l D cI cL cS cH _ a_this a_this_st a_this_past a_this_image a_this_imagePast a_this_tape a_this_laneOf a_this_sizeOf a_this_items a_this_code a_this_from a_this_by a_this_far a_this_met a_this_told q_acts q_imageActs q_tapeMany q_many q_round q_readAt q_isFault q_toldMany q_st x1 x2 hc25) (cwV 2 C.2.2.2.2 gX8_link_X8_areLinked rfl rfl rfl (by decide +kernel) ⟨Nat.le_of_ble_eq_true rfl, Nat.le_of_ble_eq_true rfl⟩) [0, 2] [1] 3 ⟨rfl, rfl, trivial⟩ ⟨rfl, rfl, trivial⟩ ⟨⟨_, rfl, rfl⟩, trivial⟩ rfl (by decide) (by decide) (ci := 8) (q0 := 0) rfl rfl rfl hl.1 rfl (lv_room (Nat.le_of_ble_eq_true rfl)) dX8_link_36 ⟨Nat.zero_le _, Nat.zero_le _⟩ (fun H locs w => ?_)
          refine lv_iload_n C.1 C.2.1 dX8_link_39 rfl (lv_at hl 3 rfl) ?_
          refine lv_iconst (v := (1 : Int32)) C.1 C.2.1 dX8_link_40 (by decide) ?_
          refine lv_icmp_ne (tgt := 48) C.1 C.2.1 dX8_link_41 (by decide) (fun hq26 => ?_) (fun hq26 => ?_)
          · have hf := ite_f hf hq26
            refine lv_iconst (v := (0 : Int32)) C.1 C.2.1 dX8_link_48 (by decide) ?_
            exact hj49 (0 : Int32) r24 q_acts q_past q_st _ _ _ w (lv_sub hl [0, 1, 2] rfl) hf
          · have hf := ite_t hf hq26
            refine lv_iconst (v := (1 : Int32)) C.1 C.2.1 dX8_link_44 (by decide) ?_
            refine lv_goto (tgt := 49) C.1 C.2.1 dX8_link_45 (by decide) ?_
            exact hj49 (1 : Int32) r24 q_acts q_past q_st _ _ _ w (lv_sub hl [0, 1, 2] rfl) hf
        · have hf := ite_t hf hq23
          refine lv_iconst (v := (-1 : Int32)) C.1 C.2.1 dX8_link_31 (by decide) ?_
          have hres := Option.some.inj hf
          subst hres
          exact ret_i C hr hlocks w rfl dX8_link_32

set_option maxRecDepth 100000 in
theorem inX8_tell_X8 : ∀ w ∈ u_ws RX8 TX8 22, w ∈ wsX8_tell := by decide +kernel
set_option maxRecDepth 100000 in
theorem lkX8_tell_7 : Cond.fieldLink RX8 7 "CleanNetsModel" "st" "[I" ∈ wsX8_tell := by decide +kernel
abbrev wX8_tell (cI cL cS cH : ClassId) (a_this : Nat) (a_this_st : Nat) (a_this_past : Nat) (a_this_image : Nat) (a_this_imagePast : Nat) (a_this_tape : Nat) (a_this_laneOf : Nat) (a_this_sizeOf : Nat) (a_this_items : Nat) (a_this_code : Nat) (a_this_from : Nat) (a_this_by : Nat) (a_this_far : Nat) (a_this_met : Nat) (a_this_told : Nat) (q_acts : Int32) (q_imageActs : Int32) (q_tapeMany : Int32) (q_many : Int32) (q_round : Int32) (q_readAt : Int32) (q_isFault : Int32) (q_toldMany : Int32) (q_past : Nat → Int32) (q_st : Nat → Int32) : va_W := [(a_this, .inr (8, [.ref a_this_st, .ref a_this_past, .int q_acts, .ref a_this_image, .ref a_this_imagePast, .int q_imageActs, .ref a_this_tape, .int q_tapeMany, .ref a_this_laneOf, .ref a_this_sizeOf, .ref a_this_items, .ref a_this_code, .ref a_this_from, .ref a_this_by, .ref a_this_far, .int q_many, .ref a_this_met, .int q_round, .int q_readAt, .int q_isFault, .int q_toldMany, .ref a_this_told])),
  (a_this_past, .inl (cI, 78, .inl q_past)),
  (a_this_st, .inl (cI, 13, .inl q_st))]
def jX8_tell_35  (x1 : Int32) (x2 : Int32) (k35_q_acts : Int32) (k35_q_past : Nat → Int32) (k35_q_st : Nat → Int32) : Option (Int32 × Int32 × (Nat → Int32) × (Nat → Int32)) := Option.bind (rd k35_q_st 13 ((10 : Int32) + x1)) (fun y1 => (if y1 = x2 then some ((-2 : Int32), k35_q_acts, k35_q_past, k35_q_st) else Option.bind (fX8_notes k35_q_acts k35_q_past k35_q_st) (fun r4 => Option.bind (wi k35_q_st 13 ((10 : Int32) + x1) x2) (fun g6 => some (y1, r4.1, r4.2, g6)))))
def jX8_tell_16  (x1 : Int32) (x2 : Int32) (k16_q_acts : Int32) (k16_q_past : Nat → Int32) (k16_q_st : Nat → Int32) : Option (Int32 × Int32 × (Nat → Int32) × (Nat → Int32)) := (if x1 = (1 : Int32) then Option.bind (fX8_in ((x2).toInt64) (1 : Int64) (7 : Int64)) (fun r9 => (if r9 = 0 then some ((-1 : Int32), k16_q_acts, k16_q_past, k16_q_st) else jX8_tell_35 x1 x2 k16_q_acts k16_q_past k16_q_st)) else some ((-1 : Int32), k16_q_acts, k16_q_past, k16_q_st))
def fX8_tell (q_acts : Int32) (q_past : Nat → Int32) (q_st : Nat → Int32) (x1 : Int32) (x2 : Int32) : Option (Int32 × Int32 × (Nat → Int32) × (Nat → Int32)) := (if x1 = 0 then Option.bind (fX8_in ((x2).toInt64) (0 : Int64) (2 : Int64)) (fun r13 => (if r13 = 0 then jX8_tell_16 x1 x2 q_acts q_past q_st else jX8_tell_35 x1 x2 q_acts q_past q_st)) else jX8_tell_16 x1 x2 q_acts q_past q_st)
abbrev gX8_tell (p : Program) (l : Launch) (e : Env) (s : State) (m : MethodId) (below : List Frame) (meth : Method) (c : Code) (D : vg) (cI cL cS cH : ClassId) (a_this : Nat) (a_this_st : Nat) (a_this_past : Nat) (a_this_image : Nat) (a_this_imagePast : Nat) (a_this_tape : Nat) (a_this_laneOf : Nat) (a_this_sizeOf : Nat) (a_this_items : Nat) (a_this_code : Nat) (a_this_from : Nat) (a_this_by : Nat) (a_this_far : Nat) (a_this_met : Nat) (a_this_told : Nat) (q_acts : Int32) (q_imageActs : Int32) (q_tapeMany : Int32) (q_many : Int32) (q_round : Int32) (q_readAt : Int32) (q_isFault : Int32) (q_toldMany : Int32) (q_past : Nat → Int32) (q_st : Nat → Int32) (x1 : Int32) (x2 : Int32) (res : Int32 × Int32 × (Nat → Int32) × (Nat → Int32)) (H : Heap) (locs : List Loc) (g : JFrame) : Prop := W p l e (headSpec wsX8_tell ({ frames := 2, cells := 0, slots := 0, locals := 45 })).room s m ([.ref a_this, .int x1, .int x2] : List Value).toArray below meth c H locs 0 0 (MQ below (va_Qi (fun r' (_ : Unit) => r' = res.1) (fun _ t => pos1 D s.heap.size (wX8_tell cI cL cS cH a_this a_this_st a_this_past a_this_image a_this_imagePast a_this_tape a_this_laneOf a_this_sizeOf a_this_items a_this_code a_this_from a_this_by a_this_far a_this_met a_this_told q_acts q_imageActs q_tapeMany q_many q_round q_readAt q_isFault q_toldMany q_past q_st) (wX8_tell cI cL cS cH a_this a_this_st a_this_past a_this_image a_this_imagePast a_this_tape a_this_laneOf a_this_sizeOf a_this_items a_this_code a_this_from a_this_by a_this_far a_this_met a_this_told res.2.1 q_imageActs q_tapeMany q_many q_round q_readAt q_isFault q_toldMany res.2.2.1 res.2.2.2) t) (va_A (wX8_tell cI cL cS cH a_this a_this_st a_this_past a_this_image a_this_imagePast a_this_tape a_this_laneOf a_this_sizeOf a_this_items a_this_code a_this_from a_this_by a_this_far a_this_met a_this_told q_acts q_imageActs q_tapeMany q_many q_round q_readAt q_isFault q_toldMany q_past q_st) s.heap.size)) ([.ref a_this, .int x1, .int x2] : List Value).toArray s 0 0 (va_A (wX8_tell cI cL cS cH a_this a_this_st a_this_past a_this_image a_this_imagePast a_this_tape a_this_laneOf a_this_sizeOf a_this_items a_this_code a_this_from a_this_by a_this_far a_this_met a_this_told q_acts q_imageActs q_tapeMany q_many q_round q_readAt q_isFault q_toldMany q_past q_st) s.heap.size)) g
set_option maxHeartbeats 4000000 in
set_option maxRecDepth 100000 in
theorem mX8_tell (l : Launch) (D : vg) (cI cL cS cH : ClassId) (sz : Nat) (a_this : Nat) (a_this_st : Nat) (a_this_past : Nat) (a_this_image : Nat) (a_this_imagePast : Nat) (a_this_tape : Nat) (a_this_laneOf : Nat) (a_this_sizeOf : Nat) (a_this_items : Nat) (a_this_code : Nat) (a_this_from : Nat) (a_this_by : Nat) (a_this_far : Nat) (a_this_met : Nat) (a_this_told : Nat) (q_acts : Int32) (q_imageActs : Int32) (q_tapeMany : Int32) (q_many : Int32) (q_round : Int32) (q_readAt : Int32) (q_isFault : Int32) (q_toldMany : Int32) (q_past : Nat → Int32) (q_st : Nat → Int32) (x1 : Int32) (x2 : Int32) {res : Int32 × Int32 × (Nat → Int32) × (Nat → Int32)} (hf : fX8_tell q_acts q_past q_st x1 x2 = some res) : cti l yX8_tell wsX8_tell ({ frames := 2, cells := 0, slots := 0, locals := 45 }) D (ty4 cI cL cS cH) sz [.ref a_this, .int x1, .int x2] (wX8_tell cI cL cS cH a_this a_this_st a_this_past a_this_image a_this_imagePast a_this_tape a_this_laneOf a_this_sizeOf a_this_items a_this_code a_this_from a_this_by a_this_far a_this_met a_this_told q_acts q_imageActs q_tapeMany q_many q_round q_readAt q_isFault q_toldMany q_past q_st) (wX8_tell cI cL cS cH a_this a_this_st a_this_past a_this_image a_this_imagePast a_this_tape a_this_laneOf a_this_sizeOf a_this_items a_this_code a_this_from a_this_by a_this_far a_this_met a_this_told res.2.1 q_imageActs q_tapeMany q_many q_round q_readAt q_isFault q_toldMany res.2.2.1 res.2.2.2) res.1 := by
  refine Met.ofW (cc := cX8_tell) (maxL := 4) (ret := (some .int)) (by decide) rfl ?_
  intro p e s m args below meth c s₁ B hml hv
  obtain ⟨rfl, hpre⟩ := hv
  obtain rfl := hpre.1
  have C : CallFix p m c cX8_tell 4 s _ wsX8_tell RX8 := ⟨B.exec, B.bytes, hml, findClass_of_methodNamed B.named, atoms_spec (ws := wsX8_tell) B.pre⟩
  have hr := B.returns
  have hlocks := B.notSynchronized
  have w := wd_start hpre
  clear hpre B
  have hl := lv_entry ([.ref a_this, .int x1, .int x2]) (n := 4) (Nat.le_of_ble_eq_true rfl)
  rw [lg_entry_eq]
  generalize (lg_sl ([.ref a_this, .int x1, .int x2]) ++ List.replicate (4 - (lg_sl ([.ref a_this, .int x1, .int x2])).length) Slot.unset).toArray = ls at hl ⊢
  have hl : lv_has ls 4 [(0, .ref a_this), (1, .int x1), (2, .int x2)] := hl
  unfold fX8_tell at hf
  have hj35 : ∀ (k35_q_acts : Int32) (k35_q_past : Nat → Int32) (k35_q_st : Nat → Int32) (H : Heap) (locs : List Loc) (ls : Array Slot), wd D (ty4 cI cL cS cH) s (va_A (wX8_tell cI cL cS cH a_this a_this_st a_this_past a_this_image a_this_imagePast a_this_tape a_this_laneOf a_this_sizeOf a_this_items a_this_code a_this_from a_this_by a_this_far a_this_met a_this_told q_acts q_imageActs q_tapeMany q_many q_round q_readAt q_isFault q_toldMany q_past q_st) s.heap.size) s.heap H locs (wX8_tell cI cL cS cH a_this a_this_st a_this_past a_this_image a_this_imagePast a_this_tape a_this_laneOf a_this_sizeOf a_this_items a_this_code a_this_from a_this_by a_this_far a_this_met a_this_told k35_q_acts q_imageActs q_tapeMany q_many q_round q_readAt q_isFault q_toldMany k35_q_past k35_q_st) → lv_has ls 4 [(0, .ref a_this), (1, .int x1), (2, .int x2)] → jX8_tell_35 x1 x2 k35_q_acts k35_q_past k35_q_st = some res → gX8_tell p l e s m below meth c D cI cL cS cH a_this a_this_st a_this_past a_this_image a_this_imagePast a_this_tape a_this_laneOf a_this_sizeOf a_this_items a_this_code a_this_from a_this_by a_this_far a_this_met a_this_told q_acts q_imageActs q_tapeMany q_many q_round q_readAt q_isFault q_toldMany q_past q_st x1 x2 res H locs (F0 m 35 ls []) := by
    intro k35_q_acts k35_q_past k35_q_st H locs ls w hl hf
    unfold jX8_tell_35 at hf
    refine lv_aload_n C.1 C.2.1 dX8_tell_35 rfl (lv_at hl 0 rfl) ?_
    refine r_get C w inX8_tell_X8 0 rfl rfl 0 (by decide) lkX8_tell_7 rfl dX8_tell_36 ?_
    refine lv_bipush (v := (10 : Int32)) C.1 C.2.1 dX8_tell_39 (by decide) ?_
    refine lv_iload_n C.1 C.2.1 dX8_tell_41 rfl (lv_at hl 1 rfl) ?_
    refine lv_iadd C.1 C.2.1 dX8_tell_42 ?_
    obtain ⟨y1, hy2, hf⟩ := bd hf
    refine r_iald C w 2 0 rfl rfl (rd_in hy2) dX8_tell_43 ?_
    refine lv_istore_n (lv' := [(3, .int y1), (0, .ref a_this), (1, .int x1), (2, .int x2)]) C.1 C.2.1 dX8_tell_44 rfl hl (by decide) rfl (fun ls hl => ?_)
    refine lv_iload_n C.1 C.2.1 dX8_tell_45 rfl (lv_at hl 0 rfl) ?_
    refine lv_iload_n C.1 C.2.1 dX8_tell_46 rfl (lv_at hl 3 rfl) ?_
    refine lv_icmp_ne (tgt := 53) C.1 C.2.1 dX8_tell_47 (by decide) (fun hq3 => ?_) (fun hq3 => ?_)
    · have hf := ite_f hf hq3
      refine lv_aload_n C.1 C.2.1 dX8_tell_53 rfl (lv_at hl 1 rfl) ?_
      obtain ⟨r4, hc5, hf⟩ := bd hf
      refine call_Vv (ws' := (wX8_tell cI cL cS cH a_this a_this_st a_this_past a_this_image a_this_imagePast a_this_tape a_this_laneOf a_this_sizeOf a_this_items a_this_code a_this_from a_this_by a_this_far a_this_met a_this_told r4.1 q_imageActs q_tapeMany q_many q_round q_readAt q_isFault q_toldMany r4.2 k35_q_st)) (rest := []) C w (mX8_notes l D cI cL cS cH _ a_this a_this_st a_this_past a_this_image a_this_imagePast a_this_tape a_this_laneOf a_this_sizeOf a_this_items a_this_code a_this_from a_this_by a_this_far a_this_met a_this_told k35_q_acts q_imageActs q_tapeMany q_many q_round q_readAt q_isFault q_toldMany k35_q_past k35_q_st hc5) (cwV 0 C.2.2.2.2 gX8_tell_X8_notes rfl rfl rfl (by decide +kernel) ⟨Nat.le_of_ble_eq_true rfl, Nat.le_of_ble_eq_true rfl⟩) [0, 1, 2] [] 3 ⟨rfl, rfl, rfl, trivial⟩ ⟨rfl, rfl, rfl, trivial⟩ trivial rfl (by decide) (by decide) (ci := 8) (q0 := 0) rfl rfl rfl hl.1 rfl (lv_room (Nat.le_of_ble_eq_true rfl)) dX8_tell_54 ⟨Nat.zero_le _, Nat.zero_le _⟩ (fun H locs w => ?_)
      refine lv_aload_n C.1 C.2.1 dX8_tell_57 rfl (lv_at hl 1 rfl) ?_
      refine r_get C w inX8_tell_X8 0 rfl rfl 0 (by decide) lkX8_tell_7 rfl dX8_tell_58 ?_
      refine lv_bipush (v := (10 : Int32)) C.1 C.2.1 dX8_tell_61 (by decide) ?_
      refine lv_iload_n C.1 C.2.1 dX8_tell_63 rfl (lv_at hl 2 rfl) ?_
      refine lv_iadd C.1 C.2.1 dX8_tell_64 ?_
      refine lv_iload_n C.1 C.2.1 dX8_tell_65 rfl (lv_at hl 3 rfl) ?_
      obtain ⟨g6, hg7, hf⟩ := bd hf
      refine r_iast (ws' := (wX8_tell cI cL cS cH a_this a_this_st a_this_past a_this_image a_this_imagePast a_this_tape a_this_laneOf a_this_sizeOf a_this_items a_this_code a_this_from a_this_by a_this_far a_this_met a_this_told r4.1 q_imageActs q_tapeMany q_many q_round q_readAt q_isFault q_toldMany r4.2 g6)) C w 2 0 rfl rfl (wi_in hg7) rfl dX8_tell_66 (fun H locs w => ?_)
      refine lv_iload_n C.1 C.2.1 dX8_tell_67 rfl (lv_at hl 0 rfl) ?_
      have hres := Option.some.inj hf
      subst hres
      exact ret_i C hr hlocks w rfl dX8_tell_68
    · have hf := ite_t hf hq3
      refine lv_bipush (v := (-2 : Int32)) C.1 C.2.1 dX8_tell_50 (by decide) ?_
      have hres := Option.some.inj hf
      subst hres
      exact ret_i C hr hlocks w rfl dX8_tell_52
  have hj16 : ∀ (k16_q_acts : Int32) (k16_q_past : Nat → Int32) (k16_q_st : Nat → Int32) (H : Heap) (locs : List Loc) (ls : Array Slot), wd D (ty4 cI cL cS cH) s (va_A (wX8_tell cI cL cS cH a_this a_this_st a_this_past a_this_image a_this_imagePast a_this_tape a_this_laneOf a_this_sizeOf a_this_items a_this_code a_this_from a_this_by a_this_far a_this_met a_this_told q_acts q_imageActs q_tapeMany q_many q_round q_readAt q_isFault q_toldMany q_past q_st) s.heap.size) s.heap H locs (wX8_tell cI cL cS cH a_this a_this_st a_this_past a_this_image a_this_imagePast a_this_tape a_this_laneOf a_this_sizeOf a_this_items a_this_code a_this_from a_this_by a_this_far a_this_met a_this_told k16_q_acts q_imageActs q_tapeMany q_many q_round q_readAt q_isFault q_toldMany k16_q_past k16_q_st) → lv_has ls 4 [(0, .ref a_this), (1, .int x1), (2, .int x2)] → jX8_tell_16 x1 x2 k16_q_acts k16_q_past k16_q_st = some res → gX8_tell p l e s m below meth c D cI cL cS cH a_this a_this_st a_this_past a_this_image a_this_imagePast a_this_tape a_this_laneOf a_this_sizeOf a_this_items a_this_code a_this_from a_this_by a_this_far a_this_met a_this_told q_acts q_imageActs q_tapeMany q_many q_round q_readAt q_isFault q_toldMany q_past q_st x1 x2 res H locs (F0 m 16 ls []) := by
    intro k16_q_acts k16_q_past k16_q_st H locs ls w hl hf
    unfold jX8_tell_16 at hf
    refine lv_iload_n C.1 C.2.1 dX8_tell_16 rfl (lv_at hl 1 rfl) ?_
    refine lv_iconst (v := (1 : Int32)) C.1 C.2.1 dX8_tell_17 (by decide) ?_
    refine lv_icmp_ne (tgt := 33) C.1 C.2.1 dX8_tell_18 (by decide) (fun hq8 => ?_) (fun hq8 => ?_)
    · have hf := ite_f hf hq8
      refine lv_iconst (v := (-1 : Int32)) C.1 C.2.1 dX8_tell_33 (by decide) ?_
      have hres := Option.some.inj hf
      subst hres
      exact ret_i C hr hlocks w rfl dX8_tell_34
    · have hf := ite_t hf hq8
      refine lv_iload_n C.1 C.2.1 dX8_tell_21 rfl (lv_at hl 2 rfl) ?_
      refine lv_i2l C.1 C.2.1 dX8_tell_22 rfl ?_
      refine lv_lconst (v := (1 : Int64)) C.1 C.2.1 dX8_tell_23 (by decide) ?_
      refine lv_ldc2 (v := (7 : Int64)) C.1 C.2.1 C.2.2.2.1 (C.2.2.2.2 (.constantLong RX8 161 (7 : Int64)) (by decide +kernel)) dX8_tell_24 ?_
      obtain ⟨r9, hc10, hf⟩ := bd hf
      refine call_Si (ws' := (wX8_tell cI cL cS cH a_this a_this_st a_this_past a_this_image a_this_imagePast a_this_tape a_this_laneOf a_this_sizeOf a_this_items a_this_code a_this_from a_this_by a_this_far a_this_met a_this_told k16_q_acts q_imageActs q_tapeMany q_many q_round q_readAt q_isFault q_toldMany k16_q_past k16_q_st)) (rest := []) C w (mX8_in l D cI cL cS cH _ ((x2).toInt64) (1 : Int64) (7 : Int64) hc10) (va_cwS 3 C.2.2.2.2 gX8_tell_X8_in rfl rfl rfl (by decide +kernel) ⟨Nat.le_of_ble_eq_true rfl, Nat.le_of_ble_eq_true rfl⟩) [] [0, 1, 2] 3 trivial trivial ⟨⟨_, rfl, rfl⟩, ⟨_, rfl, rfl⟩, ⟨_, rfl, rfl⟩, trivial⟩ rfl (by decide) (by decide) rfl hl.1 rfl (lv_room (Nat.le_of_ble_eq_true rfl)) dX8_tell_27 ⟨Nat.zero_le _, Nat.zero_le _⟩ (fun H locs w => ?_)
      refine lv_if_ne (tgt := 35) C.1 C.2.1 dX8_tell_30 (by decide) (fun hq11 => ?_) (fun hq11 => ?_)
      · have hf := ite_f hf hq11
        exact hj35 k16_q_acts k16_q_past k16_q_st _ _ _ w (lv_sub hl [0, 1, 2] rfl) hf
      · have hf := ite_t hf hq11
        refine lv_iconst (v := (-1 : Int32)) C.1 C.2.1 dX8_tell_33 (by decide) ?_
        have hres := Option.some.inj hf
        subst hres
        exact ret_i C hr hlocks w rfl dX8_tell_34
  refine lv_iload_n C.1 C.2.1 dX8_tell_0 rfl (lv_at hl 1 rfl) ?_
  refine lv_if_ne (tgt := 16) C.1 C.2.1 dX8_tell_1 (by decide) (fun hq12 => ?_) (fun hq12 => ?_)
  · have hf := ite_f hf hq12
    exact hj16 q_acts q_past q_st _ _ _ w (lv_sub hl [0, 1, 2] rfl) hf
  · have hf := ite_t hf hq12
    refine lv_iload_n C.1 C.2.1 dX8_tell_4 rfl (lv_at hl 2 rfl) ?_
    refine lv_i2l C.1 C.2.1 dX8_tell_5 rfl ?_
    refine lv_lconst (v := (0 : Int64)) C.1 C.2.1 dX8_tell_6 (by decide) ?_
    refine lv_ldc2 (v := (2 : Int64)) C.1 C.2.1 C.2.2.2.1 (C.2.2.2.2 (.constantLong RX8 152 (2 : Int64)) (by decide +kernel)) dX8_tell_7 ?_
    obtain ⟨r13, hc14, hf⟩ := bd hf
    refine call_Si (ws' := (wX8_tell cI cL cS cH a_this a_this_st a_this_past a_this_image a_this_imagePast a_this_tape a_this_laneOf a_this_sizeOf a_this_items a_this_code a_this_from a_this_by a_this_far a_this_met a_this_told q_acts q_imageActs q_tapeMany q_many q_round q_readAt q_isFault q_toldMany q_past q_st)) (rest := []) C w (mX8_in l D cI cL cS cH _ ((x2).toInt64) (0 : Int64) (2 : Int64) hc14) (va_cwS 3 C.2.2.2.2 gX8_tell_X8_in rfl rfl rfl (by decide +kernel) ⟨Nat.le_of_ble_eq_true rfl, Nat.le_of_ble_eq_true rfl⟩) [] [0, 1, 2] 3 trivial trivial ⟨⟨_, rfl, rfl⟩, ⟨_, rfl, rfl⟩, ⟨_, rfl, rfl⟩, trivial⟩ rfl (by decide) (by decide) rfl hl.1 rfl (lv_room (Nat.le_of_ble_eq_true rfl)) dX8_tell_10 ⟨Nat.zero_le _, Nat.zero_le _⟩ (fun H locs w => ?_)
    refine lv_if_ne (tgt := 35) C.1 C.2.1 dX8_tell_13 (by decide) (fun hq15 => ?_) (fun hq15 => ?_)
    · have hf := ite_f hf hq15
      exact hj35 q_acts q_past q_st _ _ _ w (lv_sub hl [0, 1, 2] rfl) hf
    · have hf := ite_t hf hq15
      exact hj16 q_acts q_past q_st _ _ _ w (lv_sub hl [0, 1, 2] rfl) hf

set_option maxRecDepth 100000 in
theorem inX8_type_X8 : ∀ w ∈ u_ws RX8 TX8 22, w ∈ wsX8_type := by decide +kernel
set_option maxRecDepth 100000 in
theorem lkX8_type_184 : Cond.fieldLink RX8 184 "CleanNetsModel" "tapeMany" "I" ∈ wsX8_type := by decide +kernel
set_option maxRecDepth 100000 in
theorem lkX8_type_26 : Cond.fieldLink RX8 26 "CleanNetsModel" "tape" "[I" ∈ wsX8_type := by decide +kernel
abbrev wX8_type (cI cL cS cH : ClassId) (a_this : Nat) (a_this_st : Nat) (a_this_past : Nat) (a_this_image : Nat) (a_this_imagePast : Nat) (a_this_tape : Nat) (a_this_laneOf : Nat) (a_this_sizeOf : Nat) (a_this_items : Nat) (a_this_code : Nat) (a_this_from : Nat) (a_this_by : Nat) (a_this_far : Nat) (a_this_met : Nat) (a_this_told : Nat) (q_acts : Int32) (q_imageActs : Int32) (q_tapeMany : Int32) (q_many : Int32) (q_round : Int32) (q_readAt : Int32) (q_isFault : Int32) (q_toldMany : Int32) (q_tape : Nat → Int32) : va_W := [(a_this, .inr (8, [.ref a_this_st, .ref a_this_past, .int q_acts, .ref a_this_image, .ref a_this_imagePast, .int q_imageActs, .ref a_this_tape, .int q_tapeMany, .ref a_this_laneOf, .ref a_this_sizeOf, .ref a_this_items, .ref a_this_code, .ref a_this_from, .ref a_this_by, .ref a_this_far, .int q_many, .ref a_this_met, .int q_round, .int q_readAt, .int q_isFault, .int q_toldMany, .ref a_this_told])),
  (a_this_tape, .inl (cI, 90, .inl q_tape))]
def fX8_type (q_tapeMany : Int32) (q_tape : Nat → Int32) (x1 : Int32) : Option (Int32 × Int32 × (Nat → Int32)) := Option.bind (fX8_in ((x1).toInt64) (32 : Int64) (126 : Int64)) (fun r1 => (if r1 = 0 then some ((-1 : Int32), q_tapeMany, q_tape) else (if q_tapeMany = (90 : Int32) then some ((-3 : Int32), q_tapeMany, q_tape) else Option.bind (wi q_tape 90 q_tapeMany x1) (fun g5 => some ((q_tapeMany + (1 : Int32)), (q_tapeMany + (1 : Int32)), g5)))))
set_option maxHeartbeats 4000000 in
set_option maxRecDepth 100000 in
theorem mX8_type (l : Launch) (D : vg) (cI cL cS cH : ClassId) (sz : Nat) (a_this : Nat) (a_this_st : Nat) (a_this_past : Nat) (a_this_image : Nat) (a_this_imagePast : Nat) (a_this_tape : Nat) (a_this_laneOf : Nat) (a_this_sizeOf : Nat) (a_this_items : Nat) (a_this_code : Nat) (a_this_from : Nat) (a_this_by : Nat) (a_this_far : Nat) (a_this_met : Nat) (a_this_told : Nat) (q_acts : Int32) (q_imageActs : Int32) (q_tapeMany : Int32) (q_many : Int32) (q_round : Int32) (q_readAt : Int32) (q_isFault : Int32) (q_toldMany : Int32) (q_tape : Nat → Int32) (x1 : Int32) {res : Int32 × Int32 × (Nat → Int32)} (hf : fX8_type q_tapeMany q_tape x1 = some res) : cti l yX8_type wsX8_type ({ frames := 1, cells := 0, slots := 0, locals := 25 }) D (ty4 cI cL cS cH) sz [.ref a_this, .int x1] (wX8_type cI cL cS cH a_this a_this_st a_this_past a_this_image a_this_imagePast a_this_tape a_this_laneOf a_this_sizeOf a_this_items a_this_code a_this_from a_this_by a_this_far a_this_met a_this_told q_acts q_imageActs q_tapeMany q_many q_round q_readAt q_isFault q_toldMany q_tape) (wX8_type cI cL cS cH a_this a_this_st a_this_past a_this_image a_this_imagePast a_this_tape a_this_laneOf a_this_sizeOf a_this_items a_this_code a_this_from a_this_by a_this_far a_this_met a_this_told q_acts q_imageActs res.2.1 q_many q_round q_readAt q_isFault q_toldMany res.2.2) res.1 := by
  refine Met.ofW (cc := cX8_type) (maxL := 2) (ret := (some .int)) (by decide) rfl ?_
  intro p e s m args below meth c s₁ B hml hv
  obtain ⟨rfl, hpre⟩ := hv
  obtain rfl := hpre.1
  have C : CallFix p m c cX8_type 2 s _ wsX8_type RX8 := ⟨B.exec, B.bytes, hml, findClass_of_methodNamed B.named, atoms_spec (ws := wsX8_type) B.pre⟩
  have hr := B.returns
  have hlocks := B.notSynchronized
  have w := wd_start hpre
  clear hpre B
  have hl := lv_entry ([.ref a_this, .int x1]) (n := 2) (Nat.le_of_ble_eq_true rfl)
  rw [lg_entry_eq]
  generalize (lg_sl ([.ref a_this, .int x1]) ++ List.replicate (2 - (lg_sl ([.ref a_this, .int x1])).length) Slot.unset).toArray = ls at hl ⊢
  have hl : lv_has ls 2 [(0, .ref a_this), (1, .int x1)] := hl
  unfold fX8_type at hf
  refine lv_iload_n C.1 C.2.1 dX8_type_0 rfl (lv_at hl 1 rfl) ?_
  refine lv_i2l C.1 C.2.1 dX8_type_1 rfl ?_
  refine lv_ldc2 (v := (32 : Int64)) C.1 C.2.1 C.2.2.2.1 (C.2.2.2.2 (.constantLong RX8 180 (32 : Int64)) (by decide +kernel)) dX8_type_2 ?_
  refine lv_ldc2 (v := (126 : Int64)) C.1 C.2.1 C.2.2.2.1 (C.2.2.2.2 (.constantLong RX8 182 (126 : Int64)) (by decide +kernel)) dX8_type_5 ?_
  obtain ⟨r1, hc2, hf⟩ := bd hf
  refine call_Si (ws' := (wX8_type cI cL cS cH a_this a_this_st a_this_past a_this_image a_this_imagePast a_this_tape a_this_laneOf a_this_sizeOf a_this_items a_this_code a_this_from a_this_by a_this_far a_this_met a_this_told q_acts q_imageActs q_tapeMany q_many q_round q_readAt q_isFault q_toldMany q_tape)) (rest := []) C w (mX8_in l D cI cL cS cH _ ((x1).toInt64) (32 : Int64) (126 : Int64) hc2) (va_cwS 3 C.2.2.2.2 gX8_type_X8_in rfl rfl rfl (by decide +kernel) ⟨Nat.le_of_ble_eq_true rfl, Nat.le_of_ble_eq_true rfl⟩) [] [0, 1] 2 trivial trivial ⟨⟨_, rfl, rfl⟩, ⟨_, rfl, rfl⟩, trivial⟩ rfl (by decide) (by decide) rfl hl.1 rfl (lv_room (Nat.le_of_ble_eq_true rfl)) dX8_type_8 ⟨Nat.zero_le _, Nat.zero_le _⟩ (fun H locs w => ?_)
  refine lv_if_ne (tgt := 16) C.1 C.2.1 dX8_type_11 (by decide) (fun hq3 => ?_) (fun hq3 => ?_)
  · have hf := ite_f hf hq3
    refine lv_aload_n C.1 C.2.1 dX8_type_16 rfl (lv_at hl 0 rfl) ?_
    refine r_get C w inX8_type_X8 0 rfl rfl 7 (by decide) lkX8_type_184 rfl dX8_type_17 ?_
    refine lv_bipush (v := (90 : Int32)) C.1 C.2.1 dX8_type_20 (by decide) ?_
    refine lv_icmp_ne (tgt := 28) C.1 C.2.1 dX8_type_22 (by decide) (fun hq4 => ?_) (fun hq4 => ?_)
    · have hf := ite_f hf hq4
      refine lv_aload_n C.1 C.2.1 dX8_type_28 rfl (lv_at hl 0 rfl) ?_
      refine r_get C w inX8_type_X8 0 rfl rfl 6 (by decide) lkX8_type_26 rfl dX8_type_29 ?_
      refine lv_aload_n C.1 C.2.1 dX8_type_32 rfl (lv_at hl 0 rfl) ?_
      refine r_get C w inX8_type_X8 0 rfl rfl 7 (by decide) lkX8_type_184 rfl dX8_type_33 ?_
      refine lv_iload_n C.1 C.2.1 dX8_type_36 rfl (lv_at hl 1 rfl) ?_
      obtain ⟨g5, hg6, hf⟩ := bd hf
      refine r_iast (ws' := (wX8_type cI cL cS cH a_this a_this_st a_this_past a_this_image a_this_imagePast a_this_tape a_this_laneOf a_this_sizeOf a_this_items a_this_code a_this_from a_this_by a_this_far a_this_met a_this_told q_acts q_imageActs q_tapeMany q_many q_round q_readAt q_isFault q_toldMany g5)) C w 1 0 rfl rfl (wi_in hg6) rfl dX8_type_37 (fun H locs w => ?_)
      refine lv_aload_n C.1 C.2.1 dX8_type_38 rfl (lv_at hl 0 rfl) ?_
      refine lv_dup C.1 C.2.1 dX8_type_39 rfl ?_
      refine r_get C w inX8_type_X8 0 rfl rfl 7 (by decide) lkX8_type_184 rfl dX8_type_40 ?_
      refine lv_iconst (v := (1 : Int32)) C.1 C.2.1 dX8_type_43 (by decide) ?_
      refine lv_iadd C.1 C.2.1 dX8_type_44 ?_
      refine r_put (ws' := (wX8_type cI cL cS cH a_this a_this_st a_this_past a_this_image a_this_imagePast a_this_tape a_this_laneOf a_this_sizeOf a_this_items a_this_code a_this_from a_this_by a_this_far a_this_met a_this_told q_acts q_imageActs (q_tapeMany + (1 : Int32)) q_many q_round q_readAt q_isFault q_toldMany g5)) C w inX8_type_X8 tyX8 tyX8_ok nmX8 0 rfl rfl 7 (by decide) lkX8_type_184 rfl rfl rfl (Nat.le_of_ble_eq_true rfl) rfl dX8_type_45 (fun H locs w => ?_)
      refine lv_aload_n C.1 C.2.1 dX8_type_48 rfl (lv_at hl 0 rfl) ?_
      refine r_get C w inX8_type_X8 0 rfl rfl 7 (by decide) lkX8_type_184 rfl dX8_type_49 ?_
      have hres := Option.some.inj hf
      subst hres
      exact ret_i C hr hlocks w rfl dX8_type_52
    · have hf := ite_t hf hq4
      refine lv_bipush (v := (-3 : Int32)) C.1 C.2.1 dX8_type_25 (by decide) ?_
      have hres := Option.some.inj hf
      subst hres
      exact ret_i C hr hlocks w rfl dX8_type_27
  · have hf := ite_t hf hq3
    refine lv_iconst (v := (-1 : Int32)) C.1 C.2.1 dX8_type_14 (by decide) ?_
    have hres := Option.some.inj hf
    subst hres
    exact ret_i C hr hlocks w rfl dX8_type_15

set_option maxRecDepth 100000 in
theorem inX8_looks_X8 : ∀ w ∈ u_ws RX8 TX8 22, w ∈ wsX8_looks := by decide +kernel
set_option maxRecDepth 100000 in
theorem lkX8_looks_187 : Cond.fieldLink RX8 187 "CleanNetsModel" "readAt" "I" ∈ wsX8_looks := by decide +kernel
set_option maxRecDepth 100000 in
theorem lkX8_looks_184 : Cond.fieldLink RX8 184 "CleanNetsModel" "tapeMany" "I" ∈ wsX8_looks := by decide +kernel
set_option maxRecDepth 100000 in
theorem lkX8_looks_26 : Cond.fieldLink RX8 26 "CleanNetsModel" "tape" "[I" ∈ wsX8_looks := by decide +kernel
abbrev wX8_looks (cI cL cS cH : ClassId) (a_this : Nat) (a_this_st : Nat) (a_this_past : Nat) (a_this_image : Nat) (a_this_imagePast : Nat) (a_this_tape : Nat) (a_this_laneOf : Nat) (a_this_sizeOf : Nat) (a_this_items : Nat) (a_this_code : Nat) (a_this_from : Nat) (a_this_by : Nat) (a_this_far : Nat) (a_this_met : Nat) (a_this_told : Nat) (q_acts : Int32) (q_imageActs : Int32) (q_tapeMany : Int32) (q_many : Int32) (q_round : Int32) (q_readAt : Int32) (q_isFault : Int32) (q_toldMany : Int32) (q_tape : Nat → Int32) : va_W := [(a_this, .inr (8, [.ref a_this_st, .ref a_this_past, .int q_acts, .ref a_this_image, .ref a_this_imagePast, .int q_imageActs, .ref a_this_tape, .int q_tapeMany, .ref a_this_laneOf, .ref a_this_sizeOf, .ref a_this_items, .ref a_this_code, .ref a_this_from, .ref a_this_by, .ref a_this_far, .int q_many, .ref a_this_met, .int q_round, .int q_readAt, .int q_isFault, .int q_toldMany, .ref a_this_told])),
  (a_this_tape, .inl (cI, 90, .inl q_tape))]
def bX8_looks_0 (q_tapeMany : Int32) (q_tape : Nat → Int32)  (v0 : Int32) : Option ((Int32) ⊕ (Int32)) := (if q_tapeMany ≤ v0 then some (.inr v0) else Option.bind (rd q_tape 90 v0) (fun y2 => (if y2 = (32 : Int32) then some (.inl (v0 + (1 : Int32))) else some (.inr v0))))
def fX8_looks (q_tapeMany : Int32) (q_readAt : Int32) (q_tape : Nat → Int32)  : Option (Int32 × Int32) := (if q_tapeMany ≤ q_readAt then (if q_tapeMany ≤ q_readAt then some ((0 : Int32), q_readAt) else Option.bind (rd q_tape 90 q_readAt) (fun y7 => some (y7, q_readAt))) else Option.bind (rd q_tape 90 q_readAt) (fun y9 => (if y9 = (32 : Int32) then Option.bind (itL (bX8_looks_0 q_tapeMany q_tape) fu (q_readAt + (1 : Int32))) (fun ex15 => (if q_tapeMany ≤ ex15 then some ((0 : Int32), ex15) else Option.bind (rd q_tape 90 ex15) (fun y18 => some (y18, ex15)))) else (if q_tapeMany ≤ q_readAt then some ((0 : Int32), q_readAt) else Option.bind (rd q_tape 90 q_readAt) (fun y13 => some (y13, q_readAt))))))
abbrev gX8_looks (p : Program) (l : Launch) (e : Env) (s : State) (m : MethodId) (below : List Frame) (meth : Method) (c : Code) (D : vg) (cI cL cS cH : ClassId) (a_this : Nat) (a_this_st : Nat) (a_this_past : Nat) (a_this_image : Nat) (a_this_imagePast : Nat) (a_this_tape : Nat) (a_this_laneOf : Nat) (a_this_sizeOf : Nat) (a_this_items : Nat) (a_this_code : Nat) (a_this_from : Nat) (a_this_by : Nat) (a_this_far : Nat) (a_this_met : Nat) (a_this_told : Nat) (q_acts : Int32) (q_imageActs : Int32) (q_tapeMany : Int32) (q_many : Int32) (q_round : Int32) (q_readAt : Int32) (q_isFault : Int32) (q_toldMany : Int32) (q_tape : Nat → Int32) (res : Int32 × Int32) (H : Heap) (locs : List Loc) (g : JFrame) : Prop := W p l e (headSpec wsX8_looks ({ frames := 0, cells := 0, slots := 0, locals := 0 })).room s m ([.ref a_this] : List Value).toArray below meth c H locs 0 0 (MQ below (va_Qi (fun r' (_ : Unit) => r' = res.1) (fun _ t => pos1 D s.heap.size (wX8_looks cI cL cS cH a_this a_this_st a_this_past a_this_image a_this_imagePast a_this_tape a_this_laneOf a_this_sizeOf a_this_items a_this_code a_this_from a_this_by a_this_far a_this_met a_this_told q_acts q_imageActs q_tapeMany q_many q_round q_readAt q_isFault q_toldMany q_tape) (wX8_looks cI cL cS cH a_this a_this_st a_this_past a_this_image a_this_imagePast a_this_tape a_this_laneOf a_this_sizeOf a_this_items a_this_code a_this_from a_this_by a_this_far a_this_met a_this_told q_acts q_imageActs q_tapeMany q_many q_round res.2 q_isFault q_toldMany q_tape) t) (va_A (wX8_looks cI cL cS cH a_this a_this_st a_this_past a_this_image a_this_imagePast a_this_tape a_this_laneOf a_this_sizeOf a_this_items a_this_code a_this_from a_this_by a_this_far a_this_met a_this_told q_acts q_imageActs q_tapeMany q_many q_round q_readAt q_isFault q_toldMany q_tape) s.heap.size)) ([.ref a_this] : List Value).toArray s 0 0 (va_A (wX8_looks cI cL cS cH a_this a_this_st a_this_past a_this_image a_this_imagePast a_this_tape a_this_laneOf a_this_sizeOf a_this_items a_this_code a_this_from a_this_by a_this_far a_this_met a_this_told q_acts q_imageActs q_tapeMany q_many q_round q_readAt q_isFault q_toldMany q_tape) s.heap.size)) g
set_option maxHeartbeats 4000000 in
set_option maxRecDepth 100000 in
theorem mX8_looks (l : Launch) (D : vg) (cI cL cS cH : ClassId) (sz : Nat) (a_this : Nat) (a_this_st : Nat) (a_this_past : Nat) (a_this_image : Nat) (a_this_imagePast : Nat) (a_this_tape : Nat) (a_this_laneOf : Nat) (a_this_sizeOf : Nat) (a_this_items : Nat) (a_this_code : Nat) (a_this_from : Nat) (a_this_by : Nat) (a_this_far : Nat) (a_this_met : Nat) (a_this_told : Nat) (q_acts : Int32) (q_imageActs : Int32) (q_tapeMany : Int32) (q_many : Int32) (q_round : Int32) (q_readAt : Int32) (q_isFault : Int32) (q_toldMany : Int32) (q_tape : Nat → Int32) {res : Int32 × Int32} (hf : fX8_looks q_tapeMany q_readAt q_tape = some res) : cti l yX8_looks wsX8_looks ({ frames := 0, cells := 0, slots := 0, locals := 0 }) D (ty4 cI cL cS cH) sz [.ref a_this] (wX8_looks cI cL cS cH a_this a_this_st a_this_past a_this_image a_this_imagePast a_this_tape a_this_laneOf a_this_sizeOf a_this_items a_this_code a_this_from a_this_by a_this_far a_this_met a_this_told q_acts q_imageActs q_tapeMany q_many q_round q_readAt q_isFault q_toldMany q_tape) (wX8_looks cI cL cS cH a_this a_this_st a_this_past a_this_image a_this_imagePast a_this_tape a_this_laneOf a_this_sizeOf a_this_items a_this_code a_this_from a_this_by a_this_far a_this_met a_this_told q_acts q_imageActs q_tapeMany q_many q_round res.2 q_isFault q_toldMany q_tape) res.1 := by
  refine Met.ofW (cc := cX8_looks) (maxL := 1) (ret := (some .int)) (by decide) rfl ?_
  intro p e s m args below meth c s₁ B hml hv
  obtain ⟨rfl, hpre⟩ := hv
  obtain rfl := hpre.1
  have C : CallFix p m c cX8_looks 1 s _ wsX8_looks RX8 := ⟨B.exec, B.bytes, hml, findClass_of_methodNamed B.named, atoms_spec (ws := wsX8_looks) B.pre⟩
  have hr := B.returns
  have hlocks := B.notSynchronized
  have w := wd_start hpre
  clear hpre B
  have hl := lv_entry ([.ref a_this]) (n := 1) (Nat.le_of_ble_eq_true rfl)
  rw [lg_entry_eq]
  generalize (lg_sl ([.ref a_this]) ++ List.replicate (1 - (lg_sl ([.ref a_this])).length) Slot.unset).toArray = ls at hl ⊢
  have hl : lv_has ls 1 [(0, .ref a_this)] := hl
  unfold fX8_looks at hf
  have hlp0 : ∀  (ex0 : Int32) (hk : (∀ (H : Heap) (locs : List Loc) (ls : Array Slot), wd D (ty4 cI cL cS cH) s (va_A (wX8_looks cI cL cS cH a_this a_this_st a_this_past a_this_image a_this_imagePast a_this_tape a_this_laneOf a_this_sizeOf a_this_items a_this_code a_this_from a_this_by a_this_far a_this_met a_this_told q_acts q_imageActs q_tapeMany q_many q_round q_readAt q_isFault q_toldMany q_tape) s.heap.size) s.heap H locs (wX8_looks cI cL cS cH a_this a_this_st a_this_past a_this_image a_this_imagePast a_this_tape a_this_laneOf a_this_sizeOf a_this_items a_this_code a_this_from a_this_by a_this_far a_this_met a_this_told q_acts q_imageActs q_tapeMany q_many q_round ex0 q_isFault q_toldMany q_tape) → lv_has ls 1 [(0, .ref a_this)] → gX8_looks p l e s m below meth c D cI cL cS cH a_this a_this_st a_this_past a_this_image a_this_imagePast a_this_tape a_this_laneOf a_this_sizeOf a_this_items a_this_code a_this_from a_this_by a_this_far a_this_met a_this_told q_acts q_imageActs q_tapeMany q_many q_round q_readAt q_isFault q_toldMany q_tape res H locs (F0 m 38 ls []))) (n : Nat) (v0 : Int32) (H : Heap) (locs : List Loc) (ls : Array Slot), itL (bX8_looks_0 q_tapeMany q_tape) n v0 = some ex0 → wd D (ty4 cI cL cS cH) s (va_A (wX8_looks cI cL cS cH a_this a_this_st a_this_past a_this_image a_this_imagePast a_this_tape a_this_laneOf a_this_sizeOf a_this_items a_this_code a_this_from a_this_by a_this_far a_this_met a_this_told q_acts q_imageActs q_tapeMany q_many q_round q_readAt q_isFault q_toldMany q_tape) s.heap.size) s.heap H locs (wX8_looks cI cL cS cH a_this a_this_st a_this_past a_this_image a_this_imagePast a_this_tape a_this_laneOf a_this_sizeOf a_this_items a_this_code a_this_from a_this_by a_this_far a_this_met a_this_told q_acts q_imageActs q_tapeMany q_many q_round v0 q_isFault q_toldMany q_tape) → lv_has ls 1 [(0, .ref a_this)] → gX8_looks p l e s m below meth c D cI cL cS cH a_this a_this_st a_this_past a_this_image a_this_imagePast a_this_tape a_this_laneOf a_this_sizeOf a_this_items a_this_code a_this_from a_this_by a_this_far a_this_met a_this_told q_acts q_imageActs q_tapeMany q_many q_round q_readAt q_isFault q_toldMany q_tape res H locs (F0 m 0 ls []) := by
    intro  ex0 hk n
    induction n with
    | zero => intro v0 H locs ls hi w hl; exact (itL_zero hi).elim
    | succ n ih =>
      intro v0 H locs ls hi w hl
      obtain ⟨o, hf, hn⟩ := itL_succ hi
      unfold bX8_looks_0 at hf
      refine lv_aload_n C.1 C.2.1 dX8_looks_0 rfl (lv_at hl 0 rfl) ?_
      refine r_get C w inX8_looks_X8 0 rfl rfl 18 (by decide) lkX8_looks_187 rfl dX8_looks_1 ?_
      refine lv_aload_n C.1 C.2.1 dX8_looks_4 rfl (lv_at hl 0 rfl) ?_
      refine r_get C w inX8_looks_X8 0 rfl rfl 7 (by decide) lkX8_looks_184 rfl dX8_looks_5 ?_
      refine lv_icmp_ge (tgt := 38) C.1 C.2.1 dX8_looks_8 (by decide) (fun hq1 => ?_) (fun hq1 => ?_)
      · have hf := ite_t hf hq1
        obtain rfl := Option.some.inj hf
        obtain rfl := hn
        exact hk _ _ _ w (lv_sub hl [0] rfl)
      · have hf := ite_f hf hq1
        refine lv_aload_n C.1 C.2.1 dX8_looks_11 rfl (lv_at hl 0 rfl) ?_
        refine r_get C w inX8_looks_X8 0 rfl rfl 6 (by decide) lkX8_looks_26 rfl dX8_looks_12 ?_
        refine lv_aload_n C.1 C.2.1 dX8_looks_15 rfl (lv_at hl 0 rfl) ?_
        refine r_get C w inX8_looks_X8 0 rfl rfl 18 (by decide) lkX8_looks_187 rfl dX8_looks_16 ?_
        obtain ⟨y2, hy3, hf⟩ := bd hf
        refine r_iald C w 1 0 rfl rfl (rd_in hy3) dX8_looks_19 ?_
        refine lv_bipush (v := (32 : Int32)) C.1 C.2.1 dX8_looks_20 (by decide) ?_
        refine lv_icmp_ne (tgt := 38) C.1 C.2.1 dX8_looks_22 (by decide) (fun hq4 => ?_) (fun hq4 => ?_)
        · have hf := ite_f hf hq4
          obtain rfl := Option.some.inj hf
          obtain rfl := hn
          exact hk _ _ _ w (lv_sub hl [0] rfl)
        · have hf := ite_t hf hq4
          refine lv_aload_n C.1 C.2.1 dX8_looks_25 rfl (lv_at hl 0 rfl) ?_
          refine lv_dup C.1 C.2.1 dX8_looks_26 rfl ?_
          refine r_get C w inX8_looks_X8 0 rfl rfl 18 (by decide) lkX8_looks_187 rfl dX8_looks_27 ?_
          refine lv_iconst (v := (1 : Int32)) C.1 C.2.1 dX8_looks_30 (by decide) ?_
          refine lv_iadd C.1 C.2.1 dX8_looks_31 ?_
          refine r_put (ws' := (wX8_looks cI cL cS cH a_this a_this_st a_this_past a_this_image a_this_imagePast a_this_tape a_this_laneOf a_this_sizeOf a_this_items a_this_code a_this_from a_this_by a_this_far a_this_met a_this_told q_acts q_imageActs q_tapeMany q_many q_round (v0 + (1 : Int32)) q_isFault q_toldMany q_tape)) C w inX8_looks_X8 tyX8 tyX8_ok nmX8 0 rfl rfl 18 (by decide) lkX8_looks_187 rfl rfl rfl (Nat.le_of_ble_eq_true rfl) rfl dX8_looks_32 (fun H locs w => ?_)
          refine lv_goto (tgt := 0) C.1 C.2.1 dX8_looks_35 (by decide) ?_
          obtain rfl := Option.some.inj hf
          exact ih (v0 + (1 : Int32)) _ _ _ hn w (lv_sub hl [0] rfl)
  refine lv_aload_n C.1 C.2.1 dX8_looks_0 rfl (lv_at hl 0 rfl) ?_
  refine r_get C w inX8_looks_X8 0 rfl rfl 18 (by decide) lkX8_looks_187 rfl dX8_looks_1 ?_
  refine lv_aload_n C.1 C.2.1 dX8_looks_4 rfl (lv_at hl 0 rfl) ?_
  refine r_get C w inX8_looks_X8 0 rfl rfl 7 (by decide) lkX8_looks_184 rfl dX8_looks_5 ?_
  refine lv_icmp_ge (tgt := 38) C.1 C.2.1 dX8_looks_8 (by decide) (fun hq5 => ?_) (fun hq5 => ?_)
  · have hf := ite_t hf hq5
    refine lv_aload_n C.1 C.2.1 dX8_looks_38 rfl (lv_at hl 0 rfl) ?_
    refine r_get C w inX8_looks_X8 0 rfl rfl 18 (by decide) lkX8_looks_187 rfl dX8_looks_39 ?_
    refine lv_aload_n C.1 C.2.1 dX8_looks_42 rfl (lv_at hl 0 rfl) ?_
    refine r_get C w inX8_looks_X8 0 rfl rfl 7 (by decide) lkX8_looks_184 rfl dX8_looks_43 ?_
    refine lv_icmp_ge (tgt := 61) C.1 C.2.1 dX8_looks_46 (by decide) (fun hq6 => ?_) (fun hq6 => ?_)
    · have hf := ite_t hf hq6
      refine lv_iconst (v := (0 : Int32)) C.1 C.2.1 dX8_looks_61 (by decide) ?_
      have hres := Option.some.inj hf
      subst hres
      exact ret_i C hr hlocks w rfl dX8_looks_62
    · have hf := ite_f hf hq6
      refine lv_aload_n C.1 C.2.1 dX8_looks_49 rfl (lv_at hl 0 rfl) ?_
      refine r_get C w inX8_looks_X8 0 rfl rfl 6 (by decide) lkX8_looks_26 rfl dX8_looks_50 ?_
      refine lv_aload_n C.1 C.2.1 dX8_looks_53 rfl (lv_at hl 0 rfl) ?_
      refine r_get C w inX8_looks_X8 0 rfl rfl 18 (by decide) lkX8_looks_187 rfl dX8_looks_54 ?_
      obtain ⟨y7, hy8, hf⟩ := bd hf
      refine r_iald C w 1 0 rfl rfl (rd_in hy8) dX8_looks_57 ?_
      refine lv_goto (tgt := 62) C.1 C.2.1 dX8_looks_58 (by decide) ?_
      have hres := Option.some.inj hf
      subst hres
      exact ret_i C hr hlocks w rfl dX8_looks_62
  · have hf := ite_f hf hq5
    refine lv_aload_n C.1 C.2.1 dX8_looks_11 rfl (lv_at hl 0 rfl) ?_
    refine r_get C w inX8_looks_X8 0 rfl rfl 6 (by decide) lkX8_looks_26 rfl dX8_looks_12 ?_
    refine lv_aload_n C.1 C.2.1 dX8_looks_15 rfl (lv_at hl 0 rfl) ?_
    refine r_get C w inX8_looks_X8 0 rfl rfl 18 (by decide) lkX8_looks_187 rfl dX8_looks_16 ?_
    obtain ⟨y9, hy10, hf⟩ := bd hf
    refine r_iald C w 1 0 rfl rfl (rd_in hy10) dX8_looks_19 ?_
    refine lv_bipush (v := (32 : Int32)) C.1 C.2.1 dX8_looks_20 (by decide) ?_
    refine lv_icmp_ne (tgt := 38) C.1 C.2.1 dX8_looks_22 (by decide) (fun hq11 => ?_) (fun hq11 => ?_)
    · have hf := ite_f hf hq11
      refine lv_aload_n C.1 C.2.1 dX8_looks_38 rfl (lv_at hl 0 rfl) ?_
      refine r_get C w inX8_looks_X8 0 rfl rfl 18 (by decide) lkX8_looks_187 rfl dX8_looks_39 ?_
      refine lv_aload_n C.1 C.2.1 dX8_looks_42 rfl (lv_at hl 0 rfl) ?_
      refine r_get C w inX8_looks_X8 0 rfl rfl 7 (by decide) lkX8_looks_184 rfl dX8_looks_43 ?_
      refine lv_icmp_ge (tgt := 61) C.1 C.2.1 dX8_looks_46 (by decide) (fun hq12 => ?_) (fun hq12 => ?_)
      · have hf := ite_t hf hq12
        refine lv_iconst (v := (0 : Int32)) C.1 C.2.1 dX8_looks_61 (by decide) ?_
        have hres := Option.some.inj hf
        subst hres
        exact ret_i C hr hlocks w rfl dX8_looks_62
      · have hf := ite_f hf hq12
        refine lv_aload_n C.1 C.2.1 dX8_looks_49 rfl (lv_at hl 0 rfl) ?_
        refine r_get C w inX8_looks_X8 0 rfl rfl 6 (by decide) lkX8_looks_26 rfl dX8_looks_50 ?_
        refine lv_aload_n C.1 C.2.1 dX8_looks_53 rfl (lv_at hl 0 rfl) ?_
        refine r_get C w inX8_looks_X8 0 rfl rfl 18 (by decide) lkX8_looks_187 rfl dX8_looks_54 ?_
        obtain ⟨y13, hy14, hf⟩ := bd hf
        refine r_iald C w 1 0 rfl rfl (rd_in hy14) dX8_looks_57 ?_
        refine lv_goto (tgt := 62) C.1 C.2.1 dX8_looks_58 (by decide) ?_
        have hres := Option.some.inj hf
        subst hres
        exact ret_i C hr hlocks w rfl dX8_looks_62
    · have hf := ite_t hf hq11
      refine lv_aload_n C.1 C.2.1 dX8_looks_25 rfl (lv_at hl 0 rfl) ?_
      refine lv_dup C.1 C.2.1 dX8_looks_26 rfl ?_
      refine r_get C w inX8_looks_X8 0 rfl rfl 18 (by decide) lkX8_looks_187 rfl dX8_looks_27 ?_
      refine lv_iconst (v := (1 : Int32)) C.1 C.2.1 dX8_looks_30 (by decide) ?_
      refine lv_iadd C.1 C.2.1 dX8_looks_31 ?_
      refine r_put (ws' := (wX8_looks cI cL cS cH a_this a_this_st a_this_past a_this_image a_this_imagePast a_this_tape a_this_laneOf a_this_sizeOf a_this_items a_this_code a_this_from a_this_by a_this_far a_this_met a_this_told q_acts q_imageActs q_tapeMany q_many q_round (q_readAt + (1 : Int32)) q_isFault q_toldMany q_tape)) C w inX8_looks_X8 tyX8 tyX8_ok nmX8 0 rfl rfl 18 (by decide) lkX8_looks_187 rfl rfl rfl (Nat.le_of_ble_eq_true rfl) rfl dX8_looks_32 (fun H locs w => ?_)
      refine lv_goto (tgt := 0) C.1 C.2.1 dX8_looks_35 (by decide) ?_
      obtain ⟨ex15, hx16, hf⟩ := bd hf
      refine hlp0  ex15 ?_ fu (q_readAt + (1 : Int32)) _ _ _ hx16 w (lv_sub hl [0] rfl)
      intro H locs ls w hl
      refine lv_aload_n C.1 C.2.1 dX8_looks_38 rfl (lv_at hl 0 rfl) ?_
      refine r_get C w inX8_looks_X8 0 rfl rfl 18 (by decide) lkX8_looks_187 rfl dX8_looks_39 ?_
      refine lv_aload_n C.1 C.2.1 dX8_looks_42 rfl (lv_at hl 0 rfl) ?_
      refine r_get C w inX8_looks_X8 0 rfl rfl 7 (by decide) lkX8_looks_184 rfl dX8_looks_43 ?_
      refine lv_icmp_ge (tgt := 61) C.1 C.2.1 dX8_looks_46 (by decide) (fun hq17 => ?_) (fun hq17 => ?_)
      · have hf := ite_t hf hq17
        refine lv_iconst (v := (0 : Int32)) C.1 C.2.1 dX8_looks_61 (by decide) ?_
        have hres := Option.some.inj hf
        subst hres
        exact ret_i C hr hlocks w rfl dX8_looks_62
      · have hf := ite_f hf hq17
        refine lv_aload_n C.1 C.2.1 dX8_looks_49 rfl (lv_at hl 0 rfl) ?_
        refine r_get C w inX8_looks_X8 0 rfl rfl 6 (by decide) lkX8_looks_26 rfl dX8_looks_50 ?_
        refine lv_aload_n C.1 C.2.1 dX8_looks_53 rfl (lv_at hl 0 rfl) ?_
        refine r_get C w inX8_looks_X8 0 rfl rfl 18 (by decide) lkX8_looks_187 rfl dX8_looks_54 ?_
        obtain ⟨y18, hy19, hf⟩ := bd hf
        refine r_iald C w 1 0 rfl rfl (rd_in hy19) dX8_looks_57 ?_
        refine lv_goto (tgt := 62) C.1 C.2.1 dX8_looks_58 (by decide) ?_
        have hres := Option.some.inj hf
        subst hres
        exact ret_i C hr hlocks w rfl dX8_looks_62

set_option maxRecDepth 100000 in
theorem inX8_takes_X8 : ∀ w ∈ u_ws RX8 TX8 22, w ∈ wsX8_takes := by decide +kernel
set_option maxRecDepth 100000 in
theorem lkX8_takes_187 : Cond.fieldLink RX8 187 "CleanNetsModel" "readAt" "I" ∈ wsX8_takes := by decide +kernel
set_option maxRecDepth 100000 in
theorem lkX8_takes_190 : Cond.fieldLink RX8 190 "CleanNetsModel" "isFault" "Z" ∈ wsX8_takes := by decide +kernel
abbrev wX8_takes (cI cL cS cH : ClassId) (a_this : Nat) (a_this_st : Nat) (a_this_past : Nat) (a_this_image : Nat) (a_this_imagePast : Nat) (a_this_tape : Nat) (a_this_laneOf : Nat) (a_this_sizeOf : Nat) (a_this_items : Nat) (a_this_code : Nat) (a_this_from : Nat) (a_this_by : Nat) (a_this_far : Nat) (a_this_met : Nat) (a_this_told : Nat) (q_acts : Int32) (q_imageActs : Int32) (q_tapeMany : Int32) (q_many : Int32) (q_round : Int32) (q_readAt : Int32) (q_isFault : Int32) (q_toldMany : Int32) : va_W := [(a_this, .inr (8, [.ref a_this_st, .ref a_this_past, .int q_acts, .ref a_this_image, .ref a_this_imagePast, .int q_imageActs, .ref a_this_tape, .int q_tapeMany, .ref a_this_laneOf, .ref a_this_sizeOf, .ref a_this_items, .ref a_this_code, .ref a_this_from, .ref a_this_by, .ref a_this_far, .int q_many, .ref a_this_met, .int q_round, .int q_readAt, .int q_isFault, .int q_toldMany, .ref a_this_told]))]
def jX8_takes_37  (z37_0 : Int32) (z37_1 : Int32) (k37_q_readAt : Int32) (k37_q_isFault : Int32) : Option (Int32 × Int32) := some ((z37_1 + z37_0), k37_q_isFault)
def jX8_takes_17  (z17_0 : Int32) (k17_q_readAt : Int32) (k17_q_isFault : Int32) : Option (Int32 × Int32) := Option.bind (bz z17_0) (fun _ => (if z17_0 = 0 then jX8_takes_37 (1 : Int32) k17_q_readAt k17_q_readAt z17_0 else jX8_takes_37 (0 : Int32) k17_q_readAt k17_q_readAt z17_0))
def jX8_takes_12  (k12_q_readAt : Int32) (k12_q_isFault : Int32) : Option (Int32 × Int32) := jX8_takes_17 (1 : Int32) k12_q_readAt k12_q_isFault
def fX8_takes (q_readAt : Int32) (q_isFault : Int32) (x1 : Int32) : Option (Int32 × Int32) := (if q_isFault = 0 then (if x1 = 0 then jX8_takes_12 q_readAt q_isFault else jX8_takes_17 (0 : Int32) q_readAt q_isFault) else jX8_takes_12 q_readAt q_isFault)
abbrev gX8_takes (p : Program) (l : Launch) (e : Env) (s : State) (m : MethodId) (below : List Frame) (meth : Method) (c : Code) (D : vg) (cI cL cS cH : ClassId) (a_this : Nat) (a_this_st : Nat) (a_this_past : Nat) (a_this_image : Nat) (a_this_imagePast : Nat) (a_this_tape : Nat) (a_this_laneOf : Nat) (a_this_sizeOf : Nat) (a_this_items : Nat) (a_this_code : Nat) (a_this_from : Nat) (a_this_by : Nat) (a_this_far : Nat) (a_this_met : Nat) (a_this_told : Nat) (q_acts : Int32) (q_imageActs : Int32) (q_tapeMany : Int32) (q_many : Int32) (q_round : Int32) (q_readAt : Int32) (q_isFault : Int32) (q_toldMany : Int32) (x1 : Int32) (res : Int32 × Int32) (H : Heap) (locs : List Loc) (g : JFrame) : Prop := W p l e (headSpec wsX8_takes ({ frames := 0, cells := 0, slots := 0, locals := 0 })).room s m ([.ref a_this, .int x1] : List Value).toArray below meth c H locs 0 0 (MQ below (va_Qv (fun (_ : Unit) => True) (fun _ t => pos1 D s.heap.size (wX8_takes cI cL cS cH a_this a_this_st a_this_past a_this_image a_this_imagePast a_this_tape a_this_laneOf a_this_sizeOf a_this_items a_this_code a_this_from a_this_by a_this_far a_this_met a_this_told q_acts q_imageActs q_tapeMany q_many q_round q_readAt q_isFault q_toldMany) (wX8_takes cI cL cS cH a_this a_this_st a_this_past a_this_image a_this_imagePast a_this_tape a_this_laneOf a_this_sizeOf a_this_items a_this_code a_this_from a_this_by a_this_far a_this_met a_this_told q_acts q_imageActs q_tapeMany q_many q_round res.1 res.2 q_toldMany) t) (va_A (wX8_takes cI cL cS cH a_this a_this_st a_this_past a_this_image a_this_imagePast a_this_tape a_this_laneOf a_this_sizeOf a_this_items a_this_code a_this_from a_this_by a_this_far a_this_met a_this_told q_acts q_imageActs q_tapeMany q_many q_round q_readAt q_isFault q_toldMany) s.heap.size)) ([.ref a_this, .int x1] : List Value).toArray s 0 0 (va_A (wX8_takes cI cL cS cH a_this a_this_st a_this_past a_this_image a_this_imagePast a_this_tape a_this_laneOf a_this_sizeOf a_this_items a_this_code a_this_from a_this_by a_this_far a_this_met a_this_told q_acts q_imageActs q_tapeMany q_many q_round q_readAt q_isFault q_toldMany) s.heap.size)) g
set_option maxHeartbeats 4000000 in
set_option maxRecDepth 100000 in
theorem mX8_takes (l : Launch) (D : vg) (cI cL cS cH : ClassId) (sz : Nat) (a_this : Nat) (a_this_st : Nat) (a_this_past : Nat) (a_this_image : Nat) (a_this_imagePast : Nat) (a_this_tape : Nat) (a_this_laneOf : Nat) (a_this_sizeOf : Nat) (a_this_items : Nat) (a_this_code : Nat) (a_this_from : Nat) (a_this_by : Nat) (a_this_far : Nat) (a_this_met : Nat) (a_this_told : Nat) (q_acts : Int32) (q_imageActs : Int32) (q_tapeMany : Int32) (q_many : Int32) (q_round : Int32) (q_readAt : Int32) (q_isFault : Int32) (q_toldMany : Int32) (x1 : Int32) {res : Int32 × Int32} (hf : fX8_takes q_readAt q_isFault x1 = some res) : ctv l yX8_takes wsX8_takes ({ frames := 0, cells := 0, slots := 0, locals := 0 }) D (ty4 cI cL cS cH) sz [.ref a_this, .int x1] (wX8_takes cI cL cS cH a_this a_this_st a_this_past a_this_image a_this_imagePast a_this_tape a_this_laneOf a_this_sizeOf a_this_items a_this_code a_this_from a_this_by a_this_far a_this_met a_this_told q_acts q_imageActs q_tapeMany q_many q_round q_readAt q_isFault q_toldMany) (wX8_takes cI cL cS cH a_this a_this_st a_this_past a_this_image a_this_imagePast a_this_tape a_this_laneOf a_this_sizeOf a_this_items a_this_code a_this_from a_this_by a_this_far a_this_met a_this_told q_acts q_imageActs q_tapeMany q_many q_round res.1 res.2 q_toldMany) := by
  refine Met.ofW (cc := cX8_takes) (maxL := 2) (ret := none) (by decide) rfl ?_
  intro p e s m args below meth c s₁ B hml hv
  obtain ⟨rfl, hpre⟩ := hv
  obtain rfl := hpre.1
  have C : CallFix p m c cX8_takes 2 s _ wsX8_takes RX8 := ⟨B.exec, B.bytes, hml, findClass_of_methodNamed B.named, atoms_spec (ws := wsX8_takes) B.pre⟩
  have hr := B.returns
  have hlocks := B.notSynchronized
  have w := wd_start hpre
  clear hpre B
  have hl := lv_entry ([.ref a_this, .int x1]) (n := 2) (Nat.le_of_ble_eq_true rfl)
  rw [lg_entry_eq]
  generalize (lg_sl ([.ref a_this, .int x1]) ++ List.replicate (2 - (lg_sl ([.ref a_this, .int x1])).length) Slot.unset).toArray = ls at hl ⊢
  have hl : lv_has ls 2 [(0, .ref a_this), (1, .int x1)] := hl
  unfold fX8_takes at hf
  have hj37 : ∀ (z37_0 : Int32) (z37_1 : Int32) (k37_q_readAt : Int32) (k37_q_isFault : Int32) (H : Heap) (locs : List Loc) (ls : Array Slot), wd D (ty4 cI cL cS cH) s (va_A (wX8_takes cI cL cS cH a_this a_this_st a_this_past a_this_image a_this_imagePast a_this_tape a_this_laneOf a_this_sizeOf a_this_items a_this_code a_this_from a_this_by a_this_far a_this_met a_this_told q_acts q_imageActs q_tapeMany q_many q_round q_readAt q_isFault q_toldMany) s.heap.size) s.heap H locs (wX8_takes cI cL cS cH a_this a_this_st a_this_past a_this_image a_this_imagePast a_this_tape a_this_laneOf a_this_sizeOf a_this_items a_this_code a_this_from a_this_by a_this_far a_this_met a_this_told q_acts q_imageActs q_tapeMany q_many q_round k37_q_readAt k37_q_isFault q_toldMany) → lv_has ls 2 [] → jX8_takes_37 z37_0 z37_1 k37_q_readAt k37_q_isFault = some res → gX8_takes p l e s m below meth c D cI cL cS cH a_this a_this_st a_this_past a_this_image a_this_imagePast a_this_tape a_this_laneOf a_this_sizeOf a_this_items a_this_code a_this_from a_this_by a_this_far a_this_met a_this_told q_acts q_imageActs q_tapeMany q_many q_round q_readAt q_isFault q_toldMany x1 res H locs (F0 m 37 ls [.int z37_0, .int z37_1, .ref a_this]) := by
    intro z37_0 z37_1 k37_q_readAt k37_q_isFault H locs ls w hl hf
    unfold jX8_takes_37 at hf
    refine lv_iadd C.1 C.2.1 dX8_takes_37 ?_
    refine r_put (ws' := (wX8_takes cI cL cS cH a_this a_this_st a_this_past a_this_image a_this_imagePast a_this_tape a_this_laneOf a_this_sizeOf a_this_items a_this_code a_this_from a_this_by a_this_far a_this_met a_this_told q_acts q_imageActs q_tapeMany q_many q_round (z37_1 + z37_0) k37_q_isFault q_toldMany)) C w inX8_takes_X8 tyX8 tyX8_ok nmX8 0 rfl rfl 18 (by decide) lkX8_takes_187 rfl rfl rfl (Nat.le_of_ble_eq_true rfl) rfl dX8_takes_38 (fun H locs w => ?_)
    have hres := Option.some.inj hf
    subst hres
    exact ret_v C hr hlocks w dX8_takes_41
  have hj17 : ∀ (z17_0 : Int32) (k17_q_readAt : Int32) (k17_q_isFault : Int32) (H : Heap) (locs : List Loc) (ls : Array Slot), wd D (ty4 cI cL cS cH) s (va_A (wX8_takes cI cL cS cH a_this a_this_st a_this_past a_this_image a_this_imagePast a_this_tape a_this_laneOf a_this_sizeOf a_this_items a_this_code a_this_from a_this_by a_this_far a_this_met a_this_told q_acts q_imageActs q_tapeMany q_many q_round q_readAt q_isFault q_toldMany) s.heap.size) s.heap H locs (wX8_takes cI cL cS cH a_this a_this_st a_this_past a_this_image a_this_imagePast a_this_tape a_this_laneOf a_this_sizeOf a_this_items a_this_code a_this_from a_this_by a_this_far a_this_met a_this_told q_acts q_imageActs q_tapeMany q_many q_round k17_q_readAt k17_q_isFault q_toldMany) → lv_has ls 2 [(0, .ref a_this)] → jX8_takes_17 z17_0 k17_q_readAt k17_q_isFault = some res → gX8_takes p l e s m below meth c D cI cL cS cH a_this a_this_st a_this_past a_this_image a_this_imagePast a_this_tape a_this_laneOf a_this_sizeOf a_this_items a_this_code a_this_from a_this_by a_this_far a_this_met a_this_told q_acts q_imageActs q_tapeMany q_many q_round q_readAt q_isFault q_toldMany x1 res H locs (F0 m 17 ls [.int z17_0, .ref a_this]) := by
    intro z17_0 k17_q_readAt k17_q_isFault H locs ls w hl hf
    unfold jX8_takes_17 at hf
    obtain ⟨_, hb1, hf⟩ := bd hf
    refine r_put (ws' := (wX8_takes cI cL cS cH a_this a_this_st a_this_past a_this_image a_this_imagePast a_this_tape a_this_laneOf a_this_sizeOf a_this_items a_this_code a_this_from a_this_by a_this_far a_this_met a_this_told q_acts q_imageActs q_tapeMany q_many q_round k17_q_readAt z17_0 q_toldMany)) C w inX8_takes_X8 tyX8 tyX8_ok nmX8 0 rfl rfl 19 (by decide) lkX8_takes_190 rfl (bz_in hb1).1 (bz_in hb1).2 (Nat.le_of_ble_eq_true rfl) rfl dX8_takes_17 (fun H locs w => ?_)
    refine lv_aload_n C.1 C.2.1 dX8_takes_20 rfl (lv_at hl 0 rfl) ?_
    refine lv_dup C.1 C.2.1 dX8_takes_21 rfl ?_
    refine r_get C w inX8_takes_X8 0 rfl rfl 18 (by decide) lkX8_takes_187 rfl dX8_takes_22 ?_
    refine lv_aload_n C.1 C.2.1 dX8_takes_25 rfl (lv_at hl 0 rfl) ?_
    refine r_get C w inX8_takes_X8 0 rfl rfl 19 (by decide) lkX8_takes_190 rfl dX8_takes_26 ?_
    refine lv_if_eq (tgt := 36) C.1 C.2.1 dX8_takes_29 (by decide) (fun hq2 => ?_) (fun hq2 => ?_)
    · have hf := ite_t hf hq2
      refine lv_iconst (v := (1 : Int32)) C.1 C.2.1 dX8_takes_36 (by decide) ?_
      exact hj37 (1 : Int32) k17_q_readAt k17_q_readAt z17_0 _ _ _ w (lv_sub hl [] rfl) hf
    · have hf := ite_f hf hq2
      refine lv_iconst (v := (0 : Int32)) C.1 C.2.1 dX8_takes_32 (by decide) ?_
      refine lv_goto (tgt := 37) C.1 C.2.1 dX8_takes_33 (by decide) ?_
      exact hj37 (0 : Int32) k17_q_readAt k17_q_readAt z17_0 _ _ _ w (lv_sub hl [] rfl) hf
  have hj12 : ∀ (k12_q_readAt : Int32) (k12_q_isFault : Int32) (H : Heap) (locs : List Loc) (ls : Array Slot), wd D (ty4 cI cL cS cH) s (va_A (wX8_takes cI cL cS cH a_this a_this_st a_this_past a_this_image a_this_imagePast a_this_tape a_this_laneOf a_this_sizeOf a_this_items a_this_code a_this_from a_this_by a_this_far a_this_met a_this_told q_acts q_imageActs q_tapeMany q_many q_round q_readAt q_isFault q_toldMany) s.heap.size) s.heap H locs (wX8_takes cI cL cS cH a_this a_this_st a_this_past a_this_image a_this_imagePast a_this_tape a_this_laneOf a_this_sizeOf a_this_items a_this_code a_this_from a_this_by a_this_far a_this_met a_this_told q_acts q_imageActs q_tapeMany q_many q_round k12_q_readAt k12_q_isFault q_toldMany) → lv_has ls 2 [(0, .ref a_this)] → jX8_takes_12 k12_q_readAt k12_q_isFault = some res → gX8_takes p l e s m below meth c D cI cL cS cH a_this a_this_st a_this_past a_this_image a_this_imagePast a_this_tape a_this_laneOf a_this_sizeOf a_this_items a_this_code a_this_from a_this_by a_this_far a_this_met a_this_told q_acts q_imageActs q_tapeMany q_many q_round q_readAt q_isFault q_toldMany x1 res H locs (F0 m 12 ls [.ref a_this]) := by
    intro k12_q_readAt k12_q_isFault H locs ls w hl hf
    unfold jX8_takes_12 at hf
    refine lv_iconst (v := (1 : Int32)) C.1 C.2.1 dX8_takes_12 (by decide) ?_
    refine lv_goto (tgt := 17) C.1 C.2.1 dX8_takes_13 (by decide) ?_
    exact hj17 (1 : Int32) k12_q_readAt k12_q_isFault _ _ _ w (lv_sub hl [0] rfl) hf
  refine lv_aload_n C.1 C.2.1 dX8_takes_0 rfl (lv_at hl 0 rfl) ?_
  refine lv_aload_n C.1 C.2.1 dX8_takes_1 rfl (lv_at hl 0 rfl) ?_
  refine r_get C w inX8_takes_X8 0 rfl rfl 19 (by decide) lkX8_takes_190 rfl dX8_takes_2 ?_
  refine lv_if_ne (tgt := 12) C.1 C.2.1 dX8_takes_5 (by decide) (fun hq3 => ?_) (fun hq3 => ?_)
  · have hf := ite_f hf hq3
    exact hj12 q_readAt q_isFault _ _ _ w (lv_sub hl [0] rfl) hf
  · have hf := ite_t hf hq3
    refine lv_iload_n C.1 C.2.1 dX8_takes_8 rfl (lv_at hl 1 rfl) ?_
    refine lv_if_ne (tgt := 16) C.1 C.2.1 dX8_takes_9 (by decide) (fun hq4 => ?_) (fun hq4 => ?_)
    · have hf := ite_f hf hq4
      refine lv_iconst (v := (0 : Int32)) C.1 C.2.1 dX8_takes_16 (by decide) ?_
      exact hj17 (0 : Int32) q_readAt q_isFault _ _ _ w (lv_sub hl [0] rfl) hf
    · have hf := ite_t hf hq4
      exact hj12 q_readAt q_isFault _ _ _ w (lv_sub hl [0] rfl) hf

set_option maxRecDepth 100000 in
theorem inX8_figure_X8 : ∀ w ∈ u_ws RX8 TX8 22, w ∈ wsX8_figure := by decide +kernel
set_option maxRecDepth 100000 in
theorem lkX8_figure_190 : Cond.fieldLink RX8 190 "CleanNetsModel" "isFault" "Z" ∈ wsX8_figure := by decide +kernel
abbrev wX8_figure (cI cL cS cH : ClassId) (a_this : Nat) (a_this_st : Nat) (a_this_past : Nat) (a_this_image : Nat) (a_this_imagePast : Nat) (a_this_tape : Nat) (a_this_laneOf : Nat) (a_this_sizeOf : Nat) (a_this_items : Nat) (a_this_code : Nat) (a_this_from : Nat) (a_this_by : Nat) (a_this_far : Nat) (a_this_met : Nat) (a_this_told : Nat) (q_acts : Int32) (q_imageActs : Int32) (q_tapeMany : Int32) (q_many : Int32) (q_round : Int32) (q_readAt : Int32) (q_isFault : Int32) (q_toldMany : Int32) (q_tape : Nat → Int32) : va_W := [(a_this, .inr (8, [.ref a_this_st, .ref a_this_past, .int q_acts, .ref a_this_image, .ref a_this_imagePast, .int q_imageActs, .ref a_this_tape, .int q_tapeMany, .ref a_this_laneOf, .ref a_this_sizeOf, .ref a_this_items, .ref a_this_code, .ref a_this_from, .ref a_this_by, .ref a_this_far, .int q_many, .ref a_this_met, .int q_round, .int q_readAt, .int q_isFault, .int q_toldMany, .ref a_this_told])),
  (a_this_tape, .inl (cI, 90, .inl q_tape))]
def jX8_figure_44 (q_tapeMany : Int32) (q_tape : Nat → Int32) (x1 : Int32) (y44_3 : Int32) (z44_0 : Int32) (k44_q_readAt : Int32) (k44_q_isFault : Int32) : Option (Int32 × Int32 × Int32) := Option.bind (fX8_takes k44_q_readAt k44_q_isFault z44_0) (fun r1 => (if r1.2 = 0 then some (y44_3, r1.1, r1.2) else some (x1, r1.1, r1.2)))
def jX8_figure_39 (q_tapeMany : Int32) (q_tape : Nat → Int32) (x1 : Int32) (y39_3 : Int32) (k39_q_readAt : Int32) (k39_q_isFault : Int32) : Option (Int32 × Int32 × Int32) := jX8_figure_44 q_tapeMany q_tape x1 y39_3 (1 : Int32) k39_q_readAt k39_q_isFault
def jX8_figure_18 (q_tapeMany : Int32) (q_tape : Nat → Int32) (x1 : Int32) (x2 : Int32) (z18_0 : Int32) (k18_q_readAt : Int32) (k18_q_isFault : Int32) : Option (Int32 × Int32 × Int32) := (if k18_q_isFault = 0 then Option.bind (fX8_in ((z18_0).toInt64) ((x1).toInt64) ((x2).toInt64)) (fun r5 => (if r5 = 0 then jX8_figure_44 q_tapeMany q_tape x1 z18_0 (0 : Int32) k18_q_readAt k18_q_isFault else jX8_figure_39 q_tapeMany q_tape x1 z18_0 k18_q_readAt k18_q_isFault)) else jX8_figure_39 q_tapeMany q_tape x1 z18_0 k18_q_readAt k18_q_isFault)
def fX8_figure (q_tapeMany : Int32) (q_readAt : Int32) (q_isFault : Int32) (q_tape : Nat → Int32) (x1 : Int32) (x2 : Int32) : Option (Int32 × Int32 × Int32) := (if q_isFault = 0 then Option.bind (fX8_looks q_tapeMany q_readAt q_tape) (fun r9 => jX8_figure_18 q_tapeMany q_tape x1 x2 (r9.1 - (48 : Int32)) r9.2 q_isFault) else jX8_figure_18 q_tapeMany q_tape x1 x2 x1 q_readAt q_isFault)
abbrev gX8_figure (p : Program) (l : Launch) (e : Env) (s : State) (m : MethodId) (below : List Frame) (meth : Method) (c : Code) (D : vg) (cI cL cS cH : ClassId) (a_this : Nat) (a_this_st : Nat) (a_this_past : Nat) (a_this_image : Nat) (a_this_imagePast : Nat) (a_this_tape : Nat) (a_this_laneOf : Nat) (a_this_sizeOf : Nat) (a_this_items : Nat) (a_this_code : Nat) (a_this_from : Nat) (a_this_by : Nat) (a_this_far : Nat) (a_this_met : Nat) (a_this_told : Nat) (q_acts : Int32) (q_imageActs : Int32) (q_tapeMany : Int32) (q_many : Int32) (q_round : Int32) (q_readAt : Int32) (q_isFault : Int32) (q_toldMany : Int32) (q_tape : Nat → Int32) (x1 : Int32) (x2 : Int32) (res : Int32 × Int32 × Int32) (H : Heap) (locs : List Loc) (g : JFrame) : Prop := W p l e (headSpec wsX8_figure ({ frames := 1, cells := 0, slots := 0, locals := 25 })).room s m ([.ref a_this, .int x1, .int x2] : List Value).toArray below meth c H locs 0 0 (MQ below (va_Qi (fun r' (_ : Unit) => r' = res.1) (fun _ t => pos1 D s.heap.size (wX8_figure cI cL cS cH a_this a_this_st a_this_past a_this_image a_this_imagePast a_this_tape a_this_laneOf a_this_sizeOf a_this_items a_this_code a_this_from a_this_by a_this_far a_this_met a_this_told q_acts q_imageActs q_tapeMany q_many q_round q_readAt q_isFault q_toldMany q_tape) (wX8_figure cI cL cS cH a_this a_this_st a_this_past a_this_image a_this_imagePast a_this_tape a_this_laneOf a_this_sizeOf a_this_items a_this_code a_this_from a_this_by a_this_far a_this_met a_this_told q_acts q_imageActs q_tapeMany q_many q_round res.2.1 res.2.2 q_toldMany q_tape) t) (va_A (wX8_figure cI cL cS cH a_this a_this_st a_this_past a_this_image a_this_imagePast a_this_tape a_this_laneOf a_this_sizeOf a_this_items a_this_code a_this_from a_this_by a_this_far a_this_met a_this_told q_acts q_imageActs q_tapeMany q_many q_round q_readAt q_isFault q_toldMany q_tape) s.heap.size)) ([.ref a_this, .int x1, .int x2] : List Value).toArray s 0 0 (va_A (wX8_figure cI cL cS cH a_this a_this_st a_this_past a_this_image a_this_imagePast a_this_tape a_this_laneOf a_this_sizeOf a_this_items a_this_code a_this_from a_this_by a_this_far a_this_met a_this_told q_acts q_imageActs q_tapeMany q_many q_round q_readAt q_isFault q_toldMany q_tape) s.heap.size)) g
set_option maxHeartbeats 4000000 in
set_option maxRecDepth 100000 in
theorem mX8_figure (l : Launch) (D : vg) (cI cL cS cH : ClassId) (sz : Nat) (a_this : Nat) (a_this_st : Nat) (a_this_past : Nat) (a_this_image : Nat) (a_this_imagePast : Nat) (a_this_tape : Nat) (a_this_laneOf : Nat) (a_this_sizeOf : Nat) (a_this_items : Nat) (a_this_code : Nat) (a_this_from : Nat) (a_this_by : Nat) (a_this_far : Nat) (a_this_met : Nat) (a_this_told : Nat) (q_acts : Int32) (q_imageActs : Int32) (q_tapeMany : Int32) (q_many : Int32) (q_round : Int32) (q_readAt : Int32) (q_isFault : Int32) (q_toldMany : Int32) (q_tape : Nat → Int32) (x1 : Int32) (x2 : Int32) {res : Int32 × Int32 × Int32} (hf : fX8_figure q_tapeMany q_readAt q_isFault q_tape x1 x2 = some res) : cti l yX8_figure wsX8_figure ({ frames := 1, cells := 0, slots := 0, locals := 25 }) D (ty4 cI cL cS cH) sz [.ref a_this, .int x1, .int x2] (wX8_figure cI cL cS cH a_this a_this_st a_this_past a_this_image a_this_imagePast a_this_tape a_this_laneOf a_this_sizeOf a_this_items a_this_code a_this_from a_this_by a_this_far a_this_met a_this_told q_acts q_imageActs q_tapeMany q_many q_round q_readAt q_isFault q_toldMany q_tape) (wX8_figure cI cL cS cH a_this a_this_st a_this_past a_this_image a_this_imagePast a_this_tape a_this_laneOf a_this_sizeOf a_this_items a_this_code a_this_from a_this_by a_this_far a_this_met a_this_told q_acts q_imageActs q_tapeMany q_many q_round res.2.1 res.2.2 q_toldMany q_tape) res.1 := by
  refine Met.ofW (cc := cX8_figure) (maxL := 4) (ret := (some .int)) (by decide) rfl ?_
  intro p e s m args below meth c s₁ B hml hv
  obtain ⟨rfl, hpre⟩ := hv
  obtain rfl := hpre.1
  have C : CallFix p m c cX8_figure 4 s _ wsX8_figure RX8 := ⟨B.exec, B.bytes, hml, findClass_of_methodNamed B.named, atoms_spec (ws := wsX8_figure) B.pre⟩
  have hr := B.returns
  have hlocks := B.notSynchronized
  have w := wd_start hpre
  clear hpre B
  have hl := lv_entry ([.ref a_this, .int x1, .int x2]) (n := 4) (Nat.le_of_ble_eq_true rfl)
  rw [lg_entry_eq]
  generalize (lg_sl ([.ref a_this, .int x1, .int x2]) ++ List.replicate (4 - (lg_sl ([.ref a_this, .int x1, .int x2])).length) Slot.unset).toArray = ls at hl ⊢
  have hl : lv_has ls 4 [(0, .ref a_this), (1, .int x1), (2, .int x2)] := hl
  unfold fX8_figure at hf
  have hj44 : ∀ (y44_3 : Int32) (z44_0 : Int32) (k44_q_readAt : Int32) (k44_q_isFault : Int32) (H : Heap) (locs : List Loc) (ls : Array Slot), wd D (ty4 cI cL cS cH) s (va_A (wX8_figure cI cL cS cH a_this a_this_st a_this_past a_this_image a_this_imagePast a_this_tape a_this_laneOf a_this_sizeOf a_this_items a_this_code a_this_from a_this_by a_this_far a_this_met a_this_told q_acts q_imageActs q_tapeMany q_many q_round q_readAt q_isFault q_toldMany q_tape) s.heap.size) s.heap H locs (wX8_figure cI cL cS cH a_this a_this_st a_this_past a_this_image a_this_imagePast a_this_tape a_this_laneOf a_this_sizeOf a_this_items a_this_code a_this_from a_this_by a_this_far a_this_met a_this_told q_acts q_imageActs q_tapeMany q_many q_round k44_q_readAt k44_q_isFault q_toldMany q_tape) → lv_has ls 4 [(0, .ref a_this), (1, .int x1), (3, .int y44_3)] → jX8_figure_44 q_tapeMany q_tape x1 y44_3 z44_0 k44_q_readAt k44_q_isFault = some res → gX8_figure p l e s m below meth c D cI cL cS cH a_this a_this_st a_this_past a_this_image a_this_imagePast a_this_tape a_this_laneOf a_this_sizeOf a_this_items a_this_code a_this_from a_this_by a_this_far a_this_met a_this_told q_acts q_imageActs q_tapeMany q_many q_round q_readAt q_isFault q_toldMany q_tape x1 x2 res H locs (F0 m 44 ls [.int z44_0, .ref a_this]) := by
    intro y44_3 z44_0 k44_q_readAt k44_q_isFault H locs ls w hl hf
    unfold jX8_figure_44 at hf
    obtain ⟨r1, hc2, hf⟩ := bd hf
    refine call_Vv (ws' := (wX8_figure cI cL cS cH a_this a_this_st a_this_past a_this_image a_this_imagePast a_this_tape a_this_laneOf a_this_sizeOf a_this_items a_this_code a_this_from a_this_by a_this_far a_this_met a_this_told q_acts q_imageActs q_tapeMany q_many q_round r1.1 r1.2 q_toldMany q_tape)) (rest := []) C w (mX8_takes l D cI cL cS cH _ a_this a_this_st a_this_past a_this_image a_this_imagePast a_this_tape a_this_laneOf a_this_sizeOf a_this_items a_this_code a_this_from a_this_by a_this_far a_this_met a_this_told q_acts q_imageActs q_tapeMany q_many q_round k44_q_readAt k44_q_isFault q_toldMany z44_0 hc2) (cwV 1 C.2.2.2.2 gX8_figure_X8_takes rfl rfl rfl (by decide +kernel) ⟨Nat.le_of_ble_eq_true rfl, Nat.le_of_ble_eq_true rfl⟩) [0] [1] 2 ⟨rfl, trivial⟩ ⟨rfl, trivial⟩ ⟨⟨_, rfl, rfl⟩, trivial⟩ rfl (by decide) (by decide) (ci := 8) (q0 := 0) rfl rfl rfl hl.1 rfl (lv_room (Nat.le_of_ble_eq_true rfl)) dX8_figure_44 ⟨Nat.zero_le _, Nat.zero_le _⟩ (fun H locs w => ?_)
    refine lv_aload_n C.1 C.2.1 dX8_figure_47 rfl (lv_at hl 0 rfl) ?_
    refine r_get C w inX8_figure_X8 0 rfl rfl 19 (by decide) lkX8_figure_190 rfl dX8_figure_48 ?_
    refine lv_if_eq (tgt := 58) C.1 C.2.1 dX8_figure_51 (by decide) (fun hq3 => ?_) (fun hq3 => ?_)
    · have hf := ite_t hf hq3
      refine lv_iload_n C.1 C.2.1 dX8_figure_58 rfl (lv_at hl 2 rfl) ?_
      have hres := Option.some.inj hf
      subst hres
      exact ret_i C hr hlocks w rfl dX8_figure_59
    · have hf := ite_f hf hq3
      refine lv_iload_n C.1 C.2.1 dX8_figure_54 rfl (lv_at hl 1 rfl) ?_
      refine lv_goto (tgt := 59) C.1 C.2.1 dX8_figure_55 (by decide) ?_
      have hres := Option.some.inj hf
      subst hres
      exact ret_i C hr hlocks w rfl dX8_figure_59
  have hj39 : ∀ (y39_3 : Int32) (k39_q_readAt : Int32) (k39_q_isFault : Int32) (H : Heap) (locs : List Loc) (ls : Array Slot), wd D (ty4 cI cL cS cH) s (va_A (wX8_figure cI cL cS cH a_this a_this_st a_this_past a_this_image a_this_imagePast a_this_tape a_this_laneOf a_this_sizeOf a_this_items a_this_code a_this_from a_this_by a_this_far a_this_met a_this_told q_acts q_imageActs q_tapeMany q_many q_round q_readAt q_isFault q_toldMany q_tape) s.heap.size) s.heap H locs (wX8_figure cI cL cS cH a_this a_this_st a_this_past a_this_image a_this_imagePast a_this_tape a_this_laneOf a_this_sizeOf a_this_items a_this_code a_this_from a_this_by a_this_far a_this_met a_this_told q_acts q_imageActs q_tapeMany q_many q_round k39_q_readAt k39_q_isFault q_toldMany q_tape) → lv_has ls 4 [(0, .ref a_this), (1, .int x1), (3, .int y39_3)] → jX8_figure_39 q_tapeMany q_tape x1 y39_3 k39_q_readAt k39_q_isFault = some res → gX8_figure p l e s m below meth c D cI cL cS cH a_this a_this_st a_this_past a_this_image a_this_imagePast a_this_tape a_this_laneOf a_this_sizeOf a_this_items a_this_code a_this_from a_this_by a_this_far a_this_met a_this_told q_acts q_imageActs q_tapeMany q_many q_round q_readAt q_isFault q_toldMany q_tape x1 x2 res H locs (F0 m 39 ls [.ref a_this]) := by
    intro y39_3 k39_q_readAt k39_q_isFault H locs ls w hl hf
    unfold jX8_figure_39 at hf
    refine lv_iconst (v := (1 : Int32)) C.1 C.2.1 dX8_figure_39 (by decide) ?_
    refine lv_goto (tgt := 44) C.1 C.2.1 dX8_figure_40 (by decide) ?_
    exact hj44 y39_3 (1 : Int32) k39_q_readAt k39_q_isFault _ _ _ w (lv_sub hl [0, 1, 2] rfl) hf
  have hj18 : ∀ (z18_0 : Int32) (k18_q_readAt : Int32) (k18_q_isFault : Int32) (H : Heap) (locs : List Loc) (ls : Array Slot), wd D (ty4 cI cL cS cH) s (va_A (wX8_figure cI cL cS cH a_this a_this_st a_this_past a_this_image a_this_imagePast a_this_tape a_this_laneOf a_this_sizeOf a_this_items a_this_code a_this_from a_this_by a_this_far a_this_met a_this_told q_acts q_imageActs q_tapeMany q_many q_round q_readAt q_isFault q_toldMany q_tape) s.heap.size) s.heap H locs (wX8_figure cI cL cS cH a_this a_this_st a_this_past a_this_image a_this_imagePast a_this_tape a_this_laneOf a_this_sizeOf a_this_items a_this_code a_this_from a_this_by a_this_far a_this_met a_this_told q_acts q_imageActs q_tapeMany q_many q_round k18_q_readAt k18_q_isFault q_toldMany q_tape) → lv_has ls 4 [(0, .ref a_this), (1, .int x1), (2, .int x2)] → jX8_figure_18 q_tapeMany q_tape x1 x2 z18_0 k18_q_readAt k18_q_isFault = some res → gX8_figure p l e s m below meth c D cI cL cS cH a_this a_this_st a_this_past a_this_image a_this_imagePast a_this_tape a_this_laneOf a_this_sizeOf a_this_items a_this_code a_this_from a_this_by a_this_far a_this_met a_this_told q_acts q_imageActs q_tapeMany q_many q_round q_readAt q_isFault q_toldMany q_tape x1 x2 res H locs (F0 m 18 ls [.int z18_0]) := by
    intro z18_0 k18_q_readAt k18_q_isFault H locs ls w hl hf
    unfold jX8_figure_18 at hf
    refine lv_istore_n (lv' := [(3, .int z18_0), (0, .ref a_this), (1, .int x1), (2, .int x2)]) C.1 C.2.1 dX8_figure_18 rfl hl (by decide) rfl (fun ls hl => ?_)
    refine lv_aload_n C.1 C.2.1 dX8_figure_19 rfl (lv_at hl 1 rfl) ?_
    refine lv_aload_n C.1 C.2.1 dX8_figure_20 rfl (lv_at hl 1 rfl) ?_
    refine r_get C w inX8_figure_X8 0 rfl rfl 19 (by decide) lkX8_figure_190 rfl dX8_figure_21 ?_
    refine lv_if_ne (tgt := 39) C.1 C.2.1 dX8_figure_24 (by decide) (fun hq4 => ?_) (fun hq4 => ?_)
    · have hf := ite_f hf hq4
      exact hj39 z18_0 k18_q_readAt k18_q_isFault _ _ _ w (lv_sub hl [1, 2, 0] rfl) hf
    · have hf := ite_t hf hq4
      refine lv_iload_n C.1 C.2.1 dX8_figure_27 rfl (lv_at hl 0 rfl) ?_
      refine lv_i2l C.1 C.2.1 dX8_figure_28 rfl ?_
      refine lv_iload_n C.1 C.2.1 dX8_figure_29 rfl (lv_at hl 2 rfl) ?_
      refine lv_i2l C.1 C.2.1 dX8_figure_30 rfl ?_
      refine lv_iload_n C.1 C.2.1 dX8_figure_31 rfl (lv_at hl 3 rfl) ?_
      refine lv_i2l C.1 C.2.1 dX8_figure_32 rfl ?_
      obtain ⟨r5, hc6, hf⟩ := bd hf
      refine call_Si (ws' := (wX8_figure cI cL cS cH a_this a_this_st a_this_past a_this_image a_this_imagePast a_this_tape a_this_laneOf a_this_sizeOf a_this_items a_this_code a_this_from a_this_by a_this_far a_this_met a_this_told q_acts q_imageActs q_tapeMany q_many q_round k18_q_readAt k18_q_isFault q_toldMany q_tape)) (rest := [.ref a_this]) C w (mX8_in l D cI cL cS cH _ ((z18_0).toInt64) ((x1).toInt64) ((x2).toInt64) hc6) (va_cwS 3 C.2.2.2.2 gX8_figure_X8_in rfl rfl rfl (by decide +kernel) ⟨Nat.le_of_ble_eq_true rfl, Nat.le_of_ble_eq_true rfl⟩) [] [0, 1] 2 trivial trivial ⟨⟨_, rfl, rfl⟩, ⟨_, rfl, rfl⟩, trivial⟩ rfl (by decide) (by decide) rfl hl.1 rfl (lv_room (Nat.le_of_ble_eq_true rfl)) dX8_figure_33 ⟨Nat.zero_le _, Nat.zero_le _⟩ (fun H locs w => ?_)
      refine lv_if_eq (tgt := 43) C.1 C.2.1 dX8_figure_36 (by decide) (fun hq7 => ?_) (fun hq7 => ?_)
      · have hf := ite_t hf hq7
        refine lv_iconst (v := (0 : Int32)) C.1 C.2.1 dX8_figure_43 (by decide) ?_
        exact hj44 z18_0 (0 : Int32) k18_q_readAt k18_q_isFault _ _ _ w (lv_sub hl [1, 2, 0] rfl) hf
      · have hf := ite_f hf hq7
        exact hj39 z18_0 k18_q_readAt k18_q_isFault _ _ _ w (lv_sub hl [1, 2, 0] rfl) hf
  refine lv_aload_n C.1 C.2.1 dX8_figure_0 rfl (lv_at hl 0 rfl) ?_
  refine r_get C w inX8_figure_X8 0 rfl rfl 19 (by decide) lkX8_figure_190 rfl dX8_figure_1 ?_
  refine lv_if_eq (tgt := 11) C.1 C.2.1 dX8_figure_4 (by decide) (fun hq8 => ?_) (fun hq8 => ?_)
  · have hf := ite_t hf hq8
    refine lv_aload_n C.1 C.2.1 dX8_figure_11 rfl (lv_at hl 0 rfl) ?_
    obtain ⟨r9, hc10, hf⟩ := bd hf
    refine call_Vi (ws' := (wX8_figure cI cL cS cH a_this a_this_st a_this_past a_this_image a_this_imagePast a_this_tape a_this_laneOf a_this_sizeOf a_this_items a_this_code a_this_from a_this_by a_this_far a_this_met a_this_told q_acts q_imageActs q_tapeMany q_many q_round r9.2 q_isFault q_toldMany q_tape)) (rest := []) C w (mX8_looks l D cI cL cS cH _ a_this a_this_st a_this_past a_this_image a_this_imagePast a_this_tape a_this_laneOf a_this_sizeOf a_this_items a_this_code a_this_from a_this_by a_this_far a_this_met a_this_told q_acts q_imageActs q_tapeMany q_many q_round q_readAt q_isFault q_toldMany q_tape hc10) (cwV 0 C.2.2.2.2 gX8_figure_X8_looks rfl rfl rfl (by decide +kernel) ⟨Nat.le_of_ble_eq_true rfl, Nat.le_of_ble_eq_true rfl⟩) [0, 1] [] 2 ⟨rfl, rfl, trivial⟩ ⟨rfl, rfl, trivial⟩ trivial rfl (by decide) (by decide) (ci := 8) (q0 := 0) rfl rfl rfl hl.1 rfl (lv_room (Nat.le_of_ble_eq_true rfl)) dX8_figure_12 ⟨Nat.zero_le _, Nat.zero_le _⟩ (fun H locs w => ?_)
    refine lv_bipush (v := (48 : Int32)) C.1 C.2.1 dX8_figure_15 (by decide) ?_
    refine lv_isub C.1 C.2.1 dX8_figure_17 ?_
    exact hj18 (r9.1 - (48 : Int32)) r9.2 q_isFault _ _ _ w (lv_sub hl [0, 1, 2] rfl) hf
  · have hf := ite_f hf hq8
    refine lv_iload_n C.1 C.2.1 dX8_figure_7 rfl (lv_at hl 1 rfl) ?_
    refine lv_goto (tgt := 18) C.1 C.2.1 dX8_figure_8 (by decide) ?_
    exact hj18 x1 q_readAt q_isFault _ _ _ w (lv_sub hl [0, 1, 2] rfl) hf

set_option maxRecDepth 100000 in
theorem inX8_isThere_X8 : ∀ w ∈ u_ws RX8 TX8 22, w ∈ wsX8_isThere := by decide +kernel
set_option maxRecDepth 100000 in
theorem lkX8_isThere_184 : Cond.fieldLink RX8 184 "CleanNetsModel" "tapeMany" "I" ∈ wsX8_isThere := by decide +kernel
set_option maxRecDepth 100000 in
theorem lkX8_isThere_26 : Cond.fieldLink RX8 26 "CleanNetsModel" "tape" "[I" ∈ wsX8_isThere := by decide +kernel
abbrev wX8_isThere (cI cL cS cH : ClassId) (a_this : Nat) (a_this_st : Nat) (a_this_past : Nat) (a_this_image : Nat) (a_this_imagePast : Nat) (a_this_tape : Nat) (a_this_laneOf : Nat) (a_this_sizeOf : Nat) (a_this_items : Nat) (a_this_code : Nat) (a_this_from : Nat) (a_this_by : Nat) (a_this_far : Nat) (a_this_met : Nat) (a_this_told : Nat) (q_acts : Int32) (q_imageActs : Int32) (q_tapeMany : Int32) (q_many : Int32) (q_round : Int32) (q_readAt : Int32) (q_isFault : Int32) (q_toldMany : Int32) (q_tape : Nat → Int32) : va_W := [(a_this, .inr (8, [.ref a_this_st, .ref a_this_past, .int q_acts, .ref a_this_image, .ref a_this_imagePast, .int q_imageActs, .ref a_this_tape, .int q_tapeMany, .ref a_this_laneOf, .ref a_this_sizeOf, .ref a_this_items, .ref a_this_code, .ref a_this_from, .ref a_this_by, .ref a_this_far, .int q_many, .ref a_this_met, .int q_round, .int q_readAt, .int q_isFault, .int q_toldMany, .ref a_this_told])),
  (a_this_tape, .inl (cI, 90, .inl q_tape))]
def fX8_isThere (q_tapeMany : Int32) (q_tape : Nat → Int32) (x1 : Int32) (x2 : Int32) : Option (Int32) := (if q_tapeMany ≤ x1 then some (0 : Int32) else Option.bind (rd q_tape 90 x1) (fun y2 => (if y2 = x2 then some (1 : Int32) else some (0 : Int32))))
set_option maxHeartbeats 4000000 in
set_option maxRecDepth 100000 in
theorem mX8_isThere (l : Launch) (D : vg) (cI cL cS cH : ClassId) (sz : Nat) (a_this : Nat) (a_this_st : Nat) (a_this_past : Nat) (a_this_image : Nat) (a_this_imagePast : Nat) (a_this_tape : Nat) (a_this_laneOf : Nat) (a_this_sizeOf : Nat) (a_this_items : Nat) (a_this_code : Nat) (a_this_from : Nat) (a_this_by : Nat) (a_this_far : Nat) (a_this_met : Nat) (a_this_told : Nat) (q_acts : Int32) (q_imageActs : Int32) (q_tapeMany : Int32) (q_many : Int32) (q_round : Int32) (q_readAt : Int32) (q_isFault : Int32) (q_toldMany : Int32) (q_tape : Nat → Int32) (x1 : Int32) (x2 : Int32) {res : Int32} (hf : fX8_isThere q_tapeMany q_tape x1 x2 = some res) : cti l yX8_isThere wsX8_isThere ({ frames := 0, cells := 0, slots := 0, locals := 0 }) D (ty4 cI cL cS cH) sz [.ref a_this, .int x1, .int x2] (wX8_isThere cI cL cS cH a_this a_this_st a_this_past a_this_image a_this_imagePast a_this_tape a_this_laneOf a_this_sizeOf a_this_items a_this_code a_this_from a_this_by a_this_far a_this_met a_this_told q_acts q_imageActs q_tapeMany q_many q_round q_readAt q_isFault q_toldMany q_tape) (wX8_isThere cI cL cS cH a_this a_this_st a_this_past a_this_image a_this_imagePast a_this_tape a_this_laneOf a_this_sizeOf a_this_items a_this_code a_this_from a_this_by a_this_far a_this_met a_this_told q_acts q_imageActs q_tapeMany q_many q_round q_readAt q_isFault q_toldMany q_tape) res := by
  refine Met.ofW (cc := cX8_isThere) (maxL := 3) (ret := (some .boolean)) (by decide) rfl ?_
  intro p e s m args below meth c s₁ B hml hv
  obtain ⟨rfl, hpre⟩ := hv
  obtain rfl := hpre.1
  have C : CallFix p m c cX8_isThere 3 s _ wsX8_isThere RX8 := ⟨B.exec, B.bytes, hml, findClass_of_methodNamed B.named, atoms_spec (ws := wsX8_isThere) B.pre⟩
  have hr := B.returns
  have hlocks := B.notSynchronized
  have w := wd_start hpre
  clear hpre B
  have hl := lv_entry ([.ref a_this, .int x1, .int x2]) (n := 3) (Nat.le_of_ble_eq_true rfl)
  rw [lg_entry_eq]
  generalize (lg_sl ([.ref a_this, .int x1, .int x2]) ++ List.replicate (3 - (lg_sl ([.ref a_this, .int x1, .int x2])).length) Slot.unset).toArray = ls at hl ⊢
  have hl : lv_has ls 3 [(0, .ref a_this), (1, .int x1), (2, .int x2)] := hl
  unfold fX8_isThere at hf
  refine lv_iload_n C.1 C.2.1 dX8_isThere_0 rfl (lv_at hl 1 rfl) ?_
  refine lv_aload_n C.1 C.2.1 dX8_isThere_1 rfl (lv_at hl 0 rfl) ?_
  refine r_get C w inX8_isThere_X8 0 rfl rfl 7 (by decide) lkX8_isThere_184 rfl dX8_isThere_2 ?_
  refine lv_icmp_ge (tgt := 22) C.1 C.2.1 dX8_isThere_5 (by decide) (fun hq1 => ?_) (fun hq1 => ?_)
  · have hf := ite_t hf hq1
    refine lv_iconst (v := (0 : Int32)) C.1 C.2.1 dX8_isThere_22 (by decide) ?_
    have hres := Option.some.inj hf
    subst hres
    exact ret_z C hr hlocks w (by decide) rfl dX8_isThere_23
  · have hf := ite_f hf hq1
    refine lv_aload_n C.1 C.2.1 dX8_isThere_8 rfl (lv_at hl 0 rfl) ?_
    refine r_get C w inX8_isThere_X8 0 rfl rfl 6 (by decide) lkX8_isThere_26 rfl dX8_isThere_9 ?_
    refine lv_iload_n C.1 C.2.1 dX8_isThere_12 rfl (lv_at hl 1 rfl) ?_
    obtain ⟨y2, hy3, hf⟩ := bd hf
    refine r_iald C w 1 0 rfl rfl (rd_in hy3) dX8_isThere_13 ?_
    refine lv_iload_n C.1 C.2.1 dX8_isThere_14 rfl (lv_at hl 2 rfl) ?_
    refine lv_icmp_ne (tgt := 22) C.1 C.2.1 dX8_isThere_15 (by decide) (fun hq4 => ?_) (fun hq4 => ?_)
    · have hf := ite_f hf hq4
      refine lv_iconst (v := (0 : Int32)) C.1 C.2.1 dX8_isThere_22 (by decide) ?_
      have hres := Option.some.inj hf
      subst hres
      exact ret_z C hr hlocks w (by decide) rfl dX8_isThere_23
    · have hf := ite_t hf hq4
      refine lv_iconst (v := (1 : Int32)) C.1 C.2.1 dX8_isThere_18 (by decide) ?_
      refine lv_goto (tgt := 23) C.1 C.2.1 dX8_isThere_19 (by decide) ?_
      have hres := Option.some.inj hf
      subst hres
      exact ret_z C hr hlocks w (by decide) rfl dX8_isThere_23

set_option maxRecDepth 100000 in
theorem inX8_isWord_X8 : ∀ w ∈ u_ws RX8 TX8 22, w ∈ wsX8_isWord := by decide +kernel
set_option maxRecDepth 100000 in
theorem lkX8_isWord_187 : Cond.fieldLink RX8 187 "CleanNetsModel" "readAt" "I" ∈ wsX8_isWord := by decide +kernel
set_option maxRecDepth 100000 in
theorem lkX8_isWord_184 : Cond.fieldLink RX8 184 "CleanNetsModel" "tapeMany" "I" ∈ wsX8_isWord := by decide +kernel
set_option maxRecDepth 100000 in
theorem lkX8_isWord_26 : Cond.fieldLink RX8 26 "CleanNetsModel" "tape" "[I" ∈ wsX8_isWord := by decide +kernel
abbrev wX8_isWord (cI cL cS cH : ClassId) (a_this : Nat) (a_this_st : Nat) (a_this_past : Nat) (a_this_image : Nat) (a_this_imagePast : Nat) (a_this_tape : Nat) (a_this_laneOf : Nat) (a_this_sizeOf : Nat) (a_this_items : Nat) (a_this_code : Nat) (a_this_from : Nat) (a_this_by : Nat) (a_this_far : Nat) (a_this_met : Nat) (a_this_told : Nat) (q_acts : Int32) (q_imageActs : Int32) (q_tapeMany : Int32) (q_many : Int32) (q_round : Int32) (q_readAt : Int32) (q_isFault : Int32) (q_toldMany : Int32) (q_tape : Nat → Int32) : va_W := [(a_this, .inr (8, [.ref a_this_st, .ref a_this_past, .int q_acts, .ref a_this_image, .ref a_this_imagePast, .int q_imageActs, .ref a_this_tape, .int q_tapeMany, .ref a_this_laneOf, .ref a_this_sizeOf, .ref a_this_items, .ref a_this_code, .ref a_this_from, .ref a_this_by, .ref a_this_far, .int q_many, .ref a_this_met, .int q_round, .int q_readAt, .int q_isFault, .int q_toldMany, .ref a_this_told])),
  (a_this_tape, .inl (cI, 90, .inl q_tape))]
def jX8_isWord_123 (q_tapeMany : Int32) (q_readAt : Int32) (q_tape : Nat → Int32)  : Option (Int32) := some (1 : Int32)
def jX8_isWord_77 (q_tapeMany : Int32) (q_readAt : Int32) (q_tape : Nat → Int32) (y77_5 : Int32) (z77_0 : Int32) : Option (Int32) := (if z77_0 = 0 then some (0 : Int32) else (if q_tapeMany ≤ (q_readAt + y77_5) then jX8_isWord_123 q_tapeMany q_readAt q_tape else Option.bind (rd q_tape 90 (q_readAt + y77_5)) (fun y3 => Option.bind (fX8_in ((y3).toInt64) (97 : Int64) (122 : Int64)) (fun r5 => (if r5 = 0 then jX8_isWord_123 q_tapeMany q_readAt q_tape else some (0 : Int32))))))
def jX8_isWord_76 (q_tapeMany : Int32) (q_readAt : Int32) (q_tape : Nat → Int32) (y76_5 : Int32) : Option (Int32) := jX8_isWord_77 q_tapeMany q_readAt q_tape y76_5 (0 : Int32)
def jX8_isWord_72 (q_tapeMany : Int32) (q_readAt : Int32) (q_tape : Nat → Int32) (y72_5 : Int32) : Option (Int32) := jX8_isWord_77 q_tapeMany q_readAt q_tape y72_5 (1 : Int32)
def jX8_isWord_10 (q_tapeMany : Int32) (q_readAt : Int32) (q_tape : Nat → Int32) (x1 : Int32) (x2 : Int32) (x3 : Int32) (x4 : Int32) (z10_0 : Int32) : Option (Int32) := Option.bind (fX8_isThere q_tapeMany q_tape q_readAt x1) (fun r8 => (if r8 = 0 then jX8_isWord_76 q_tapeMany q_readAt q_tape z10_0 else Option.bind (fX8_isThere q_tapeMany q_tape (q_readAt + (1 : Int32)) x2) (fun r11 => (if r11 = 0 then jX8_isWord_76 q_tapeMany q_readAt q_tape z10_0 else Option.bind (fX8_isThere q_tapeMany q_tape (q_readAt + (2 : Int32)) x3) (fun r14 => (if r14 = 0 then jX8_isWord_76 q_tapeMany q_readAt q_tape z10_0 else (if x4 = 0 then jX8_isWord_72 q_tapeMany q_readAt q_tape z10_0 else Option.bind (fX8_isThere q_tapeMany q_tape (q_readAt + (3 : Int32)) x4) (fun r18 => (if r18 = 0 then jX8_isWord_76 q_tapeMany q_readAt q_tape z10_0 else jX8_isWord_72 q_tapeMany q_readAt q_tape z10_0)))))))))
def fX8_isWord (q_tapeMany : Int32) (q_readAt : Int32) (q_tape : Nat → Int32) (x1 : Int32) (x2 : Int32) (x3 : Int32) (x4 : Int32) : Option (Int32) := (if x4 = 0 then jX8_isWord_10 q_tapeMany q_readAt q_tape x1 x2 x3 x4 (3 : Int32) else jX8_isWord_10 q_tapeMany q_readAt q_tape x1 x2 x3 x4 (4 : Int32))
abbrev gX8_isWord (p : Program) (l : Launch) (e : Env) (s : State) (m : MethodId) (below : List Frame) (meth : Method) (c : Code) (D : vg) (cI cL cS cH : ClassId) (a_this : Nat) (a_this_st : Nat) (a_this_past : Nat) (a_this_image : Nat) (a_this_imagePast : Nat) (a_this_tape : Nat) (a_this_laneOf : Nat) (a_this_sizeOf : Nat) (a_this_items : Nat) (a_this_code : Nat) (a_this_from : Nat) (a_this_by : Nat) (a_this_far : Nat) (a_this_met : Nat) (a_this_told : Nat) (q_acts : Int32) (q_imageActs : Int32) (q_tapeMany : Int32) (q_many : Int32) (q_round : Int32) (q_readAt : Int32) (q_isFault : Int32) (q_toldMany : Int32) (q_tape : Nat → Int32) (x1 : Int32) (x2 : Int32) (x3 : Int32) (x4 : Int32) (res : Int32) (H : Heap) (locs : List Loc) (g : JFrame) : Prop := W p l e (headSpec wsX8_isWord ({ frames := 1, cells := 0, slots := 0, locals := 25 })).room s m ([.ref a_this, .int x1, .int x2, .int x3, .int x4] : List Value).toArray below meth c H locs 0 0 (MQ below (va_Qi (fun r' (_ : Unit) => r' = res) (fun _ t => pos1 D s.heap.size (wX8_isWord cI cL cS cH a_this a_this_st a_this_past a_this_image a_this_imagePast a_this_tape a_this_laneOf a_this_sizeOf a_this_items a_this_code a_this_from a_this_by a_this_far a_this_met a_this_told q_acts q_imageActs q_tapeMany q_many q_round q_readAt q_isFault q_toldMany q_tape) (wX8_isWord cI cL cS cH a_this a_this_st a_this_past a_this_image a_this_imagePast a_this_tape a_this_laneOf a_this_sizeOf a_this_items a_this_code a_this_from a_this_by a_this_far a_this_met a_this_told q_acts q_imageActs q_tapeMany q_many q_round q_readAt q_isFault q_toldMany q_tape) t) (va_A (wX8_isWord cI cL cS cH a_this a_this_st a_this_past a_this_image a_this_imagePast a_this_tape a_this_laneOf a_this_sizeOf a_this_items a_this_code a_this_from a_this_by a_this_far a_this_met a_this_told q_acts q_imageActs q_tapeMany q_many q_round q_readAt q_isFault q_toldMany q_tape) s.heap.size)) ([.ref a_this, .int x1, .int x2, .int x3, .int x4] : List Value).toArray s 0 0 (va_A (wX8_isWord cI cL cS cH a_this a_this_st a_this_past a_this_image a_this_imagePast a_this_tape a_this_laneOf a_this_sizeOf a_this_items a_this_code a_this_from a_this_by a_this_far a_this_met a_this_told q_acts q_imageActs q_tapeMany q_many q_round q_readAt q_isFault q_toldMany q_tape) s.heap.size)) g
set_option maxHeartbeats 4000000 in
set_option maxRecDepth 100000 in
theorem mX8_isWord (l : Launch) (D : vg) (cI cL cS cH : ClassId) (sz : Nat) (a_this : Nat) (a_this_st : Nat) (a_this_past : Nat) (a_this_image : Nat) (a_this_imagePast : Nat) (a_this_tape : Nat) (a_this_laneOf : Nat) (a_this_sizeOf : Nat) (a_this_items : Nat) (a_this_code : Nat) (a_this_from : Nat) (a_this_by : Nat) (a_this_far : Nat) (a_this_met : Nat) (a_this_told : Nat) (q_acts : Int32) (q_imageActs : Int32) (q_tapeMany : Int32) (q_many : Int32) (q_round : Int32) (q_readAt : Int32) (q_isFault : Int32) (q_toldMany : Int32) (q_tape : Nat → Int32) (x1 : Int32) (x2 : Int32) (x3 : Int32) (x4 : Int32) {res : Int32} (hf : fX8_isWord q_tapeMany q_readAt q_tape x1 x2 x3 x4 = some res) : cti l yX8_isWord wsX8_isWord ({ frames := 1, cells := 0, slots := 0, locals := 25 }) D (ty4 cI cL cS cH) sz [.ref a_this, .int x1, .int x2, .int x3, .int x4] (wX8_isWord cI cL cS cH a_this a_this_st a_this_past a_this_image a_this_imagePast a_this_tape a_this_laneOf a_this_sizeOf a_this_items a_this_code a_this_from a_this_by a_this_far a_this_met a_this_told q_acts q_imageActs q_tapeMany q_many q_round q_readAt q_isFault q_toldMany q_tape) (wX8_isWord cI cL cS cH a_this a_this_st a_this_past a_this_image a_this_imagePast a_this_tape a_this_laneOf a_this_sizeOf a_this_items a_this_code a_this_from a_this_by a_this_far a_this_met a_this_told q_acts q_imageActs q_tapeMany q_many q_round q_readAt q_isFault q_toldMany q_tape) res := by
  refine Met.ofW (cc := cX8_isWord) (maxL := 7) (ret := (some .boolean)) (by decide) rfl ?_
  intro p e s m args below meth c s₁ B hml hv
  obtain ⟨rfl, hpre⟩ := hv
  obtain rfl := hpre.1
  have C : CallFix p m c cX8_isWord 7 s _ wsX8_isWord RX8 := ⟨B.exec, B.bytes, hml, findClass_of_methodNamed B.named, atoms_spec (ws := wsX8_isWord) B.pre⟩
  have hr := B.returns
  have hlocks := B.notSynchronized
  have w := wd_start hpre
  clear hpre B
  have hl := lv_entry ([.ref a_this, .int x1, .int x2, .int x3, .int x4]) (n := 7) (Nat.le_of_ble_eq_true rfl)
  rw [lg_entry_eq]
  generalize (lg_sl ([.ref a_this, .int x1, .int x2, .int x3, .int x4]) ++ List.replicate (7 - (lg_sl ([.ref a_this, .int x1, .int x2, .int x3, .int x4])).length) Slot.unset).toArray = ls at hl ⊢
  have hl : lv_has ls 7 [(0, .ref a_this), (1, .int x1), (2, .int x2), (3, .int x3), (4, .int x4)] := hl
  unfold fX8_isWord at hf
  have hj123 : ∀  (H : Heap) (locs : List Loc) (ls : Array Slot), wd D (ty4 cI cL cS cH) s (va_A (wX8_isWord cI cL cS cH a_this a_this_st a_this_past a_this_image a_this_imagePast a_this_tape a_this_laneOf a_this_sizeOf a_this_items a_this_code a_this_from a_this_by a_this_far a_this_met a_this_told q_acts q_imageActs q_tapeMany q_many q_round q_readAt q_isFault q_toldMany q_tape) s.heap.size) s.heap H locs (wX8_isWord cI cL cS cH a_this a_this_st a_this_past a_this_image a_this_imagePast a_this_tape a_this_laneOf a_this_sizeOf a_this_items a_this_code a_this_from a_this_by a_this_far a_this_met a_this_told q_acts q_imageActs q_tapeMany q_many q_round q_readAt q_isFault q_toldMany q_tape) → lv_has ls 7 [] → jX8_isWord_123 q_tapeMany q_readAt q_tape = some res → gX8_isWord p l e s m below meth c D cI cL cS cH a_this a_this_st a_this_past a_this_image a_this_imagePast a_this_tape a_this_laneOf a_this_sizeOf a_this_items a_this_code a_this_from a_this_by a_this_far a_this_met a_this_told q_acts q_imageActs q_tapeMany q_many q_round q_readAt q_isFault q_toldMany q_tape x1 x2 x3 x4 res H locs (F0 m 123 ls []) := by
    intro  H locs ls w hl hf
    unfold jX8_isWord_123 at hf
    refine lv_iconst (v := (1 : Int32)) C.1 C.2.1 dX8_isWord_123 (by decide) ?_
    refine lv_goto (tgt := 128) C.1 C.2.1 dX8_isWord_124 (by decide) ?_
    have hres := Option.some.inj hf
    subst hres
    exact ret_z C hr hlocks w (by decide) rfl dX8_isWord_128
  have hj77 : ∀ (y77_5 : Int32) (z77_0 : Int32) (H : Heap) (locs : List Loc) (ls : Array Slot), wd D (ty4 cI cL cS cH) s (va_A (wX8_isWord cI cL cS cH a_this a_this_st a_this_past a_this_image a_this_imagePast a_this_tape a_this_laneOf a_this_sizeOf a_this_items a_this_code a_this_from a_this_by a_this_far a_this_met a_this_told q_acts q_imageActs q_tapeMany q_many q_round q_readAt q_isFault q_toldMany q_tape) s.heap.size) s.heap H locs (wX8_isWord cI cL cS cH a_this a_this_st a_this_past a_this_image a_this_imagePast a_this_tape a_this_laneOf a_this_sizeOf a_this_items a_this_code a_this_from a_this_by a_this_far a_this_met a_this_told q_acts q_imageActs q_tapeMany q_many q_round q_readAt q_isFault q_toldMany q_tape) → lv_has ls 7 [(0, .ref a_this), (5, .int y77_5)] → jX8_isWord_77 q_tapeMany q_readAt q_tape y77_5 z77_0 = some res → gX8_isWord p l e s m below meth c D cI cL cS cH a_this a_this_st a_this_past a_this_image a_this_imagePast a_this_tape a_this_laneOf a_this_sizeOf a_this_items a_this_code a_this_from a_this_by a_this_far a_this_met a_this_told q_acts q_imageActs q_tapeMany q_many q_round q_readAt q_isFault q_toldMany q_tape x1 x2 x3 x4 res H locs (F0 m 77 ls [.int z77_0]) := by
    intro y77_5 z77_0 H locs ls w hl hf
    unfold jX8_isWord_77 at hf
    refine lv_istore (lv' := [(6, .int z77_0), (0, .ref a_this), (5, .int y77_5)]) C.1 C.2.1 dX8_isWord_77 hl (by decide) rfl (fun ls hl => ?_)
    refine lv_iload C.1 C.2.1 dX8_isWord_79 (lv_at hl 0 rfl) ?_
    refine lv_if_eq (tgt := 127) C.1 C.2.1 dX8_isWord_81 (by decide) (fun hq1 => ?_) (fun hq1 => ?_)
    · have hf := ite_t hf hq1
      refine lv_iconst (v := (0 : Int32)) C.1 C.2.1 dX8_isWord_127 (by decide) ?_
      have hres := Option.some.inj hf
      subst hres
      exact ret_z C hr hlocks w (by decide) rfl dX8_isWord_128
    · have hf := ite_f hf hq1
      refine lv_aload_n C.1 C.2.1 dX8_isWord_84 rfl (lv_at hl 1 rfl) ?_
      refine r_get C w inX8_isWord_X8 0 rfl rfl 18 (by decide) lkX8_isWord_187 rfl dX8_isWord_85 ?_
      refine lv_iload C.1 C.2.1 dX8_isWord_88 (lv_at hl 2 rfl) ?_
      refine lv_iadd C.1 C.2.1 dX8_isWord_90 ?_
      refine lv_aload_n C.1 C.2.1 dX8_isWord_91 rfl (lv_at hl 1 rfl) ?_
      refine r_get C w inX8_isWord_X8 0 rfl rfl 7 (by decide) lkX8_isWord_184 rfl dX8_isWord_92 ?_
      refine lv_icmp_ge (tgt := 123) C.1 C.2.1 dX8_isWord_95 (by decide) (fun hq2 => ?_) (fun hq2 => ?_)
      · have hf := ite_t hf hq2
        exact hj123  _ _ _ w (lv_sub hl [] rfl) hf
      · have hf := ite_f hf hq2
        refine lv_aload_n C.1 C.2.1 dX8_isWord_98 rfl (lv_at hl 1 rfl) ?_
        refine r_get C w inX8_isWord_X8 0 rfl rfl 6 (by decide) lkX8_isWord_26 rfl dX8_isWord_99 ?_
        refine lv_aload_n C.1 C.2.1 dX8_isWord_102 rfl (lv_at hl 1 rfl) ?_
        refine r_get C w inX8_isWord_X8 0 rfl rfl 18 (by decide) lkX8_isWord_187 rfl dX8_isWord_103 ?_
        refine lv_iload C.1 C.2.1 dX8_isWord_106 (lv_at hl 2 rfl) ?_
        refine lv_iadd C.1 C.2.1 dX8_isWord_108 ?_
        obtain ⟨y3, hy4, hf⟩ := bd hf
        refine r_iald C w 1 0 rfl rfl (rd_in hy4) dX8_isWord_109 ?_
        refine lv_i2l C.1 C.2.1 dX8_isWord_110 rfl ?_
        refine lv_ldc2 (v := (97 : Int64)) C.1 C.2.1 C.2.2.2.1 (C.2.2.2.2 (.constantLong RX8 204 (97 : Int64)) (by decide +kernel)) dX8_isWord_111 ?_
        refine lv_ldc2 (v := (122 : Int64)) C.1 C.2.1 C.2.2.2.1 (C.2.2.2.2 (.constantLong RX8 206 (122 : Int64)) (by decide +kernel)) dX8_isWord_114 ?_
        obtain ⟨r5, hc6, hf⟩ := bd hf
        refine call_Si (ws' := (wX8_isWord cI cL cS cH a_this a_this_st a_this_past a_this_image a_this_imagePast a_this_tape a_this_laneOf a_this_sizeOf a_this_items a_this_code a_this_from a_this_by a_this_far a_this_met a_this_told q_acts q_imageActs q_tapeMany q_many q_round q_readAt q_isFault q_toldMany q_tape)) (rest := []) C w (mX8_in l D cI cL cS cH _ ((y3).toInt64) (97 : Int64) (122 : Int64) hc6) (va_cwS 3 C.2.2.2.2 gX8_isWord_X8_in rfl rfl rfl (by decide +kernel) ⟨Nat.le_of_ble_eq_true rfl, Nat.le_of_ble_eq_true rfl⟩) [] [0, 1] 2 trivial trivial ⟨⟨_, rfl, rfl⟩, ⟨_, rfl, rfl⟩, trivial⟩ rfl (by decide) (by decide) rfl hl.1 rfl (lv_room (Nat.le_of_ble_eq_true rfl)) dX8_isWord_117 ⟨Nat.zero_le _, Nat.zero_le _⟩ (fun H locs w => ?_)
        refine lv_if_ne (tgt := 127) C.1 C.2.1 dX8_isWord_120 (by decide) (fun hq7 => ?_) (fun hq7 => ?_)
        · have hf := ite_f hf hq7
          refine lv_iconst (v := (0 : Int32)) C.1 C.2.1 dX8_isWord_127 (by decide) ?_
          have hres := Option.some.inj hf
          subst hres
          exact ret_z C hr hlocks w (by decide) rfl dX8_isWord_128
        · have hf := ite_t hf hq7
          exact hj123  _ _ _ w (lv_sub hl [] rfl) hf
  have hj76 : ∀ (y76_5 : Int32) (H : Heap) (locs : List Loc) (ls : Array Slot), wd D (ty4 cI cL cS cH) s (va_A (wX8_isWord cI cL cS cH a_this a_this_st a_this_past a_this_image a_this_imagePast a_this_tape a_this_laneOf a_this_sizeOf a_this_items a_this_code a_this_from a_this_by a_this_far a_this_met a_this_told q_acts q_imageActs q_tapeMany q_many q_round q_readAt q_isFault q_toldMany q_tape) s.heap.size) s.heap H locs (wX8_isWord cI cL cS cH a_this a_this_st a_this_past a_this_image a_this_imagePast a_this_tape a_this_laneOf a_this_sizeOf a_this_items a_this_code a_this_from a_this_by a_this_far a_this_met a_this_told q_acts q_imageActs q_tapeMany q_many q_round q_readAt q_isFault q_toldMany q_tape) → lv_has ls 7 [(0, .ref a_this), (5, .int y76_5)] → jX8_isWord_76 q_tapeMany q_readAt q_tape y76_5 = some res → gX8_isWord p l e s m below meth c D cI cL cS cH a_this a_this_st a_this_past a_this_image a_this_imagePast a_this_tape a_this_laneOf a_this_sizeOf a_this_items a_this_code a_this_from a_this_by a_this_far a_this_met a_this_told q_acts q_imageActs q_tapeMany q_many q_round q_readAt q_isFault q_toldMany q_tape x1 x2 x3 x4 res H locs (F0 m 76 ls []) := by
    intro y76_5 H locs ls w hl hf
    unfold jX8_isWord_76 at hf
    refine lv_iconst (v := (0 : Int32)) C.1 C.2.1 dX8_isWord_76 (by decide) ?_
    exact hj77 y76_5 (0 : Int32) _ _ _ w (lv_sub hl [0, 1] rfl) hf
  have hj72 : ∀ (y72_5 : Int32) (H : Heap) (locs : List Loc) (ls : Array Slot), wd D (ty4 cI cL cS cH) s (va_A (wX8_isWord cI cL cS cH a_this a_this_st a_this_past a_this_image a_this_imagePast a_this_tape a_this_laneOf a_this_sizeOf a_this_items a_this_code a_this_from a_this_by a_this_far a_this_met a_this_told q_acts q_imageActs q_tapeMany q_many q_round q_readAt q_isFault q_toldMany q_tape) s.heap.size) s.heap H locs (wX8_isWord cI cL cS cH a_this a_this_st a_this_past a_this_image a_this_imagePast a_this_tape a_this_laneOf a_this_sizeOf a_this_items a_this_code a_this_from a_this_by a_this_far a_this_met a_this_told q_acts q_imageActs q_tapeMany q_many q_round q_readAt q_isFault q_toldMany q_tape) → lv_has ls 7 [(0, .ref a_this), (5, .int y72_5)] → jX8_isWord_72 q_tapeMany q_readAt q_tape y72_5 = some res → gX8_isWord p l e s m below meth c D cI cL cS cH a_this a_this_st a_this_past a_this_image a_this_imagePast a_this_tape a_this_laneOf a_this_sizeOf a_this_items a_this_code a_this_from a_this_by a_this_far a_this_met a_this_told q_acts q_imageActs q_tapeMany q_many q_round q_readAt q_isFault q_toldMany q_tape x1 x2 x3 x4 res H locs (F0 m 72 ls []) := by
    intro y72_5 H locs ls w hl hf
    unfold jX8_isWord_72 at hf
    refine lv_iconst (v := (1 : Int32)) C.1 C.2.1 dX8_isWord_72 (by decide) ?_
    refine lv_goto (tgt := 77) C.1 C.2.1 dX8_isWord_73 (by decide) ?_
    exact hj77 y72_5 (1 : Int32) _ _ _ w (lv_sub hl [0, 1] rfl) hf
  have hj10 : ∀ (z10_0 : Int32) (H : Heap) (locs : List Loc) (ls : Array Slot), wd D (ty4 cI cL cS cH) s (va_A (wX8_isWord cI cL cS cH a_this a_this_st a_this_past a_this_image a_this_imagePast a_this_tape a_this_laneOf a_this_sizeOf a_this_items a_this_code a_this_from a_this_by a_this_far a_this_met a_this_told q_acts q_imageActs q_tapeMany q_many q_round q_readAt q_isFault q_toldMany q_tape) s.heap.size) s.heap H locs (wX8_isWord cI cL cS cH a_this a_this_st a_this_past a_this_image a_this_imagePast a_this_tape a_this_laneOf a_this_sizeOf a_this_items a_this_code a_this_from a_this_by a_this_far a_this_met a_this_told q_acts q_imageActs q_tapeMany q_many q_round q_readAt q_isFault q_toldMany q_tape) → lv_has ls 7 [(0, .ref a_this), (1, .int x1), (2, .int x2), (3, .int x3), (4, .int x4)] → jX8_isWord_10 q_tapeMany q_readAt q_tape x1 x2 x3 x4 z10_0 = some res → gX8_isWord p l e s m below meth c D cI cL cS cH a_this a_this_st a_this_past a_this_image a_this_imagePast a_this_tape a_this_laneOf a_this_sizeOf a_this_items a_this_code a_this_from a_this_by a_this_far a_this_met a_this_told q_acts q_imageActs q_tapeMany q_many q_round q_readAt q_isFault q_toldMany q_tape x1 x2 x3 x4 res H locs (F0 m 10 ls [.int z10_0]) := by
    intro z10_0 H locs ls w hl hf
    unfold jX8_isWord_10 at hf
    refine lv_istore (lv' := [(5, .int z10_0), (0, .ref a_this), (1, .int x1), (2, .int x2), (3, .int x3), (4, .int x4)]) C.1 C.2.1 dX8_isWord_10 hl (by decide) rfl (fun ls hl => ?_)
    refine lv_aload_n C.1 C.2.1 dX8_isWord_12 rfl (lv_at hl 1 rfl) ?_
    refine lv_aload_n C.1 C.2.1 dX8_isWord_13 rfl (lv_at hl 1 rfl) ?_
    refine r_get C w inX8_isWord_X8 0 rfl rfl 18 (by decide) lkX8_isWord_187 rfl dX8_isWord_14 ?_
    refine lv_iload_n C.1 C.2.1 dX8_isWord_17 rfl (lv_at hl 2 rfl) ?_
    obtain ⟨r8, hc9, hf⟩ := bd hf
    refine call_Vi (ws' := (wX8_isWord cI cL cS cH a_this a_this_st a_this_past a_this_image a_this_imagePast a_this_tape a_this_laneOf a_this_sizeOf a_this_items a_this_code a_this_from a_this_by a_this_far a_this_met a_this_told q_acts q_imageActs q_tapeMany q_many q_round q_readAt q_isFault q_toldMany q_tape)) (rest := []) C w (mX8_isThere l D cI cL cS cH _ a_this a_this_st a_this_past a_this_image a_this_imagePast a_this_tape a_this_laneOf a_this_sizeOf a_this_items a_this_code a_this_from a_this_by a_this_far a_this_met a_this_told q_acts q_imageActs q_tapeMany q_many q_round q_readAt q_isFault q_toldMany q_tape q_readAt x1 hc9) (cwV 2 C.2.2.2.2 gX8_isWord_X8_isThere rfl rfl rfl (by decide +kernel) ⟨Nat.le_of_ble_eq_true rfl, Nat.le_of_ble_eq_true rfl⟩) [0, 1] [] 2 ⟨rfl, rfl, trivial⟩ ⟨rfl, rfl, trivial⟩ trivial rfl (by decide) (by decide) (ci := 8) (q0 := 0) rfl rfl rfl hl.1 rfl (lv_room (Nat.le_of_ble_eq_true rfl)) dX8_isWord_18 ⟨Nat.zero_le _, Nat.zero_le _⟩ (fun H locs w => ?_)
    refine lv_if_eq (tgt := 76) C.1 C.2.1 dX8_isWord_21 (by decide) (fun hq10 => ?_) (fun hq10 => ?_)
    · have hf := ite_t hf hq10
      exact hj76 z10_0 _ _ _ w (lv_sub hl [1, 0] rfl) hf
    · have hf := ite_f hf hq10
      refine lv_aload_n C.1 C.2.1 dX8_isWord_24 rfl (lv_at hl 1 rfl) ?_
      refine lv_aload_n C.1 C.2.1 dX8_isWord_25 rfl (lv_at hl 1 rfl) ?_
      refine r_get C w inX8_isWord_X8 0 rfl rfl 18 (by decide) lkX8_isWord_187 rfl dX8_isWord_26 ?_
      refine lv_iconst (v := (1 : Int32)) C.1 C.2.1 dX8_isWord_29 (by decide) ?_
      refine lv_iadd C.1 C.2.1 dX8_isWord_30 ?_
      refine lv_iload_n C.1 C.2.1 dX8_isWord_31 rfl (lv_at hl 3 rfl) ?_
      obtain ⟨r11, hc12, hf⟩ := bd hf
      refine call_Vi (ws' := (wX8_isWord cI cL cS cH a_this a_this_st a_this_past a_this_image a_this_imagePast a_this_tape a_this_laneOf a_this_sizeOf a_this_items a_this_code a_this_from a_this_by a_this_far a_this_met a_this_told q_acts q_imageActs q_tapeMany q_many q_round q_readAt q_isFault q_toldMany q_tape)) (rest := []) C w (mX8_isThere l D cI cL cS cH _ a_this a_this_st a_this_past a_this_image a_this_imagePast a_this_tape a_this_laneOf a_this_sizeOf a_this_items a_this_code a_this_from a_this_by a_this_far a_this_met a_this_told q_acts q_imageActs q_tapeMany q_many q_round q_readAt q_isFault q_toldMany q_tape (q_readAt + (1 : Int32)) x2 hc12) (cwV 2 C.2.2.2.2 gX8_isWord_X8_isThere rfl rfl rfl (by decide +kernel) ⟨Nat.le_of_ble_eq_true rfl, Nat.le_of_ble_eq_true rfl⟩) [0, 1] [] 2 ⟨rfl, rfl, trivial⟩ ⟨rfl, rfl, trivial⟩ trivial rfl (by decide) (by decide) (ci := 8) (q0 := 0) rfl rfl rfl hl.1 rfl (lv_room (Nat.le_of_ble_eq_true rfl)) dX8_isWord_32 ⟨Nat.zero_le _, Nat.zero_le _⟩ (fun H locs w => ?_)
      refine lv_if_eq (tgt := 76) C.1 C.2.1 dX8_isWord_35 (by decide) (fun hq13 => ?_) (fun hq13 => ?_)
      · have hf := ite_t hf hq13
        exact hj76 z10_0 _ _ _ w (lv_sub hl [1, 0] rfl) hf
      · have hf := ite_f hf hq13
        refine lv_aload_n C.1 C.2.1 dX8_isWord_38 rfl (lv_at hl 1 rfl) ?_
        refine lv_aload_n C.1 C.2.1 dX8_isWord_39 rfl (lv_at hl 1 rfl) ?_
        refine r_get C w inX8_isWord_X8 0 rfl rfl 18 (by decide) lkX8_isWord_187 rfl dX8_isWord_40 ?_
        refine lv_iconst (v := (2 : Int32)) C.1 C.2.1 dX8_isWord_43 (by decide) ?_
        refine lv_iadd C.1 C.2.1 dX8_isWord_44 ?_
        refine lv_iload_n C.1 C.2.1 dX8_isWord_45 rfl (lv_at hl 4 rfl) ?_
        obtain ⟨r14, hc15, hf⟩ := bd hf
        refine call_Vi (ws' := (wX8_isWord cI cL cS cH a_this a_this_st a_this_past a_this_image a_this_imagePast a_this_tape a_this_laneOf a_this_sizeOf a_this_items a_this_code a_this_from a_this_by a_this_far a_this_met a_this_told q_acts q_imageActs q_tapeMany q_many q_round q_readAt q_isFault q_toldMany q_tape)) (rest := []) C w (mX8_isThere l D cI cL cS cH _ a_this a_this_st a_this_past a_this_image a_this_imagePast a_this_tape a_this_laneOf a_this_sizeOf a_this_items a_this_code a_this_from a_this_by a_this_far a_this_met a_this_told q_acts q_imageActs q_tapeMany q_many q_round q_readAt q_isFault q_toldMany q_tape (q_readAt + (2 : Int32)) x3 hc15) (cwV 2 C.2.2.2.2 gX8_isWord_X8_isThere rfl rfl rfl (by decide +kernel) ⟨Nat.le_of_ble_eq_true rfl, Nat.le_of_ble_eq_true rfl⟩) [0, 1] [] 2 ⟨rfl, rfl, trivial⟩ ⟨rfl, rfl, trivial⟩ trivial rfl (by decide) (by decide) (ci := 8) (q0 := 0) rfl rfl rfl hl.1 rfl (lv_room (Nat.le_of_ble_eq_true rfl)) dX8_isWord_46 ⟨Nat.zero_le _, Nat.zero_le _⟩ (fun H locs w => ?_)
        refine lv_if_eq (tgt := 76) C.1 C.2.1 dX8_isWord_49 (by decide) (fun hq16 => ?_) (fun hq16 => ?_)
        · have hf := ite_t hf hq16
          exact hj76 z10_0 _ _ _ w (lv_sub hl [1, 0] rfl) hf
        · have hf := ite_f hf hq16
          refine lv_iload C.1 C.2.1 dX8_isWord_52 (lv_at hl 5 rfl) ?_
          refine lv_if_eq (tgt := 72) C.1 C.2.1 dX8_isWord_54 (by decide) (fun hq17 => ?_) (fun hq17 => ?_)
          · have hf := ite_t hf hq17
            exact hj72 z10_0 _ _ _ w (lv_sub hl [1, 0] rfl) hf
          · have hf := ite_f hf hq17
            refine lv_aload_n C.1 C.2.1 dX8_isWord_57 rfl (lv_at hl 1 rfl) ?_
            refine lv_aload_n C.1 C.2.1 dX8_isWord_58 rfl (lv_at hl 1 rfl) ?_
            refine r_get C w inX8_isWord_X8 0 rfl rfl 18 (by decide) lkX8_isWord_187 rfl dX8_isWord_59 ?_
            refine lv_iconst (v := (3 : Int32)) C.1 C.2.1 dX8_isWord_62 (by decide) ?_
            refine lv_iadd C.1 C.2.1 dX8_isWord_63 ?_
            refine lv_iload C.1 C.2.1 dX8_isWord_64 (lv_at hl 5 rfl) ?_
            obtain ⟨r18, hc19, hf⟩ := bd hf
            refine call_Vi (ws' := (wX8_isWord cI cL cS cH a_this a_this_st a_this_past a_this_image a_this_imagePast a_this_tape a_this_laneOf a_this_sizeOf a_this_items a_this_code a_this_from a_this_by a_this_far a_this_met a_this_told q_acts q_imageActs q_tapeMany q_many q_round q_readAt q_isFault q_toldMany q_tape)) (rest := []) C w (mX8_isThere l D cI cL cS cH _ a_this a_this_st a_this_past a_this_image a_this_imagePast a_this_tape a_this_laneOf a_this_sizeOf a_this_items a_this_code a_this_from a_this_by a_this_far a_this_met a_this_told q_acts q_imageActs q_tapeMany q_many q_round q_readAt q_isFault q_toldMany q_tape (q_readAt + (3 : Int32)) x4 hc19) (cwV 2 C.2.2.2.2 gX8_isWord_X8_isThere rfl rfl rfl (by decide +kernel) ⟨Nat.le_of_ble_eq_true rfl, Nat.le_of_ble_eq_true rfl⟩) [0, 1] [] 2 ⟨rfl, rfl, trivial⟩ ⟨rfl, rfl, trivial⟩ trivial rfl (by decide) (by decide) (ci := 8) (q0 := 0) rfl rfl rfl hl.1 rfl (lv_room (Nat.le_of_ble_eq_true rfl)) dX8_isWord_66 ⟨Nat.zero_le _, Nat.zero_le _⟩ (fun H locs w => ?_)
            refine lv_if_eq (tgt := 76) C.1 C.2.1 dX8_isWord_69 (by decide) (fun hq20 => ?_) (fun hq20 => ?_)
            · have hf := ite_t hf hq20
              exact hj76 z10_0 _ _ _ w (lv_sub hl [1, 0] rfl) hf
            · have hf := ite_f hf hq20
              exact hj72 z10_0 _ _ _ w (lv_sub hl [1, 0] rfl) hf
  refine lv_iload C.1 C.2.1 dX8_isWord_0 (lv_at hl 4 rfl) ?_
  refine lv_if_ne (tgt := 9) C.1 C.2.1 dX8_isWord_2 (by decide) (fun hq21 => ?_) (fun hq21 => ?_)
  · have hf := ite_f hf hq21
    refine lv_iconst (v := (4 : Int32)) C.1 C.2.1 dX8_isWord_9 (by decide) ?_
    exact hj10 (4 : Int32) _ _ _ w (lv_sub hl [0, 1, 2, 3, 4] rfl) hf
  · have hf := ite_t hf hq21
    refine lv_iconst (v := (3 : Int32)) C.1 C.2.1 dX8_isWord_5 (by decide) ?_
    refine lv_goto (tgt := 10) C.1 C.2.1 dX8_isWord_6 (by decide) ?_
    exact hj10 (3 : Int32) _ _ _ w (lv_sub hl [0, 1, 2, 3, 4] rfl) hf

set_option maxRecDepth 100000 in
theorem inX8_name_X8 : ∀ w ∈ u_ws RX8 TX8 22, w ∈ wsX8_name := by decide +kernel
set_option maxRecDepth 100000 in
theorem lkX8_name_187 : Cond.fieldLink RX8 187 "CleanNetsModel" "readAt" "I" ∈ wsX8_name := by decide +kernel
set_option maxRecDepth 100000 in
theorem lkX8_name_190 : Cond.fieldLink RX8 190 "CleanNetsModel" "isFault" "Z" ∈ wsX8_name := by decide +kernel
abbrev wX8_name (cI cL cS cH : ClassId) (a_this : Nat) (a_this_st : Nat) (a_this_past : Nat) (a_this_image : Nat) (a_this_imagePast : Nat) (a_this_tape : Nat) (a_this_laneOf : Nat) (a_this_sizeOf : Nat) (a_this_items : Nat) (a_this_code : Nat) (a_this_from : Nat) (a_this_by : Nat) (a_this_far : Nat) (a_this_met : Nat) (a_this_told : Nat) (q_acts : Int32) (q_imageActs : Int32) (q_tapeMany : Int32) (q_many : Int32) (q_round : Int32) (q_readAt : Int32) (q_isFault : Int32) (q_toldMany : Int32) (q_tape : Nat → Int32) : va_W := [(a_this, .inr (8, [.ref a_this_st, .ref a_this_past, .int q_acts, .ref a_this_image, .ref a_this_imagePast, .int q_imageActs, .ref a_this_tape, .int q_tapeMany, .ref a_this_laneOf, .ref a_this_sizeOf, .ref a_this_items, .ref a_this_code, .ref a_this_from, .ref a_this_by, .ref a_this_far, .int q_many, .ref a_this_met, .int q_round, .int q_readAt, .int q_isFault, .int q_toldMany, .ref a_this_told])),
  (a_this_tape, .inl (cI, 90, .inl q_tape))]
def jX8_name_166 (q_tapeMany : Int32) (q_tape : Nat → Int32) (y166_1 : Int32) (z166_0 : Int32) (z166_1 : Int32) (k166_q_readAt : Int32) (k166_q_isFault : Int32) : Option (Int32 × Int32 × Int32) := some (y166_1, (z166_1 + z166_0), k166_q_isFault)
def jX8_name_161 (q_tapeMany : Int32) (q_tape : Nat → Int32) (y161_1 : Int32) (z161_0 : Int32) (k161_q_readAt : Int32) (k161_q_isFault : Int32) : Option (Int32 × Int32 × Int32) := jX8_name_166 q_tapeMany q_tape y161_1 (3 : Int32) z161_0 k161_q_readAt k161_q_isFault
def jX8_name_132 (q_tapeMany : Int32) (q_tape : Nat → Int32) (y132_1 : Int32) (z132_0 : Int32) (k132_q_readAt : Int32) (k132_q_isFault : Int32) : Option (Int32 × Int32 × Int32) := Option.bind (bz z132_0) (fun _ => (if z132_0 = 0 then (if y132_1 = (3 : Int32) then jX8_name_161 q_tapeMany q_tape y132_1 k132_q_readAt k132_q_readAt z132_0 else (if y132_1 = (4 : Int32) then jX8_name_161 q_tapeMany q_tape y132_1 k132_q_readAt k132_q_readAt z132_0 else jX8_name_166 q_tapeMany q_tape y132_1 (4 : Int32) k132_q_readAt k132_q_readAt z132_0)) else jX8_name_166 q_tapeMany q_tape y132_1 (0 : Int32) k132_q_readAt k132_q_readAt z132_0))
def jX8_name_119 (q_tapeMany : Int32) (q_tape : Nat → Int32) (z119_0 : Int32) (k119_q_readAt : Int32) (k119_q_isFault : Int32) : Option (Int32 × Int32 × Int32) := (if z119_0 = (-4 : Int32) then jX8_name_132 q_tapeMany q_tape z119_0 (1 : Int32) k119_q_readAt k119_q_isFault else jX8_name_132 q_tapeMany q_tape z119_0 (0 : Int32) k119_q_readAt k119_q_isFault)
def fX8_name (q_tapeMany : Int32) (q_readAt : Int32) (q_isFault : Int32) (q_tape : Nat → Int32)  : Option (Int32 × Int32 × Int32) := Option.bind (fX8_looks q_tapeMany q_readAt q_tape) (fun r6 => Option.bind (fX8_isWord q_tapeMany r6.2 q_tape (112 : Int32) (97 : Int32) (116 : Int32) (104 : Int32)) (fun r8 => (if r8 = 0 then Option.bind (fX8_isWord q_tapeMany r6.2 q_tape (114 : Int32) (105 : Int32) (110 : Int32) (103 : Int32)) (fun r11 => (if r11 = 0 then Option.bind (fX8_isWord q_tapeMany r6.2 q_tape (115 : Int32) (116 : Int32) (97 : Int32) (114 : Int32)) (fun r14 => (if r14 = 0 then Option.bind (fX8_isWord q_tapeMany r6.2 q_tape (97 : Int32) (108 : Int32) (108 : Int32) (0 : Int32)) (fun r17 => (if r17 = 0 then Option.bind (fX8_isWord q_tapeMany r6.2 q_tape (110 : Int32) (101 : Int32) (116 : Int32) (0 : Int32)) (fun r20 => (if r20 = 0 then Option.bind (fX8_isWord q_tapeMany r6.2 q_tape (103 : Int32) (114 : Int32) (105 : Int32) (100 : Int32)) (fun r23 => (if r23 = 0 then jX8_name_119 q_tapeMany q_tape (-4 : Int32) r6.2 q_isFault else jX8_name_119 q_tapeMany q_tape (5 : Int32) r6.2 q_isFault)) else jX8_name_119 q_tapeMany q_tape (4 : Int32) r6.2 q_isFault)) else jX8_name_119 q_tapeMany q_tape (3 : Int32) r6.2 q_isFault)) else jX8_name_119 q_tapeMany q_tape (2 : Int32) r6.2 q_isFault)) else jX8_name_119 q_tapeMany q_tape (1 : Int32) r6.2 q_isFault)) else jX8_name_119 q_tapeMany q_tape (0 : Int32) r6.2 q_isFault)))
abbrev gX8_name (p : Program) (l : Launch) (e : Env) (s : State) (m : MethodId) (below : List Frame) (meth : Method) (c : Code) (D : vg) (cI cL cS cH : ClassId) (a_this : Nat) (a_this_st : Nat) (a_this_past : Nat) (a_this_image : Nat) (a_this_imagePast : Nat) (a_this_tape : Nat) (a_this_laneOf : Nat) (a_this_sizeOf : Nat) (a_this_items : Nat) (a_this_code : Nat) (a_this_from : Nat) (a_this_by : Nat) (a_this_far : Nat) (a_this_met : Nat) (a_this_told : Nat) (q_acts : Int32) (q_imageActs : Int32) (q_tapeMany : Int32) (q_many : Int32) (q_round : Int32) (q_readAt : Int32) (q_isFault : Int32) (q_toldMany : Int32) (q_tape : Nat → Int32) (res : Int32 × Int32 × Int32) (H : Heap) (locs : List Loc) (g : JFrame) : Prop := W p l e (headSpec wsX8_name ({ frames := 2, cells := 0, slots := 0, locals := 51 })).room s m ([.ref a_this] : List Value).toArray below meth c H locs 0 0 (MQ below (va_Qi (fun r' (_ : Unit) => r' = res.1) (fun _ t => pos1 D s.heap.size (wX8_name cI cL cS cH a_this a_this_st a_this_past a_this_image a_this_imagePast a_this_tape a_this_laneOf a_this_sizeOf a_this_items a_this_code a_this_from a_this_by a_this_far a_this_met a_this_told q_acts q_imageActs q_tapeMany q_many q_round q_readAt q_isFault q_toldMany q_tape) (wX8_name cI cL cS cH a_this a_this_st a_this_past a_this_image a_this_imagePast a_this_tape a_this_laneOf a_this_sizeOf a_this_items a_this_code a_this_from a_this_by a_this_far a_this_met a_this_told q_acts q_imageActs q_tapeMany q_many q_round res.2.1 res.2.2 q_toldMany q_tape) t) (va_A (wX8_name cI cL cS cH a_this a_this_st a_this_past a_this_image a_this_imagePast a_this_tape a_this_laneOf a_this_sizeOf a_this_items a_this_code a_this_from a_this_by a_this_far a_this_met a_this_told q_acts q_imageActs q_tapeMany q_many q_round q_readAt q_isFault q_toldMany q_tape) s.heap.size)) ([.ref a_this] : List Value).toArray s 0 0 (va_A (wX8_name cI cL cS cH a_this a_this_st a_this_past a_this_image a_this_imagePast a_this_tape a_this_laneOf a_this_sizeOf a_this_items a_this_code a_this_from a_this_by a_this_far a_this_met a_this_told q_acts q_imageActs q_tapeMany q_many q_round q_readAt q_isFault q_toldMany q_tape) s.heap.size)) g
set_option maxHeartbeats 4000000 in
set_option maxRecDepth 100000 in
theorem mX8_name (l : Launch) (D : vg) (cI cL cS cH : ClassId) (sz : Nat) (a_this : Nat) (a_this_st : Nat) (a_this_past : Nat) (a_this_image : Nat) (a_this_imagePast : Nat) (a_this_tape : Nat) (a_this_laneOf : Nat) (a_this_sizeOf : Nat) (a_this_items : Nat) (a_this_code : Nat) (a_this_from : Nat) (a_this_by : Nat) (a_this_far : Nat) (a_this_met : Nat) (a_this_told : Nat) (q_acts : Int32) (q_imageActs : Int32) (q_tapeMany : Int32) (q_many : Int32) (q_round : Int32) (q_readAt : Int32) (q_isFault : Int32) (q_toldMany : Int32) (q_tape : Nat → Int32) {res : Int32 × Int32 × Int32} (hf : fX8_name q_tapeMany q_readAt q_isFault q_tape = some res) : cti l yX8_name wsX8_name ({ frames := 2, cells := 0, slots := 0, locals := 51 }) D (ty4 cI cL cS cH) sz [.ref a_this] (wX8_name cI cL cS cH a_this a_this_st a_this_past a_this_image a_this_imagePast a_this_tape a_this_laneOf a_this_sizeOf a_this_items a_this_code a_this_from a_this_by a_this_far a_this_met a_this_told q_acts q_imageActs q_tapeMany q_many q_round q_readAt q_isFault q_toldMany q_tape) (wX8_name cI cL cS cH a_this a_this_st a_this_past a_this_image a_this_imagePast a_this_tape a_this_laneOf a_this_sizeOf a_this_items a_this_code a_this_from a_this_by a_this_far a_this_met a_this_told q_acts q_imageActs q_tapeMany q_many q_round res.2.1 res.2.2 q_toldMany q_tape) res.1 := by
  refine Met.ofW (cc := cX8_name) (maxL := 2) (ret := (some .int)) (by decide) rfl ?_
  intro p e s m args below meth c s₁ B hml hv
  obtain ⟨rfl, hpre⟩ := hv
  obtain rfl := hpre.1
  have C : CallFix p m c cX8_name 2 s _ wsX8_name RX8 := ⟨B.exec, B.bytes, hml, findClass_of_methodNamed B.named, atoms_spec (ws := wsX8_name) B.pre⟩
  have hr := B.returns
  have hlocks := B.notSynchronized
  have w := wd_start hpre
  clear hpre B
  have hl := lv_entry ([.ref a_this]) (n := 2) (Nat.le_of_ble_eq_true rfl)
  rw [lg_entry_eq]
  generalize (lg_sl ([.ref a_this]) ++ List.replicate (2 - (lg_sl ([.ref a_this])).length) Slot.unset).toArray = ls at hl ⊢
  have hl : lv_has ls 2 [(0, .ref a_this)] := hl
  unfold fX8_name at hf
  have hj166 : ∀ (y166_1 : Int32) (z166_0 : Int32) (z166_1 : Int32) (k166_q_readAt : Int32) (k166_q_isFault : Int32) (H : Heap) (locs : List Loc) (ls : Array Slot), wd D (ty4 cI cL cS cH) s (va_A (wX8_name cI cL cS cH a_this a_this_st a_this_past a_this_image a_this_imagePast a_this_tape a_this_laneOf a_this_sizeOf a_this_items a_this_code a_this_from a_this_by a_this_far a_this_met a_this_told q_acts q_imageActs q_tapeMany q_many q_round q_readAt q_isFault q_toldMany q_tape) s.heap.size) s.heap H locs (wX8_name cI cL cS cH a_this a_this_st a_this_past a_this_image a_this_imagePast a_this_tape a_this_laneOf a_this_sizeOf a_this_items a_this_code a_this_from a_this_by a_this_far a_this_met a_this_told q_acts q_imageActs q_tapeMany q_many q_round k166_q_readAt k166_q_isFault q_toldMany q_tape) → lv_has ls 2 [(1, .int y166_1)] → jX8_name_166 q_tapeMany q_tape y166_1 z166_0 z166_1 k166_q_readAt k166_q_isFault = some res → gX8_name p l e s m below meth c D cI cL cS cH a_this a_this_st a_this_past a_this_image a_this_imagePast a_this_tape a_this_laneOf a_this_sizeOf a_this_items a_this_code a_this_from a_this_by a_this_far a_this_met a_this_told q_acts q_imageActs q_tapeMany q_many q_round q_readAt q_isFault q_toldMany q_tape res H locs (F0 m 166 ls [.int z166_0, .int z166_1, .ref a_this]) := by
    intro y166_1 z166_0 z166_1 k166_q_readAt k166_q_isFault H locs ls w hl hf
    unfold jX8_name_166 at hf
    refine lv_iadd C.1 C.2.1 dX8_name_166 ?_
    refine r_put (ws' := (wX8_name cI cL cS cH a_this a_this_st a_this_past a_this_image a_this_imagePast a_this_tape a_this_laneOf a_this_sizeOf a_this_items a_this_code a_this_from a_this_by a_this_far a_this_met a_this_told q_acts q_imageActs q_tapeMany q_many q_round (z166_1 + z166_0) k166_q_isFault q_toldMany q_tape)) C w inX8_name_X8 tyX8 tyX8_ok nmX8 0 rfl rfl 18 (by decide) lkX8_name_187 rfl rfl rfl (Nat.le_of_ble_eq_true rfl) rfl dX8_name_167 (fun H locs w => ?_)
    refine lv_iload_n C.1 C.2.1 dX8_name_170 rfl (lv_at hl 0 rfl) ?_
    have hres := Option.some.inj hf
    subst hres
    exact ret_i C hr hlocks w rfl dX8_name_171
  have hj161 : ∀ (y161_1 : Int32) (z161_0 : Int32) (k161_q_readAt : Int32) (k161_q_isFault : Int32) (H : Heap) (locs : List Loc) (ls : Array Slot), wd D (ty4 cI cL cS cH) s (va_A (wX8_name cI cL cS cH a_this a_this_st a_this_past a_this_image a_this_imagePast a_this_tape a_this_laneOf a_this_sizeOf a_this_items a_this_code a_this_from a_this_by a_this_far a_this_met a_this_told q_acts q_imageActs q_tapeMany q_many q_round q_readAt q_isFault q_toldMany q_tape) s.heap.size) s.heap H locs (wX8_name cI cL cS cH a_this a_this_st a_this_past a_this_image a_this_imagePast a_this_tape a_this_laneOf a_this_sizeOf a_this_items a_this_code a_this_from a_this_by a_this_far a_this_met a_this_told q_acts q_imageActs q_tapeMany q_many q_round k161_q_readAt k161_q_isFault q_toldMany q_tape) → lv_has ls 2 [(1, .int y161_1)] → jX8_name_161 q_tapeMany q_tape y161_1 z161_0 k161_q_readAt k161_q_isFault = some res → gX8_name p l e s m below meth c D cI cL cS cH a_this a_this_st a_this_past a_this_image a_this_imagePast a_this_tape a_this_laneOf a_this_sizeOf a_this_items a_this_code a_this_from a_this_by a_this_far a_this_met a_this_told q_acts q_imageActs q_tapeMany q_many q_round q_readAt q_isFault q_toldMany q_tape res H locs (F0 m 161 ls [.int z161_0, .ref a_this]) := by
    intro y161_1 z161_0 k161_q_readAt k161_q_isFault H locs ls w hl hf
    unfold jX8_name_161 at hf
    refine lv_iconst (v := (3 : Int32)) C.1 C.2.1 dX8_name_161 (by decide) ?_
    refine lv_goto (tgt := 166) C.1 C.2.1 dX8_name_162 (by decide) ?_
    exact hj166 y161_1 (3 : Int32) z161_0 k161_q_readAt k161_q_isFault _ _ _ w (lv_sub hl [0] rfl) hf
  have hj132 : ∀ (y132_1 : Int32) (z132_0 : Int32) (k132_q_readAt : Int32) (k132_q_isFault : Int32) (H : Heap) (locs : List Loc) (ls : Array Slot), wd D (ty4 cI cL cS cH) s (va_A (wX8_name cI cL cS cH a_this a_this_st a_this_past a_this_image a_this_imagePast a_this_tape a_this_laneOf a_this_sizeOf a_this_items a_this_code a_this_from a_this_by a_this_far a_this_met a_this_told q_acts q_imageActs q_tapeMany q_many q_round q_readAt q_isFault q_toldMany q_tape) s.heap.size) s.heap H locs (wX8_name cI cL cS cH a_this a_this_st a_this_past a_this_image a_this_imagePast a_this_tape a_this_laneOf a_this_sizeOf a_this_items a_this_code a_this_from a_this_by a_this_far a_this_met a_this_told q_acts q_imageActs q_tapeMany q_many q_round k132_q_readAt k132_q_isFault q_toldMany q_tape) → lv_has ls 2 [(0, .ref a_this), (1, .int y132_1)] → jX8_name_132 q_tapeMany q_tape y132_1 z132_0 k132_q_readAt k132_q_isFault = some res → gX8_name p l e s m below meth c D cI cL cS cH a_this a_this_st a_this_past a_this_image a_this_imagePast a_this_tape a_this_laneOf a_this_sizeOf a_this_items a_this_code a_this_from a_this_by a_this_far a_this_met a_this_told q_acts q_imageActs q_tapeMany q_many q_round q_readAt q_isFault q_toldMany q_tape res H locs (F0 m 132 ls [.int z132_0, .ref a_this]) := by
    intro y132_1 z132_0 k132_q_readAt k132_q_isFault H locs ls w hl hf
    unfold jX8_name_132 at hf
    obtain ⟨_, hb1, hf⟩ := bd hf
    refine r_put (ws' := (wX8_name cI cL cS cH a_this a_this_st a_this_past a_this_image a_this_imagePast a_this_tape a_this_laneOf a_this_sizeOf a_this_items a_this_code a_this_from a_this_by a_this_far a_this_met a_this_told q_acts q_imageActs q_tapeMany q_many q_round k132_q_readAt z132_0 q_toldMany q_tape)) C w inX8_name_X8 tyX8 tyX8_ok nmX8 0 rfl rfl 19 (by decide) lkX8_name_190 rfl (bz_in hb1).1 (bz_in hb1).2 (Nat.le_of_ble_eq_true rfl) rfl dX8_name_132 (fun H locs w => ?_)
    refine lv_aload_n C.1 C.2.1 dX8_name_135 rfl (lv_at hl 0 rfl) ?_
    refine lv_dup C.1 C.2.1 dX8_name_136 rfl ?_
    refine r_get C w inX8_name_X8 0 rfl rfl 18 (by decide) lkX8_name_187 rfl dX8_name_137 ?_
    refine lv_aload_n C.1 C.2.1 dX8_name_140 rfl (lv_at hl 0 rfl) ?_
    refine r_get C w inX8_name_X8 0 rfl rfl 19 (by decide) lkX8_name_190 rfl dX8_name_141 ?_
    refine lv_if_eq (tgt := 151) C.1 C.2.1 dX8_name_144 (by decide) (fun hq2 => ?_) (fun hq2 => ?_)
    · have hf := ite_t hf hq2
      refine lv_iload_n C.1 C.2.1 dX8_name_151 rfl (lv_at hl 1 rfl) ?_
      refine lv_iconst (v := (3 : Int32)) C.1 C.2.1 dX8_name_152 (by decide) ?_
      refine lv_icmp_eq (tgt := 161) C.1 C.2.1 dX8_name_153 (by decide) (fun hq3 => ?_) (fun hq3 => ?_)
      · have hf := ite_t hf hq3
        exact hj161 y132_1 k132_q_readAt k132_q_readAt z132_0 _ _ _ w (lv_sub hl [1] rfl) hf
      · have hf := ite_f hf hq3
        refine lv_iload_n C.1 C.2.1 dX8_name_156 rfl (lv_at hl 1 rfl) ?_
        refine lv_iconst (v := (4 : Int32)) C.1 C.2.1 dX8_name_157 (by decide) ?_
        refine lv_icmp_ne (tgt := 165) C.1 C.2.1 dX8_name_158 (by decide) (fun hq4 => ?_) (fun hq4 => ?_)
        · have hf := ite_f hf hq4
          refine lv_iconst (v := (4 : Int32)) C.1 C.2.1 dX8_name_165 (by decide) ?_
          exact hj166 y132_1 (4 : Int32) k132_q_readAt k132_q_readAt z132_0 _ _ _ w (lv_sub hl [1] rfl) hf
        · have hf := ite_t hf hq4
          exact hj161 y132_1 k132_q_readAt k132_q_readAt z132_0 _ _ _ w (lv_sub hl [1] rfl) hf
    · have hf := ite_f hf hq2
      refine lv_iconst (v := (0 : Int32)) C.1 C.2.1 dX8_name_147 (by decide) ?_
      refine lv_goto (tgt := 166) C.1 C.2.1 dX8_name_148 (by decide) ?_
      exact hj166 y132_1 (0 : Int32) k132_q_readAt k132_q_readAt z132_0 _ _ _ w (lv_sub hl [1] rfl) hf
  have hj119 : ∀ (z119_0 : Int32) (k119_q_readAt : Int32) (k119_q_isFault : Int32) (H : Heap) (locs : List Loc) (ls : Array Slot), wd D (ty4 cI cL cS cH) s (va_A (wX8_name cI cL cS cH a_this a_this_st a_this_past a_this_image a_this_imagePast a_this_tape a_this_laneOf a_this_sizeOf a_this_items a_this_code a_this_from a_this_by a_this_far a_this_met a_this_told q_acts q_imageActs q_tapeMany q_many q_round q_readAt q_isFault q_toldMany q_tape) s.heap.size) s.heap H locs (wX8_name cI cL cS cH a_this a_this_st a_this_past a_this_image a_this_imagePast a_this_tape a_this_laneOf a_this_sizeOf a_this_items a_this_code a_this_from a_this_by a_this_far a_this_met a_this_told q_acts q_imageActs q_tapeMany q_many q_round k119_q_readAt k119_q_isFault q_toldMany q_tape) → lv_has ls 2 [(0, .ref a_this)] → jX8_name_119 q_tapeMany q_tape z119_0 k119_q_readAt k119_q_isFault = some res → gX8_name p l e s m below meth c D cI cL cS cH a_this a_this_st a_this_past a_this_image a_this_imagePast a_this_tape a_this_laneOf a_this_sizeOf a_this_items a_this_code a_this_from a_this_by a_this_far a_this_met a_this_told q_acts q_imageActs q_tapeMany q_many q_round q_readAt q_isFault q_toldMany q_tape res H locs (F0 m 119 ls [.int z119_0]) := by
    intro z119_0 k119_q_readAt k119_q_isFault H locs ls w hl hf
    unfold jX8_name_119 at hf
    refine lv_istore_n (lv' := [(1, .int z119_0), (0, .ref a_this)]) C.1 C.2.1 dX8_name_119 rfl hl (by decide) rfl (fun ls hl => ?_)
    refine lv_aload_n C.1 C.2.1 dX8_name_120 rfl (lv_at hl 1 rfl) ?_
    refine lv_iload_n C.1 C.2.1 dX8_name_121 rfl (lv_at hl 0 rfl) ?_
    refine lv_bipush (v := (-4 : Int32)) C.1 C.2.1 dX8_name_122 (by decide) ?_
    refine lv_icmp_ne (tgt := 131) C.1 C.2.1 dX8_name_124 (by decide) (fun hq5 => ?_) (fun hq5 => ?_)
    · have hf := ite_f hf hq5
      refine lv_iconst (v := (0 : Int32)) C.1 C.2.1 dX8_name_131 (by decide) ?_
      exact hj132 z119_0 (0 : Int32) k119_q_readAt k119_q_isFault _ _ _ w (lv_sub hl [1, 0] rfl) hf
    · have hf := ite_t hf hq5
      refine lv_iconst (v := (1 : Int32)) C.1 C.2.1 dX8_name_127 (by decide) ?_
      refine lv_goto (tgt := 132) C.1 C.2.1 dX8_name_128 (by decide) ?_
      exact hj132 z119_0 (1 : Int32) k119_q_readAt k119_q_isFault _ _ _ w (lv_sub hl [1, 0] rfl) hf
  refine lv_aload_n C.1 C.2.1 dX8_name_0 rfl (lv_at hl 0 rfl) ?_
  obtain ⟨r6, hc7, hf⟩ := bd hf
  refine call_Vi (ws' := (wX8_name cI cL cS cH a_this a_this_st a_this_past a_this_image a_this_imagePast a_this_tape a_this_laneOf a_this_sizeOf a_this_items a_this_code a_this_from a_this_by a_this_far a_this_met a_this_told q_acts q_imageActs q_tapeMany q_many q_round r6.2 q_isFault q_toldMany q_tape)) (rest := []) C w (mX8_looks l D cI cL cS cH _ a_this a_this_st a_this_past a_this_image a_this_imagePast a_this_tape a_this_laneOf a_this_sizeOf a_this_items a_this_code a_this_from a_this_by a_this_far a_this_met a_this_told q_acts q_imageActs q_tapeMany q_many q_round q_readAt q_isFault q_toldMany q_tape hc7) (cwV 0 C.2.2.2.2 gX8_name_X8_looks rfl rfl rfl (by decide +kernel) ⟨Nat.le_of_ble_eq_true rfl, Nat.le_of_ble_eq_true rfl⟩) [0, 1] [] 2 ⟨rfl, rfl, trivial⟩ ⟨rfl, rfl, trivial⟩ trivial rfl (by decide) (by decide) (ci := 8) (q0 := 0) rfl rfl rfl hl.1 rfl (lv_room (Nat.le_of_ble_eq_true rfl)) dX8_name_1 ⟨Nat.zero_le _, Nat.zero_le _⟩ (fun H locs w => ?_)
  refine lv_pop C.1 C.2.1 dX8_name_4 rfl ?_
  refine lv_aload_n C.1 C.2.1 dX8_name_5 rfl (lv_at hl 0 rfl) ?_
  refine lv_bipush (v := (112 : Int32)) C.1 C.2.1 dX8_name_6 (by decide) ?_
  refine lv_bipush (v := (97 : Int32)) C.1 C.2.1 dX8_name_8 (by decide) ?_
  refine lv_bipush (v := (116 : Int32)) C.1 C.2.1 dX8_name_10 (by decide) ?_
  refine lv_bipush (v := (104 : Int32)) C.1 C.2.1 dX8_name_12 (by decide) ?_
  obtain ⟨r8, hc9, hf⟩ := bd hf
  refine call_Vi (ws' := (wX8_name cI cL cS cH a_this a_this_st a_this_past a_this_image a_this_imagePast a_this_tape a_this_laneOf a_this_sizeOf a_this_items a_this_code a_this_from a_this_by a_this_far a_this_met a_this_told q_acts q_imageActs q_tapeMany q_many q_round r6.2 q_isFault q_toldMany q_tape)) (rest := []) C w (mX8_isWord l D cI cL cS cH _ a_this a_this_st a_this_past a_this_image a_this_imagePast a_this_tape a_this_laneOf a_this_sizeOf a_this_items a_this_code a_this_from a_this_by a_this_far a_this_met a_this_told q_acts q_imageActs q_tapeMany q_many q_round r6.2 q_isFault q_toldMany q_tape (112 : Int32) (97 : Int32) (116 : Int32) (104 : Int32) hc9) (cwV 4 C.2.2.2.2 gX8_name_X8_isWord rfl rfl rfl (by decide +kernel) ⟨Nat.le_of_ble_eq_true rfl, Nat.le_of_ble_eq_true rfl⟩) [0, 1] [] 2 ⟨rfl, rfl, trivial⟩ ⟨rfl, rfl, trivial⟩ trivial rfl (by decide) (by decide) (ci := 8) (q0 := 0) rfl rfl rfl hl.1 rfl (lv_room (Nat.le_of_ble_eq_true rfl)) dX8_name_14 ⟨Nat.zero_le _, Nat.zero_le _⟩ (fun H locs w => ?_)
  refine lv_if_eq (tgt := 24) C.1 C.2.1 dX8_name_17 (by decide) (fun hq10 => ?_) (fun hq10 => ?_)
  · have hf := ite_t hf hq10
    refine lv_aload_n C.1 C.2.1 dX8_name_24 rfl (lv_at hl 0 rfl) ?_
    refine lv_bipush (v := (114 : Int32)) C.1 C.2.1 dX8_name_25 (by decide) ?_
    refine lv_bipush (v := (105 : Int32)) C.1 C.2.1 dX8_name_27 (by decide) ?_
    refine lv_bipush (v := (110 : Int32)) C.1 C.2.1 dX8_name_29 (by decide) ?_
    refine lv_bipush (v := (103 : Int32)) C.1 C.2.1 dX8_name_31 (by decide) ?_
    obtain ⟨r11, hc12, hf⟩ := bd hf
    refine call_Vi (ws' := (wX8_name cI cL cS cH a_this a_this_st a_this_past a_this_image a_this_imagePast a_this_tape a_this_laneOf a_this_sizeOf a_this_items a_this_code a_this_from a_this_by a_this_far a_this_met a_this_told q_acts q_imageActs q_tapeMany q_many q_round r6.2 q_isFault q_toldMany q_tape)) (rest := []) C w (mX8_isWord l D cI cL cS cH _ a_this a_this_st a_this_past a_this_image a_this_imagePast a_this_tape a_this_laneOf a_this_sizeOf a_this_items a_this_code a_this_from a_this_by a_this_far a_this_met a_this_told q_acts q_imageActs q_tapeMany q_many q_round r6.2 q_isFault q_toldMany q_tape (114 : Int32) (105 : Int32) (110 : Int32) (103 : Int32) hc12) (cwV 4 C.2.2.2.2 gX8_name_X8_isWord rfl rfl rfl (by decide +kernel) ⟨Nat.le_of_ble_eq_true rfl, Nat.le_of_ble_eq_true rfl⟩) [0, 1] [] 2 ⟨rfl, rfl, trivial⟩ ⟨rfl, rfl, trivial⟩ trivial rfl (by decide) (by decide) (ci := 8) (q0 := 0) rfl rfl rfl hl.1 rfl (lv_room (Nat.le_of_ble_eq_true rfl)) dX8_name_33 ⟨Nat.zero_le _, Nat.zero_le _⟩ (fun H locs w => ?_)
    refine lv_if_eq (tgt := 43) C.1 C.2.1 dX8_name_36 (by decide) (fun hq13 => ?_) (fun hq13 => ?_)
    · have hf := ite_t hf hq13
      refine lv_aload_n C.1 C.2.1 dX8_name_43 rfl (lv_at hl 0 rfl) ?_
      refine lv_bipush (v := (115 : Int32)) C.1 C.2.1 dX8_name_44 (by decide) ?_
      refine lv_bipush (v := (116 : Int32)) C.1 C.2.1 dX8_name_46 (by decide) ?_
      refine lv_bipush (v := (97 : Int32)) C.1 C.2.1 dX8_name_48 (by decide) ?_
      refine lv_bipush (v := (114 : Int32)) C.1 C.2.1 dX8_name_50 (by decide) ?_
      obtain ⟨r14, hc15, hf⟩ := bd hf
      refine call_Vi (ws' := (wX8_name cI cL cS cH a_this a_this_st a_this_past a_this_image a_this_imagePast a_this_tape a_this_laneOf a_this_sizeOf a_this_items a_this_code a_this_from a_this_by a_this_far a_this_met a_this_told q_acts q_imageActs q_tapeMany q_many q_round r6.2 q_isFault q_toldMany q_tape)) (rest := []) C w (mX8_isWord l D cI cL cS cH _ a_this a_this_st a_this_past a_this_image a_this_imagePast a_this_tape a_this_laneOf a_this_sizeOf a_this_items a_this_code a_this_from a_this_by a_this_far a_this_met a_this_told q_acts q_imageActs q_tapeMany q_many q_round r6.2 q_isFault q_toldMany q_tape (115 : Int32) (116 : Int32) (97 : Int32) (114 : Int32) hc15) (cwV 4 C.2.2.2.2 gX8_name_X8_isWord rfl rfl rfl (by decide +kernel) ⟨Nat.le_of_ble_eq_true rfl, Nat.le_of_ble_eq_true rfl⟩) [0, 1] [] 2 ⟨rfl, rfl, trivial⟩ ⟨rfl, rfl, trivial⟩ trivial rfl (by decide) (by decide) (ci := 8) (q0 := 0) rfl rfl rfl hl.1 rfl (lv_room (Nat.le_of_ble_eq_true rfl)) dX8_name_52 ⟨Nat.zero_le _, Nat.zero_le _⟩ (fun H locs w => ?_)
      refine lv_if_eq (tgt := 62) C.1 C.2.1 dX8_name_55 (by decide) (fun hq16 => ?_) (fun hq16 => ?_)
      · have hf := ite_t hf hq16
        refine lv_aload_n C.1 C.2.1 dX8_name_62 rfl (lv_at hl 0 rfl) ?_
        refine lv_bipush (v := (97 : Int32)) C.1 C.2.1 dX8_name_63 (by decide) ?_
        refine lv_bipush (v := (108 : Int32)) C.1 C.2.1 dX8_name_65 (by decide) ?_
        refine lv_bipush (v := (108 : Int32)) C.1 C.2.1 dX8_name_67 (by decide) ?_
        refine lv_iconst (v := (0 : Int32)) C.1 C.2.1 dX8_name_69 (by decide) ?_
        obtain ⟨r17, hc18, hf⟩ := bd hf
        refine call_Vi (ws' := (wX8_name cI cL cS cH a_this a_this_st a_this_past a_this_image a_this_imagePast a_this_tape a_this_laneOf a_this_sizeOf a_this_items a_this_code a_this_from a_this_by a_this_far a_this_met a_this_told q_acts q_imageActs q_tapeMany q_many q_round r6.2 q_isFault q_toldMany q_tape)) (rest := []) C w (mX8_isWord l D cI cL cS cH _ a_this a_this_st a_this_past a_this_image a_this_imagePast a_this_tape a_this_laneOf a_this_sizeOf a_this_items a_this_code a_this_from a_this_by a_this_far a_this_met a_this_told q_acts q_imageActs q_tapeMany q_many q_round r6.2 q_isFault q_toldMany q_tape (97 : Int32) (108 : Int32) (108 : Int32) (0 : Int32) hc18) (cwV 4 C.2.2.2.2 gX8_name_X8_isWord rfl rfl rfl (by decide +kernel) ⟨Nat.le_of_ble_eq_true rfl, Nat.le_of_ble_eq_true rfl⟩) [0, 1] [] 2 ⟨rfl, rfl, trivial⟩ ⟨rfl, rfl, trivial⟩ trivial rfl (by decide) (by decide) (ci := 8) (q0 := 0) rfl rfl rfl hl.1 rfl (lv_room (Nat.le_of_ble_eq_true rfl)) dX8_name_70 ⟨Nat.zero_le _, Nat.zero_le _⟩ (fun H locs w => ?_)
        refine lv_if_eq (tgt := 80) C.1 C.2.1 dX8_name_73 (by decide) (fun hq19 => ?_) (fun hq19 => ?_)
        · have hf := ite_t hf hq19
          refine lv_aload_n C.1 C.2.1 dX8_name_80 rfl (lv_at hl 0 rfl) ?_
          refine lv_bipush (v := (110 : Int32)) C.1 C.2.1 dX8_name_81 (by decide) ?_
          refine lv_bipush (v := (101 : Int32)) C.1 C.2.1 dX8_name_83 (by decide) ?_
          refine lv_bipush (v := (116 : Int32)) C.1 C.2.1 dX8_name_85 (by decide) ?_
          refine lv_iconst (v := (0 : Int32)) C.1 C.2.1 dX8_name_87 (by decide) ?_
          obtain ⟨r20, hc21, hf⟩ := bd hf
          refine call_Vi (ws' := (wX8_name cI cL cS cH a_this a_this_st a_this_past a_this_image a_this_imagePast a_this_tape a_this_laneOf a_this_sizeOf a_this_items a_this_code a_this_from a_this_by a_this_far a_this_met a_this_told q_acts q_imageActs q_tapeMany q_many q_round r6.2 q_isFault q_toldMany q_tape)) (rest := []) C w (mX8_isWord l D cI cL cS cH _ a_this a_this_st a_this_past a_this_image a_this_imagePast a_this_tape a_this_laneOf a_this_sizeOf a_this_items a_this_code a_this_from a_this_by a_this_far a_this_met a_this_told q_acts q_imageActs q_tapeMany q_many q_round r6.2 q_isFault q_toldMany q_tape (110 : Int32) (101 : Int32) (116 : Int32) (0 : Int32) hc21) (cwV 4 C.2.2.2.2 gX8_name_X8_isWord rfl rfl rfl (by decide +kernel) ⟨Nat.le_of_ble_eq_true rfl, Nat.le_of_ble_eq_true rfl⟩) [0, 1] [] 2 ⟨rfl, rfl, trivial⟩ ⟨rfl, rfl, trivial⟩ trivial rfl (by decide) (by decide) (ci := 8) (q0 := 0) rfl rfl rfl hl.1 rfl (lv_room (Nat.le_of_ble_eq_true rfl)) dX8_name_88 ⟨Nat.zero_le _, Nat.zero_le _⟩ (fun H locs w => ?_)
          refine lv_if_eq (tgt := 98) C.1 C.2.1 dX8_name_91 (by decide) (fun hq22 => ?_) (fun hq22 => ?_)
          · have hf := ite_t hf hq22
            refine lv_aload_n C.1 C.2.1 dX8_name_98 rfl (lv_at hl 0 rfl) ?_
            refine lv_bipush (v := (103 : Int32)) C.1 C.2.1 dX8_name_99 (by decide) ?_
            refine lv_bipush (v := (114 : Int32)) C.1 C.2.1 dX8_name_101 (by decide) ?_
            refine lv_bipush (v := (105 : Int32)) C.1 C.2.1 dX8_name_103 (by decide) ?_
            refine lv_bipush (v := (100 : Int32)) C.1 C.2.1 dX8_name_105 (by decide) ?_
            obtain ⟨r23, hc24, hf⟩ := bd hf
            refine call_Vi (ws' := (wX8_name cI cL cS cH a_this a_this_st a_this_past a_this_image a_this_imagePast a_this_tape a_this_laneOf a_this_sizeOf a_this_items a_this_code a_this_from a_this_by a_this_far a_this_met a_this_told q_acts q_imageActs q_tapeMany q_many q_round r6.2 q_isFault q_toldMany q_tape)) (rest := []) C w (mX8_isWord l D cI cL cS cH _ a_this a_this_st a_this_past a_this_image a_this_imagePast a_this_tape a_this_laneOf a_this_sizeOf a_this_items a_this_code a_this_from a_this_by a_this_far a_this_met a_this_told q_acts q_imageActs q_tapeMany q_many q_round r6.2 q_isFault q_toldMany q_tape (103 : Int32) (114 : Int32) (105 : Int32) (100 : Int32) hc24) (cwV 4 C.2.2.2.2 gX8_name_X8_isWord rfl rfl rfl (by decide +kernel) ⟨Nat.le_of_ble_eq_true rfl, Nat.le_of_ble_eq_true rfl⟩) [0, 1] [] 2 ⟨rfl, rfl, trivial⟩ ⟨rfl, rfl, trivial⟩ trivial rfl (by decide) (by decide) (ci := 8) (q0 := 0) rfl rfl rfl hl.1 rfl (lv_room (Nat.le_of_ble_eq_true rfl)) dX8_name_107 ⟨Nat.zero_le _, Nat.zero_le _⟩ (fun H locs w => ?_)
            refine lv_if_eq (tgt := 117) C.1 C.2.1 dX8_name_110 (by decide) (fun hq25 => ?_) (fun hq25 => ?_)
            · have hf := ite_t hf hq25
              refine lv_bipush (v := (-4 : Int32)) C.1 C.2.1 dX8_name_117 (by decide) ?_
              exact hj119 (-4 : Int32) r6.2 q_isFault _ _ _ w (lv_sub hl [0] rfl) hf
            · have hf := ite_f hf hq25
              refine lv_iconst (v := (5 : Int32)) C.1 C.2.1 dX8_name_113 (by decide) ?_
              refine lv_goto (tgt := 119) C.1 C.2.1 dX8_name_114 (by decide) ?_
              exact hj119 (5 : Int32) r6.2 q_isFault _ _ _ w (lv_sub hl [0] rfl) hf
          · have hf := ite_f hf hq22
            refine lv_iconst (v := (4 : Int32)) C.1 C.2.1 dX8_name_94 (by decide) ?_
            refine lv_goto (tgt := 119) C.1 C.2.1 dX8_name_95 (by decide) ?_
            exact hj119 (4 : Int32) r6.2 q_isFault _ _ _ w (lv_sub hl [0] rfl) hf
        · have hf := ite_f hf hq19
          refine lv_iconst (v := (3 : Int32)) C.1 C.2.1 dX8_name_76 (by decide) ?_
          refine lv_goto (tgt := 119) C.1 C.2.1 dX8_name_77 (by decide) ?_
          exact hj119 (3 : Int32) r6.2 q_isFault _ _ _ w (lv_sub hl [0] rfl) hf
      · have hf := ite_f hf hq16
        refine lv_iconst (v := (2 : Int32)) C.1 C.2.1 dX8_name_58 (by decide) ?_
        refine lv_goto (tgt := 119) C.1 C.2.1 dX8_name_59 (by decide) ?_
        exact hj119 (2 : Int32) r6.2 q_isFault _ _ _ w (lv_sub hl [0] rfl) hf
    · have hf := ite_f hf hq13
      refine lv_iconst (v := (1 : Int32)) C.1 C.2.1 dX8_name_39 (by decide) ?_
      refine lv_goto (tgt := 119) C.1 C.2.1 dX8_name_40 (by decide) ?_
      exact hj119 (1 : Int32) r6.2 q_isFault _ _ _ w (lv_sub hl [0] rfl) hf
  · have hf := ite_f hf hq10
    refine lv_iconst (v := (0 : Int32)) C.1 C.2.1 dX8_name_20 (by decide) ?_
    refine lv_goto (tgt := 119) C.1 C.2.1 dX8_name_21 (by decide) ?_
    exact hj119 (0 : Int32) r6.2 q_isFault _ _ _ w (lv_sub hl [0] rfl) hf
