set_option maxRecDepth 100000 in
theorem inX8_restore_X8 : ∀ w ∈ u_ws RX8 TX8 22, w ∈ wsX8_restore := by decide +kernel
set_option maxRecDepth 100000 in
theorem lkX8_restore_22 : Cond.fieldLink RX8 22 "CleanNetsModel" "imageActs" "I" ∈ wsX8_restore := by decide +kernel
set_option maxRecDepth 100000 in
theorem lkX8_restore_16 : Cond.fieldLink RX8 16 "CleanNetsModel" "image" "[I" ∈ wsX8_restore := by decide +kernel
set_option maxRecDepth 100000 in
theorem lkX8_restore_7 : Cond.fieldLink RX8 7 "CleanNetsModel" "st" "[I" ∈ wsX8_restore := by decide +kernel
set_option maxRecDepth 100000 in
theorem lkX8_restore_19 : Cond.fieldLink RX8 19 "CleanNetsModel" "imagePast" "[I" ∈ wsX8_restore := by decide +kernel
set_option maxRecDepth 100000 in
theorem lkX8_restore_13 : Cond.fieldLink RX8 13 "CleanNetsModel" "past" "[I" ∈ wsX8_restore := by decide +kernel
set_option maxRecDepth 100000 in
theorem lkX8_restore_102 : Cond.fieldLink RX8 102 "CleanNetsModel" "acts" "I" ∈ wsX8_restore := by decide +kernel
abbrev wX8_restore (cI cL cS cH : ClassId) (a_this : Nat) (a_this_st : Nat) (a_this_past : Nat) (a_this_image : Nat) (a_this_imagePast : Nat) (a_this_tape : Nat) (a_this_laneOf : Nat) (a_this_sizeOf : Nat) (a_this_items : Nat) (a_this_code : Nat) (a_this_from : Nat) (a_this_by : Nat) (a_this_far : Nat) (a_this_met : Nat) (a_this_told : Nat) (q_acts : Int32) (q_imageActs : Int32) (q_tapeMany : Int32) (q_many : Int32) (q_round : Int32) (q_readAt : Int32) (q_isFault : Int32) (q_toldMany : Int32) (q_image : Nat → Int32) (q_imagePast : Nat → Int32) (q_past : Nat → Int32) (q_st : Nat → Int32) : va_W := [(a_this, .inr (8, [.ref a_this_st, .ref a_this_past, .int q_acts, .ref a_this_image, .ref a_this_imagePast, .int q_imageActs, .ref a_this_tape, .int q_tapeMany, .ref a_this_laneOf, .ref a_this_sizeOf, .ref a_this_items, .ref a_this_code, .ref a_this_from, .ref a_this_by, .ref a_this_far, .int q_many, .ref a_this_met, .int q_round, .int q_readAt, .int q_isFault, .int q_toldMany, .ref a_this_told])),
  (a_this_image, .inl (cI, 13, .inl q_image)),
  (a_this_imagePast, .inl (cI, 78, .inl q_imagePast)),
  (a_this_past, .inl (cI, 78, .inl q_past)),
  (a_this_st, .inl (cI, 13, .inl q_st))]
def fX8_restore (q_acts : Int32) (q_imageActs : Int32) (q_image : Nat → Int32) (q_imagePast : Nat → Int32) (q_past : Nat → Int32) (q_st : Nat → Int32)  : Option (Int32 × Int32 × (Nat → Int32) × (Nat → Int32)) := (if 0 ≤ q_imageActs then Option.bind (fX8_bring 13 13 q_image q_st (0 : Int32) (0 : Int32) (13 : Int32)) (fun r2 => Option.bind (fX8_bring 78 78 q_imagePast q_past (0 : Int32) (0 : Int32) (78 : Int32)) (fun r4 => some ((1 : Int32), q_imageActs, r4, r2))) else some ((-4 : Int32), q_acts, q_past, q_st))
set_option maxHeartbeats 4000000 in
set_option maxRecDepth 100000 in
theorem mX8_restore (l : Launch) (D : vg) (cI cL cS cH : ClassId) (sz : Nat) (a_this : Nat) (a_this_st : Nat) (a_this_past : Nat) (a_this_image : Nat) (a_this_imagePast : Nat) (a_this_tape : Nat) (a_this_laneOf : Nat) (a_this_sizeOf : Nat) (a_this_items : Nat) (a_this_code : Nat) (a_this_from : Nat) (a_this_by : Nat) (a_this_far : Nat) (a_this_met : Nat) (a_this_told : Nat) (q_acts : Int32) (q_imageActs : Int32) (q_tapeMany : Int32) (q_many : Int32) (q_round : Int32) (q_readAt : Int32) (q_isFault : Int32) (q_toldMany : Int32) (q_image : Nat → Int32) (q_imagePast : Nat → Int32) (q_past : Nat → Int32) (q_st : Nat → Int32) {res : Int32 × Int32 × (Nat → Int32) × (Nat → Int32)} (hf : fX8_restore q_acts q_imageActs q_image q_imagePast q_past q_st = some res) : cti l yX8_restore wsX8_restore ({ frames := 1, cells := 0, slots := 0, locals := 25 }) D (ty4 cI cL cS cH) sz [.ref a_this] (wX8_restore cI cL cS cH a_this a_this_st a_this_past a_this_image a_this_imagePast a_this_tape a_this_laneOf a_this_sizeOf a_this_items a_this_code a_this_from a_this_by a_this_far a_this_met a_this_told q_acts q_imageActs q_tapeMany q_many q_round q_readAt q_isFault q_toldMany q_image q_imagePast q_past q_st) (wX8_restore cI cL cS cH a_this a_this_st a_this_past a_this_image a_this_imagePast a_this_tape a_this_laneOf a_this_sizeOf a_this_items a_this_code a_this_from a_this_by a_this_far a_this_met a_this_told res.2.1 q_imageActs q_tapeMany q_many q_round q_readAt q_isFault q_toldMany q_image q_imagePast res.2.2.1 res.2.2.2) res.1 := by
  refine Met.ofW (cc := cX8_restore) (maxL := 1) (ret := (some .int)) (by decide) rfl ?_
  intro p e s m args below meth c s₁ B hml hv
  obtain ⟨rfl, hpre⟩ := hv
  obtain rfl := hpre.1
  have C : CallFix p m c cX8_restore 1 s _ wsX8_restore RX8 := ⟨B.exec, B.bytes, hml, findClass_of_methodNamed B.named, atoms_spec (ws := wsX8_restore) B.pre⟩
  have hr := B.returns
  have hlocks := B.notSynchronized
  have w := wd_start hpre
  clear hpre B
  have hl := lv_entry ([.ref a_this]) (n := 1) (Nat.le_of_ble_eq_true rfl)
  rw [lg_entry_eq]
  generalize (lg_sl ([.ref a_this]) ++ List.replicate (1 - (lg_sl ([.ref a_this])).length) Slot.unset).toArray = ls at hl ⊢
  have hl : lv_has ls 1 [(0, .ref a_this)] := hl
  unfold fX8_restore at hf
  refine lv_aload_n C.1 C.2.1 dX8_restore_0 rfl (lv_at hl 0 rfl) ?_
  refine r_get C w inX8_restore_X8 0 rfl rfl 5 (by decide) lkX8_restore_22 rfl dX8_restore_1 ?_
  refine lv_if_ge (tgt := 10) C.1 C.2.1 dX8_restore_4 (by decide) (fun hq1 => ?_) (fun hq1 => ?_)
  · have hf := ite_t hf hq1
    refine lv_aload_n C.1 C.2.1 dX8_restore_10 rfl (lv_at hl 0 rfl) ?_
    refine r_get C w inX8_restore_X8 0 rfl rfl 3 (by decide) lkX8_restore_16 rfl dX8_restore_11 ?_
    refine lv_iconst (v := (0 : Int32)) C.1 C.2.1 dX8_restore_14 (by decide) ?_
    refine lv_aload_n C.1 C.2.1 dX8_restore_15 rfl (lv_at hl 0 rfl) ?_
    refine r_get C w inX8_restore_X8 0 rfl rfl 0 (by decide) lkX8_restore_7 rfl dX8_restore_16 ?_
    refine lv_iconst (v := (0 : Int32)) C.1 C.2.1 dX8_restore_19 (by decide) ?_
    refine lv_bipush (v := (13 : Int32)) C.1 C.2.1 dX8_restore_20 (by decide) ?_
    obtain ⟨r2, hc3, hf⟩ := bd hf
    refine call_Sv (ws' := (wX8_restore cI cL cS cH a_this a_this_st a_this_past a_this_image a_this_imagePast a_this_tape a_this_laneOf a_this_sizeOf a_this_items a_this_code a_this_from a_this_by a_this_far a_this_met a_this_told q_acts q_imageActs q_tapeMany q_many q_round q_readAt q_isFault q_toldMany q_image q_imagePast q_past r2)) (rest := []) C w (mX8_bring l D cI cL cS cH _ 13 13 a_this_image a_this_st q_image q_st (0 : Int32) (0 : Int32) (13 : Int32) hc3) (va_cwS 5 C.2.2.2.2 gX8_restore_X8_bring rfl rfl rfl (by decide +kernel) ⟨Nat.le_of_ble_eq_true rfl, Nat.le_of_ble_eq_true rfl⟩) [1, 4] [0, 2, 3] 5 ⟨rfl, rfl, trivial⟩ ⟨rfl, rfl, trivial⟩ ⟨⟨_, rfl, rfl⟩, ⟨_, rfl, rfl⟩, ⟨_, rfl, rfl⟩, trivial⟩ rfl (by decide) (by decide) rfl hl.1 rfl (lv_room (Nat.le_of_ble_eq_true rfl)) dX8_restore_22 ⟨Nat.zero_le _, Nat.zero_le _⟩ (fun H locs w => ?_)
    refine lv_aload_n C.1 C.2.1 dX8_restore_25 rfl (lv_at hl 0 rfl) ?_
    refine r_get C w inX8_restore_X8 0 rfl rfl 4 (by decide) lkX8_restore_19 rfl dX8_restore_26 ?_
    refine lv_iconst (v := (0 : Int32)) C.1 C.2.1 dX8_restore_29 (by decide) ?_
    refine lv_aload_n C.1 C.2.1 dX8_restore_30 rfl (lv_at hl 0 rfl) ?_
    refine r_get C w inX8_restore_X8 0 rfl rfl 1 (by decide) lkX8_restore_13 rfl dX8_restore_31 ?_
    refine lv_iconst (v := (0 : Int32)) C.1 C.2.1 dX8_restore_34 (by decide) ?_
    refine lv_bipush (v := (78 : Int32)) C.1 C.2.1 dX8_restore_35 (by decide) ?_
    obtain ⟨r4, hc5, hf⟩ := bd hf
    refine call_Sv (ws' := (wX8_restore cI cL cS cH a_this a_this_st a_this_past a_this_image a_this_imagePast a_this_tape a_this_laneOf a_this_sizeOf a_this_items a_this_code a_this_from a_this_by a_this_far a_this_met a_this_told q_acts q_imageActs q_tapeMany q_many q_round q_readAt q_isFault q_toldMany q_image q_imagePast r4 r2)) (rest := []) C w (mX8_bring l D cI cL cS cH _ 78 78 a_this_imagePast a_this_past q_imagePast q_past (0 : Int32) (0 : Int32) (78 : Int32) hc5) (va_cwS 5 C.2.2.2.2 gX8_restore_X8_bring rfl rfl rfl (by decide +kernel) ⟨Nat.le_of_ble_eq_true rfl, Nat.le_of_ble_eq_true rfl⟩) [2, 3] [0, 1, 4] 5 ⟨rfl, rfl, trivial⟩ ⟨rfl, rfl, trivial⟩ ⟨⟨_, rfl, rfl⟩, ⟨_, rfl, rfl⟩, ⟨_, rfl, rfl⟩, trivial⟩ rfl (by decide) (by decide) rfl hl.1 rfl (lv_room (Nat.le_of_ble_eq_true rfl)) dX8_restore_37 ⟨Nat.zero_le _, Nat.zero_le _⟩ (fun H locs w => ?_)
    refine lv_aload_n C.1 C.2.1 dX8_restore_40 rfl (lv_at hl 0 rfl) ?_
    refine lv_aload_n C.1 C.2.1 dX8_restore_41 rfl (lv_at hl 0 rfl) ?_
    refine r_get C w inX8_restore_X8 0 rfl rfl 5 (by decide) lkX8_restore_22 rfl dX8_restore_42 ?_
    refine r_put (ws' := (wX8_restore cI cL cS cH a_this a_this_st a_this_past a_this_image a_this_imagePast a_this_tape a_this_laneOf a_this_sizeOf a_this_items a_this_code a_this_from a_this_by a_this_far a_this_met a_this_told q_imageActs q_imageActs q_tapeMany q_many q_round q_readAt q_isFault q_toldMany q_image q_imagePast r4 r2)) C w inX8_restore_X8 tyX8 tyX8_ok nmX8 0 rfl rfl 2 (by decide) lkX8_restore_102 rfl rfl rfl (Nat.le_of_ble_eq_true rfl) rfl dX8_restore_45 (fun H locs w => ?_)
    refine lv_iconst (v := (1 : Int32)) C.1 C.2.1 dX8_restore_48 (by decide) ?_
    have hres := Option.some.inj hf
    subst hres
    exact ret_i C hr hlocks w rfl dX8_restore_49
  · have hf := ite_f hf hq1
    refine lv_bipush (v := (-4 : Int32)) C.1 C.2.1 dX8_restore_7 (by decide) ?_
    have hres := Option.some.inj hf
    subst hres
    exact ret_i C hr hlocks w rfl dX8_restore_9

abbrev wX8_isSheet (cI cL cS cH : ClassId) : va_W := []
def fX8_isSheet  (x0 : Int32) (x1 : Int32) : Option (Int32) := Option.bind (fX8_in ((x0).toInt64) (0 : Int64) (3 : Int64)) (fun r1 => (if r1 = 0 then some (0 : Int32) else Option.bind (fX8_in ((x1).toInt64) (0 : Int64) (3 : Int64)) (fun r4 => (if r4 = 0 then some (0 : Int32) else some (1 : Int32)))))
set_option maxHeartbeats 4000000 in
set_option maxRecDepth 100000 in
theorem mX8_isSheet (l : Launch) (D : vg) (cI cL cS cH : ClassId) (sz : Nat) (x0 : Int32) (x1 : Int32) {res : Int32} (hf : fX8_isSheet x0 x1 = some res) : cti l yX8_isSheet wsX8_isSheet ({ frames := 1, cells := 0, slots := 0, locals := 25 }) D (ty4 cI cL cS cH) sz [.int x0, .int x1] (wX8_isSheet cI cL cS cH ) (wX8_isSheet cI cL cS cH ) res := by
  refine Met.ofW (cc := cX8_isSheet) (maxL := 2) (ret := (some .boolean)) (by decide) rfl ?_
  intro p e s m args below meth c s₁ B hml hv
  obtain ⟨rfl, hpre⟩ := hv
  obtain rfl := hpre.1
  have C : CallFix p m c cX8_isSheet 2 s _ wsX8_isSheet RX8 := ⟨B.exec, B.bytes, hml, findClass_of_methodNamed B.named, atoms_spec (ws := wsX8_isSheet) B.pre⟩
  have hr := B.returns
  have hlocks := B.notSynchronized
  have w := wd_start hpre
  clear hpre B
  have hl := lv_entry ([.int x0, .int x1]) (n := 2) (Nat.le_of_ble_eq_true rfl)
  rw [lg_entry_eq]
  generalize (lg_sl ([.int x0, .int x1]) ++ List.replicate (2 - (lg_sl ([.int x0, .int x1])).length) Slot.unset).toArray = ls at hl ⊢
  have hl : lv_has ls 2 [(0, .int x0), (1, .int x1)] := hl
  unfold fX8_isSheet at hf
  refine lv_iload_n C.1 C.2.1 dX8_isSheet_0 rfl (lv_at hl 0 rfl) ?_
  refine lv_i2l C.1 C.2.1 dX8_isSheet_1 rfl ?_
  refine lv_lconst (v := (0 : Int64)) C.1 C.2.1 dX8_isSheet_2 (by decide) ?_
  refine lv_ldc2 (v := (3 : Int64)) C.1 C.2.1 C.2.2.2.1 (C.2.2.2.2 (.constantLong RX8 252 (3 : Int64)) (by decide +kernel)) dX8_isSheet_3 ?_
  obtain ⟨r1, hc2, hf⟩ := bd hf
  refine call_Si (ws' := (wX8_isSheet cI cL cS cH )) (rest := []) C w (mX8_in l D cI cL cS cH _ ((x0).toInt64) (0 : Int64) (3 : Int64) hc2) (va_cwS 3 C.2.2.2.2 gX8_isSheet_X8_in rfl rfl rfl (by decide +kernel) ⟨Nat.le_of_ble_eq_true rfl, Nat.le_of_ble_eq_true rfl⟩) [] [] 0 trivial trivial trivial rfl (by decide) (by decide) rfl hl.1 rfl (lv_room (Nat.le_of_ble_eq_true rfl)) dX8_isSheet_6 ⟨Nat.zero_le _, Nat.zero_le _⟩ (fun H locs w => ?_)
  refine lv_if_eq (tgt := 28) C.1 C.2.1 dX8_isSheet_9 (by decide) (fun hq3 => ?_) (fun hq3 => ?_)
  · have hf := ite_t hf hq3
    refine lv_iconst (v := (0 : Int32)) C.1 C.2.1 dX8_isSheet_28 (by decide) ?_
    have hres := Option.some.inj hf
    subst hres
    exact ret_z C hr hlocks w (by decide) rfl dX8_isSheet_29
  · have hf := ite_f hf hq3
    refine lv_iload_n C.1 C.2.1 dX8_isSheet_12 rfl (lv_at hl 1 rfl) ?_
    refine lv_i2l C.1 C.2.1 dX8_isSheet_13 rfl ?_
    refine lv_lconst (v := (0 : Int64)) C.1 C.2.1 dX8_isSheet_14 (by decide) ?_
    refine lv_ldc2 (v := (3 : Int64)) C.1 C.2.1 C.2.2.2.1 (C.2.2.2.2 (.constantLong RX8 252 (3 : Int64)) (by decide +kernel)) dX8_isSheet_15 ?_
    obtain ⟨r4, hc5, hf⟩ := bd hf
    refine call_Si (ws' := (wX8_isSheet cI cL cS cH )) (rest := []) C w (mX8_in l D cI cL cS cH _ ((x1).toInt64) (0 : Int64) (3 : Int64) hc5) (va_cwS 3 C.2.2.2.2 gX8_isSheet_X8_in rfl rfl rfl (by decide +kernel) ⟨Nat.le_of_ble_eq_true rfl, Nat.le_of_ble_eq_true rfl⟩) [] [] 0 trivial trivial trivial rfl (by decide) (by decide) rfl hl.1 rfl (lv_room (Nat.le_of_ble_eq_true rfl)) dX8_isSheet_18 ⟨Nat.zero_le _, Nat.zero_le _⟩ (fun H locs w => ?_)
    refine lv_if_eq (tgt := 28) C.1 C.2.1 dX8_isSheet_21 (by decide) (fun hq6 => ?_) (fun hq6 => ?_)
    · have hf := ite_t hf hq6
      refine lv_iconst (v := (0 : Int32)) C.1 C.2.1 dX8_isSheet_28 (by decide) ?_
      have hres := Option.some.inj hf
      subst hres
      exact ret_z C hr hlocks w (by decide) rfl dX8_isSheet_29
    · have hf := ite_f hf hq6
      refine lv_iconst (v := (1 : Int32)) C.1 C.2.1 dX8_isSheet_24 (by decide) ?_
      refine lv_goto (tgt := 29) C.1 C.2.1 dX8_isSheet_25 (by decide) ?_
      have hres := Option.some.inj hf
      subst hres
      exact ret_z C hr hlocks w (by decide) rfl dX8_isSheet_29

set_option maxRecDepth 100000 in
theorem inX8_found_X8 : ∀ w ∈ u_ws RX8 TX8 22, w ∈ wsX8_found := by decide +kernel
set_option maxRecDepth 100000 in
theorem lkX8_found_29 : Cond.fieldLink RX8 29 "CleanNetsModel" "laneOf" "[I" ∈ wsX8_found := by decide +kernel
set_option maxRecDepth 100000 in
theorem lkX8_found_32 : Cond.fieldLink RX8 32 "CleanNetsModel" "sizeOf" "[I" ∈ wsX8_found := by decide +kernel
abbrev wX8_found (cI cL cS cH : ClassId) (a_this : Nat) (a_this_st : Nat) (a_this_past : Nat) (a_this_image : Nat) (a_this_imagePast : Nat) (a_this_tape : Nat) (a_this_laneOf : Nat) (a_this_sizeOf : Nat) (a_this_items : Nat) (a_this_code : Nat) (a_this_from : Nat) (a_this_by : Nat) (a_this_far : Nat) (a_this_met : Nat) (a_this_told : Nat) (q_acts : Int32) (q_imageActs : Int32) (q_tapeMany : Int32) (q_many : Int32) (q_round : Int32) (q_readAt : Int32) (q_isFault : Int32) (q_toldMany : Int32) (q_laneOf : Nat → Int32) (q_sizeOf : Nat → Int32) : va_W := [(a_this, .inr (8, [.ref a_this_st, .ref a_this_past, .int q_acts, .ref a_this_image, .ref a_this_imagePast, .int q_imageActs, .ref a_this_tape, .int q_tapeMany, .ref a_this_laneOf, .ref a_this_sizeOf, .ref a_this_items, .ref a_this_code, .ref a_this_from, .ref a_this_by, .ref a_this_far, .int q_many, .ref a_this_met, .int q_round, .int q_readAt, .int q_isFault, .int q_toldMany, .ref a_this_told])),
  (a_this_laneOf, .inl (cI, 4, .inl q_laneOf)),
  (a_this_sizeOf, .inl (cI, 4, .inl q_sizeOf))]
def jX8_found_42 (q_laneOf : Nat → Int32) (q_sizeOf : Nat → Int32)  : Option (Int32) := some (-13 : Int32)
def fX8_found (q_laneOf : Nat → Int32) (q_sizeOf : Nat → Int32) (x1 : Int32) (x2 : Int32) (x3 : Int32) (x4 : Int32) : Option (Int32) := Option.bind (rd q_laneOf 4 x1) (fun y1 => (if 0 ≤ y1 then Option.bind (rd q_laneOf 4 x1) (fun y4 => (if y4 = x2 then (if x3 < 0 then jX8_found_42 q_laneOf q_sizeOf else Option.bind (rd q_sizeOf 4 x1) (fun y8 => (if x3 ≤ (y8 - x4) then some (0 : Int32) else jX8_found_42 q_laneOf q_sizeOf))) else some (-12 : Int32))) else some (-11 : Int32)))
abbrev gX8_found (p : Program) (l : Launch) (e : Env) (s : State) (m : MethodId) (below : List Frame) (meth : Method) (c : Code) (D : vg) (cI cL cS cH : ClassId) (a_this : Nat) (a_this_st : Nat) (a_this_past : Nat) (a_this_image : Nat) (a_this_imagePast : Nat) (a_this_tape : Nat) (a_this_laneOf : Nat) (a_this_sizeOf : Nat) (a_this_items : Nat) (a_this_code : Nat) (a_this_from : Nat) (a_this_by : Nat) (a_this_far : Nat) (a_this_met : Nat) (a_this_told : Nat) (q_acts : Int32) (q_imageActs : Int32) (q_tapeMany : Int32) (q_many : Int32) (q_round : Int32) (q_readAt : Int32) (q_isFault : Int32) (q_toldMany : Int32) (q_laneOf : Nat → Int32) (q_sizeOf : Nat → Int32) (x1 : Int32) (x2 : Int32) (x3 : Int32) (x4 : Int32) (res : Int32) (H : Heap) (locs : List Loc) (g : JFrame) : Prop := W p l e (headSpec wsX8_found ({ frames := 0, cells := 0, slots := 0, locals := 0 })).room s m ([.ref a_this, .int x1, .int x2, .int x3, .int x4] : List Value).toArray below meth c H locs 0 0 (MQ below (va_Qi (fun r' (_ : Unit) => r' = res) (fun _ t => pos1 D s.heap.size (wX8_found cI cL cS cH a_this a_this_st a_this_past a_this_image a_this_imagePast a_this_tape a_this_laneOf a_this_sizeOf a_this_items a_this_code a_this_from a_this_by a_this_far a_this_met a_this_told q_acts q_imageActs q_tapeMany q_many q_round q_readAt q_isFault q_toldMany q_laneOf q_sizeOf) (wX8_found cI cL cS cH a_this a_this_st a_this_past a_this_image a_this_imagePast a_this_tape a_this_laneOf a_this_sizeOf a_this_items a_this_code a_this_from a_this_by a_this_far a_this_met a_this_told q_acts q_imageActs q_tapeMany q_many q_round q_readAt q_isFault q_toldMany q_laneOf q_sizeOf) t) (va_A (wX8_found cI cL cS cH a_this a_this_st a_this_past a_this_image a_this_imagePast a_this_tape a_this_laneOf a_this_sizeOf a_this_items a_this_code a_this_from a_this_by a_this_far a_this_met a_this_told q_acts q_imageActs q_tapeMany q_many q_round q_readAt q_isFault q_toldMany q_laneOf q_sizeOf) s.heap.size)) ([.ref a_this, .int x1, .int x2, .int x3, .int x4] : List Value).toArray s 0 0 (va_A (wX8_found cI cL cS cH a_this a_this_st a_this_past a_this_image a_this_imagePast a_this_tape a_this_laneOf a_this_sizeOf a_this_items a_this_code a_this_from a_this_by a_this_far a_this_met a_this_told q_acts q_imageActs q_tapeMany q_many q_round q_readAt q_isFault q_toldMany q_laneOf q_sizeOf) s.heap.size)) g
set_option maxHeartbeats 4000000 in
set_option maxRecDepth 100000 in
theorem mX8_found (l : Launch) (D : vg) (cI cL cS cH : ClassId) (sz : Nat) (a_this : Nat) (a_this_st : Nat) (a_this_past : Nat) (a_this_image : Nat) (a_this_imagePast : Nat) (a_this_tape : Nat) (a_this_laneOf : Nat) (a_this_sizeOf : Nat) (a_this_items : Nat) (a_this_code : Nat) (a_this_from : Nat) (a_this_by : Nat) (a_this_far : Nat) (a_this_met : Nat) (a_this_told : Nat) (q_acts : Int32) (q_imageActs : Int32) (q_tapeMany : Int32) (q_many : Int32) (q_round : Int32) (q_readAt : Int32) (q_isFault : Int32) (q_toldMany : Int32) (q_laneOf : Nat → Int32) (q_sizeOf : Nat → Int32) (x1 : Int32) (x2 : Int32) (x3 : Int32) (x4 : Int32) {res : Int32} (hf : fX8_found q_laneOf q_sizeOf x1 x2 x3 x4 = some res) : cti l yX8_found wsX8_found ({ frames := 0, cells := 0, slots := 0, locals := 0 }) D (ty4 cI cL cS cH) sz [.ref a_this, .int x1, .int x2, .int x3, .int x4] (wX8_found cI cL cS cH a_this a_this_st a_this_past a_this_image a_this_imagePast a_this_tape a_this_laneOf a_this_sizeOf a_this_items a_this_code a_this_from a_this_by a_this_far a_this_met a_this_told q_acts q_imageActs q_tapeMany q_many q_round q_readAt q_isFault q_toldMany q_laneOf q_sizeOf) (wX8_found cI cL cS cH a_this a_this_st a_this_past a_this_image a_this_imagePast a_this_tape a_this_laneOf a_this_sizeOf a_this_items a_this_code a_this_from a_this_by a_this_far a_this_met a_this_told q_acts q_imageActs q_tapeMany q_many q_round q_readAt q_isFault q_toldMany q_laneOf q_sizeOf) res := by
  refine Met.ofW (cc := cX8_found) (maxL := 5) (ret := (some .int)) (by decide) rfl ?_
  intro p e s m args below meth c s₁ B hml hv
  obtain ⟨rfl, hpre⟩ := hv
  obtain rfl := hpre.1
  have C : CallFix p m c cX8_found 5 s _ wsX8_found RX8 := ⟨B.exec, B.bytes, hml, findClass_of_methodNamed B.named, atoms_spec (ws := wsX8_found) B.pre⟩
  have hr := B.returns
  have hlocks := B.notSynchronized
  have w := wd_start hpre
  clear hpre B
  have hl := lv_entry ([.ref a_this, .int x1, .int x2, .int x3, .int x4]) (n := 5) (Nat.le_of_ble_eq_true rfl)
  rw [lg_entry_eq]
  generalize (lg_sl ([.ref a_this, .int x1, .int x2, .int x3, .int x4]) ++ List.replicate (5 - (lg_sl ([.ref a_this, .int x1, .int x2, .int x3, .int x4])).length) Slot.unset).toArray = ls at hl ⊢
  have hl : lv_has ls 5 [(0, .ref a_this), (1, .int x1), (2, .int x2), (3, .int x3), (4, .int x4)] := hl
  unfold fX8_found at hf
  have hj42 : ∀  (H : Heap) (locs : List Loc) (ls : Array Slot), wd D (ty4 cI cL cS cH) s (va_A (wX8_found cI cL cS cH a_this a_this_st a_this_past a_this_image a_this_imagePast a_this_tape a_this_laneOf a_this_sizeOf a_this_items a_this_code a_this_from a_this_by a_this_far a_this_met a_this_told q_acts q_imageActs q_tapeMany q_many q_round q_readAt q_isFault q_toldMany q_laneOf q_sizeOf) s.heap.size) s.heap H locs (wX8_found cI cL cS cH a_this a_this_st a_this_past a_this_image a_this_imagePast a_this_tape a_this_laneOf a_this_sizeOf a_this_items a_this_code a_this_from a_this_by a_this_far a_this_met a_this_told q_acts q_imageActs q_tapeMany q_many q_round q_readAt q_isFault q_toldMany q_laneOf q_sizeOf) → lv_has ls 5 [] → jX8_found_42 q_laneOf q_sizeOf = some res → gX8_found p l e s m below meth c D cI cL cS cH a_this a_this_st a_this_past a_this_image a_this_imagePast a_this_tape a_this_laneOf a_this_sizeOf a_this_items a_this_code a_this_from a_this_by a_this_far a_this_met a_this_told q_acts q_imageActs q_tapeMany q_many q_round q_readAt q_isFault q_toldMany q_laneOf q_sizeOf x1 x2 x3 x4 res H locs (F0 m 42 ls []) := by
    intro  H locs ls w hl hf
    unfold jX8_found_42 at hf
    refine lv_bipush (v := (-13 : Int32)) C.1 C.2.1 dX8_found_42 (by decide) ?_
    refine lv_goto (tgt := 48) C.1 C.2.1 dX8_found_44 (by decide) ?_
    have hres := Option.some.inj hf
    subst hres
    exact ret_i C hr hlocks w rfl dX8_found_48
  refine lv_aload_n C.1 C.2.1 dX8_found_0 rfl (lv_at hl 0 rfl) ?_
  refine r_get C w inX8_found_X8 0 rfl rfl 8 (by decide) lkX8_found_29 rfl dX8_found_1 ?_
  refine lv_iload_n C.1 C.2.1 dX8_found_4 rfl (lv_at hl 1 rfl) ?_
  obtain ⟨y1, hy2, hf⟩ := bd hf
  refine r_iald C w 1 0 rfl rfl (rd_in hy2) dX8_found_5 ?_
  refine lv_if_ge (tgt := 12) C.1 C.2.1 dX8_found_6 (by decide) (fun hq3 => ?_) (fun hq3 => ?_)
  · have hf := ite_t hf hq3
    refine lv_aload_n C.1 C.2.1 dX8_found_12 rfl (lv_at hl 0 rfl) ?_
    refine r_get C w inX8_found_X8 0 rfl rfl 8 (by decide) lkX8_found_29 rfl dX8_found_13 ?_
    refine lv_iload_n C.1 C.2.1 dX8_found_16 rfl (lv_at hl 1 rfl) ?_
    obtain ⟨y4, hy5, hf⟩ := bd hf
    refine r_iald C w 1 0 rfl rfl (rd_in hy5) dX8_found_17 ?_
    refine lv_iload_n C.1 C.2.1 dX8_found_18 rfl (lv_at hl 2 rfl) ?_
    refine lv_icmp_eq (tgt := 25) C.1 C.2.1 dX8_found_19 (by decide) (fun hq6 => ?_) (fun hq6 => ?_)
    · have hf := ite_t hf hq6
      refine lv_iload_n C.1 C.2.1 dX8_found_25 rfl (lv_at hl 3 rfl) ?_
      refine lv_if_lt (tgt := 42) C.1 C.2.1 dX8_found_26 (by decide) (fun hq7 => ?_) (fun hq7 => ?_)
      · have hf := ite_t hf hq7
        exact hj42  _ _ _ w (lv_sub hl [] rfl) hf
      · have hf := ite_f hf hq7
        refine lv_iload_n C.1 C.2.1 dX8_found_29 rfl (lv_at hl 3 rfl) ?_
        refine lv_aload_n C.1 C.2.1 dX8_found_30 rfl (lv_at hl 0 rfl) ?_
        refine r_get C w inX8_found_X8 0 rfl rfl 9 (by decide) lkX8_found_32 rfl dX8_found_31 ?_
        refine lv_iload_n C.1 C.2.1 dX8_found_34 rfl (lv_at hl 1 rfl) ?_
        obtain ⟨y8, hy9, hf⟩ := bd hf
        refine r_iald C w 2 0 rfl rfl (rd_in hy9) dX8_found_35 ?_
        refine lv_iload C.1 C.2.1 dX8_found_36 (lv_at hl 4 rfl) ?_
        refine lv_isub C.1 C.2.1 dX8_found_38 ?_
        refine lv_icmp_le (tgt := 47) C.1 C.2.1 dX8_found_39 (by decide) (fun hq10 => ?_) (fun hq10 => ?_)
        · have hf := ite_t hf hq10
          refine lv_iconst (v := (0 : Int32)) C.1 C.2.1 dX8_found_47 (by decide) ?_
          have hres := Option.some.inj hf
          subst hres
          exact ret_i C hr hlocks w rfl dX8_found_48
        · have hf := ite_f hf hq10
          exact hj42  _ _ _ w (lv_sub hl [] rfl) hf
    · have hf := ite_f hf hq6
      refine lv_bipush (v := (-12 : Int32)) C.1 C.2.1 dX8_found_22 (by decide) ?_
      have hres := Option.some.inj hf
      subst hres
      exact ret_i C hr hlocks w rfl dX8_found_24
  · have hf := ite_f hf hq3
    refine lv_bipush (v := (-11 : Int32)) C.1 C.2.1 dX8_found_9 (by decide) ?_
    have hres := Option.some.inj hf
    subst hres
    exact ret_i C hr hlocks w rfl dX8_found_11

set_option maxRecDepth 100000 in
theorem inX8_areAllowed_X8 : ∀ w ∈ u_ws RX8 TX8 22, w ∈ wsX8_areAllowed := by decide +kernel
set_option maxRecDepth 100000 in
theorem lkX8_areAllowed_35 : Cond.fieldLink RX8 35 "CleanNetsModel" "items" "[J" ∈ wsX8_areAllowed := by decide +kernel
set_option maxRecDepth 100000 in
theorem lkX8_areAllowed_7 : Cond.fieldLink RX8 7 "CleanNetsModel" "st" "[I" ∈ wsX8_areAllowed := by decide +kernel
abbrev wX8_areAllowed (cI cL cS cH : ClassId) (a_this : Nat) (a_this_st : Nat) (a_this_past : Nat) (a_this_image : Nat) (a_this_imagePast : Nat) (a_this_tape : Nat) (a_this_laneOf : Nat) (a_this_sizeOf : Nat) (a_this_items : Nat) (a_this_code : Nat) (a_this_from : Nat) (a_this_by : Nat) (a_this_far : Nat) (a_this_met : Nat) (a_this_told : Nat) (q_acts : Int32) (q_imageActs : Int32) (q_tapeMany : Int32) (q_many : Int32) (q_round : Int32) (q_readAt : Int32) (q_isFault : Int32) (q_toldMany : Int32) (q_items : Nat → Int64) (q_st : Nat → Int32) : va_W := [(a_this, .inr (8, [.ref a_this_st, .ref a_this_past, .int q_acts, .ref a_this_image, .ref a_this_imagePast, .int q_imageActs, .ref a_this_tape, .int q_tapeMany, .ref a_this_laneOf, .ref a_this_sizeOf, .ref a_this_items, .ref a_this_code, .ref a_this_from, .ref a_this_by, .ref a_this_far, .int q_many, .ref a_this_met, .int q_round, .int q_readAt, .int q_isFault, .int q_toldMany, .ref a_this_told])),
  (a_this_items, .inl (cL, 96, .inr (.inl q_items))),
  (a_this_st, .inl (cI, 13, .inl q_st))]
def jX8_areAllowed_75 (q_items : Nat → Int64) (q_st : Nat → Int32) (y9_1 : Int32) (y9_2 : Int32) (y9_3 : Int32) (y75_5 : Int32) (y75_6 : Int32) (z75_0 : Int32) : Option ((Int32 × Int32 × Int32) ⊕ (Int32 × Int32 × Int32)) := some (.inl (z75_0, y75_5, (y75_6 + (1 : Int32))))
def jX8_areAllowed_56 (q_items : Nat → Int64) (q_st : Nat → Int32) (y9_1 : Int32) (y9_2 : Int32) (y9_3 : Int32) (y56_4 : Int32) (y56_6 : Int32) (y56_7 : Int32) (z56_0 : Int32) : Option ((Int32 × Int32 × Int32) ⊕ (Int32 × Int32 × Int32)) := (if z56_0 = 0 then jX8_areAllowed_75 q_items q_st y9_1 y9_2 y9_3 z56_0 y56_6 y56_4 else Option.bind (fX8_guardsBehind y56_4 y56_7) (fun r2 => jX8_areAllowed_75 q_items q_st y9_1 y9_2 y9_3 z56_0 y56_6 r2))
def bX8_areAllowed_9 (q_items : Nat → Int64) (q_st : Nat → Int32) (y9_1 : Int32) (y9_2 : Int32) (y9_3 : Int32) (v9 : Int32 × Int32 × Int32) : Option ((Int32 × Int32 × Int32) ⊕ (Int32 × Int32 × Int32)) := (if y9_3 ≤ v9.2.2 then some (.inr (v9.1, v9.2.1, v9.2.2)) else (if v9.2.1 = 0 then some (.inr (v9.1, v9.2.1, v9.2.2)) else Option.bind (rd q_items 96 (y9_2 + v9.2.2)) (fun y6 => Option.bind (rd q_st 13 (11 : Int32)) (fun y8 => Option.bind (fX8_against q_st y9_1 y8 v9.1 ((y6).toInt32)) (fun r10 => (if r10 = 0 then jX8_areAllowed_56 q_items q_st y9_1 y9_2 y9_3 v9.1 v9.2.2 ((y6).toInt32) (1 : Int32) else jX8_areAllowed_56 q_items q_st y9_1 y9_2 y9_3 v9.1 v9.2.2 ((y6).toInt32) (0 : Int32)))))))
def fX8_areAllowed (q_items : Nat → Int64) (q_st : Nat → Int32) (x1 : Int32) (x2 : Int32) (x3 : Int32) : Option (Int32) := Option.bind (itL (bX8_areAllowed_9 q_items q_st x1 x2 x3) fu ((0 : Int32), (1 : Int32), (0 : Int32))) (fun ex13 => Option.bind (bz ex13.2.1) (fun _ => some ex13.2.1))
abbrev gX8_areAllowed (p : Program) (l : Launch) (e : Env) (s : State) (m : MethodId) (below : List Frame) (meth : Method) (c : Code) (D : vg) (cI cL cS cH : ClassId) (a_this : Nat) (a_this_st : Nat) (a_this_past : Nat) (a_this_image : Nat) (a_this_imagePast : Nat) (a_this_tape : Nat) (a_this_laneOf : Nat) (a_this_sizeOf : Nat) (a_this_items : Nat) (a_this_code : Nat) (a_this_from : Nat) (a_this_by : Nat) (a_this_far : Nat) (a_this_met : Nat) (a_this_told : Nat) (q_acts : Int32) (q_imageActs : Int32) (q_tapeMany : Int32) (q_many : Int32) (q_round : Int32) (q_readAt : Int32) (q_isFault : Int32) (q_toldMany : Int32) (q_items : Nat → Int64) (q_st : Nat → Int32) (x1 : Int32) (x2 : Int32) (x3 : Int32) (res : Int32) (H : Heap) (locs : List Loc) (g : JFrame) : Prop := W p l e (headSpec wsX8_areAllowed ({ frames := 3, cells := 0, slots := 0, locals := 69 })).room s m ([.ref a_this, .int x1, .int x2, .int x3] : List Value).toArray below meth c H locs 0 0 (MQ below (va_Qi (fun r' (_ : Unit) => r' = res) (fun _ t => pos1 D s.heap.size (wX8_areAllowed cI cL cS cH a_this a_this_st a_this_past a_this_image a_this_imagePast a_this_tape a_this_laneOf a_this_sizeOf a_this_items a_this_code a_this_from a_this_by a_this_far a_this_met a_this_told q_acts q_imageActs q_tapeMany q_many q_round q_readAt q_isFault q_toldMany q_items q_st) (wX8_areAllowed cI cL cS cH a_this a_this_st a_this_past a_this_image a_this_imagePast a_this_tape a_this_laneOf a_this_sizeOf a_this_items a_this_code a_this_from a_this_by a_this_far a_this_met a_this_told q_acts q_imageActs q_tapeMany q_many q_round q_readAt q_isFault q_toldMany q_items q_st) t) (va_A (wX8_areAllowed cI cL cS cH a_this a_this_st a_this_past a_this_image a_this_imagePast a_this_tape a_this_laneOf a_this_sizeOf a_this_items a_this_code a_this_from a_this_by a_this_far a_this_met a_this_told q_acts q_imageActs q_tapeMany q_many q_round q_readAt q_isFault q_toldMany q_items q_st) s.heap.size)) ([.ref a_this, .int x1, .int x2, .int x3] : List Value).toArray s 0 0 (va_A (wX8_areAllowed cI cL cS cH a_this a_this_st a_this_past a_this_image a_this_imagePast a_this_tape a_this_laneOf a_this_sizeOf a_this_items a_this_code a_this_from a_this_by a_this_far a_this_met a_this_told q_acts q_imageActs q_tapeMany q_many q_round q_readAt q_isFault q_toldMany q_items q_st) s.heap.size)) g
set_option maxHeartbeats 4000000 in
set_option maxRecDepth 100000 in
theorem mX8_areAllowed (l : Launch) (D : vg) (cI cL cS cH : ClassId) (sz : Nat) (a_this : Nat) (a_this_st : Nat) (a_this_past : Nat) (a_this_image : Nat) (a_this_imagePast : Nat) (a_this_tape : Nat) (a_this_laneOf : Nat) (a_this_sizeOf : Nat) (a_this_items : Nat) (a_this_code : Nat) (a_this_from : Nat) (a_this_by : Nat) (a_this_far : Nat) (a_this_met : Nat) (a_this_told : Nat) (q_acts : Int32) (q_imageActs : Int32) (q_tapeMany : Int32) (q_many : Int32) (q_round : Int32) (q_readAt : Int32) (q_isFault : Int32) (q_toldMany : Int32) (q_items : Nat → Int64) (q_st : Nat → Int32) (x1 : Int32) (x2 : Int32) (x3 : Int32) {res : Int32} (hf : fX8_areAllowed q_items q_st x1 x2 x3 = some res) : cti l yX8_areAllowed wsX8_areAllowed ({ frames := 3, cells := 0, slots := 0, locals := 69 }) D (ty4 cI cL cS cH) sz [.ref a_this, .int x1, .int x2, .int x3] (wX8_areAllowed cI cL cS cH a_this a_this_st a_this_past a_this_image a_this_imagePast a_this_tape a_this_laneOf a_this_sizeOf a_this_items a_this_code a_this_from a_this_by a_this_far a_this_met a_this_told q_acts q_imageActs q_tapeMany q_many q_round q_readAt q_isFault q_toldMany q_items q_st) (wX8_areAllowed cI cL cS cH a_this a_this_st a_this_past a_this_image a_this_imagePast a_this_tape a_this_laneOf a_this_sizeOf a_this_items a_this_code a_this_from a_this_by a_this_far a_this_met a_this_told q_acts q_imageActs q_tapeMany q_many q_round q_readAt q_isFault q_toldMany q_items q_st) res := by
  refine Met.ofW (cc := cX8_areAllowed) (maxL := 8) (ret := (some .boolean)) (by decide) rfl ?_
  intro p e s m args below meth c s₁ B hml hv
  obtain ⟨rfl, hpre⟩ := hv
  obtain rfl := hpre.1
  have C : CallFix p m c cX8_areAllowed 8 s _ wsX8_areAllowed RX8 := ⟨B.exec, B.bytes, hml, findClass_of_methodNamed B.named, atoms_spec (ws := wsX8_areAllowed) B.pre⟩
  have hr := B.returns
  have hlocks := B.notSynchronized
  have w := wd_start hpre
  clear hpre B
  have hl := lv_entry ([.ref a_this, .int x1, .int x2, .int x3]) (n := 8) (Nat.le_of_ble_eq_true rfl)
  rw [lg_entry_eq]
  generalize (lg_sl ([.ref a_this, .int x1, .int x2, .int x3]) ++ List.replicate (8 - (lg_sl ([.ref a_this, .int x1, .int x2, .int x3])).length) Slot.unset).toArray = ls at hl ⊢
  have hl : lv_has ls 8 [(0, .ref a_this), (1, .int x1), (2, .int x2), (3, .int x3)] := hl
  unfold fX8_areAllowed at hf
  have hlp9 : ∀ (y9_1 : Int32) (y9_2 : Int32) (y9_3 : Int32) (ex9 : Int32 × Int32 × Int32) (hk : (∀ (H : Heap) (locs : List Loc) (ls : Array Slot), wd D (ty4 cI cL cS cH) s (va_A (wX8_areAllowed cI cL cS cH a_this a_this_st a_this_past a_this_image a_this_imagePast a_this_tape a_this_laneOf a_this_sizeOf a_this_items a_this_code a_this_from a_this_by a_this_far a_this_met a_this_told q_acts q_imageActs q_tapeMany q_many q_round q_readAt q_isFault q_toldMany q_items q_st) s.heap.size) s.heap H locs (wX8_areAllowed cI cL cS cH a_this a_this_st a_this_past a_this_image a_this_imagePast a_this_tape a_this_laneOf a_this_sizeOf a_this_items a_this_code a_this_from a_this_by a_this_far a_this_met a_this_told q_acts q_imageActs q_tapeMany q_many q_round q_readAt q_isFault q_toldMany q_items q_st) → lv_has ls 8 [(5, .int ex9.2.1)] → gX8_areAllowed p l e s m below meth c D cI cL cS cH a_this a_this_st a_this_past a_this_image a_this_imagePast a_this_tape a_this_laneOf a_this_sizeOf a_this_items a_this_code a_this_from a_this_by a_this_far a_this_met a_this_told q_acts q_imageActs q_tapeMany q_many q_round q_readAt q_isFault q_toldMany q_items q_st x1 x2 x3 res H locs (F0 m 83 ls []))) (n : Nat) (v9 : Int32 × Int32 × Int32) (H : Heap) (locs : List Loc) (ls : Array Slot), itL (bX8_areAllowed_9 q_items q_st y9_1 y9_2 y9_3) n v9 = some ex9 → wd D (ty4 cI cL cS cH) s (va_A (wX8_areAllowed cI cL cS cH a_this a_this_st a_this_past a_this_image a_this_imagePast a_this_tape a_this_laneOf a_this_sizeOf a_this_items a_this_code a_this_from a_this_by a_this_far a_this_met a_this_told q_acts q_imageActs q_tapeMany q_many q_round q_readAt q_isFault q_toldMany q_items q_st) s.heap.size) s.heap H locs (wX8_areAllowed cI cL cS cH a_this a_this_st a_this_past a_this_image a_this_imagePast a_this_tape a_this_laneOf a_this_sizeOf a_this_items a_this_code a_this_from a_this_by a_this_far a_this_met a_this_told q_acts q_imageActs q_tapeMany q_many q_round q_readAt q_isFault q_toldMany q_items q_st) → lv_has ls 8 [(0, .ref a_this), (1, .int y9_1), (2, .int y9_2), (3, .int y9_3), (4, .int v9.1), (5, .int v9.2.1), (6, .int v9.2.2)] → gX8_areAllowed p l e s m below meth c D cI cL cS cH a_this a_this_st a_this_past a_this_image a_this_imagePast a_this_tape a_this_laneOf a_this_sizeOf a_this_items a_this_code a_this_from a_this_by a_this_far a_this_met a_this_told q_acts q_imageActs q_tapeMany q_many q_round q_readAt q_isFault q_toldMany q_items q_st x1 x2 x3 res H locs (F0 m 9 ls []) := by
    intro y9_1 y9_2 y9_3 ex9 hk n
    induction n with
    | zero => intro v9 H locs ls hi w hl; exact (itL_zero hi).elim
    | succ n ih =>
      intro v9 H locs ls hi w hl
      obtain ⟨o, hf, hn⟩ := itL_succ hi
      unfold bX8_areAllowed_9 at hf
      have hj75 : ∀ (y75_5 : Int32) (y75_6 : Int32) (z75_0 : Int32) (H : Heap) (locs : List Loc) (ls : Array Slot), wd D (ty4 cI cL cS cH) s (va_A (wX8_areAllowed cI cL cS cH a_this a_this_st a_this_past a_this_image a_this_imagePast a_this_tape a_this_laneOf a_this_sizeOf a_this_items a_this_code a_this_from a_this_by a_this_far a_this_met a_this_told q_acts q_imageActs q_tapeMany q_many q_round q_readAt q_isFault q_toldMany q_items q_st) s.heap.size) s.heap H locs (wX8_areAllowed cI cL cS cH a_this a_this_st a_this_past a_this_image a_this_imagePast a_this_tape a_this_laneOf a_this_sizeOf a_this_items a_this_code a_this_from a_this_by a_this_far a_this_met a_this_told q_acts q_imageActs q_tapeMany q_many q_round q_readAt q_isFault q_toldMany q_items q_st) → lv_has ls 8 [(0, .ref a_this), (1, .int y9_1), (2, .int y9_2), (3, .int y9_3), (5, .int y75_5), (6, .int y75_6)] → jX8_areAllowed_75 q_items q_st y9_1 y9_2 y9_3 y75_5 y75_6 z75_0 = some o → gX8_areAllowed p l e s m below meth c D cI cL cS cH a_this a_this_st a_this_past a_this_image a_this_imagePast a_this_tape a_this_laneOf a_this_sizeOf a_this_items a_this_code a_this_from a_this_by a_this_far a_this_met a_this_told q_acts q_imageActs q_tapeMany q_many q_round q_readAt q_isFault q_toldMany q_items q_st x1 x2 x3 res H locs (F0 m 75 ls [.int z75_0]) := by
        intro y75_5 y75_6 z75_0 H locs ls w hl hf
        unfold jX8_areAllowed_75 at hf
        refine lv_istore (lv' := [(4, .int z75_0), (0, .ref a_this), (1, .int y9_1), (2, .int y9_2), (3, .int y9_3), (5, .int y75_5), (6, .int y75_6)]) C.1 C.2.1 dX8_areAllowed_75 hl (by decide) rfl (fun ls hl => ?_)
        refine lv_iinc (v := (y75_6 + (1 : Int32))) (lv' := [(6, .int (y75_6 + (1 : Int32))), (4, .int z75_0), (0, .ref a_this), (1, .int y9_1), (2, .int y9_2), (3, .int y9_3), (5, .int y75_5)]) C.1 C.2.1 dX8_areAllowed_77 hl (k := 6) rfl rfl (by decide) rfl (fun ls hl => ?_)
        refine lv_goto (tgt := 9) C.1 C.2.1 dX8_areAllowed_80 (by decide) ?_
        obtain rfl := Option.some.inj hf
        exact ih (z75_0, y75_5, (y75_6 + (1 : Int32))) _ _ _ hn w (lv_sub hl [2, 3, 4, 5, 1, 6, 0] rfl)
      have hj56 : ∀ (y56_4 : Int32) (y56_6 : Int32) (y56_7 : Int32) (z56_0 : Int32) (H : Heap) (locs : List Loc) (ls : Array Slot), wd D (ty4 cI cL cS cH) s (va_A (wX8_areAllowed cI cL cS cH a_this a_this_st a_this_past a_this_image a_this_imagePast a_this_tape a_this_laneOf a_this_sizeOf a_this_items a_this_code a_this_from a_this_by a_this_far a_this_met a_this_told q_acts q_imageActs q_tapeMany q_many q_round q_readAt q_isFault q_toldMany q_items q_st) s.heap.size) s.heap H locs (wX8_areAllowed cI cL cS cH a_this a_this_st a_this_past a_this_image a_this_imagePast a_this_tape a_this_laneOf a_this_sizeOf a_this_items a_this_code a_this_from a_this_by a_this_far a_this_met a_this_told q_acts q_imageActs q_tapeMany q_many q_round q_readAt q_isFault q_toldMany q_items q_st) → lv_has ls 8 [(0, .ref a_this), (1, .int y9_1), (2, .int y9_2), (3, .int y9_3), (4, .int y56_4), (6, .int y56_6), (7, .int y56_7)] → jX8_areAllowed_56 q_items q_st y9_1 y9_2 y9_3 y56_4 y56_6 y56_7 z56_0 = some o → gX8_areAllowed p l e s m below meth c D cI cL cS cH a_this a_this_st a_this_past a_this_image a_this_imagePast a_this_tape a_this_laneOf a_this_sizeOf a_this_items a_this_code a_this_from a_this_by a_this_far a_this_met a_this_told q_acts q_imageActs q_tapeMany q_many q_round q_readAt q_isFault q_toldMany q_items q_st x1 x2 x3 res H locs (F0 m 56 ls [.int z56_0]) := by
        intro y56_4 y56_6 y56_7 z56_0 H locs ls w hl hf
        unfold jX8_areAllowed_56 at hf
        refine lv_istore (lv' := [(5, .int z56_0), (0, .ref a_this), (1, .int y9_1), (2, .int y9_2), (3, .int y9_3), (4, .int y56_4), (6, .int y56_6), (7, .int y56_7)]) C.1 C.2.1 dX8_areAllowed_56 hl (by decide) rfl (fun ls hl => ?_)
        refine lv_iload C.1 C.2.1 dX8_areAllowed_58 (lv_at hl 0 rfl) ?_
        refine lv_if_eq (tgt := 73) C.1 C.2.1 dX8_areAllowed_60 (by decide) (fun hq1 => ?_) (fun hq1 => ?_)
        · have hf := ite_t hf hq1
          refine lv_iload C.1 C.2.1 dX8_areAllowed_73 (lv_at hl 5 rfl) ?_
          exact hj75 z56_0 y56_6 y56_4 _ _ _ w (lv_sub hl [1, 2, 3, 4, 0, 6] rfl) hf
        · have hf := ite_f hf hq1
          refine lv_iload C.1 C.2.1 dX8_areAllowed_63 (lv_at hl 5 rfl) ?_
          refine lv_iload C.1 C.2.1 dX8_areAllowed_65 (lv_at hl 7 rfl) ?_
          obtain ⟨r2, hc3, hf⟩ := bd hf
          refine call_Si (ws' := (wX8_areAllowed cI cL cS cH a_this a_this_st a_this_past a_this_image a_this_imagePast a_this_tape a_this_laneOf a_this_sizeOf a_this_items a_this_code a_this_from a_this_by a_this_far a_this_met a_this_told q_acts q_imageActs q_tapeMany q_many q_round q_readAt q_isFault q_toldMany q_items q_st)) (rest := []) C w (mX8_guardsBehind l D cI cL cS cH _ y56_4 y56_7 hc3) (va_cwS 2 C.2.2.2.2 gX8_areAllowed_X8_guardsBehind rfl rfl rfl (by decide +kernel) ⟨Nat.le_of_ble_eq_true rfl, Nat.le_of_ble_eq_true rfl⟩) [] [0, 1, 2] 3 trivial trivial ⟨⟨_, rfl, rfl⟩, ⟨_, rfl, rfl⟩, ⟨_, rfl, rfl⟩, trivial⟩ rfl (by decide) (by decide) rfl hl.1 rfl (lv_room (Nat.le_of_ble_eq_true rfl)) dX8_areAllowed_67 ⟨Nat.zero_le _, Nat.zero_le _⟩ (fun H locs w => ?_)
          refine lv_goto (tgt := 75) C.1 C.2.1 dX8_areAllowed_70 (by decide) ?_
          exact hj75 z56_0 y56_6 r2 _ _ _ w (lv_sub hl [1, 2, 3, 4, 0, 6] rfl) hf
      refine lv_iload C.1 C.2.1 dX8_areAllowed_9 (lv_at hl 6 rfl) ?_
      refine lv_iload_n C.1 C.2.1 dX8_areAllowed_11 rfl (lv_at hl 3 rfl) ?_
      refine lv_icmp_ge (tgt := 83) C.1 C.2.1 dX8_areAllowed_12 (by decide) (fun hq4 => ?_) (fun hq4 => ?_)
      · have hf := ite_t hf hq4
        obtain rfl := Option.some.inj hf
        obtain rfl := hn
        exact hk _ _ _ w (lv_sub hl [5] rfl)
      · have hf := ite_f hf hq4
        refine lv_iload C.1 C.2.1 dX8_areAllowed_15 (lv_at hl 5 rfl) ?_
        refine lv_if_eq (tgt := 83) C.1 C.2.1 dX8_areAllowed_17 (by decide) (fun hq5 => ?_) (fun hq5 => ?_)
        · have hf := ite_t hf hq5
          obtain rfl := Option.some.inj hf
          obtain rfl := hn
          exact hk _ _ _ w (lv_sub hl [5] rfl)
        · have hf := ite_f hf hq5
          refine lv_aload_n C.1 C.2.1 dX8_areAllowed_20 rfl (lv_at hl 0 rfl) ?_
          refine r_get C w inX8_areAllowed_X8 0 rfl rfl 10 (by decide) lkX8_areAllowed_35 rfl dX8_areAllowed_21 ?_
          refine lv_iload_n C.1 C.2.1 dX8_areAllowed_24 rfl (lv_at hl 2 rfl) ?_
          refine lv_iload C.1 C.2.1 dX8_areAllowed_25 (lv_at hl 6 rfl) ?_
          refine lv_iadd C.1 C.2.1 dX8_areAllowed_27 ?_
          obtain ⟨y6, hy7, hf⟩ := bd hf
          refine r_lald C w 1 1 rfl rfl (rd_in hy7) dX8_areAllowed_28 ?_
          refine lv_l2i C.1 C.2.1 dX8_areAllowed_29 rfl ?_
          refine lv_istore (lv' := [(7, .int ((y6).toInt32)), (0, .ref a_this), (1, .int y9_1), (2, .int y9_2), (3, .int y9_3), (4, .int v9.1), (5, .int v9.2.1), (6, .int v9.2.2)]) C.1 C.2.1 dX8_areAllowed_30 hl (by decide) rfl (fun ls hl => ?_)
          refine lv_aload_n C.1 C.2.1 dX8_areAllowed_32 rfl (lv_at hl 1 rfl) ?_
          refine lv_iload_n C.1 C.2.1 dX8_areAllowed_33 rfl (lv_at hl 2 rfl) ?_
          refine lv_aload_n C.1 C.2.1 dX8_areAllowed_34 rfl (lv_at hl 1 rfl) ?_
          refine r_get C w inX8_areAllowed_X8 0 rfl rfl 0 (by decide) lkX8_areAllowed_7 rfl dX8_areAllowed_35 ?_
          refine lv_bipush (v := (11 : Int32)) C.1 C.2.1 dX8_areAllowed_38 (by decide) ?_
          obtain ⟨y8, hy9, hf⟩ := bd hf
          refine r_iald C w 2 0 rfl rfl (rd_in hy9) dX8_areAllowed_40 ?_
          refine lv_iload C.1 C.2.1 dX8_areAllowed_41 (lv_at hl 5 rfl) ?_
          refine lv_iload C.1 C.2.1 dX8_areAllowed_43 (lv_at hl 0 rfl) ?_
          obtain ⟨r10, hc11, hf⟩ := bd hf
          refine call_Vi (ws' := (wX8_areAllowed cI cL cS cH a_this a_this_st a_this_past a_this_image a_this_imagePast a_this_tape a_this_laneOf a_this_sizeOf a_this_items a_this_code a_this_from a_this_by a_this_far a_this_met a_this_told q_acts q_imageActs q_tapeMany q_many q_round q_readAt q_isFault q_toldMany q_items q_st)) (rest := []) C w (mX8_against l D cI cL cS cH _ a_this a_this_st a_this_past a_this_image a_this_imagePast a_this_tape a_this_laneOf a_this_sizeOf a_this_items a_this_code a_this_from a_this_by a_this_far a_this_met a_this_told q_acts q_imageActs q_tapeMany q_many q_round q_readAt q_isFault q_toldMany q_st y9_1 y8 v9.1 ((y6).toInt32) hc11) (cwV 4 C.2.2.2.2 gX8_areAllowed_X8_against rfl rfl rfl (by decide +kernel) ⟨Nat.le_of_ble_eq_true rfl, Nat.le_of_ble_eq_true rfl⟩) [0, 2] [1] 3 ⟨rfl, rfl, trivial⟩ ⟨rfl, rfl, trivial⟩ ⟨⟨_, rfl, rfl⟩, trivial⟩ rfl (by decide) (by decide) (ci := 8) (q0 := 0) rfl rfl rfl hl.1 rfl (lv_room (Nat.le_of_ble_eq_true rfl)) dX8_areAllowed_45 ⟨Nat.zero_le _, Nat.zero_le _⟩ (fun H locs w => ?_)
          refine lv_if_ne (tgt := 55) C.1 C.2.1 dX8_areAllowed_48 (by decide) (fun hq12 => ?_) (fun hq12 => ?_)
          · have hf := ite_f hf hq12
            refine lv_iconst (v := (0 : Int32)) C.1 C.2.1 dX8_areAllowed_55 (by decide) ?_
            exact hj56 v9.1 v9.2.2 ((y6).toInt32) (0 : Int32) _ _ _ w (lv_sub hl [1, 2, 3, 4, 5, 7, 0] rfl) hf
          · have hf := ite_t hf hq12
            refine lv_iconst (v := (1 : Int32)) C.1 C.2.1 dX8_areAllowed_51 (by decide) ?_
            refine lv_goto (tgt := 56) C.1 C.2.1 dX8_areAllowed_52 (by decide) ?_
            exact hj56 v9.1 v9.2.2 ((y6).toInt32) (1 : Int32) _ _ _ w (lv_sub hl [1, 2, 3, 4, 5, 7, 0] rfl) hf
  refine lv_iconst (v := (0 : Int32)) C.1 C.2.1 dX8_areAllowed_0 (by decide) ?_
  refine lv_istore (lv' := [(4, .int (0 : Int32)), (0, .ref a_this), (1, .int x1), (2, .int x2), (3, .int x3)]) C.1 C.2.1 dX8_areAllowed_1 hl (by decide) rfl (fun ls hl => ?_)
  refine lv_iconst (v := (1 : Int32)) C.1 C.2.1 dX8_areAllowed_3 (by decide) ?_
  refine lv_istore (lv' := [(5, .int (1 : Int32)), (4, .int (0 : Int32)), (0, .ref a_this), (1, .int x1), (2, .int x2), (3, .int x3)]) C.1 C.2.1 dX8_areAllowed_4 hl (by decide) rfl (fun ls hl => ?_)
  refine lv_iconst (v := (0 : Int32)) C.1 C.2.1 dX8_areAllowed_6 (by decide) ?_
  refine lv_istore (lv' := [(6, .int (0 : Int32)), (5, .int (1 : Int32)), (4, .int (0 : Int32)), (0, .ref a_this), (1, .int x1), (2, .int x2), (3, .int x3)]) C.1 C.2.1 dX8_areAllowed_7 hl (by decide) rfl (fun ls hl => ?_)
  obtain ⟨ex13, hx14, hf⟩ := bd hf
  refine hlp9 x1 x2 x3 ex13 ?_ fu ((0 : Int32), (1 : Int32), (0 : Int32)) _ _ _ hx14 w (lv_sub hl [3, 4, 5, 6, 2, 1, 0] rfl)
  intro H locs ls w hl
  refine lv_iload C.1 C.2.1 dX8_areAllowed_83 (lv_at hl 0 rfl) ?_
  obtain ⟨_, hb15, hf⟩ := bd hf
  have hres := Option.some.inj hf
  subst hres
  exact ret_z C hr hlocks w (bz_in hb15).1 rfl dX8_areAllowed_85

set_option maxRecDepth 100000 in
theorem inX8_allowed_X8 : ∀ w ∈ u_ws RX8 TX8 22, w ∈ wsX8_allowed := by decide +kernel
set_option maxRecDepth 100000 in
theorem lkX8_allowed_35 : Cond.fieldLink RX8 35 "CleanNetsModel" "items" "[J" ∈ wsX8_allowed := by decide +kernel
abbrev wX8_allowed (cI cL cS cH : ClassId) (a_this : Nat) (a_this_st : Nat) (a_this_past : Nat) (a_this_image : Nat) (a_this_imagePast : Nat) (a_this_tape : Nat) (a_this_laneOf : Nat) (a_this_sizeOf : Nat) (a_this_items : Nat) (a_this_code : Nat) (a_this_from : Nat) (a_this_by : Nat) (a_this_far : Nat) (a_this_met : Nat) (a_this_told : Nat) (q_acts : Int32) (q_imageActs : Int32) (q_tapeMany : Int32) (q_many : Int32) (q_round : Int32) (q_readAt : Int32) (q_isFault : Int32) (q_toldMany : Int32) (q_items : Nat → Int64) (q_laneOf : Nat → Int32) (q_sizeOf : Nat → Int32) (q_st : Nat → Int32) : va_W := [(a_this, .inr (8, [.ref a_this_st, .ref a_this_past, .int q_acts, .ref a_this_image, .ref a_this_imagePast, .int q_imageActs, .ref a_this_tape, .int q_tapeMany, .ref a_this_laneOf, .ref a_this_sizeOf, .ref a_this_items, .ref a_this_code, .ref a_this_from, .ref a_this_by, .ref a_this_far, .int q_many, .ref a_this_met, .int q_round, .int q_readAt, .int q_isFault, .int q_toldMany, .ref a_this_told])),
  (a_this_items, .inl (cL, 96, .inr (.inl q_items))),
  (a_this_laneOf, .inl (cI, 4, .inl q_laneOf)),
  (a_this_sizeOf, .inl (cI, 4, .inl q_sizeOf)),
  (a_this_st, .inl (cI, 13, .inl q_st))]
def jX8_allowed_121 (q_items : Nat → Int64) (q_laneOf : Nat → Int32) (q_sizeOf : Nat → Int32) (q_st : Nat → Int32) (y92_4 : Int32) (y92_6 : Int32) (y121_8 : Int32) (z121_0 : Int32) (z121_1 : Int32) : Option ((Int32 × Int32) ⊕ (Int32 × Int32)) := some (.inl ((z121_1 ||| z121_0), (y121_8 + (1 : Int32))))
def bX8_allowed_92 (q_items : Nat → Int64) (q_laneOf : Nat → Int32) (q_sizeOf : Nat → Int32) (q_st : Nat → Int32) (y92_4 : Int32) (y92_6 : Int32) (v92 : Int32 × Int32) : Option ((Int32 × Int32) ⊕ (Int32 × Int32)) := (if (3 : Int32) ≤ v92.2 then some (.inr (v92.1, v92.2)) else Option.bind (fX8_areAllowed q_items q_st v92.2 y92_6 y92_4) (fun r2 => (if r2 = 0 then jX8_allowed_121 q_items q_laneOf q_sizeOf q_st y92_4 y92_6 v92.2 (0 : Int32) v92.1 else jX8_allowed_121 q_items q_laneOf q_sizeOf q_st y92_4 y92_6 v92.2 ((1 : Int32) <<< (v92.2 &&& 31)) v92.1)))
def bX8_allowed_53 (q_items : Nat → Int64) (q_laneOf : Nat → Int32) (q_sizeOf : Nat → Int32) (q_st : Nat → Int32) (y53_4 : Int32) (y53_6 : Int32) (v53 : Int32) : Option ((Int32) ⊕ ((Int32) ⊕ (Int32))) := (if y53_4 ≤ v53 then some (.inr (.inr v53)) else Option.bind (rd q_items 96 (y53_6 + v53)) (fun y6 => Option.bind (fX8_isAct q_st y6) (fun r8 => (if r8 = 0 then some (.inr (.inl (-2 : Int32))) else some (.inl (v53 + (1 : Int32)))))))
def fX8_allowed (q_items : Nat → Int64) (q_laneOf : Nat → Int32) (q_sizeOf : Nat → Int32) (q_st : Nat → Int32) (x1 : Int32) (x2 : Int32) (x3 : Int32) (x4 : Int32) : Option (Int32) := Option.bind (fX8_isSheet x1 x2) (fun r11 => (if r11 = 0 then some (-1 : Int32) else Option.bind (fX8_in ((x4).toInt64) (1 : Int64) (12 : Int64)) (fun r14 => (if r14 = 0 then some (-1 : Int32) else Option.bind (fX8_found q_laneOf q_sizeOf x1 x2 x3 x4) (fun r17 => (if r17 = 0 then bnd (((24 : Int32) * x1) + x3) (fun y20 => Option.bind (itL (bX8_allowed_53 q_items q_laneOf q_sizeOf q_st x4 y20) fu (0 : Int32)) (fun o => Sum.elim (fun ex22 => some ex22) (fun ex22 => Option.bind (itL (bX8_allowed_92 q_items q_laneOf q_sizeOf q_st x4 y20) fu ((0 : Int32), (0 : Int32))) (fun ex24 => some ex24.1)) o)) else some r17))))))
abbrev gX8_allowed (p : Program) (l : Launch) (e : Env) (s : State) (m : MethodId) (below : List Frame) (meth : Method) (c : Code) (D : vg) (cI cL cS cH : ClassId) (a_this : Nat) (a_this_st : Nat) (a_this_past : Nat) (a_this_image : Nat) (a_this_imagePast : Nat) (a_this_tape : Nat) (a_this_laneOf : Nat) (a_this_sizeOf : Nat) (a_this_items : Nat) (a_this_code : Nat) (a_this_from : Nat) (a_this_by : Nat) (a_this_far : Nat) (a_this_met : Nat) (a_this_told : Nat) (q_acts : Int32) (q_imageActs : Int32) (q_tapeMany : Int32) (q_many : Int32) (q_round : Int32) (q_readAt : Int32) (q_isFault : Int32) (q_toldMany : Int32) (q_items : Nat → Int64) (q_laneOf : Nat → Int32) (q_sizeOf : Nat → Int32) (q_st : Nat → Int32) (x1 : Int32) (x2 : Int32) (x3 : Int32) (x4 : Int32) (res : Int32) (H : Heap) (locs : List Loc) (g : JFrame) : Prop := W p l e (headSpec wsX8_allowed ({ frames := 4, cells := 0, slots := 0, locals := 96 })).room s m ([.ref a_this, .int x1, .int x2, .int x3, .int x4] : List Value).toArray below meth c H locs 0 0 (MQ below (va_Qi (fun r' (_ : Unit) => r' = res) (fun _ t => pos1 D s.heap.size (wX8_allowed cI cL cS cH a_this a_this_st a_this_past a_this_image a_this_imagePast a_this_tape a_this_laneOf a_this_sizeOf a_this_items a_this_code a_this_from a_this_by a_this_far a_this_met a_this_told q_acts q_imageActs q_tapeMany q_many q_round q_readAt q_isFault q_toldMany q_items q_laneOf q_sizeOf q_st) (wX8_allowed cI cL cS cH a_this a_this_st a_this_past a_this_image a_this_imagePast a_this_tape a_this_laneOf a_this_sizeOf a_this_items a_this_code a_this_from a_this_by a_this_far a_this_met a_this_told q_acts q_imageActs q_tapeMany q_many q_round q_readAt q_isFault q_toldMany q_items q_laneOf q_sizeOf q_st) t) (va_A (wX8_allowed cI cL cS cH a_this a_this_st a_this_past a_this_image a_this_imagePast a_this_tape a_this_laneOf a_this_sizeOf a_this_items a_this_code a_this_from a_this_by a_this_far a_this_met a_this_told q_acts q_imageActs q_tapeMany q_many q_round q_readAt q_isFault q_toldMany q_items q_laneOf q_sizeOf q_st) s.heap.size)) ([.ref a_this, .int x1, .int x2, .int x3, .int x4] : List Value).toArray s 0 0 (va_A (wX8_allowed cI cL cS cH a_this a_this_st a_this_past a_this_image a_this_imagePast a_this_tape a_this_laneOf a_this_sizeOf a_this_items a_this_code a_this_from a_this_by a_this_far a_this_met a_this_told q_acts q_imageActs q_tapeMany q_many q_round q_readAt q_isFault q_toldMany q_items q_laneOf q_sizeOf q_st) s.heap.size)) g
set_option maxHeartbeats 4000000 in
set_option maxRecDepth 100000 in
theorem mX8_allowed (l : Launch) (D : vg) (cI cL cS cH : ClassId) (sz : Nat) (a_this : Nat) (a_this_st : Nat) (a_this_past : Nat) (a_this_image : Nat) (a_this_imagePast : Nat) (a_this_tape : Nat) (a_this_laneOf : Nat) (a_this_sizeOf : Nat) (a_this_items : Nat) (a_this_code : Nat) (a_this_from : Nat) (a_this_by : Nat) (a_this_far : Nat) (a_this_met : Nat) (a_this_told : Nat) (q_acts : Int32) (q_imageActs : Int32) (q_tapeMany : Int32) (q_many : Int32) (q_round : Int32) (q_readAt : Int32) (q_isFault : Int32) (q_toldMany : Int32) (q_items : Nat → Int64) (q_laneOf : Nat → Int32) (q_sizeOf : Nat → Int32) (q_st : Nat → Int32) (x1 : Int32) (x2 : Int32) (x3 : Int32) (x4 : Int32) {res : Int32} (hf : fX8_allowed q_items q_laneOf q_sizeOf q_st x1 x2 x3 x4 = some res) : cti l yX8_allowed wsX8_allowed ({ frames := 4, cells := 0, slots := 0, locals := 96 }) D (ty4 cI cL cS cH) sz [.ref a_this, .int x1, .int x2, .int x3, .int x4] (wX8_allowed cI cL cS cH a_this a_this_st a_this_past a_this_image a_this_imagePast a_this_tape a_this_laneOf a_this_sizeOf a_this_items a_this_code a_this_from a_this_by a_this_far a_this_met a_this_told q_acts q_imageActs q_tapeMany q_many q_round q_readAt q_isFault q_toldMany q_items q_laneOf q_sizeOf q_st) (wX8_allowed cI cL cS cH a_this a_this_st a_this_past a_this_image a_this_imagePast a_this_tape a_this_laneOf a_this_sizeOf a_this_items a_this_code a_this_from a_this_by a_this_far a_this_met a_this_told q_acts q_imageActs q_tapeMany q_many q_round q_readAt q_isFault q_toldMany q_items q_laneOf q_sizeOf q_st) res := by
  refine Met.ofW (cc := cX8_allowed) (maxL := 9) (ret := (some .int)) (by decide) rfl ?_
  intro p e s m args below meth c s₁ B hml hv
  obtain ⟨rfl, hpre⟩ := hv
  obtain rfl := hpre.1
  have C : CallFix p m c cX8_allowed 9 s _ wsX8_allowed RX8 := ⟨B.exec, B.bytes, hml, findClass_of_methodNamed B.named, atoms_spec (ws := wsX8_allowed) B.pre⟩
  have hr := B.returns
  have hlocks := B.notSynchronized
  have w := wd_start hpre
  clear hpre B
  have hl := lv_entry ([.ref a_this, .int x1, .int x2, .int x3, .int x4]) (n := 9) (Nat.le_of_ble_eq_true rfl)
  rw [lg_entry_eq]
  generalize (lg_sl ([.ref a_this, .int x1, .int x2, .int x3, .int x4]) ++ List.replicate (9 - (lg_sl ([.ref a_this, .int x1, .int x2, .int x3, .int x4])).length) Slot.unset).toArray = ls at hl ⊢
  have hl : lv_has ls 9 [(0, .ref a_this), (1, .int x1), (2, .int x2), (3, .int x3), (4, .int x4)] := hl
  unfold fX8_allowed at hf
  have hlp92 : ∀ (y92_4 : Int32) (y92_6 : Int32) (ex92 : Int32 × Int32) (hk : (∀ (H : Heap) (locs : List Loc) (ls : Array Slot), wd D (ty4 cI cL cS cH) s (va_A (wX8_allowed cI cL cS cH a_this a_this_st a_this_past a_this_image a_this_imagePast a_this_tape a_this_laneOf a_this_sizeOf a_this_items a_this_code a_this_from a_this_by a_this_far a_this_met a_this_told q_acts q_imageActs q_tapeMany q_many q_round q_readAt q_isFault q_toldMany q_items q_laneOf q_sizeOf q_st) s.heap.size) s.heap H locs (wX8_allowed cI cL cS cH a_this a_this_st a_this_past a_this_image a_this_imagePast a_this_tape a_this_laneOf a_this_sizeOf a_this_items a_this_code a_this_from a_this_by a_this_far a_this_met a_this_told q_acts q_imageActs q_tapeMany q_many q_round q_readAt q_isFault q_toldMany q_items q_laneOf q_sizeOf q_st) → lv_has ls 9 [(7, .int ex92.1)] → gX8_allowed p l e s m below meth c D cI cL cS cH a_this a_this_st a_this_past a_this_image a_this_imagePast a_this_tape a_this_laneOf a_this_sizeOf a_this_items a_this_code a_this_from a_this_by a_this_far a_this_met a_this_told q_acts q_imageActs q_tapeMany q_many q_round q_readAt q_isFault q_toldMany q_items q_laneOf q_sizeOf q_st x1 x2 x3 x4 res H locs (F0 m 130 ls []))) (n : Nat) (v92 : Int32 × Int32) (H : Heap) (locs : List Loc) (ls : Array Slot), itL (bX8_allowed_92 q_items q_laneOf q_sizeOf q_st y92_4 y92_6) n v92 = some ex92 → wd D (ty4 cI cL cS cH) s (va_A (wX8_allowed cI cL cS cH a_this a_this_st a_this_past a_this_image a_this_imagePast a_this_tape a_this_laneOf a_this_sizeOf a_this_items a_this_code a_this_from a_this_by a_this_far a_this_met a_this_told q_acts q_imageActs q_tapeMany q_many q_round q_readAt q_isFault q_toldMany q_items q_laneOf q_sizeOf q_st) s.heap.size) s.heap H locs (wX8_allowed cI cL cS cH a_this a_this_st a_this_past a_this_image a_this_imagePast a_this_tape a_this_laneOf a_this_sizeOf a_this_items a_this_code a_this_from a_this_by a_this_far a_this_met a_this_told q_acts q_imageActs q_tapeMany q_many q_round q_readAt q_isFault q_toldMany q_items q_laneOf q_sizeOf q_st) → lv_has ls 9 [(0, .ref a_this), (4, .int y92_4), (6, .int y92_6), (7, .int v92.1), (8, .int v92.2)] → gX8_allowed p l e s m below meth c D cI cL cS cH a_this a_this_st a_this_past a_this_image a_this_imagePast a_this_tape a_this_laneOf a_this_sizeOf a_this_items a_this_code a_this_from a_this_by a_this_far a_this_met a_this_told q_acts q_imageActs q_tapeMany q_many q_round q_readAt q_isFault q_toldMany q_items q_laneOf q_sizeOf q_st x1 x2 x3 x4 res H locs (F0 m 92 ls []) := by
    intro y92_4 y92_6 ex92 hk n
    induction n with
    | zero => intro v92 H locs ls hi w hl; exact (itL_zero hi).elim
    | succ n ih =>
      intro v92 H locs ls hi w hl
      obtain ⟨o, hf, hn⟩ := itL_succ hi
      unfold bX8_allowed_92 at hf
      have hj121 : ∀ (y121_8 : Int32) (z121_0 : Int32) (z121_1 : Int32) (H : Heap) (locs : List Loc) (ls : Array Slot), wd D (ty4 cI cL cS cH) s (va_A (wX8_allowed cI cL cS cH a_this a_this_st a_this_past a_this_image a_this_imagePast a_this_tape a_this_laneOf a_this_sizeOf a_this_items a_this_code a_this_from a_this_by a_this_far a_this_met a_this_told q_acts q_imageActs q_tapeMany q_many q_round q_readAt q_isFault q_toldMany q_items q_laneOf q_sizeOf q_st) s.heap.size) s.heap H locs (wX8_allowed cI cL cS cH a_this a_this_st a_this_past a_this_image a_this_imagePast a_this_tape a_this_laneOf a_this_sizeOf a_this_items a_this_code a_this_from a_this_by a_this_far a_this_met a_this_told q_acts q_imageActs q_tapeMany q_many q_round q_readAt q_isFault q_toldMany q_items q_laneOf q_sizeOf q_st) → lv_has ls 9 [(0, .ref a_this), (4, .int y92_4), (6, .int y92_6), (8, .int y121_8)] → jX8_allowed_121 q_items q_laneOf q_sizeOf q_st y92_4 y92_6 y121_8 z121_0 z121_1 = some o → gX8_allowed p l e s m below meth c D cI cL cS cH a_this a_this_st a_this_past a_this_image a_this_imagePast a_this_tape a_this_laneOf a_this_sizeOf a_this_items a_this_code a_this_from a_this_by a_this_far a_this_met a_this_told q_acts q_imageActs q_tapeMany q_many q_round q_readAt q_isFault q_toldMany q_items q_laneOf q_sizeOf q_st x1 x2 x3 x4 res H locs (F0 m 121 ls [.int z121_0, .int z121_1]) := by
        intro y121_8 z121_0 z121_1 H locs ls w hl hf
        unfold jX8_allowed_121 at hf
        refine lv_ior C.1 C.2.1 dX8_allowed_121 ?_
        refine lv_istore (lv' := [(7, .int (z121_1 ||| z121_0)), (0, .ref a_this), (4, .int y92_4), (6, .int y92_6), (8, .int y121_8)]) C.1 C.2.1 dX8_allowed_122 hl (by decide) rfl (fun ls hl => ?_)
        refine lv_iinc (v := (y121_8 + (1 : Int32))) (lv' := [(8, .int (y121_8 + (1 : Int32))), (7, .int (z121_1 ||| z121_0)), (0, .ref a_this), (4, .int y92_4), (6, .int y92_6)]) C.1 C.2.1 dX8_allowed_124 hl (k := 4) rfl rfl (by decide) rfl (fun ls hl => ?_)
        refine lv_goto (tgt := 92) C.1 C.2.1 dX8_allowed_127 (by decide) ?_
        obtain rfl := Option.some.inj hf
        exact ih ((z121_1 ||| z121_0), (y121_8 + (1 : Int32))) _ _ _ hn w (lv_sub hl [2, 3, 4, 1, 0] rfl)
      refine lv_iload C.1 C.2.1 dX8_allowed_92 (lv_at hl 4 rfl) ?_
      refine lv_iconst (v := (3 : Int32)) C.1 C.2.1 dX8_allowed_94 (by decide) ?_
      refine lv_icmp_ge (tgt := 130) C.1 C.2.1 dX8_allowed_95 (by decide) (fun hq1 => ?_) (fun hq1 => ?_)
      · have hf := ite_t hf hq1
        obtain rfl := Option.some.inj hf
        obtain rfl := hn
        exact hk _ _ _ w (lv_sub hl [3] rfl)
      · have hf := ite_f hf hq1
        refine lv_iload C.1 C.2.1 dX8_allowed_98 (lv_at hl 3 rfl) ?_
        refine lv_aload_n C.1 C.2.1 dX8_allowed_100 rfl (lv_at hl 0 rfl) ?_
        refine lv_iload C.1 C.2.1 dX8_allowed_101 (lv_at hl 4 rfl) ?_
        refine lv_iload C.1 C.2.1 dX8_allowed_103 (lv_at hl 2 rfl) ?_
        refine lv_iload C.1 C.2.1 dX8_allowed_105 (lv_at hl 1 rfl) ?_
        obtain ⟨r2, hc3, hf⟩ := bd hf
        refine call_Vi (ws' := (wX8_allowed cI cL cS cH a_this a_this_st a_this_past a_this_image a_this_imagePast a_this_tape a_this_laneOf a_this_sizeOf a_this_items a_this_code a_this_from a_this_by a_this_far a_this_met a_this_told q_acts q_imageActs q_tapeMany q_many q_round q_readAt q_isFault q_toldMany q_items q_laneOf q_sizeOf q_st)) (rest := [.int v92.1]) C w (mX8_areAllowed l D cI cL cS cH _ a_this a_this_st a_this_past a_this_image a_this_imagePast a_this_tape a_this_laneOf a_this_sizeOf a_this_items a_this_code a_this_from a_this_by a_this_far a_this_met a_this_told q_acts q_imageActs q_tapeMany q_many q_round q_readAt q_isFault q_toldMany q_items q_st v92.2 y92_6 y92_4 hc3) (cwV 3 C.2.2.2.2 gX8_allowed_X8_areAllowed rfl rfl rfl (by decide +kernel) ⟨Nat.le_of_ble_eq_true rfl, Nat.le_of_ble_eq_true rfl⟩) [0, 1, 4] [2, 3] 5 ⟨rfl, rfl, rfl, trivial⟩ ⟨rfl, rfl, rfl, trivial⟩ ⟨⟨_, rfl, rfl⟩, ⟨_, rfl, rfl⟩, trivial⟩ rfl (by decide) (by decide) (ci := 8) (q0 := 0) rfl rfl rfl hl.1 rfl (lv_room (Nat.le_of_ble_eq_true rfl)) dX8_allowed_107 ⟨Nat.zero_le _, Nat.zero_le _⟩ (fun H locs w => ?_)
        refine lv_if_eq (tgt := 120) C.1 C.2.1 dX8_allowed_110 (by decide) (fun hq4 => ?_) (fun hq4 => ?_)
        · have hf := ite_t hf hq4
          refine lv_iconst (v := (0 : Int32)) C.1 C.2.1 dX8_allowed_120 (by decide) ?_
          exact hj121 v92.2 (0 : Int32) v92.1 _ _ _ w (lv_sub hl [0, 1, 2, 4] rfl) hf
        · have hf := ite_f hf hq4
          refine lv_iconst (v := (1 : Int32)) C.1 C.2.1 dX8_allowed_113 (by decide) ?_
          refine lv_iload C.1 C.2.1 dX8_allowed_114 (lv_at hl 4 rfl) ?_
          refine lv_ishl C.1 C.2.1 dX8_allowed_116 ?_
          refine lv_goto (tgt := 121) C.1 C.2.1 dX8_allowed_117 (by decide) ?_
          exact hj121 v92.2 ((1 : Int32) <<< (v92.2 &&& 31)) v92.1 _ _ _ w (lv_sub hl [0, 1, 2, 4] rfl) hf
  have hlp53 : ∀ (y53_4 : Int32) (y53_6 : Int32) (ex53 : (Int32) ⊕ (Int32)) (hk : (match ex53 with | .inl r => r = res | .inr u => ∀ (H : Heap) (locs : List Loc) (ls : Array Slot), wd D (ty4 cI cL cS cH) s (va_A (wX8_allowed cI cL cS cH a_this a_this_st a_this_past a_this_image a_this_imagePast a_this_tape a_this_laneOf a_this_sizeOf a_this_items a_this_code a_this_from a_this_by a_this_far a_this_met a_this_told q_acts q_imageActs q_tapeMany q_many q_round q_readAt q_isFault q_toldMany q_items q_laneOf q_sizeOf q_st) s.heap.size) s.heap H locs (wX8_allowed cI cL cS cH a_this a_this_st a_this_past a_this_image a_this_imagePast a_this_tape a_this_laneOf a_this_sizeOf a_this_items a_this_code a_this_from a_this_by a_this_far a_this_met a_this_told q_acts q_imageActs q_tapeMany q_many q_round q_readAt q_isFault q_toldMany q_items q_laneOf q_sizeOf q_st) → lv_has ls 9 [(0, .ref a_this), (4, .int y53_4), (6, .int y53_6)] → gX8_allowed p l e s m below meth c D cI cL cS cH a_this a_this_st a_this_past a_this_image a_this_imagePast a_this_tape a_this_laneOf a_this_sizeOf a_this_items a_this_code a_this_from a_this_by a_this_far a_this_met a_this_told q_acts q_imageActs q_tapeMany q_many q_round q_readAt q_isFault q_toldMany q_items q_laneOf q_sizeOf q_st x1 x2 x3 x4 res H locs (F0 m 86 ls []))) (n : Nat) (v53 : Int32) (H : Heap) (locs : List Loc) (ls : Array Slot), itL (bX8_allowed_53 q_items q_laneOf q_sizeOf q_st y53_4 y53_6) n v53 = some ex53 → wd D (ty4 cI cL cS cH) s (va_A (wX8_allowed cI cL cS cH a_this a_this_st a_this_past a_this_image a_this_imagePast a_this_tape a_this_laneOf a_this_sizeOf a_this_items a_this_code a_this_from a_this_by a_this_far a_this_met a_this_told q_acts q_imageActs q_tapeMany q_many q_round q_readAt q_isFault q_toldMany q_items q_laneOf q_sizeOf q_st) s.heap.size) s.heap H locs (wX8_allowed cI cL cS cH a_this a_this_st a_this_past a_this_image a_this_imagePast a_this_tape a_this_laneOf a_this_sizeOf a_this_items a_this_code a_this_from a_this_by a_this_far a_this_met a_this_told q_acts q_imageActs q_tapeMany q_many q_round q_readAt q_isFault q_toldMany q_items q_laneOf q_sizeOf q_st) → lv_has ls 9 [(0, .ref a_this), (4, .int y53_4), (6, .int y53_6), (7, .int v53)] → gX8_allowed p l e s m below meth c D cI cL cS cH a_this a_this_st a_this_past a_this_image a_this_imagePast a_this_tape a_this_laneOf a_this_sizeOf a_this_items a_this_code a_this_from a_this_by a_this_far a_this_met a_this_told q_acts q_imageActs q_tapeMany q_many q_round q_readAt q_isFault q_toldMany q_items q_laneOf q_sizeOf q_st x1 x2 x3 x4 res H locs (F0 m 53 ls []) := by
    intro y53_4 y53_6 ex53 hk n
    induction n with
    | zero => intro v53 H locs ls hi w hl; exact (itL_zero hi).elim
    | succ n ih =>
      intro v53 H locs ls hi w hl
      obtain ⟨o, hf, hn⟩ := itL_succ hi
      unfold bX8_allowed_53 at hf
      refine lv_iload C.1 C.2.1 dX8_allowed_53 (lv_at hl 3 rfl) ?_
      refine lv_iload C.1 C.2.1 dX8_allowed_55 (lv_at hl 1 rfl) ?_
      refine lv_icmp_ge (tgt := 86) C.1 C.2.1 dX8_allowed_57 (by decide) (fun hq5 => ?_) (fun hq5 => ?_)
      · have hf := ite_t hf hq5
        obtain rfl := Option.some.inj hf
        obtain rfl := hn
        exact hk _ _ _ w (lv_sub hl [0, 1, 2] rfl)
      · have hf := ite_f hf hq5
        refine lv_aload_n C.1 C.2.1 dX8_allowed_60 rfl (lv_at hl 0 rfl) ?_
        refine lv_aload_n C.1 C.2.1 dX8_allowed_61 rfl (lv_at hl 0 rfl) ?_
        refine r_get C w inX8_allowed_X8 0 rfl rfl 10 (by decide) lkX8_allowed_35 rfl dX8_allowed_62 ?_
        refine lv_iload C.1 C.2.1 dX8_allowed_65 (lv_at hl 2 rfl) ?_
        refine lv_iload C.1 C.2.1 dX8_allowed_67 (lv_at hl 3 rfl) ?_
        refine lv_iadd C.1 C.2.1 dX8_allowed_69 ?_
        obtain ⟨y6, hy7, hf⟩ := bd hf
        refine r_lald C w 1 1 rfl rfl (rd_in hy7) dX8_allowed_70 ?_
        obtain ⟨r8, hc9, hf⟩ := bd hf
        refine call_Vi (ws' := (wX8_allowed cI cL cS cH a_this a_this_st a_this_past a_this_image a_this_imagePast a_this_tape a_this_laneOf a_this_sizeOf a_this_items a_this_code a_this_from a_this_by a_this_far a_this_met a_this_told q_acts q_imageActs q_tapeMany q_many q_round q_readAt q_isFault q_toldMany q_items q_laneOf q_sizeOf q_st)) (rest := []) C w (mX8_isAct l D cI cL cS cH _ a_this a_this_st a_this_past a_this_image a_this_imagePast a_this_tape a_this_laneOf a_this_sizeOf a_this_items a_this_code a_this_from a_this_by a_this_far a_this_met a_this_told q_acts q_imageActs q_tapeMany q_many q_round q_readAt q_isFault q_toldMany q_st y6 hc9) (cwV 1 C.2.2.2.2 gX8_allowed_X8_isAct rfl rfl rfl (by decide +kernel) ⟨Nat.le_of_ble_eq_true rfl, Nat.le_of_ble_eq_true rfl⟩) [0, 4] [1, 2, 3] 5 ⟨rfl, rfl, trivial⟩ ⟨rfl, rfl, trivial⟩ ⟨⟨_, rfl, rfl⟩, ⟨_, rfl, rfl⟩, ⟨_, rfl, rfl⟩, trivial⟩ rfl (by decide) (by decide) (ci := 8) (q0 := 0) rfl rfl rfl hl.1 rfl (lv_room (Nat.le_of_ble_eq_true rfl)) dX8_allowed_71 ⟨Nat.zero_le _, Nat.zero_le _⟩ (fun H locs w => ?_)
        refine lv_if_ne (tgt := 80) C.1 C.2.1 dX8_allowed_74 (by decide) (fun hq10 => ?_) (fun hq10 => ?_)
        · have hf := ite_f hf hq10
          refine lv_iinc (v := (v53 + (1 : Int32))) (lv' := [(7, .int (v53 + (1 : Int32))), (0, .ref a_this), (4, .int y53_4), (6, .int y53_6)]) C.1 C.2.1 dX8_allowed_80 hl (k := 3) rfl rfl (by decide) rfl (fun ls hl => ?_)
          refine lv_goto (tgt := 53) C.1 C.2.1 dX8_allowed_83 (by decide) ?_
          obtain rfl := Option.some.inj hf
          exact ih (v53 + (1 : Int32)) _ _ _ hn w (lv_sub hl [1, 2, 3, 0] rfl)
        · have hf := ite_t hf hq10
          refine lv_bipush (v := (-2 : Int32)) C.1 C.2.1 dX8_allowed_77 (by decide) ?_
          obtain rfl := Option.some.inj hf
          obtain rfl := hn
          have hres : _ = res := hk
          subst hres
          exact ret_i C hr hlocks w rfl dX8_allowed_79
  refine lv_iload_n C.1 C.2.1 dX8_allowed_0 rfl (lv_at hl 1 rfl) ?_
  refine lv_iload_n C.1 C.2.1 dX8_allowed_1 rfl (lv_at hl 2 rfl) ?_
  obtain ⟨r11, hc12, hf⟩ := bd hf
  refine call_Si (ws' := (wX8_allowed cI cL cS cH a_this a_this_st a_this_past a_this_image a_this_imagePast a_this_tape a_this_laneOf a_this_sizeOf a_this_items a_this_code a_this_from a_this_by a_this_far a_this_met a_this_told q_acts q_imageActs q_tapeMany q_many q_round q_readAt q_isFault q_toldMany q_items q_laneOf q_sizeOf q_st)) (rest := []) C w (mX8_isSheet l D cI cL cS cH _ x1 x2 hc12) (va_cwS 2 C.2.2.2.2 gX8_allowed_X8_isSheet rfl rfl rfl (by decide +kernel) ⟨Nat.le_of_ble_eq_true rfl, Nat.le_of_ble_eq_true rfl⟩) [] [0, 1, 2, 3, 4] 5 trivial trivial ⟨⟨_, rfl, rfl⟩, ⟨_, rfl, rfl⟩, ⟨_, rfl, rfl⟩, ⟨_, rfl, rfl⟩, ⟨_, rfl, rfl⟩, trivial⟩ rfl (by decide) (by decide) rfl hl.1 rfl (lv_room (Nat.le_of_ble_eq_true rfl)) dX8_allowed_2 ⟨Nat.zero_le _, Nat.zero_le _⟩ (fun H locs w => ?_)
  refine lv_if_eq (tgt := 21) C.1 C.2.1 dX8_allowed_5 (by decide) (fun hq13 => ?_) (fun hq13 => ?_)
  · have hf := ite_t hf hq13
    refine lv_iconst (v := (-1 : Int32)) C.1 C.2.1 dX8_allowed_21 (by decide) ?_
    have hres := Option.some.inj hf
    subst hres
    exact ret_i C hr hlocks w rfl dX8_allowed_22
  · have hf := ite_f hf hq13
    refine lv_iload C.1 C.2.1 dX8_allowed_8 (lv_at hl 4 rfl) ?_
    refine lv_i2l C.1 C.2.1 dX8_allowed_10 rfl ?_
    refine lv_lconst (v := (1 : Int64)) C.1 C.2.1 dX8_allowed_11 (by decide) ?_
    refine lv_ldc2 (v := (12 : Int64)) C.1 C.2.1 C.2.2.2.1 (C.2.2.2.2 (.constantLong RX8 257 (12 : Int64)) (by decide +kernel)) dX8_allowed_12 ?_
    obtain ⟨r14, hc15, hf⟩ := bd hf
    refine call_Si (ws' := (wX8_allowed cI cL cS cH a_this a_this_st a_this_past a_this_image a_this_imagePast a_this_tape a_this_laneOf a_this_sizeOf a_this_items a_this_code a_this_from a_this_by a_this_far a_this_met a_this_told q_acts q_imageActs q_tapeMany q_many q_round q_readAt q_isFault q_toldMany q_items q_laneOf q_sizeOf q_st)) (rest := []) C w (mX8_in l D cI cL cS cH _ ((x4).toInt64) (1 : Int64) (12 : Int64) hc15) (va_cwS 3 C.2.2.2.2 gX8_allowed_X8_in rfl rfl rfl (by decide +kernel) ⟨Nat.le_of_ble_eq_true rfl, Nat.le_of_ble_eq_true rfl⟩) [] [0, 1, 2, 3, 4] 5 trivial trivial ⟨⟨_, rfl, rfl⟩, ⟨_, rfl, rfl⟩, ⟨_, rfl, rfl⟩, ⟨_, rfl, rfl⟩, ⟨_, rfl, rfl⟩, trivial⟩ rfl (by decide) (by decide) rfl hl.1 rfl (lv_room (Nat.le_of_ble_eq_true rfl)) dX8_allowed_15 ⟨Nat.zero_le _, Nat.zero_le _⟩ (fun H locs w => ?_)
    refine lv_if_ne (tgt := 23) C.1 C.2.1 dX8_allowed_18 (by decide) (fun hq16 => ?_) (fun hq16 => ?_)
    · have hf := ite_f hf hq16
      refine lv_aload_n C.1 C.2.1 dX8_allowed_23 rfl (lv_at hl 0 rfl) ?_
      refine lv_iload_n C.1 C.2.1 dX8_allowed_24 rfl (lv_at hl 1 rfl) ?_
      refine lv_iload_n C.1 C.2.1 dX8_allowed_25 rfl (lv_at hl 2 rfl) ?_
      refine lv_iload_n C.1 C.2.1 dX8_allowed_26 rfl (lv_at hl 3 rfl) ?_
      refine lv_iload C.1 C.2.1 dX8_allowed_27 (lv_at hl 4 rfl) ?_
      obtain ⟨r17, hc18, hf⟩ := bd hf
      refine call_Vi (ws' := (wX8_allowed cI cL cS cH a_this a_this_st a_this_past a_this_image a_this_imagePast a_this_tape a_this_laneOf a_this_sizeOf a_this_items a_this_code a_this_from a_this_by a_this_far a_this_met a_this_told q_acts q_imageActs q_tapeMany q_many q_round q_readAt q_isFault q_toldMany q_items q_laneOf q_sizeOf q_st)) (rest := []) C w (mX8_found l D cI cL cS cH _ a_this a_this_st a_this_past a_this_image a_this_imagePast a_this_tape a_this_laneOf a_this_sizeOf a_this_items a_this_code a_this_from a_this_by a_this_far a_this_met a_this_told q_acts q_imageActs q_tapeMany q_many q_round q_readAt q_isFault q_toldMany q_laneOf q_sizeOf x1 x2 x3 x4 hc18) (cwV 4 C.2.2.2.2 gX8_allowed_X8_found rfl rfl rfl (by decide +kernel) ⟨Nat.le_of_ble_eq_true rfl, Nat.le_of_ble_eq_true rfl⟩) [0, 2, 3] [1, 4] 5 ⟨rfl, rfl, rfl, trivial⟩ ⟨rfl, rfl, rfl, trivial⟩ ⟨⟨_, rfl, rfl⟩, ⟨_, rfl, rfl⟩, trivial⟩ rfl (by decide) (by decide) (ci := 8) (q0 := 0) rfl rfl rfl hl.1 rfl (lv_room (Nat.le_of_ble_eq_true rfl)) dX8_allowed_29 ⟨Nat.zero_le _, Nat.zero_le _⟩ (fun H locs w => ?_)
      refine lv_istore (lv' := [(5, .int r17), (0, .ref a_this), (1, .int x1), (2, .int x2), (3, .int x3), (4, .int x4)]) C.1 C.2.1 dX8_allowed_32 hl (by decide) rfl (fun ls hl => ?_)
      refine lv_iload C.1 C.2.1 dX8_allowed_34 (lv_at hl 0 rfl) ?_
      refine lv_if_eq (tgt := 42) C.1 C.2.1 dX8_allowed_36 (by decide) (fun hq19 => ?_) (fun hq19 => ?_)
      · have hf := ite_t hf hq19
        refine lv_bipush (v := (24 : Int32)) C.1 C.2.1 dX8_allowed_42 (by decide) ?_
        refine lv_iload_n C.1 C.2.1 dX8_allowed_44 rfl (lv_at hl 2 rfl) ?_
        refine lv_imul C.1 C.2.1 dX8_allowed_45 ?_
        refine lv_iload_n C.1 C.2.1 dX8_allowed_46 rfl (lv_at hl 4 rfl) ?_
        refine lv_iadd C.1 C.2.1 dX8_allowed_47 ?_
        obtain ⟨y20, hy21, hf⟩ := bnd_e hf
        refine lt_topi hy21 ?_
        refine lv_istore (lv' := [(6, .int y20), (5, .int r17), (0, .ref a_this), (1, .int x1), (2, .int x2), (3, .int x3), (4, .int x4)]) C.1 C.2.1 dX8_allowed_48 hl (by decide) rfl (fun ls hl => ?_)
        refine lv_iconst (v := (0 : Int32)) C.1 C.2.1 dX8_allowed_50 (by decide) ?_
        refine lv_istore (lv' := [(7, .int (0 : Int32)), (6, .int y20), (5, .int r17), (0, .ref a_this), (1, .int x1), (2, .int x2), (3, .int x3), (4, .int x4)]) C.1 C.2.1 dX8_allowed_51 hl (by decide) rfl (fun ls hl => ?_)
        obtain ⟨ex22, hx23, hf⟩ := bd hf
        rcases ex22 with ex22 | ex22
        · have hf := se_l hf
          have hres := Option.some.inj hf
          exact hlp53 x4 y20 (.inl ex22) hres fu (0 : Int32) _ _ _ hx23 w (lv_sub hl [3, 7, 1, 0] rfl)
        · have hf := se_r hf
          refine hlp53 x4 y20 (.inr ex22) ?_ fu (0 : Int32) _ _ _ hx23 w (lv_sub hl [3, 7, 1, 0] rfl)
          intro H locs ls w hl
          refine lv_iconst (v := (0 : Int32)) C.1 C.2.1 dX8_allowed_86 (by decide) ?_
          refine lv_istore (lv' := [(7, .int (0 : Int32)), (0, .ref a_this), (4, .int x4), (6, .int y20)]) C.1 C.2.1 dX8_allowed_87 hl (by decide) rfl (fun ls hl => ?_)
          refine lv_iconst (v := (0 : Int32)) C.1 C.2.1 dX8_allowed_89 (by decide) ?_
          refine lv_istore (lv' := [(8, .int (0 : Int32)), (7, .int (0 : Int32)), (0, .ref a_this), (4, .int x4), (6, .int y20)]) C.1 C.2.1 dX8_allowed_90 hl (by decide) rfl (fun ls hl => ?_)
          obtain ⟨ex24, hx25, hf⟩ := bd hf
          refine hlp92 x4 y20 ex24 ?_ fu ((0 : Int32), (0 : Int32)) _ _ _ hx25 w (lv_sub hl [2, 3, 4, 1, 0] rfl)
          intro H locs ls w hl
          refine lv_iload C.1 C.2.1 dX8_allowed_130 (lv_at hl 0 rfl) ?_
          have hres := Option.some.inj hf
          subst hres
          exact ret_i C hr hlocks w rfl dX8_allowed_132
      · have hf := ite_f hf hq19
        refine lv_iload C.1 C.2.1 dX8_allowed_39 (lv_at hl 0 rfl) ?_
        have hres := Option.some.inj hf
        subst hres
        exact ret_i C hr hlocks w rfl dX8_allowed_41
    · have hf := ite_t hf hq16
      refine lv_iconst (v := (-1 : Int32)) C.1 C.2.1 dX8_allowed_21 (by decide) ?_
      have hres := Option.some.inj hf
      subst hres
      exact ret_i C hr hlocks w rfl dX8_allowed_22

set_option maxRecDepth 100000 in
theorem inX8_film_X8 : ∀ w ∈ u_ws RX8 TX8 22, w ∈ wsX8_film := by decide +kernel
set_option maxRecDepth 100000 in
theorem lkX8_film_7 : Cond.fieldLink RX8 7 "CleanNetsModel" "st" "[I" ∈ wsX8_film := by decide +kernel
set_option maxRecDepth 100000 in
theorem lkX8_film_35 : Cond.fieldLink RX8 35 "CleanNetsModel" "items" "[J" ∈ wsX8_film := by decide +kernel
abbrev wX8_film (cI cL cS cH : ClassId) (a_this : Nat) (a_this_st : Nat) (a_this_past : Nat) (a_this_image : Nat) (a_this_imagePast : Nat) (a_this_tape : Nat) (a_this_laneOf : Nat) (a_this_sizeOf : Nat) (a_this_items : Nat) (a_this_code : Nat) (a_this_from : Nat) (a_this_by : Nat) (a_this_far : Nat) (a_this_met : Nat) (a_this_told : Nat) (q_acts : Int32) (q_imageActs : Int32) (q_tapeMany : Int32) (q_many : Int32) (q_round : Int32) (q_readAt : Int32) (q_isFault : Int32) (q_toldMany : Int32) (q_items : Nat → Int64) (q_laneOf : Nat → Int32) (q_sizeOf : Nat → Int32) (q_st : Nat → Int32) : va_W := [(a_this, .inr (8, [.ref a_this_st, .ref a_this_past, .int q_acts, .ref a_this_image, .ref a_this_imagePast, .int q_imageActs, .ref a_this_tape, .int q_tapeMany, .ref a_this_laneOf, .ref a_this_sizeOf, .ref a_this_items, .ref a_this_code, .ref a_this_from, .ref a_this_by, .ref a_this_far, .int q_many, .ref a_this_met, .int q_round, .int q_readAt, .int q_isFault, .int q_toldMany, .ref a_this_told])),
  (a_this_items, .inl (cL, 96, .inr (.inl q_items))),
  (a_this_laneOf, .inl (cI, 4, .inl q_laneOf)),
  (a_this_sizeOf, .inl (cI, 4, .inl q_sizeOf)),
  (a_this_st, .inl (cI, 13, .inl q_st))]
def bX8_film_36 (q_laneOf : Nat → Int32) (q_sizeOf : Nat → Int32) (q_st : Nat → Int32) (y36_1 : Int32) (y36_3 : Int32) (v36 : Int32 × (Nat → Int64)) : Option ((Int32 × (Nat → Int64)) ⊕ (Int32 × (Nat → Int64))) := Option.bind (rd q_st 13 (0 : Int32)) (fun y1 => (if y1 ≤ v36.1 then some (.inr (v36.1, v36.2)) else Option.bind (fX8_stateOf q_st v36.1) (fun r4 => Option.bind (wl v36.2 96 ((((24 : Int32) * y36_1) + y36_3) + v36.1) ((r4).toInt64)) (fun g6 => some (.inl ((v36.1 + (1 : Int32)), g6))))))
def fX8_film (q_items : Nat → Int64) (q_laneOf : Nat → Int32) (q_sizeOf : Nat → Int32) (q_st : Nat → Int32) (x1 : Int32) (x2 : Int32) (x3 : Int32) : Option (Int32 × (Nat → Int64)) := Option.bind (fX8_isSheet x1 x2) (fun r8 => (if r8 = 0 then some ((-1 : Int32), q_items) else Option.bind (rd q_st 13 (0 : Int32)) (fun y11 => Option.bind (fX8_found q_laneOf q_sizeOf x1 x2 x3 y11) (fun r13 => (if r13 = 0 then Option.bind (itL (bX8_film_36 q_laneOf q_sizeOf q_st x1 x3) fu ((0 : Int32), q_items)) (fun ex16 => Option.bind (rd q_st 13 (0 : Int32)) (fun y18 => some (y18, ex16.2))) else some (r13, q_items))))))
abbrev gX8_film (p : Program) (l : Launch) (e : Env) (s : State) (m : MethodId) (below : List Frame) (meth : Method) (c : Code) (D : vg) (cI cL cS cH : ClassId) (a_this : Nat) (a_this_st : Nat) (a_this_past : Nat) (a_this_image : Nat) (a_this_imagePast : Nat) (a_this_tape : Nat) (a_this_laneOf : Nat) (a_this_sizeOf : Nat) (a_this_items : Nat) (a_this_code : Nat) (a_this_from : Nat) (a_this_by : Nat) (a_this_far : Nat) (a_this_met : Nat) (a_this_told : Nat) (q_acts : Int32) (q_imageActs : Int32) (q_tapeMany : Int32) (q_many : Int32) (q_round : Int32) (q_readAt : Int32) (q_isFault : Int32) (q_toldMany : Int32) (q_items : Nat → Int64) (q_laneOf : Nat → Int32) (q_sizeOf : Nat → Int32) (q_st : Nat → Int32) (x1 : Int32) (x2 : Int32) (x3 : Int32) (res : Int32 × (Nat → Int64)) (H : Heap) (locs : List Loc) (g : JFrame) : Prop := W p l e (headSpec wsX8_film ({ frames := 2, cells := 0, slots := 0, locals := 46 })).room s m ([.ref a_this, .int x1, .int x2, .int x3] : List Value).toArray below meth c H locs 0 0 (MQ below (va_Qi (fun r' (_ : Unit) => r' = res.1) (fun _ t => pos1 D s.heap.size (wX8_film cI cL cS cH a_this a_this_st a_this_past a_this_image a_this_imagePast a_this_tape a_this_laneOf a_this_sizeOf a_this_items a_this_code a_this_from a_this_by a_this_far a_this_met a_this_told q_acts q_imageActs q_tapeMany q_many q_round q_readAt q_isFault q_toldMany q_items q_laneOf q_sizeOf q_st) (wX8_film cI cL cS cH a_this a_this_st a_this_past a_this_image a_this_imagePast a_this_tape a_this_laneOf a_this_sizeOf a_this_items a_this_code a_this_from a_this_by a_this_far a_this_met a_this_told q_acts q_imageActs q_tapeMany q_many q_round q_readAt q_isFault q_toldMany res.2 q_laneOf q_sizeOf q_st) t) (va_A (wX8_film cI cL cS cH a_this a_this_st a_this_past a_this_image a_this_imagePast a_this_tape a_this_laneOf a_this_sizeOf a_this_items a_this_code a_this_from a_this_by a_this_far a_this_met a_this_told q_acts q_imageActs q_tapeMany q_many q_round q_readAt q_isFault q_toldMany q_items q_laneOf q_sizeOf q_st) s.heap.size)) ([.ref a_this, .int x1, .int x2, .int x3] : List Value).toArray s 0 0 (va_A (wX8_film cI cL cS cH a_this a_this_st a_this_past a_this_image a_this_imagePast a_this_tape a_this_laneOf a_this_sizeOf a_this_items a_this_code a_this_from a_this_by a_this_far a_this_met a_this_told q_acts q_imageActs q_tapeMany q_many q_round q_readAt q_isFault q_toldMany q_items q_laneOf q_sizeOf q_st) s.heap.size)) g
set_option maxHeartbeats 4000000 in
set_option maxRecDepth 100000 in
theorem mX8_film (l : Launch) (D : vg) (cI cL cS cH : ClassId) (sz : Nat) (a_this : Nat) (a_this_st : Nat) (a_this_past : Nat) (a_this_image : Nat) (a_this_imagePast : Nat) (a_this_tape : Nat) (a_this_laneOf : Nat) (a_this_sizeOf : Nat) (a_this_items : Nat) (a_this_code : Nat) (a_this_from : Nat) (a_this_by : Nat) (a_this_far : Nat) (a_this_met : Nat) (a_this_told : Nat) (q_acts : Int32) (q_imageActs : Int32) (q_tapeMany : Int32) (q_many : Int32) (q_round : Int32) (q_readAt : Int32) (q_isFault : Int32) (q_toldMany : Int32) (q_items : Nat → Int64) (q_laneOf : Nat → Int32) (q_sizeOf : Nat → Int32) (q_st : Nat → Int32) (x1 : Int32) (x2 : Int32) (x3 : Int32) {res : Int32 × (Nat → Int64)} (hf : fX8_film q_items q_laneOf q_sizeOf q_st x1 x2 x3 = some res) : cti l yX8_film wsX8_film ({ frames := 2, cells := 0, slots := 0, locals := 46 }) D (ty4 cI cL cS cH) sz [.ref a_this, .int x1, .int x2, .int x3] (wX8_film cI cL cS cH a_this a_this_st a_this_past a_this_image a_this_imagePast a_this_tape a_this_laneOf a_this_sizeOf a_this_items a_this_code a_this_from a_this_by a_this_far a_this_met a_this_told q_acts q_imageActs q_tapeMany q_many q_round q_readAt q_isFault q_toldMany q_items q_laneOf q_sizeOf q_st) (wX8_film cI cL cS cH a_this a_this_st a_this_past a_this_image a_this_imagePast a_this_tape a_this_laneOf a_this_sizeOf a_this_items a_this_code a_this_from a_this_by a_this_far a_this_met a_this_told q_acts q_imageActs q_tapeMany q_many q_round q_readAt q_isFault q_toldMany res.2 q_laneOf q_sizeOf q_st) res.1 := by
  refine Met.ofW (cc := cX8_film) (maxL := 6) (ret := (some .int)) (by decide) rfl ?_
  intro p e s m args below meth c s₁ B hml hv
  obtain ⟨rfl, hpre⟩ := hv
  obtain rfl := hpre.1
  have C : CallFix p m c cX8_film 6 s _ wsX8_film RX8 := ⟨B.exec, B.bytes, hml, findClass_of_methodNamed B.named, atoms_spec (ws := wsX8_film) B.pre⟩
  have hr := B.returns
  have hlocks := B.notSynchronized
  have w := wd_start hpre
  clear hpre B
  have hl := lv_entry ([.ref a_this, .int x1, .int x2, .int x3]) (n := 6) (Nat.le_of_ble_eq_true rfl)
  rw [lg_entry_eq]
  generalize (lg_sl ([.ref a_this, .int x1, .int x2, .int x3]) ++ List.replicate (6 - (lg_sl ([.ref a_this, .int x1, .int x2, .int x3])).length) Slot.unset).toArray = ls at hl ⊢
  have hl : lv_has ls 6 [(0, .ref a_this), (1, .int x1), (2, .int x2), (3, .int x3)] := hl
  unfold fX8_film at hf
  have hlp36 : ∀ (y36_1 : Int32) (y36_3 : Int32) (ex36 : Int32 × (Nat → Int64)) (hk : (∀ (H : Heap) (locs : List Loc) (ls : Array Slot), wd D (ty4 cI cL cS cH) s (va_A (wX8_film cI cL cS cH a_this a_this_st a_this_past a_this_image a_this_imagePast a_this_tape a_this_laneOf a_this_sizeOf a_this_items a_this_code a_this_from a_this_by a_this_far a_this_met a_this_told q_acts q_imageActs q_tapeMany q_many q_round q_readAt q_isFault q_toldMany q_items q_laneOf q_sizeOf q_st) s.heap.size) s.heap H locs (wX8_film cI cL cS cH a_this a_this_st a_this_past a_this_image a_this_imagePast a_this_tape a_this_laneOf a_this_sizeOf a_this_items a_this_code a_this_from a_this_by a_this_far a_this_met a_this_told q_acts q_imageActs q_tapeMany q_many q_round q_readAt q_isFault q_toldMany ex36.2 q_laneOf q_sizeOf q_st) → lv_has ls 6 [(0, .ref a_this)] → gX8_film p l e s m below meth c D cI cL cS cH a_this a_this_st a_this_past a_this_image a_this_imagePast a_this_tape a_this_laneOf a_this_sizeOf a_this_items a_this_code a_this_from a_this_by a_this_far a_this_met a_this_told q_acts q_imageActs q_tapeMany q_many q_round q_readAt q_isFault q_toldMany q_items q_laneOf q_sizeOf q_st x1 x2 x3 res H locs (F0 m 74 ls []))) (n : Nat) (v36 : Int32 × (Nat → Int64)) (H : Heap) (locs : List Loc) (ls : Array Slot), itL (bX8_film_36 q_laneOf q_sizeOf q_st y36_1 y36_3) n v36 = some ex36 → wd D (ty4 cI cL cS cH) s (va_A (wX8_film cI cL cS cH a_this a_this_st a_this_past a_this_image a_this_imagePast a_this_tape a_this_laneOf a_this_sizeOf a_this_items a_this_code a_this_from a_this_by a_this_far a_this_met a_this_told q_acts q_imageActs q_tapeMany q_many q_round q_readAt q_isFault q_toldMany q_items q_laneOf q_sizeOf q_st) s.heap.size) s.heap H locs (wX8_film cI cL cS cH a_this a_this_st a_this_past a_this_image a_this_imagePast a_this_tape a_this_laneOf a_this_sizeOf a_this_items a_this_code a_this_from a_this_by a_this_far a_this_met a_this_told q_acts q_imageActs q_tapeMany q_many q_round q_readAt q_isFault q_toldMany v36.2 q_laneOf q_sizeOf q_st) → lv_has ls 6 [(0, .ref a_this), (1, .int y36_1), (3, .int y36_3), (5, .int v36.1)] → gX8_film p l e s m below meth c D cI cL cS cH a_this a_this_st a_this_past a_this_image a_this_imagePast a_this_tape a_this_laneOf a_this_sizeOf a_this_items a_this_code a_this_from a_this_by a_this_far a_this_met a_this_told q_acts q_imageActs q_tapeMany q_many q_round q_readAt q_isFault q_toldMany q_items q_laneOf q_sizeOf q_st x1 x2 x3 res H locs (F0 m 36 ls []) := by
    intro y36_1 y36_3 ex36 hk n
    induction n with
    | zero => intro v36 H locs ls hi w hl; exact (itL_zero hi).elim
    | succ n ih =>
      intro v36 H locs ls hi w hl
      obtain ⟨o, hf, hn⟩ := itL_succ hi
      unfold bX8_film_36 at hf
      refine lv_iload C.1 C.2.1 dX8_film_36 (lv_at hl 3 rfl) ?_
      refine lv_aload_n C.1 C.2.1 dX8_film_38 rfl (lv_at hl 0 rfl) ?_
      refine r_get C w inX8_film_X8 0 rfl rfl 0 (by decide) lkX8_film_7 rfl dX8_film_39 ?_
      refine lv_iconst (v := (0 : Int32)) C.1 C.2.1 dX8_film_42 (by decide) ?_
      obtain ⟨y1, hy2, hf⟩ := bd hf
      refine r_iald C w 4 0 rfl rfl (rd_in hy2) dX8_film_43 ?_
      refine lv_icmp_ge (tgt := 74) C.1 C.2.1 dX8_film_44 (by decide) (fun hq3 => ?_) (fun hq3 => ?_)
      · have hf := ite_t hf hq3
        obtain rfl := Option.some.inj hf
        obtain rfl := hn
        exact hk _ _ _ w (lv_sub hl [0] rfl)
      · have hf := ite_f hf hq3
        refine lv_aload_n C.1 C.2.1 dX8_film_47 rfl (lv_at hl 0 rfl) ?_
        refine r_get C w inX8_film_X8 0 rfl rfl 10 (by decide) lkX8_film_35 rfl dX8_film_48 ?_
        refine lv_bipush (v := (24 : Int32)) C.1 C.2.1 dX8_film_51 (by decide) ?_
        refine lv_iload_n C.1 C.2.1 dX8_film_53 rfl (lv_at hl 1 rfl) ?_
        refine lv_imul C.1 C.2.1 dX8_film_54 ?_
        refine lv_iload_n C.1 C.2.1 dX8_film_55 rfl (lv_at hl 2 rfl) ?_
        refine lv_iadd C.1 C.2.1 dX8_film_56 ?_
        refine lv_iload C.1 C.2.1 dX8_film_57 (lv_at hl 3 rfl) ?_
        refine lv_iadd C.1 C.2.1 dX8_film_59 ?_
        refine lv_aload_n C.1 C.2.1 dX8_film_60 rfl (lv_at hl 0 rfl) ?_
        refine lv_iload C.1 C.2.1 dX8_film_61 (lv_at hl 3 rfl) ?_
        obtain ⟨r4, hc5, hf⟩ := bd hf
        refine call_Vi (ws' := (wX8_film cI cL cS cH a_this a_this_st a_this_past a_this_image a_this_imagePast a_this_tape a_this_laneOf a_this_sizeOf a_this_items a_this_code a_this_from a_this_by a_this_far a_this_met a_this_told q_acts q_imageActs q_tapeMany q_many q_round q_readAt q_isFault q_toldMany v36.2 q_laneOf q_sizeOf q_st)) (rest := [.int ((((24 : Int32) * y36_1) + y36_3) + v36.1), .ref a_this_items]) C w (mX8_stateOf l D cI cL cS cH _ a_this a_this_st a_this_past a_this_image a_this_imagePast a_this_tape a_this_laneOf a_this_sizeOf a_this_items a_this_code a_this_from a_this_by a_this_far a_this_met a_this_told q_acts q_imageActs q_tapeMany q_many q_round q_readAt q_isFault q_toldMany q_st v36.1 hc5) (cwV 1 C.2.2.2.2 gX8_film_X8_stateOf rfl rfl rfl (by decide +kernel) ⟨Nat.le_of_ble_eq_true rfl, Nat.le_of_ble_eq_true rfl⟩) [0, 4] [1, 2, 3] 5 ⟨rfl, rfl, trivial⟩ ⟨rfl, rfl, trivial⟩ ⟨⟨_, rfl, rfl⟩, ⟨_, rfl, rfl⟩, ⟨_, rfl, rfl⟩, trivial⟩ rfl (by decide) (by decide) (ci := 8) (q0 := 0) rfl rfl rfl hl.1 rfl (lv_room (Nat.le_of_ble_eq_true rfl)) dX8_film_63 ⟨Nat.zero_le _, Nat.zero_le _⟩ (fun H locs w => ?_)
        refine lv_i2l C.1 C.2.1 dX8_film_66 rfl ?_
        obtain ⟨g6, hg7, hf⟩ := bd hf
        refine r_last (ws' := (wX8_film cI cL cS cH a_this a_this_st a_this_past a_this_image a_this_imagePast a_this_tape a_this_laneOf a_this_sizeOf a_this_items a_this_code a_this_from a_this_by a_this_far a_this_met a_this_told q_acts q_imageActs q_tapeMany q_many q_round q_readAt q_isFault q_toldMany g6 q_laneOf q_sizeOf q_st)) C w 1 1 rfl rfl (wl_in hg7) rfl dX8_film_67 (fun H locs w => ?_)
        refine lv_iinc (v := (v36.1 + (1 : Int32))) (lv' := [(5, .int (v36.1 + (1 : Int32))), (0, .ref a_this), (1, .int y36_1), (3, .int y36_3)]) C.1 C.2.1 dX8_film_68 hl (k := 3) rfl rfl (by decide) rfl (fun ls hl => ?_)
        refine lv_goto (tgt := 36) C.1 C.2.1 dX8_film_71 (by decide) ?_
        obtain rfl := Option.some.inj hf
        exact ih ((v36.1 + (1 : Int32)), g6) _ _ _ hn w (lv_sub hl [1, 2, 3, 0] rfl)
  refine lv_iload_n C.1 C.2.1 dX8_film_0 rfl (lv_at hl 1 rfl) ?_
  refine lv_iload_n C.1 C.2.1 dX8_film_1 rfl (lv_at hl 2 rfl) ?_
  obtain ⟨r8, hc9, hf⟩ := bd hf
  refine call_Si (ws' := (wX8_film cI cL cS cH a_this a_this_st a_this_past a_this_image a_this_imagePast a_this_tape a_this_laneOf a_this_sizeOf a_this_items a_this_code a_this_from a_this_by a_this_far a_this_met a_this_told q_acts q_imageActs q_tapeMany q_many q_round q_readAt q_isFault q_toldMany q_items q_laneOf q_sizeOf q_st)) (rest := []) C w (mX8_isSheet l D cI cL cS cH _ x1 x2 hc9) (va_cwS 2 C.2.2.2.2 gX8_film_X8_isSheet rfl rfl rfl (by decide +kernel) ⟨Nat.le_of_ble_eq_true rfl, Nat.le_of_ble_eq_true rfl⟩) [] [0, 1, 2, 3, 4] 5 trivial trivial ⟨⟨_, rfl, rfl⟩, ⟨_, rfl, rfl⟩, ⟨_, rfl, rfl⟩, ⟨_, rfl, rfl⟩, ⟨_, rfl, rfl⟩, trivial⟩ rfl (by decide) (by decide) rfl hl.1 rfl (lv_room (Nat.le_of_ble_eq_true rfl)) dX8_film_2 ⟨Nat.zero_le _, Nat.zero_le _⟩ (fun H locs w => ?_)
  refine lv_if_ne (tgt := 10) C.1 C.2.1 dX8_film_5 (by decide) (fun hq10 => ?_) (fun hq10 => ?_)
  · have hf := ite_f hf hq10
    refine lv_aload_n C.1 C.2.1 dX8_film_10 rfl (lv_at hl 0 rfl) ?_
    refine lv_iload_n C.1 C.2.1 dX8_film_11 rfl (lv_at hl 1 rfl) ?_
    refine lv_iload_n C.1 C.2.1 dX8_film_12 rfl (lv_at hl 2 rfl) ?_
    refine lv_iload_n C.1 C.2.1 dX8_film_13 rfl (lv_at hl 3 rfl) ?_
    refine lv_aload_n C.1 C.2.1 dX8_film_14 rfl (lv_at hl 0 rfl) ?_
    refine r_get C w inX8_film_X8 0 rfl rfl 0 (by decide) lkX8_film_7 rfl dX8_film_15 ?_
    refine lv_iconst (v := (0 : Int32)) C.1 C.2.1 dX8_film_18 (by decide) ?_
    obtain ⟨y11, hy12, hf⟩ := bd hf
    refine r_iald C w 4 0 rfl rfl (rd_in hy12) dX8_film_19 ?_
    obtain ⟨r13, hc14, hf⟩ := bd hf
    refine call_Vi (ws' := (wX8_film cI cL cS cH a_this a_this_st a_this_past a_this_image a_this_imagePast a_this_tape a_this_laneOf a_this_sizeOf a_this_items a_this_code a_this_from a_this_by a_this_far a_this_met a_this_told q_acts q_imageActs q_tapeMany q_many q_round q_readAt q_isFault q_toldMany q_items q_laneOf q_sizeOf q_st)) (rest := []) C w (mX8_found l D cI cL cS cH _ a_this a_this_st a_this_past a_this_image a_this_imagePast a_this_tape a_this_laneOf a_this_sizeOf a_this_items a_this_code a_this_from a_this_by a_this_far a_this_met a_this_told q_acts q_imageActs q_tapeMany q_many q_round q_readAt q_isFault q_toldMany q_laneOf q_sizeOf x1 x2 x3 y11 hc14) (cwV 4 C.2.2.2.2 gX8_film_X8_found rfl rfl rfl (by decide +kernel) ⟨Nat.le_of_ble_eq_true rfl, Nat.le_of_ble_eq_true rfl⟩) [0, 2, 3] [1, 4] 5 ⟨rfl, rfl, rfl, trivial⟩ ⟨rfl, rfl, rfl, trivial⟩ ⟨⟨_, rfl, rfl⟩, ⟨_, rfl, rfl⟩, trivial⟩ rfl (by decide) (by decide) (ci := 8) (q0 := 0) rfl rfl rfl hl.1 rfl (lv_room (Nat.le_of_ble_eq_true rfl)) dX8_film_20 ⟨Nat.zero_le _, Nat.zero_le _⟩ (fun H locs w => ?_)
    refine lv_istore (lv' := [(4, .int r13), (0, .ref a_this), (1, .int x1), (2, .int x2), (3, .int x3)]) C.1 C.2.1 dX8_film_23 hl (by decide) rfl (fun ls hl => ?_)
    refine lv_iload C.1 C.2.1 dX8_film_25 (lv_at hl 0 rfl) ?_
    refine lv_if_eq (tgt := 33) C.1 C.2.1 dX8_film_27 (by decide) (fun hq15 => ?_) (fun hq15 => ?_)
    · have hf := ite_t hf hq15
      refine lv_iconst (v := (0 : Int32)) C.1 C.2.1 dX8_film_33 (by decide) ?_
      refine lv_istore (lv' := [(5, .int (0 : Int32)), (4, .int r13), (0, .ref a_this), (1, .int x1), (2, .int x2), (3, .int x3)]) C.1 C.2.1 dX8_film_34 hl (by decide) rfl (fun ls hl => ?_)
      obtain ⟨ex16, hx17, hf⟩ := bd hf
      refine hlp36 x1 x3 ex16 ?_ fu ((0 : Int32), q_items) _ _ _ hx17 w (lv_sub hl [2, 3, 5, 0] rfl)
      intro H locs ls w hl
      refine lv_aload_n C.1 C.2.1 dX8_film_74 rfl (lv_at hl 0 rfl) ?_
      refine r_get C w inX8_film_X8 0 rfl rfl 0 (by decide) lkX8_film_7 rfl dX8_film_75 ?_
      refine lv_iconst (v := (0 : Int32)) C.1 C.2.1 dX8_film_78 (by decide) ?_
      obtain ⟨y18, hy19, hf⟩ := bd hf
      refine r_iald C w 4 0 rfl rfl (rd_in hy19) dX8_film_79 ?_
      have hres := Option.some.inj hf
      subst hres
      exact ret_i C hr hlocks w rfl dX8_film_80
    · have hf := ite_f hf hq15
      refine lv_iload C.1 C.2.1 dX8_film_30 (lv_at hl 0 rfl) ?_
      have hres := Option.some.inj hf
      subst hres
      exact ret_i C hr hlocks w rfl dX8_film_32
  · have hf := ite_t hf hq10
    refine lv_iconst (v := (-1 : Int32)) C.1 C.2.1 dX8_film_8 (by decide) ?_
    have hres := Option.some.inj hf
    subst hres
    exact ret_i C hr hlocks w rfl dX8_film_9

abbrev wX8_lowest (cI cL cS cH : ClassId) : va_W := []
def fX8_lowest  (x0 : Int64) (x2 : Int32) : Option (Int64) := (if x2 = 0 then some ((x0 <<< (((56 : Int32)).toInt64 &&& 63)) >>> (((56 : Int32)).toInt64 &&& 63)) else (if x2 = (1 : Int32) then some ((x0 <<< (((48 : Int32)).toInt64 &&& 63)) >>> (((48 : Int32)).toInt64 &&& 63)) else (if x2 = (2 : Int32) then some ((x0 <<< (((32 : Int32)).toInt64 &&& 63)) >>> (((32 : Int32)).toInt64 &&& 63)) else some x0)))
set_option maxHeartbeats 4000000 in
set_option maxRecDepth 100000 in
theorem mX8_lowest (l : Launch) (D : vg) (cI cL cS cH : ClassId) (sz : Nat) (x0 : Int64) (x2 : Int32) {res : Int64} (hf : fX8_lowest x0 x2 = some res) : ctl l yX8_lowest wsX8_lowest ({ frames := 0, cells := 0, slots := 0, locals := 0 }) D (ty4 cI cL cS cH) sz [.long x0, .int x2] (wX8_lowest cI cL cS cH ) (wX8_lowest cI cL cS cH ) res := by
  refine Met.ofW (cc := cX8_lowest) (maxL := 3) (ret := (some .long)) (by decide) rfl ?_
  intro p e s m args below meth c s₁ B hml hv
  obtain ⟨rfl, hpre⟩ := hv
  obtain rfl := hpre.1
  have C : CallFix p m c cX8_lowest 3 s _ wsX8_lowest RX8 := ⟨B.exec, B.bytes, hml, findClass_of_methodNamed B.named, atoms_spec (ws := wsX8_lowest) B.pre⟩
  have hr := B.returns
  have hlocks := B.notSynchronized
  have w := wd_start hpre
  clear hpre B
  have hl := lv_entry ([.long x0, .int x2]) (n := 3) (Nat.le_of_ble_eq_true rfl)
  rw [lg_entry_eq]
  generalize (lg_sl ([.long x0, .int x2]) ++ List.replicate (3 - (lg_sl ([.long x0, .int x2])).length) Slot.unset).toArray = ls at hl ⊢
  have hl : lv_has ls 3 [(0, .long x0), (2, .int x2)] := hl
  unfold fX8_lowest at hf
  refine lv_iload_n C.1 C.2.1 dX8_lowest_0 rfl (lv_at hl 1 rfl) ?_
  refine lv_if_ne (tgt := 14) C.1 C.2.1 dX8_lowest_1 (by decide) (fun hq1 => ?_) (fun hq1 => ?_)
  · have hf := ite_f hf hq1
    refine lv_iload_n C.1 C.2.1 dX8_lowest_14 rfl (lv_at hl 1 rfl) ?_
    refine lv_iconst (v := (1 : Int32)) C.1 C.2.1 dX8_lowest_15 (by decide) ?_
    refine lv_icmp_ne (tgt := 29) C.1 C.2.1 dX8_lowest_16 (by decide) (fun hq2 => ?_) (fun hq2 => ?_)
    · have hf := ite_f hf hq2
      refine lv_iload_n C.1 C.2.1 dX8_lowest_29 rfl (lv_at hl 1 rfl) ?_
      refine lv_iconst (v := (2 : Int32)) C.1 C.2.1 dX8_lowest_30 (by decide) ?_
      refine lv_icmp_ne (tgt := 44) C.1 C.2.1 dX8_lowest_31 (by decide) (fun hq3 => ?_) (fun hq3 => ?_)
      · have hf := ite_f hf hq3
        refine lv_lload_n C.1 C.2.1 dX8_lowest_44 rfl (lv_at hl 0 rfl) ?_
        have hres := Option.some.inj hf
        subst hres
        exact ret_l C hr hlocks w rfl dX8_lowest_45
      · have hf := ite_t hf hq3
        refine lv_lload_n C.1 C.2.1 dX8_lowest_34 rfl (lv_at hl 0 rfl) ?_
        refine lv_bipush (v := (32 : Int32)) C.1 C.2.1 dX8_lowest_35 (by decide) ?_
        refine lv_lshl C.1 C.2.1 dX8_lowest_37 rfl ?_
        refine lv_bipush (v := (32 : Int32)) C.1 C.2.1 dX8_lowest_38 (by decide) ?_
        refine lv_lshr C.1 C.2.1 dX8_lowest_40 rfl ?_
        refine lv_goto (tgt := 45) C.1 C.2.1 dX8_lowest_41 (by decide) ?_
        have hres := Option.some.inj hf
        subst hres
        exact ret_l C hr hlocks w rfl dX8_lowest_45
    · have hf := ite_t hf hq2
      refine lv_lload_n C.1 C.2.1 dX8_lowest_19 rfl (lv_at hl 0 rfl) ?_
      refine lv_bipush (v := (48 : Int32)) C.1 C.2.1 dX8_lowest_20 (by decide) ?_
      refine lv_lshl C.1 C.2.1 dX8_lowest_22 rfl ?_
      refine lv_bipush (v := (48 : Int32)) C.1 C.2.1 dX8_lowest_23 (by decide) ?_
      refine lv_lshr C.1 C.2.1 dX8_lowest_25 rfl ?_
      refine lv_goto (tgt := 45) C.1 C.2.1 dX8_lowest_26 (by decide) ?_
      have hres := Option.some.inj hf
      subst hres
      exact ret_l C hr hlocks w rfl dX8_lowest_45
  · have hf := ite_t hf hq1
    refine lv_lload_n C.1 C.2.1 dX8_lowest_4 rfl (lv_at hl 0 rfl) ?_
    refine lv_bipush (v := (56 : Int32)) C.1 C.2.1 dX8_lowest_5 (by decide) ?_
    refine lv_lshl C.1 C.2.1 dX8_lowest_7 rfl ?_
    refine lv_bipush (v := (56 : Int32)) C.1 C.2.1 dX8_lowest_8 (by decide) ?_
    refine lv_lshr C.1 C.2.1 dX8_lowest_10 rfl ?_
    refine lv_goto (tgt := 45) C.1 C.2.1 dX8_lowest_11 (by decide) ?_
    have hres := Option.some.inj hf
    subst hres
    exact ret_l C hr hlocks w rfl dX8_lowest_45

set_option maxRecDepth 100000 in
theorem inX8_sheet_X8 : ∀ w ∈ u_ws RX8 TX8 22, w ∈ wsX8_sheet := by decide +kernel
set_option maxRecDepth 100000 in
theorem lkX8_sheet_35 : Cond.fieldLink RX8 35 "CleanNetsModel" "items" "[J" ∈ wsX8_sheet := by decide +kernel
set_option maxRecDepth 100000 in
theorem lkX8_sheet_29 : Cond.fieldLink RX8 29 "CleanNetsModel" "laneOf" "[I" ∈ wsX8_sheet := by decide +kernel
set_option maxRecDepth 100000 in
theorem lkX8_sheet_32 : Cond.fieldLink RX8 32 "CleanNetsModel" "sizeOf" "[I" ∈ wsX8_sheet := by decide +kernel
abbrev wX8_sheet (cI cL cS cH : ClassId) (a_this : Nat) (a_this_st : Nat) (a_this_past : Nat) (a_this_image : Nat) (a_this_imagePast : Nat) (a_this_tape : Nat) (a_this_laneOf : Nat) (a_this_sizeOf : Nat) (a_this_items : Nat) (a_this_code : Nat) (a_this_from : Nat) (a_this_by : Nat) (a_this_far : Nat) (a_this_met : Nat) (a_this_told : Nat) (q_acts : Int32) (q_imageActs : Int32) (q_tapeMany : Int32) (q_many : Int32) (q_round : Int32) (q_readAt : Int32) (q_isFault : Int32) (q_toldMany : Int32) (q_items : Nat → Int64) (q_laneOf : Nat → Int32) (q_sizeOf : Nat → Int32) : va_W := [(a_this, .inr (8, [.ref a_this_st, .ref a_this_past, .int q_acts, .ref a_this_image, .ref a_this_imagePast, .int q_imageActs, .ref a_this_tape, .int q_tapeMany, .ref a_this_laneOf, .ref a_this_sizeOf, .ref a_this_items, .ref a_this_code, .ref a_this_from, .ref a_this_by, .ref a_this_far, .int q_many, .ref a_this_met, .int q_round, .int q_readAt, .int q_isFault, .int q_toldMany, .ref a_this_told])),
  (a_this_items, .inl (cL, 96, .inr (.inl q_items))),
  (a_this_laneOf, .inl (cI, 4, .inl q_laneOf)),
  (a_this_sizeOf, .inl (cI, 4, .inl q_sizeOf))]
def bX8_sheet_40  (y40_1 : Int32) (y40_3 : Int32) (k40_q_laneOf : Nat → Int32) (k40_q_sizeOf : Nat → Int32) (v40 : Int32 × (Nat → Int64)) : Option ((Int32 × (Nat → Int64)) ⊕ (Int32 × (Nat → Int64))) := (if y40_3 ≤ v40.1 then some (.inr (v40.1, v40.2)) else Option.bind (wl v40.2 96 (((24 : Int32) * y40_1) + v40.1) (0 : Int64)) (fun g2 => some (.inl ((v40.1 + (1 : Int32)), g2))))
def fX8_sheet (q_items : Nat → Int64) (q_laneOf : Nat → Int32) (q_sizeOf : Nat → Int32) (x1 : Int32) (x2 : Int32) (x3 : Int32) : Option (Int32 × (Nat → Int64) × (Nat → Int32) × (Nat → Int32)) := Option.bind (fX8_isSheet x1 x2) (fun r4 => (if r4 = 0 then some ((-1 : Int32), q_items, q_laneOf, q_sizeOf) else (if x3 ≤ (24 : Int32) then (if 0 ≤ x3 then Option.bind (wi q_laneOf 4 x1 x2) (fun g9 => Option.bind (wi q_sizeOf 4 x1 x3) (fun g11 => Option.bind (itL (bX8_sheet_40 x1 x3 g9 g11) fu ((0 : Int32), q_items)) (fun ex13 => some (x3, ex13.2, g9, g11)))) else some ((-14 : Int32), q_items, q_laneOf, q_sizeOf)) else some ((-1 : Int32), q_items, q_laneOf, q_sizeOf))))
abbrev gX8_sheet (p : Program) (l : Launch) (e : Env) (s : State) (m : MethodId) (below : List Frame) (meth : Method) (c : Code) (D : vg) (cI cL cS cH : ClassId) (a_this : Nat) (a_this_st : Nat) (a_this_past : Nat) (a_this_image : Nat) (a_this_imagePast : Nat) (a_this_tape : Nat) (a_this_laneOf : Nat) (a_this_sizeOf : Nat) (a_this_items : Nat) (a_this_code : Nat) (a_this_from : Nat) (a_this_by : Nat) (a_this_far : Nat) (a_this_met : Nat) (a_this_told : Nat) (q_acts : Int32) (q_imageActs : Int32) (q_tapeMany : Int32) (q_many : Int32) (q_round : Int32) (q_readAt : Int32) (q_isFault : Int32) (q_toldMany : Int32) (q_items : Nat → Int64) (q_laneOf : Nat → Int32) (q_sizeOf : Nat → Int32) (x1 : Int32) (x2 : Int32) (x3 : Int32) (res : Int32 × (Nat → Int64) × (Nat → Int32) × (Nat → Int32)) (H : Heap) (locs : List Loc) (g : JFrame) : Prop := W p l e (headSpec wsX8_sheet ({ frames := 2, cells := 0, slots := 0, locals := 46 })).room s m ([.ref a_this, .int x1, .int x2, .int x3] : List Value).toArray below meth c H locs 0 0 (MQ below (va_Qi (fun r' (_ : Unit) => r' = res.1) (fun _ t => pos1 D s.heap.size (wX8_sheet cI cL cS cH a_this a_this_st a_this_past a_this_image a_this_imagePast a_this_tape a_this_laneOf a_this_sizeOf a_this_items a_this_code a_this_from a_this_by a_this_far a_this_met a_this_told q_acts q_imageActs q_tapeMany q_many q_round q_readAt q_isFault q_toldMany q_items q_laneOf q_sizeOf) (wX8_sheet cI cL cS cH a_this a_this_st a_this_past a_this_image a_this_imagePast a_this_tape a_this_laneOf a_this_sizeOf a_this_items a_this_code a_this_from a_this_by a_this_far a_this_met a_this_told q_acts q_imageActs q_tapeMany q_many q_round q_readAt q_isFault q_toldMany res.2.1 res.2.2.1 res.2.2.2) t) (va_A (wX8_sheet cI cL cS cH a_this a_this_st a_this_past a_this_image a_this_imagePast a_this_tape a_this_laneOf a_this_sizeOf a_this_items a_this_code a_this_from a_this_by a_this_far a_this_met a_this_told q_acts q_imageActs q_tapeMany q_many q_round q_readAt q_isFault q_toldMany q_items q_laneOf q_sizeOf) s.heap.size)) ([.ref a_this, .int x1, .int x2, .int x3] : List Value).toArray s 0 0 (va_A (wX8_sheet cI cL cS cH a_this a_this_st a_this_past a_this_image a_this_imagePast a_this_tape a_this_laneOf a_this_sizeOf a_this_items a_this_code a_this_from a_this_by a_this_far a_this_met a_this_told q_acts q_imageActs q_tapeMany q_many q_round q_readAt q_isFault q_toldMany q_items q_laneOf q_sizeOf) s.heap.size)) g
set_option maxHeartbeats 4000000 in
set_option maxRecDepth 100000 in
theorem mX8_sheet (l : Launch) (D : vg) (cI cL cS cH : ClassId) (sz : Nat) (a_this : Nat) (a_this_st : Nat) (a_this_past : Nat) (a_this_image : Nat) (a_this_imagePast : Nat) (a_this_tape : Nat) (a_this_laneOf : Nat) (a_this_sizeOf : Nat) (a_this_items : Nat) (a_this_code : Nat) (a_this_from : Nat) (a_this_by : Nat) (a_this_far : Nat) (a_this_met : Nat) (a_this_told : Nat) (q_acts : Int32) (q_imageActs : Int32) (q_tapeMany : Int32) (q_many : Int32) (q_round : Int32) (q_readAt : Int32) (q_isFault : Int32) (q_toldMany : Int32) (q_items : Nat → Int64) (q_laneOf : Nat → Int32) (q_sizeOf : Nat → Int32) (x1 : Int32) (x2 : Int32) (x3 : Int32) {res : Int32 × (Nat → Int64) × (Nat → Int32) × (Nat → Int32)} (hf : fX8_sheet q_items q_laneOf q_sizeOf x1 x2 x3 = some res) : cti l yX8_sheet wsX8_sheet ({ frames := 2, cells := 0, slots := 0, locals := 46 }) D (ty4 cI cL cS cH) sz [.ref a_this, .int x1, .int x2, .int x3] (wX8_sheet cI cL cS cH a_this a_this_st a_this_past a_this_image a_this_imagePast a_this_tape a_this_laneOf a_this_sizeOf a_this_items a_this_code a_this_from a_this_by a_this_far a_this_met a_this_told q_acts q_imageActs q_tapeMany q_many q_round q_readAt q_isFault q_toldMany q_items q_laneOf q_sizeOf) (wX8_sheet cI cL cS cH a_this a_this_st a_this_past a_this_image a_this_imagePast a_this_tape a_this_laneOf a_this_sizeOf a_this_items a_this_code a_this_from a_this_by a_this_far a_this_met a_this_told q_acts q_imageActs q_tapeMany q_many q_round q_readAt q_isFault q_toldMany res.2.1 res.2.2.1 res.2.2.2) res.1 := by
  refine Met.ofW (cc := cX8_sheet) (maxL := 5) (ret := (some .int)) (by decide) rfl ?_
  intro p e s m args below meth c s₁ B hml hv
  obtain ⟨rfl, hpre⟩ := hv
  obtain rfl := hpre.1
  have C : CallFix p m c cX8_sheet 5 s _ wsX8_sheet RX8 := ⟨B.exec, B.bytes, hml, findClass_of_methodNamed B.named, atoms_spec (ws := wsX8_sheet) B.pre⟩
  have hr := B.returns
  have hlocks := B.notSynchronized
  have w := wd_start hpre
  clear hpre B
  have hl := lv_entry ([.ref a_this, .int x1, .int x2, .int x3]) (n := 5) (Nat.le_of_ble_eq_true rfl)
  rw [lg_entry_eq]
  generalize (lg_sl ([.ref a_this, .int x1, .int x2, .int x3]) ++ List.replicate (5 - (lg_sl ([.ref a_this, .int x1, .int x2, .int x3])).length) Slot.unset).toArray = ls at hl ⊢
  have hl : lv_has ls 5 [(0, .ref a_this), (1, .int x1), (2, .int x2), (3, .int x3)] := hl
  unfold fX8_sheet at hf
  have hlp40 : ∀ (y40_1 : Int32) (y40_3 : Int32) (k40_q_laneOf : Nat → Int32) (k40_q_sizeOf : Nat → Int32) (ex40 : Int32 × (Nat → Int64)) (hk : (∀ (H : Heap) (locs : List Loc) (ls : Array Slot), wd D (ty4 cI cL cS cH) s (va_A (wX8_sheet cI cL cS cH a_this a_this_st a_this_past a_this_image a_this_imagePast a_this_tape a_this_laneOf a_this_sizeOf a_this_items a_this_code a_this_from a_this_by a_this_far a_this_met a_this_told q_acts q_imageActs q_tapeMany q_many q_round q_readAt q_isFault q_toldMany q_items q_laneOf q_sizeOf) s.heap.size) s.heap H locs (wX8_sheet cI cL cS cH a_this a_this_st a_this_past a_this_image a_this_imagePast a_this_tape a_this_laneOf a_this_sizeOf a_this_items a_this_code a_this_from a_this_by a_this_far a_this_met a_this_told q_acts q_imageActs q_tapeMany q_many q_round q_readAt q_isFault q_toldMany ex40.2 k40_q_laneOf k40_q_sizeOf) → lv_has ls 5 [(3, .int y40_3)] → gX8_sheet p l e s m below meth c D cI cL cS cH a_this a_this_st a_this_past a_this_image a_this_imagePast a_this_tape a_this_laneOf a_this_sizeOf a_this_items a_this_code a_this_from a_this_by a_this_far a_this_met a_this_told q_acts q_imageActs q_tapeMany q_many q_round q_readAt q_isFault q_toldMany q_items q_laneOf q_sizeOf x1 x2 x3 res H locs (F0 m 65 ls []))) (n : Nat) (v40 : Int32 × (Nat → Int64)) (H : Heap) (locs : List Loc) (ls : Array Slot), itL (bX8_sheet_40 y40_1 y40_3 k40_q_laneOf k40_q_sizeOf) n v40 = some ex40 → wd D (ty4 cI cL cS cH) s (va_A (wX8_sheet cI cL cS cH a_this a_this_st a_this_past a_this_image a_this_imagePast a_this_tape a_this_laneOf a_this_sizeOf a_this_items a_this_code a_this_from a_this_by a_this_far a_this_met a_this_told q_acts q_imageActs q_tapeMany q_many q_round q_readAt q_isFault q_toldMany q_items q_laneOf q_sizeOf) s.heap.size) s.heap H locs (wX8_sheet cI cL cS cH a_this a_this_st a_this_past a_this_image a_this_imagePast a_this_tape a_this_laneOf a_this_sizeOf a_this_items a_this_code a_this_from a_this_by a_this_far a_this_met a_this_told q_acts q_imageActs q_tapeMany q_many q_round q_readAt q_isFault q_toldMany v40.2 k40_q_laneOf k40_q_sizeOf) → lv_has ls 5 [(0, .ref a_this), (1, .int y40_1), (3, .int y40_3), (4, .int v40.1)] → gX8_sheet p l e s m below meth c D cI cL cS cH a_this a_this_st a_this_past a_this_image a_this_imagePast a_this_tape a_this_laneOf a_this_sizeOf a_this_items a_this_code a_this_from a_this_by a_this_far a_this_met a_this_told q_acts q_imageActs q_tapeMany q_many q_round q_readAt q_isFault q_toldMany q_items q_laneOf q_sizeOf x1 x2 x3 res H locs (F0 m 40 ls []) := by
    intro y40_1 y40_3 k40_q_laneOf k40_q_sizeOf ex40 hk n
    induction n with
    | zero => intro v40 H locs ls hi w hl; exact (itL_zero hi).elim
    | succ n ih =>
      intro v40 H locs ls hi w hl
      obtain ⟨o, hf, hn⟩ := itL_succ hi
      unfold bX8_sheet_40 at hf
      refine lv_iload C.1 C.2.1 dX8_sheet_40 (lv_at hl 3 rfl) ?_
      refine lv_iload_n C.1 C.2.1 dX8_sheet_42 rfl (lv_at hl 2 rfl) ?_
      refine lv_icmp_ge (tgt := 65) C.1 C.2.1 dX8_sheet_43 (by decide) (fun hq1 => ?_) (fun hq1 => ?_)
      · have hf := ite_t hf hq1
        obtain rfl := Option.some.inj hf
        obtain rfl := hn
        exact hk _ _ _ w (lv_sub hl [2] rfl)
      · have hf := ite_f hf hq1
        refine lv_aload_n C.1 C.2.1 dX8_sheet_46 rfl (lv_at hl 0 rfl) ?_
        refine r_get C w inX8_sheet_X8 0 rfl rfl 10 (by decide) lkX8_sheet_35 rfl dX8_sheet_47 ?_
        refine lv_bipush (v := (24 : Int32)) C.1 C.2.1 dX8_sheet_50 (by decide) ?_
        refine lv_iload_n C.1 C.2.1 dX8_sheet_52 rfl (lv_at hl 1 rfl) ?_
        refine lv_imul C.1 C.2.1 dX8_sheet_53 ?_
        refine lv_iload C.1 C.2.1 dX8_sheet_54 (lv_at hl 3 rfl) ?_
        refine lv_iadd C.1 C.2.1 dX8_sheet_56 ?_
        refine lv_lconst (v := (0 : Int64)) C.1 C.2.1 dX8_sheet_57 (by decide) ?_
        obtain ⟨g2, hg3, hf⟩ := bd hf
        refine r_last (ws' := (wX8_sheet cI cL cS cH a_this a_this_st a_this_past a_this_image a_this_imagePast a_this_tape a_this_laneOf a_this_sizeOf a_this_items a_this_code a_this_from a_this_by a_this_far a_this_met a_this_told q_acts q_imageActs q_tapeMany q_many q_round q_readAt q_isFault q_toldMany g2 k40_q_laneOf k40_q_sizeOf)) C w 1 1 rfl rfl (wl_in hg3) rfl dX8_sheet_58 (fun H locs w => ?_)
        refine lv_iinc (v := (v40.1 + (1 : Int32))) (lv' := [(4, .int (v40.1 + (1 : Int32))), (0, .ref a_this), (1, .int y40_1), (3, .int y40_3)]) C.1 C.2.1 dX8_sheet_59 hl (k := 3) rfl rfl (by decide) rfl (fun ls hl => ?_)
        refine lv_goto (tgt := 40) C.1 C.2.1 dX8_sheet_62 (by decide) ?_
        obtain rfl := Option.some.inj hf
        exact ih ((v40.1 + (1 : Int32)), g2) _ _ _ hn w (lv_sub hl [1, 2, 3, 0] rfl)
  refine lv_iload_n C.1 C.2.1 dX8_sheet_0 rfl (lv_at hl 1 rfl) ?_
  refine lv_iload_n C.1 C.2.1 dX8_sheet_1 rfl (lv_at hl 2 rfl) ?_
  obtain ⟨r4, hc5, hf⟩ := bd hf
  refine call_Si (ws' := (wX8_sheet cI cL cS cH a_this a_this_st a_this_past a_this_image a_this_imagePast a_this_tape a_this_laneOf a_this_sizeOf a_this_items a_this_code a_this_from a_this_by a_this_far a_this_met a_this_told q_acts q_imageActs q_tapeMany q_many q_round q_readAt q_isFault q_toldMany q_items q_laneOf q_sizeOf)) (rest := []) C w (mX8_isSheet l D cI cL cS cH _ x1 x2 hc5) (va_cwS 2 C.2.2.2.2 gX8_sheet_X8_isSheet rfl rfl rfl (by decide +kernel) ⟨Nat.le_of_ble_eq_true rfl, Nat.le_of_ble_eq_true rfl⟩) [] [0, 1, 2, 3] 4 trivial trivial ⟨⟨_, rfl, rfl⟩, ⟨_, rfl, rfl⟩, ⟨_, rfl, rfl⟩, ⟨_, rfl, rfl⟩, trivial⟩ rfl (by decide) (by decide) rfl hl.1 rfl (lv_room (Nat.le_of_ble_eq_true rfl)) dX8_sheet_2 ⟨Nat.zero_le _, Nat.zero_le _⟩ (fun H locs w => ?_)
  refine lv_if_eq (tgt := 14) C.1 C.2.1 dX8_sheet_5 (by decide) (fun hq6 => ?_) (fun hq6 => ?_)
  · have hf := ite_t hf hq6
    refine lv_iconst (v := (-1 : Int32)) C.1 C.2.1 dX8_sheet_14 (by decide) ?_
    have hres := Option.some.inj hf
    subst hres
    exact ret_i C hr hlocks w rfl dX8_sheet_15
  · have hf := ite_f hf hq6
    refine lv_iload_n C.1 C.2.1 dX8_sheet_8 rfl (lv_at hl 3 rfl) ?_
    refine lv_bipush (v := (24 : Int32)) C.1 C.2.1 dX8_sheet_9 (by decide) ?_
    refine lv_icmp_le (tgt := 16) C.1 C.2.1 dX8_sheet_11 (by decide) (fun hq7 => ?_) (fun hq7 => ?_)
    · have hf := ite_t hf hq7
      refine lv_iload_n C.1 C.2.1 dX8_sheet_16 rfl (lv_at hl 3 rfl) ?_
      refine lv_if_ge (tgt := 23) C.1 C.2.1 dX8_sheet_17 (by decide) (fun hq8 => ?_) (fun hq8 => ?_)
      · have hf := ite_t hf hq8
        refine lv_aload_n C.1 C.2.1 dX8_sheet_23 rfl (lv_at hl 0 rfl) ?_
        refine r_get C w inX8_sheet_X8 0 rfl rfl 8 (by decide) lkX8_sheet_29 rfl dX8_sheet_24 ?_
        refine lv_iload_n C.1 C.2.1 dX8_sheet_27 rfl (lv_at hl 1 rfl) ?_
        refine lv_iload_n C.1 C.2.1 dX8_sheet_28 rfl (lv_at hl 2 rfl) ?_
        obtain ⟨g9, hg10, hf⟩ := bd hf
        refine r_iast (ws' := (wX8_sheet cI cL cS cH a_this a_this_st a_this_past a_this_image a_this_imagePast a_this_tape a_this_laneOf a_this_sizeOf a_this_items a_this_code a_this_from a_this_by a_this_far a_this_met a_this_told q_acts q_imageActs q_tapeMany q_many q_round q_readAt q_isFault q_toldMany q_items g9 q_sizeOf)) C w 2 0 rfl rfl (wi_in hg10) rfl dX8_sheet_29 (fun H locs w => ?_)
        refine lv_aload_n C.1 C.2.1 dX8_sheet_30 rfl (lv_at hl 0 rfl) ?_
        refine r_get C w inX8_sheet_X8 0 rfl rfl 9 (by decide) lkX8_sheet_32 rfl dX8_sheet_31 ?_
        refine lv_iload_n C.1 C.2.1 dX8_sheet_34 rfl (lv_at hl 1 rfl) ?_
        refine lv_iload_n C.1 C.2.1 dX8_sheet_35 rfl (lv_at hl 3 rfl) ?_
        obtain ⟨g11, hg12, hf⟩ := bd hf
        refine r_iast (ws' := (wX8_sheet cI cL cS cH a_this a_this_st a_this_past a_this_image a_this_imagePast a_this_tape a_this_laneOf a_this_sizeOf a_this_items a_this_code a_this_from a_this_by a_this_far a_this_met a_this_told q_acts q_imageActs q_tapeMany q_many q_round q_readAt q_isFault q_toldMany q_items g9 g11)) C w 3 0 rfl rfl (wi_in hg12) rfl dX8_sheet_36 (fun H locs w => ?_)
        refine lv_iconst (v := (0 : Int32)) C.1 C.2.1 dX8_sheet_37 (by decide) ?_
        refine lv_istore (lv' := [(4, .int (0 : Int32)), (0, .ref a_this), (1, .int x1), (2, .int x2), (3, .int x3)]) C.1 C.2.1 dX8_sheet_38 hl (by decide) rfl (fun ls hl => ?_)
        obtain ⟨ex13, hx14, hf⟩ := bd hf
        refine hlp40 x1 x3 g9 g11 ex13 ?_ fu ((0 : Int32), q_items) _ _ _ hx14 w (lv_sub hl [1, 2, 4, 0] rfl)
        intro H locs ls w hl
        refine lv_iload_n C.1 C.2.1 dX8_sheet_65 rfl (lv_at hl 0 rfl) ?_
        have hres := Option.some.inj hf
        subst hres
        exact ret_i C hr hlocks w rfl dX8_sheet_66
      · have hf := ite_f hf hq8
        refine lv_bipush (v := (-14 : Int32)) C.1 C.2.1 dX8_sheet_20 (by decide) ?_
        have hres := Option.some.inj hf
        subst hres
        exact ret_i C hr hlocks w rfl dX8_sheet_22
    · have hf := ite_f hf hq7
      refine lv_iconst (v := (-1 : Int32)) C.1 C.2.1 dX8_sheet_14 (by decide) ?_
      have hres := Option.some.inj hf
      subst hres
      exact ret_i C hr hlocks w rfl dX8_sheet_15

set_option maxRecDepth 100000 in
theorem inX8_drop_X8 : ∀ w ∈ u_ws RX8 TX8 22, w ∈ wsX8_drop := by decide +kernel
set_option maxRecDepth 100000 in
theorem lkX8_drop_29 : Cond.fieldLink RX8 29 "CleanNetsModel" "laneOf" "[I" ∈ wsX8_drop := by decide +kernel
set_option maxRecDepth 100000 in
theorem lkX8_drop_32 : Cond.fieldLink RX8 32 "CleanNetsModel" "sizeOf" "[I" ∈ wsX8_drop := by decide +kernel
abbrev wX8_drop (cI cL cS cH : ClassId) (a_this : Nat) (a_this_st : Nat) (a_this_past : Nat) (a_this_image : Nat) (a_this_imagePast : Nat) (a_this_tape : Nat) (a_this_laneOf : Nat) (a_this_sizeOf : Nat) (a_this_items : Nat) (a_this_code : Nat) (a_this_from : Nat) (a_this_by : Nat) (a_this_far : Nat) (a_this_met : Nat) (a_this_told : Nat) (q_acts : Int32) (q_imageActs : Int32) (q_tapeMany : Int32) (q_many : Int32) (q_round : Int32) (q_readAt : Int32) (q_isFault : Int32) (q_toldMany : Int32) (q_laneOf : Nat → Int32) (q_sizeOf : Nat → Int32) : va_W := [(a_this, .inr (8, [.ref a_this_st, .ref a_this_past, .int q_acts, .ref a_this_image, .ref a_this_imagePast, .int q_imageActs, .ref a_this_tape, .int q_tapeMany, .ref a_this_laneOf, .ref a_this_sizeOf, .ref a_this_items, .ref a_this_code, .ref a_this_from, .ref a_this_by, .ref a_this_far, .int q_many, .ref a_this_met, .int q_round, .int q_readAt, .int q_isFault, .int q_toldMany, .ref a_this_told])),
  (a_this_laneOf, .inl (cI, 4, .inl q_laneOf)),
  (a_this_sizeOf, .inl (cI, 4, .inl q_sizeOf))]
def fX8_drop (q_laneOf : Nat → Int32) (q_sizeOf : Nat → Int32) (x1 : Int32) : Option (Int32 × (Nat → Int32)) := Option.bind (fX8_in ((x1).toInt64) (0 : Int64) (3 : Int64)) (fun r1 => (if r1 = 0 then some ((-1 : Int32), q_laneOf) else Option.bind (rd q_laneOf 4 x1) (fun y4 => (if 0 ≤ y4 then Option.bind (wi q_laneOf 4 x1 (-4 : Int32)) (fun g7 => Option.bind (rd q_sizeOf 4 x1) (fun y9 => some (y9, g7))) else some ((-11 : Int32), q_laneOf)))))
set_option maxHeartbeats 4000000 in
set_option maxRecDepth 100000 in
theorem mX8_drop (l : Launch) (D : vg) (cI cL cS cH : ClassId) (sz : Nat) (a_this : Nat) (a_this_st : Nat) (a_this_past : Nat) (a_this_image : Nat) (a_this_imagePast : Nat) (a_this_tape : Nat) (a_this_laneOf : Nat) (a_this_sizeOf : Nat) (a_this_items : Nat) (a_this_code : Nat) (a_this_from : Nat) (a_this_by : Nat) (a_this_far : Nat) (a_this_met : Nat) (a_this_told : Nat) (q_acts : Int32) (q_imageActs : Int32) (q_tapeMany : Int32) (q_many : Int32) (q_round : Int32) (q_readAt : Int32) (q_isFault : Int32) (q_toldMany : Int32) (q_laneOf : Nat → Int32) (q_sizeOf : Nat → Int32) (x1 : Int32) {res : Int32 × (Nat → Int32)} (hf : fX8_drop q_laneOf q_sizeOf x1 = some res) : cti l yX8_drop wsX8_drop ({ frames := 1, cells := 0, slots := 0, locals := 25 }) D (ty4 cI cL cS cH) sz [.ref a_this, .int x1] (wX8_drop cI cL cS cH a_this a_this_st a_this_past a_this_image a_this_imagePast a_this_tape a_this_laneOf a_this_sizeOf a_this_items a_this_code a_this_from a_this_by a_this_far a_this_met a_this_told q_acts q_imageActs q_tapeMany q_many q_round q_readAt q_isFault q_toldMany q_laneOf q_sizeOf) (wX8_drop cI cL cS cH a_this a_this_st a_this_past a_this_image a_this_imagePast a_this_tape a_this_laneOf a_this_sizeOf a_this_items a_this_code a_this_from a_this_by a_this_far a_this_met a_this_told q_acts q_imageActs q_tapeMany q_many q_round q_readAt q_isFault q_toldMany res.2 q_sizeOf) res.1 := by
  refine Met.ofW (cc := cX8_drop) (maxL := 2) (ret := (some .int)) (by decide) rfl ?_
  intro p e s m args below meth c s₁ B hml hv
  obtain ⟨rfl, hpre⟩ := hv
  obtain rfl := hpre.1
  have C : CallFix p m c cX8_drop 2 s _ wsX8_drop RX8 := ⟨B.exec, B.bytes, hml, findClass_of_methodNamed B.named, atoms_spec (ws := wsX8_drop) B.pre⟩
  have hr := B.returns
  have hlocks := B.notSynchronized
  have w := wd_start hpre
  clear hpre B
  have hl := lv_entry ([.ref a_this, .int x1]) (n := 2) (Nat.le_of_ble_eq_true rfl)
  rw [lg_entry_eq]
  generalize (lg_sl ([.ref a_this, .int x1]) ++ List.replicate (2 - (lg_sl ([.ref a_this, .int x1])).length) Slot.unset).toArray = ls at hl ⊢
  have hl : lv_has ls 2 [(0, .ref a_this), (1, .int x1)] := hl
  unfold fX8_drop at hf
  refine lv_iload_n C.1 C.2.1 dX8_drop_0 rfl (lv_at hl 1 rfl) ?_
  refine lv_i2l C.1 C.2.1 dX8_drop_1 rfl ?_
  refine lv_lconst (v := (0 : Int64)) C.1 C.2.1 dX8_drop_2 (by decide) ?_
  refine lv_ldc2 (v := (3 : Int64)) C.1 C.2.1 C.2.2.2.1 (C.2.2.2.2 (.constantLong RX8 252 (3 : Int64)) (by decide +kernel)) dX8_drop_3 ?_
  obtain ⟨r1, hc2, hf⟩ := bd hf
  refine call_Si (ws' := (wX8_drop cI cL cS cH a_this a_this_st a_this_past a_this_image a_this_imagePast a_this_tape a_this_laneOf a_this_sizeOf a_this_items a_this_code a_this_from a_this_by a_this_far a_this_met a_this_told q_acts q_imageActs q_tapeMany q_many q_round q_readAt q_isFault q_toldMany q_laneOf q_sizeOf)) (rest := []) C w (mX8_in l D cI cL cS cH _ ((x1).toInt64) (0 : Int64) (3 : Int64) hc2) (va_cwS 3 C.2.2.2.2 gX8_drop_X8_in rfl rfl rfl (by decide +kernel) ⟨Nat.le_of_ble_eq_true rfl, Nat.le_of_ble_eq_true rfl⟩) [] [0, 1, 2] 3 trivial trivial ⟨⟨_, rfl, rfl⟩, ⟨_, rfl, rfl⟩, ⟨_, rfl, rfl⟩, trivial⟩ rfl (by decide) (by decide) rfl hl.1 rfl (lv_room (Nat.le_of_ble_eq_true rfl)) dX8_drop_6 ⟨Nat.zero_le _, Nat.zero_le _⟩ (fun H locs w => ?_)
  refine lv_if_ne (tgt := 14) C.1 C.2.1 dX8_drop_9 (by decide) (fun hq3 => ?_) (fun hq3 => ?_)
  · have hf := ite_f hf hq3
    refine lv_aload_n C.1 C.2.1 dX8_drop_14 rfl (lv_at hl 0 rfl) ?_
    refine r_get C w inX8_drop_X8 0 rfl rfl 8 (by decide) lkX8_drop_29 rfl dX8_drop_15 ?_
    refine lv_iload_n C.1 C.2.1 dX8_drop_18 rfl (lv_at hl 1 rfl) ?_
    obtain ⟨y4, hy5, hf⟩ := bd hf
    refine r_iald C w 1 0 rfl rfl (rd_in hy5) dX8_drop_19 ?_
    refine lv_if_ge (tgt := 26) C.1 C.2.1 dX8_drop_20 (by decide) (fun hq6 => ?_) (fun hq6 => ?_)
    · have hf := ite_t hf hq6
      refine lv_aload_n C.1 C.2.1 dX8_drop_26 rfl (lv_at hl 0 rfl) ?_
      refine r_get C w inX8_drop_X8 0 rfl rfl 8 (by decide) lkX8_drop_29 rfl dX8_drop_27 ?_
      refine lv_iload_n C.1 C.2.1 dX8_drop_30 rfl (lv_at hl 1 rfl) ?_
      refine lv_bipush (v := (-4 : Int32)) C.1 C.2.1 dX8_drop_31 (by decide) ?_
      obtain ⟨g7, hg8, hf⟩ := bd hf
      refine r_iast (ws' := (wX8_drop cI cL cS cH a_this a_this_st a_this_past a_this_image a_this_imagePast a_this_tape a_this_laneOf a_this_sizeOf a_this_items a_this_code a_this_from a_this_by a_this_far a_this_met a_this_told q_acts q_imageActs q_tapeMany q_many q_round q_readAt q_isFault q_toldMany g7 q_sizeOf)) C w 1 0 rfl rfl (wi_in hg8) rfl dX8_drop_33 (fun H locs w => ?_)
      refine lv_aload_n C.1 C.2.1 dX8_drop_34 rfl (lv_at hl 0 rfl) ?_
      refine r_get C w inX8_drop_X8 0 rfl rfl 9 (by decide) lkX8_drop_32 rfl dX8_drop_35 ?_
      refine lv_iload_n C.1 C.2.1 dX8_drop_38 rfl (lv_at hl 1 rfl) ?_
      obtain ⟨y9, hy10, hf⟩ := bd hf
      refine r_iald C w 2 0 rfl rfl (rd_in hy10) dX8_drop_39 ?_
      have hres := Option.some.inj hf
      subst hres
      exact ret_i C hr hlocks w rfl dX8_drop_40
    · have hf := ite_f hf hq6
      refine lv_bipush (v := (-11 : Int32)) C.1 C.2.1 dX8_drop_23 (by decide) ?_
      have hres := Option.some.inj hf
      subst hres
      exact ret_i C hr hlocks w rfl dX8_drop_25
  · have hf := ite_t hf hq3
    refine lv_iconst (v := (-1 : Int32)) C.1 C.2.1 dX8_drop_12 (by decide) ?_
    have hres := Option.some.inj hf
    subst hres
    exact ret_i C hr hlocks w rfl dX8_drop_13

set_option maxRecDepth 100000 in
theorem inX8_item_X8 : ∀ w ∈ u_ws RX8 TX8 22, w ∈ wsX8_item := by decide +kernel
set_option maxRecDepth 100000 in
theorem lkX8_item_35 : Cond.fieldLink RX8 35 "CleanNetsModel" "items" "[J" ∈ wsX8_item := by decide +kernel
abbrev wX8_item (cI cL cS cH : ClassId) (a_this : Nat) (a_this_st : Nat) (a_this_past : Nat) (a_this_image : Nat) (a_this_imagePast : Nat) (a_this_tape : Nat) (a_this_laneOf : Nat) (a_this_sizeOf : Nat) (a_this_items : Nat) (a_this_code : Nat) (a_this_from : Nat) (a_this_by : Nat) (a_this_far : Nat) (a_this_met : Nat) (a_this_told : Nat) (q_acts : Int32) (q_imageActs : Int32) (q_tapeMany : Int32) (q_many : Int32) (q_round : Int32) (q_readAt : Int32) (q_isFault : Int32) (q_toldMany : Int32) (q_items : Nat → Int64) (q_laneOf : Nat → Int32) (q_sizeOf : Nat → Int32) : va_W := [(a_this, .inr (8, [.ref a_this_st, .ref a_this_past, .int q_acts, .ref a_this_image, .ref a_this_imagePast, .int q_imageActs, .ref a_this_tape, .int q_tapeMany, .ref a_this_laneOf, .ref a_this_sizeOf, .ref a_this_items, .ref a_this_code, .ref a_this_from, .ref a_this_by, .ref a_this_far, .int q_many, .ref a_this_met, .int q_round, .int q_readAt, .int q_isFault, .int q_toldMany, .ref a_this_told])),
  (a_this_items, .inl (cL, 96, .inr (.inl q_items))),
  (a_this_laneOf, .inl (cI, 4, .inl q_laneOf)),
  (a_this_sizeOf, .inl (cI, 4, .inl q_sizeOf))]
def fX8_item (q_items : Nat → Int64) (q_laneOf : Nat → Int32) (q_sizeOf : Nat → Int32) (x1 : Int32) (x2 : Int32) (x3 : Int32) (x4 : Int64) : Option (Int32 × (Nat → Int64)) := Option.bind (fX8_isSheet x1 x2) (fun r1 => (if r1 = 0 then some ((-1 : Int32), q_items) else Option.bind (fX8_found q_laneOf q_sizeOf x1 x2 x3 (1 : Int32)) (fun r4 => (if r4 = 0 then Option.bind (fX8_lowest x4 x2) (fun r7 => Option.bind (wl q_items 96 (((24 : Int32) * x1) + x3) r7) (fun g9 => some ((1 : Int32), g9))) else some (r4, q_items)))))
set_option maxHeartbeats 4000000 in
set_option maxRecDepth 100000 in
theorem mX8_item (l : Launch) (D : vg) (cI cL cS cH : ClassId) (sz : Nat) (a_this : Nat) (a_this_st : Nat) (a_this_past : Nat) (a_this_image : Nat) (a_this_imagePast : Nat) (a_this_tape : Nat) (a_this_laneOf : Nat) (a_this_sizeOf : Nat) (a_this_items : Nat) (a_this_code : Nat) (a_this_from : Nat) (a_this_by : Nat) (a_this_far : Nat) (a_this_met : Nat) (a_this_told : Nat) (q_acts : Int32) (q_imageActs : Int32) (q_tapeMany : Int32) (q_many : Int32) (q_round : Int32) (q_readAt : Int32) (q_isFault : Int32) (q_toldMany : Int32) (q_items : Nat → Int64) (q_laneOf : Nat → Int32) (q_sizeOf : Nat → Int32) (x1 : Int32) (x2 : Int32) (x3 : Int32) (x4 : Int64) {res : Int32 × (Nat → Int64)} (hf : fX8_item q_items q_laneOf q_sizeOf x1 x2 x3 x4 = some res) : cti l yX8_item wsX8_item ({ frames := 2, cells := 0, slots := 0, locals := 46 }) D (ty4 cI cL cS cH) sz [.ref a_this, .int x1, .int x2, .int x3, .long x4] (wX8_item cI cL cS cH a_this a_this_st a_this_past a_this_image a_this_imagePast a_this_tape a_this_laneOf a_this_sizeOf a_this_items a_this_code a_this_from a_this_by a_this_far a_this_met a_this_told q_acts q_imageActs q_tapeMany q_many q_round q_readAt q_isFault q_toldMany q_items q_laneOf q_sizeOf) (wX8_item cI cL cS cH a_this a_this_st a_this_past a_this_image a_this_imagePast a_this_tape a_this_laneOf a_this_sizeOf a_this_items a_this_code a_this_from a_this_by a_this_far a_this_met a_this_told q_acts q_imageActs q_tapeMany q_many q_round q_readAt q_isFault q_toldMany res.2 q_laneOf q_sizeOf) res.1 := by
  refine Met.ofW (cc := cX8_item) (maxL := 7) (ret := (some .int)) (by decide) rfl ?_
  intro p e s m args below meth c s₁ B hml hv
  obtain ⟨rfl, hpre⟩ := hv
  obtain rfl := hpre.1
  have C : CallFix p m c cX8_item 7 s _ wsX8_item RX8 := ⟨B.exec, B.bytes, hml, findClass_of_methodNamed B.named, atoms_spec (ws := wsX8_item) B.pre⟩
  have hr := B.returns
  have hlocks := B.notSynchronized
  have w := wd_start hpre
  clear hpre B
  have hl := lv_entry ([.ref a_this, .int x1, .int x2, .int x3, .long x4]) (n := 7) (Nat.le_of_ble_eq_true rfl)
  rw [lg_entry_eq]
  generalize (lg_sl ([.ref a_this, .int x1, .int x2, .int x3, .long x4]) ++ List.replicate (7 - (lg_sl ([.ref a_this, .int x1, .int x2, .int x3, .long x4])).length) Slot.unset).toArray = ls at hl ⊢
  have hl : lv_has ls 7 [(0, .ref a_this), (1, .int x1), (2, .int x2), (3, .int x3), (4, .long x4)] := hl
  unfold fX8_item at hf
  refine lv_iload_n C.1 C.2.1 dX8_item_0 rfl (lv_at hl 1 rfl) ?_
  refine lv_iload_n C.1 C.2.1 dX8_item_1 rfl (lv_at hl 2 rfl) ?_
  obtain ⟨r1, hc2, hf⟩ := bd hf
  refine call_Si (ws' := (wX8_item cI cL cS cH a_this a_this_st a_this_past a_this_image a_this_imagePast a_this_tape a_this_laneOf a_this_sizeOf a_this_items a_this_code a_this_from a_this_by a_this_far a_this_met a_this_told q_acts q_imageActs q_tapeMany q_many q_round q_readAt q_isFault q_toldMany q_items q_laneOf q_sizeOf)) (rest := []) C w (mX8_isSheet l D cI cL cS cH _ x1 x2 hc2) (va_cwS 2 C.2.2.2.2 gX8_item_X8_isSheet rfl rfl rfl (by decide +kernel) ⟨Nat.le_of_ble_eq_true rfl, Nat.le_of_ble_eq_true rfl⟩) [] [0, 1, 2, 3] 4 trivial trivial ⟨⟨_, rfl, rfl⟩, ⟨_, rfl, rfl⟩, ⟨_, rfl, rfl⟩, ⟨_, rfl, rfl⟩, trivial⟩ rfl (by decide) (by decide) rfl hl.1 rfl (lv_room (Nat.le_of_ble_eq_true rfl)) dX8_item_2 ⟨Nat.zero_le _, Nat.zero_le _⟩ (fun H locs w => ?_)
  refine lv_if_ne (tgt := 10) C.1 C.2.1 dX8_item_5 (by decide) (fun hq3 => ?_) (fun hq3 => ?_)
  · have hf := ite_f hf hq3
    refine lv_aload_n C.1 C.2.1 dX8_item_10 rfl (lv_at hl 0 rfl) ?_
    refine lv_iload_n C.1 C.2.1 dX8_item_11 rfl (lv_at hl 1 rfl) ?_
    refine lv_iload_n C.1 C.2.1 dX8_item_12 rfl (lv_at hl 2 rfl) ?_
    refine lv_iload_n C.1 C.2.1 dX8_item_13 rfl (lv_at hl 3 rfl) ?_
    refine lv_iconst (v := (1 : Int32)) C.1 C.2.1 dX8_item_14 (by decide) ?_
    obtain ⟨r4, hc5, hf⟩ := bd hf
    refine call_Vi (ws' := (wX8_item cI cL cS cH a_this a_this_st a_this_past a_this_image a_this_imagePast a_this_tape a_this_laneOf a_this_sizeOf a_this_items a_this_code a_this_from a_this_by a_this_far a_this_met a_this_told q_acts q_imageActs q_tapeMany q_many q_round q_readAt q_isFault q_toldMany q_items q_laneOf q_sizeOf)) (rest := []) C w (mX8_found l D cI cL cS cH _ a_this a_this_st a_this_past a_this_image a_this_imagePast a_this_tape a_this_laneOf a_this_sizeOf a_this_items a_this_code a_this_from a_this_by a_this_far a_this_met a_this_told q_acts q_imageActs q_tapeMany q_many q_round q_readAt q_isFault q_toldMany q_laneOf q_sizeOf x1 x2 x3 (1 : Int32) hc5) (cwV 4 C.2.2.2.2 gX8_item_X8_found rfl rfl rfl (by decide +kernel) ⟨Nat.le_of_ble_eq_true rfl, Nat.le_of_ble_eq_true rfl⟩) [0, 2, 3] [1] 4 ⟨rfl, rfl, rfl, trivial⟩ ⟨rfl, rfl, rfl, trivial⟩ ⟨⟨_, rfl, rfl⟩, trivial⟩ rfl (by decide) (by decide) (ci := 8) (q0 := 0) rfl rfl rfl hl.1 rfl (lv_room (Nat.le_of_ble_eq_true rfl)) dX8_item_15 ⟨Nat.zero_le _, Nat.zero_le _⟩ (fun H locs w => ?_)
    refine lv_istore (lv' := [(6, .int r4), (0, .ref a_this), (1, .int x1), (2, .int x2), (3, .int x3), (4, .long x4)]) C.1 C.2.1 dX8_item_18 hl (by decide) rfl (fun ls hl => ?_)
    refine lv_iload C.1 C.2.1 dX8_item_20 (lv_at hl 0 rfl) ?_
    refine lv_if_eq (tgt := 28) C.1 C.2.1 dX8_item_22 (by decide) (fun hq6 => ?_) (fun hq6 => ?_)
    · have hf := ite_t hf hq6
      refine lv_aload_n C.1 C.2.1 dX8_item_28 rfl (lv_at hl 1 rfl) ?_
      refine r_get C w inX8_item_X8 0 rfl rfl 10 (by decide) lkX8_item_35 rfl dX8_item_29 ?_
      refine lv_bipush (v := (24 : Int32)) C.1 C.2.1 dX8_item_32 (by decide) ?_
      refine lv_iload_n C.1 C.2.1 dX8_item_34 rfl (lv_at hl 2 rfl) ?_
      refine lv_imul C.1 C.2.1 dX8_item_35 ?_
      refine lv_iload_n C.1 C.2.1 dX8_item_36 rfl (lv_at hl 4 rfl) ?_
      refine lv_iadd C.1 C.2.1 dX8_item_37 ?_
      refine lv_lload C.1 C.2.1 dX8_item_38 (lv_at hl 5 rfl) ?_
      refine lv_iload_n C.1 C.2.1 dX8_item_40 rfl (lv_at hl 3 rfl) ?_
      obtain ⟨r7, hc8, hf⟩ := bd hf
      refine call_Sl (ws' := (wX8_item cI cL cS cH a_this a_this_st a_this_past a_this_image a_this_imagePast a_this_tape a_this_laneOf a_this_sizeOf a_this_items a_this_code a_this_from a_this_by a_this_far a_this_met a_this_told q_acts q_imageActs q_tapeMany q_many q_round q_readAt q_isFault q_toldMany q_items q_laneOf q_sizeOf)) (rest := [.int (((24 : Int32) * x1) + x3), .ref a_this_items]) C w (mX8_lowest l D cI cL cS cH _ x4 x2 hc8) (va_cwS 2 C.2.2.2.2 gX8_item_X8_lowest rfl rfl rfl (by decide +kernel) ⟨Nat.le_of_ble_eq_true rfl, Nat.le_of_ble_eq_true rfl⟩) [] [0, 1, 2, 3] 4 trivial trivial ⟨⟨_, rfl, rfl⟩, ⟨_, rfl, rfl⟩, ⟨_, rfl, rfl⟩, ⟨_, rfl, rfl⟩, trivial⟩ rfl (by decide) (by decide) rfl hl.1 rfl (lv_room (Nat.le_of_ble_eq_true rfl)) dX8_item_41 ⟨Nat.zero_le _, Nat.zero_le _⟩ (fun H locs w => ?_)
      obtain ⟨g9, hg10, hf⟩ := bd hf
      refine r_last (ws' := (wX8_item cI cL cS cH a_this a_this_st a_this_past a_this_image a_this_imagePast a_this_tape a_this_laneOf a_this_sizeOf a_this_items a_this_code a_this_from a_this_by a_this_far a_this_met a_this_told q_acts q_imageActs q_tapeMany q_many q_round q_readAt q_isFault q_toldMany g9 q_laneOf q_sizeOf)) C w 1 1 rfl rfl (wl_in hg10) rfl dX8_item_44 (fun H locs w => ?_)
      refine lv_iconst (v := (1 : Int32)) C.1 C.2.1 dX8_item_45 (by decide) ?_
      have hres := Option.some.inj hf
      subst hres
      exact ret_i C hr hlocks w rfl dX8_item_46
    · have hf := ite_f hf hq6
      refine lv_iload C.1 C.2.1 dX8_item_25 (lv_at hl 0 rfl) ?_
      have hres := Option.some.inj hf
      subst hres
      exact ret_i C hr hlocks w rfl dX8_item_27
  · have hf := ite_t hf hq3
    refine lv_iconst (v := (-1 : Int32)) C.1 C.2.1 dX8_item_8 (by decide) ?_
    have hres := Option.some.inj hf
    subst hres
    exact ret_i C hr hlocks w rfl dX8_item_9

set_option maxRecDepth 100000 in
theorem inX8_copy_X8 : ∀ w ∈ u_ws RX8 TX8 22, w ∈ wsX8_copy := by decide +kernel
set_option maxRecDepth 100000 in
theorem lkX8_copy_35 : Cond.fieldLink RX8 35 "CleanNetsModel" "items" "[J" ∈ wsX8_copy := by decide +kernel
set_option maxRecDepth 100000 in
theorem lkX8_copy_29 : Cond.fieldLink RX8 29 "CleanNetsModel" "laneOf" "[I" ∈ wsX8_copy := by decide +kernel
set_option maxRecDepth 100000 in
theorem lkX8_copy_32 : Cond.fieldLink RX8 32 "CleanNetsModel" "sizeOf" "[I" ∈ wsX8_copy := by decide +kernel
abbrev wX8_copy (cI cL cS cH : ClassId) (a_this : Nat) (a_this_st : Nat) (a_this_past : Nat) (a_this_image : Nat) (a_this_imagePast : Nat) (a_this_tape : Nat) (a_this_laneOf : Nat) (a_this_sizeOf : Nat) (a_this_items : Nat) (a_this_code : Nat) (a_this_from : Nat) (a_this_by : Nat) (a_this_far : Nat) (a_this_met : Nat) (a_this_told : Nat) (q_acts : Int32) (q_imageActs : Int32) (q_tapeMany : Int32) (q_many : Int32) (q_round : Int32) (q_readAt : Int32) (q_isFault : Int32) (q_toldMany : Int32) (q_items : Nat → Int64) (q_laneOf : Nat → Int32) (q_sizeOf : Nat → Int32) : va_W := [(a_this, .inr (8, [.ref a_this_st, .ref a_this_past, .int q_acts, .ref a_this_image, .ref a_this_imagePast, .int q_imageActs, .ref a_this_tape, .int q_tapeMany, .ref a_this_laneOf, .ref a_this_sizeOf, .ref a_this_items, .ref a_this_code, .ref a_this_from, .ref a_this_by, .ref a_this_far, .int q_many, .ref a_this_met, .int q_round, .int q_readAt, .int q_isFault, .int q_toldMany, .ref a_this_told])),
  (a_this_items, .inl (cL, 96, .inr (.inl q_items))),
  (a_this_laneOf, .inl (cI, 4, .inl q_laneOf)),
  (a_this_sizeOf, .inl (cI, 4, .inl q_sizeOf))]
def jX8_copy_156 (q_laneOf : Nat → Int32) (q_sizeOf : Nat → Int32) (y132_1 : Int32) (y132_2 : Int32) (y132_3 : Int32) (y132_4 : Int32) (y132_5 : Int32) (y132_6 : Int32) (y156_7 : Int32) (z156_0 : Int32) (k156_q_items : Nat → Int64) : Option ((Int32 × (Nat → Int64)) ⊕ (Int32 × (Nat → Int64))) := Option.bind (rd k156_q_items 96 ((((24 : Int32) * y132_1) + y132_2) + z156_0)) (fun y1 => Option.bind (wl k156_q_items 96 ((((24 : Int32) * y132_3) + y132_4) + z156_0) y1) (fun g3 => some (.inl ((y156_7 + (1 : Int32)), g3))))
def bX8_copy_132 (q_laneOf : Nat → Int32) (q_sizeOf : Nat → Int32) (y132_1 : Int32) (y132_2 : Int32) (y132_3 : Int32) (y132_4 : Int32) (y132_5 : Int32) (y132_6 : Int32) (v132 : Int32 × (Nat → Int64)) : Option ((Int32 × (Nat → Int64)) ⊕ (Int32 × (Nat → Int64))) := (if y132_5 ≤ v132.1 then some (.inr (v132.1, v132.2)) else (if y132_6 = 0 then jX8_copy_156 q_laneOf q_sizeOf y132_1 y132_2 y132_3 y132_4 y132_5 y132_6 v132.1 v132.1 v132.2 else jX8_copy_156 q_laneOf q_sizeOf y132_1 y132_2 y132_3 y132_4 y132_5 y132_6 v132.1 ((y132_5 - (1 : Int32)) - v132.1) v132.2))
def jX8_copy_127 (q_laneOf : Nat → Int32) (q_sizeOf : Nat → Int32) (x1 : Int32) (x2 : Int32) (x3 : Int32) (x4 : Int32) (x5 : Int32) (z127_0 : Int32) (k127_q_items : Nat → Int64) : Option (Int32 × (Nat → Int64)) := Option.bind (itL (bX8_copy_132 q_laneOf q_sizeOf x1 x2 x3 x4 x5 z127_0) fu ((0 : Int32), k127_q_items)) (fun ex7 => some (x5, ex7.2))
def fX8_copy (q_items : Nat → Int64) (q_laneOf : Nat → Int32) (q_sizeOf : Nat → Int32) (x1 : Int32) (x2 : Int32) (x3 : Int32) (x4 : Int32) (x5 : Int32) : Option (Int32 × (Nat → Int64)) := Option.bind (fX8_in ((x1).toInt64) (0 : Int64) (3 : Int64)) (fun r9 => (if r9 = 0 then some ((-1 : Int32), q_items) else Option.bind (fX8_in ((x3).toInt64) (0 : Int64) (3 : Int64)) (fun r12 => (if r12 = 0 then some ((-1 : Int32), q_items) else Option.bind (rd q_laneOf 4 x1) (fun y15 => (if y15 < 0 then some ((-11 : Int32), q_items) else Option.bind (rd q_laneOf 4 x3) (fun y18 => (if 0 ≤ y18 then Option.bind (rd q_laneOf 4 x1) (fun y21 => Option.bind (rd q_laneOf 4 x3) (fun y23 => (if y21 = y23 then (if x5 < 0 then some ((-13 : Int32), q_items) else (if (24 : Int32) < x5 then some ((-13 : Int32), q_items) else (if x2 < 0 then some ((-13 : Int32), q_items) else (if x4 < 0 then some ((-13 : Int32), q_items) else Option.bind (rd q_sizeOf 4 x1) (fun y30 => (if (y30 - x5) < x2 then some ((-13 : Int32), q_items) else Option.bind (rd q_sizeOf 4 x3) (fun y33 => (if x4 ≤ (y33 - x5) then (if x4 ≤ x2 then jX8_copy_127 q_laneOf q_sizeOf x1 x2 x3 x4 x5 (0 : Int32) q_items else jX8_copy_127 q_laneOf q_sizeOf x1 x2 x3 x4 x5 (1 : Int32) q_items) else some ((-13 : Int32), q_items))))))))) else some ((-12 : Int32), q_items)))) else some ((-11 : Int32), q_items)))))))))
abbrev gX8_copy (p : Program) (l : Launch) (e : Env) (s : State) (m : MethodId) (below : List Frame) (meth : Method) (c : Code) (D : vg) (cI cL cS cH : ClassId) (a_this : Nat) (a_this_st : Nat) (a_this_past : Nat) (a_this_image : Nat) (a_this_imagePast : Nat) (a_this_tape : Nat) (a_this_laneOf : Nat) (a_this_sizeOf : Nat) (a_this_items : Nat) (a_this_code : Nat) (a_this_from : Nat) (a_this_by : Nat) (a_this_far : Nat) (a_this_met : Nat) (a_this_told : Nat) (q_acts : Int32) (q_imageActs : Int32) (q_tapeMany : Int32) (q_many : Int32) (q_round : Int32) (q_readAt : Int32) (q_isFault : Int32) (q_toldMany : Int32) (q_items : Nat → Int64) (q_laneOf : Nat → Int32) (q_sizeOf : Nat → Int32) (x1 : Int32) (x2 : Int32) (x3 : Int32) (x4 : Int32) (x5 : Int32) (res : Int32 × (Nat → Int64)) (H : Heap) (locs : List Loc) (g : JFrame) : Prop := W p l e (headSpec wsX8_copy ({ frames := 1, cells := 0, slots := 0, locals := 25 })).room s m ([.ref a_this, .int x1, .int x2, .int x3, .int x4, .int x5] : List Value).toArray below meth c H locs 0 0 (MQ below (va_Qi (fun r' (_ : Unit) => r' = res.1) (fun _ t => pos1 D s.heap.size (wX8_copy cI cL cS cH a_this a_this_st a_this_past a_this_image a_this_imagePast a_this_tape a_this_laneOf a_this_sizeOf a_this_items a_this_code a_this_from a_this_by a_this_far a_this_met a_this_told q_acts q_imageActs q_tapeMany q_many q_round q_readAt q_isFault q_toldMany q_items q_laneOf q_sizeOf) (wX8_copy cI cL cS cH a_this a_this_st a_this_past a_this_image a_this_imagePast a_this_tape a_this_laneOf a_this_sizeOf a_this_items a_this_code a_this_from a_this_by a_this_far a_this_met a_this_told q_acts q_imageActs q_tapeMany q_many q_round q_readAt q_isFault q_toldMany res.2 q_laneOf q_sizeOf) t) (va_A (wX8_copy cI cL cS cH a_this a_this_st a_this_past a_this_image a_this_imagePast a_this_tape a_this_laneOf a_this_sizeOf a_this_items a_this_code a_this_from a_this_by a_this_far a_this_met a_this_told q_acts q_imageActs q_tapeMany q_many q_round q_readAt q_isFault q_toldMany q_items q_laneOf q_sizeOf) s.heap.size)) ([.ref a_this, .int x1, .int x2, .int x3, .int x4, .int x5] : List Value).toArray s 0 0 (va_A (wX8_copy cI cL cS cH a_this a_this_st a_this_past a_this_image a_this_imagePast a_this_tape a_this_laneOf a_this_sizeOf a_this_items a_this_code a_this_from a_this_by a_this_far a_this_met a_this_told q_acts q_imageActs q_tapeMany q_many q_round q_readAt q_isFault q_toldMany q_items q_laneOf q_sizeOf) s.heap.size)) g
set_option maxHeartbeats 4000000 in
set_option maxRecDepth 100000 in
theorem mX8_copy (l : Launch) (D : vg) (cI cL cS cH : ClassId) (sz : Nat) (a_this : Nat) (a_this_st : Nat) (a_this_past : Nat) (a_this_image : Nat) (a_this_imagePast : Nat) (a_this_tape : Nat) (a_this_laneOf : Nat) (a_this_sizeOf : Nat) (a_this_items : Nat) (a_this_code : Nat) (a_this_from : Nat) (a_this_by : Nat) (a_this_far : Nat) (a_this_met : Nat) (a_this_told : Nat) (q_acts : Int32) (q_imageActs : Int32) (q_tapeMany : Int32) (q_many : Int32) (q_round : Int32) (q_readAt : Int32) (q_isFault : Int32) (q_toldMany : Int32) (q_items : Nat → Int64) (q_laneOf : Nat → Int32) (q_sizeOf : Nat → Int32) (x1 : Int32) (x2 : Int32) (x3 : Int32) (x4 : Int32) (x5 : Int32) {res : Int32 × (Nat → Int64)} (hf : fX8_copy q_items q_laneOf q_sizeOf x1 x2 x3 x4 x5 = some res) : cti l yX8_copy wsX8_copy ({ frames := 1, cells := 0, slots := 0, locals := 25 }) D (ty4 cI cL cS cH) sz [.ref a_this, .int x1, .int x2, .int x3, .int x4, .int x5] (wX8_copy cI cL cS cH a_this a_this_st a_this_past a_this_image a_this_imagePast a_this_tape a_this_laneOf a_this_sizeOf a_this_items a_this_code a_this_from a_this_by a_this_far a_this_met a_this_told q_acts q_imageActs q_tapeMany q_many q_round q_readAt q_isFault q_toldMany q_items q_laneOf q_sizeOf) (wX8_copy cI cL cS cH a_this a_this_st a_this_past a_this_image a_this_imagePast a_this_tape a_this_laneOf a_this_sizeOf a_this_items a_this_code a_this_from a_this_by a_this_far a_this_met a_this_told q_acts q_imageActs q_tapeMany q_many q_round q_readAt q_isFault q_toldMany res.2 q_laneOf q_sizeOf) res.1 := by
  refine Met.ofW (cc := cX8_copy) (maxL := 9) (ret := (some .int)) (by decide) rfl ?_
  intro p e s m args below meth c s₁ B hml hv
  obtain ⟨rfl, hpre⟩ := hv
  obtain rfl := hpre.1
  have C : CallFix p m c cX8_copy 9 s _ wsX8_copy RX8 := ⟨B.exec, B.bytes, hml, findClass_of_methodNamed B.named, atoms_spec (ws := wsX8_copy) B.pre⟩
  have hr := B.returns
  have hlocks := B.notSynchronized
  have w := wd_start hpre
  clear hpre B
  have hl := lv_entry ([.ref a_this, .int x1, .int x2, .int x3, .int x4, .int x5]) (n := 9) (Nat.le_of_ble_eq_true rfl)
  rw [lg_entry_eq]
  generalize (lg_sl ([.ref a_this, .int x1, .int x2, .int x3, .int x4, .int x5]) ++ List.replicate (9 - (lg_sl ([.ref a_this, .int x1, .int x2, .int x3, .int x4, .int x5])).length) Slot.unset).toArray = ls at hl ⊢
  have hl : lv_has ls 9 [(0, .ref a_this), (1, .int x1), (2, .int x2), (3, .int x3), (4, .int x4), (5, .int x5)] := hl
  unfold fX8_copy at hf
  have hlp132 : ∀ (y132_1 : Int32) (y132_2 : Int32) (y132_3 : Int32) (y132_4 : Int32) (y132_5 : Int32) (y132_6 : Int32) (ex132 : Int32 × (Nat → Int64)) (hk : (∀ (H : Heap) (locs : List Loc) (ls : Array Slot), wd D (ty4 cI cL cS cH) s (va_A (wX8_copy cI cL cS cH a_this a_this_st a_this_past a_this_image a_this_imagePast a_this_tape a_this_laneOf a_this_sizeOf a_this_items a_this_code a_this_from a_this_by a_this_far a_this_met a_this_told q_acts q_imageActs q_tapeMany q_many q_round q_readAt q_isFault q_toldMany q_items q_laneOf q_sizeOf) s.heap.size) s.heap H locs (wX8_copy cI cL cS cH a_this a_this_st a_this_past a_this_image a_this_imagePast a_this_tape a_this_laneOf a_this_sizeOf a_this_items a_this_code a_this_from a_this_by a_this_far a_this_met a_this_told q_acts q_imageActs q_tapeMany q_many q_round q_readAt q_isFault q_toldMany ex132.2 q_laneOf q_sizeOf) → lv_has ls 9 [(5, .int y132_5)] → gX8_copy p l e s m below meth c D cI cL cS cH a_this a_this_st a_this_past a_this_image a_this_imagePast a_this_tape a_this_laneOf a_this_sizeOf a_this_items a_this_code a_this_from a_this_by a_this_far a_this_met a_this_told q_acts q_imageActs q_tapeMany q_many q_round q_readAt q_isFault q_toldMany q_items q_laneOf q_sizeOf x1 x2 x3 x4 x5 res H locs (F0 m 193 ls []))) (n : Nat) (v132 : Int32 × (Nat → Int64)) (H : Heap) (locs : List Loc) (ls : Array Slot), itL (bX8_copy_132 q_laneOf q_sizeOf y132_1 y132_2 y132_3 y132_4 y132_5 y132_6) n v132 = some ex132 → wd D (ty4 cI cL cS cH) s (va_A (wX8_copy cI cL cS cH a_this a_this_st a_this_past a_this_image a_this_imagePast a_this_tape a_this_laneOf a_this_sizeOf a_this_items a_this_code a_this_from a_this_by a_this_far a_this_met a_this_told q_acts q_imageActs q_tapeMany q_many q_round q_readAt q_isFault q_toldMany q_items q_laneOf q_sizeOf) s.heap.size) s.heap H locs (wX8_copy cI cL cS cH a_this a_this_st a_this_past a_this_image a_this_imagePast a_this_tape a_this_laneOf a_this_sizeOf a_this_items a_this_code a_this_from a_this_by a_this_far a_this_met a_this_told q_acts q_imageActs q_tapeMany q_many q_round q_readAt q_isFault q_toldMany v132.2 q_laneOf q_sizeOf) → lv_has ls 9 [(0, .ref a_this), (1, .int y132_1), (2, .int y132_2), (3, .int y132_3), (4, .int y132_4), (5, .int y132_5), (6, .int y132_6), (7, .int v132.1)] → gX8_copy p l e s m below meth c D cI cL cS cH a_this a_this_st a_this_past a_this_image a_this_imagePast a_this_tape a_this_laneOf a_this_sizeOf a_this_items a_this_code a_this_from a_this_by a_this_far a_this_met a_this_told q_acts q_imageActs q_tapeMany q_many q_round q_readAt q_isFault q_toldMany q_items q_laneOf q_sizeOf x1 x2 x3 x4 x5 res H locs (F0 m 132 ls []) := by
    intro y132_1 y132_2 y132_3 y132_4 y132_5 y132_6 ex132 hk n
    induction n with
    | zero => intro v132 H locs ls hi w hl; exact (itL_zero hi).elim
    | succ n ih =>
      intro v132 H locs ls hi w hl
      obtain ⟨o, hf, hn⟩ := itL_succ hi
      unfold bX8_copy_132 at hf
      have hj156 : ∀ (y156_7 : Int32) (z156_0 : Int32) (k156_q_items : Nat → Int64) (H : Heap) (locs : List Loc) (ls : Array Slot), wd D (ty4 cI cL cS cH) s (va_A (wX8_copy cI cL cS cH a_this a_this_st a_this_past a_this_image a_this_imagePast a_this_tape a_this_laneOf a_this_sizeOf a_this_items a_this_code a_this_from a_this_by a_this_far a_this_met a_this_told q_acts q_imageActs q_tapeMany q_many q_round q_readAt q_isFault q_toldMany q_items q_laneOf q_sizeOf) s.heap.size) s.heap H locs (wX8_copy cI cL cS cH a_this a_this_st a_this_past a_this_image a_this_imagePast a_this_tape a_this_laneOf a_this_sizeOf a_this_items a_this_code a_this_from a_this_by a_this_far a_this_met a_this_told q_acts q_imageActs q_tapeMany q_many q_round q_readAt q_isFault q_toldMany k156_q_items q_laneOf q_sizeOf) → lv_has ls 9 [(0, .ref a_this), (1, .int y132_1), (2, .int y132_2), (3, .int y132_3), (4, .int y132_4), (5, .int y132_5), (6, .int y132_6), (7, .int y156_7)] → jX8_copy_156 q_laneOf q_sizeOf y132_1 y132_2 y132_3 y132_4 y132_5 y132_6 y156_7 z156_0 k156_q_items = some o → gX8_copy p l e s m below meth c D cI cL cS cH a_this a_this_st a_this_past a_this_image a_this_imagePast a_this_tape a_this_laneOf a_this_sizeOf a_this_items a_this_code a_this_from a_this_by a_this_far a_this_met a_this_told q_acts q_imageActs q_tapeMany q_many q_round q_readAt q_isFault q_toldMany q_items q_laneOf q_sizeOf x1 x2 x3 x4 x5 res H locs (F0 m 156 ls [.int z156_0]) := by
        intro y156_7 z156_0 k156_q_items H locs ls w hl hf
        unfold jX8_copy_156 at hf
        refine lv_istore (lv' := [(8, .int z156_0), (0, .ref a_this), (1, .int y132_1), (2, .int y132_2), (3, .int y132_3), (4, .int y132_4), (5, .int y132_5), (6, .int y132_6), (7, .int y156_7)]) C.1 C.2.1 dX8_copy_156 hl (by decide) rfl (fun ls hl => ?_)
        refine lv_aload_n C.1 C.2.1 dX8_copy_158 rfl (lv_at hl 1 rfl) ?_
        refine r_get C w inX8_copy_X8 0 rfl rfl 10 (by decide) lkX8_copy_35 rfl dX8_copy_159 ?_
        refine lv_bipush (v := (24 : Int32)) C.1 C.2.1 dX8_copy_162 (by decide) ?_
        refine lv_iload_n C.1 C.2.1 dX8_copy_164 rfl (lv_at hl 4 rfl) ?_
        refine lv_imul C.1 C.2.1 dX8_copy_165 ?_
        refine lv_iload C.1 C.2.1 dX8_copy_166 (lv_at hl 5 rfl) ?_
        refine lv_iadd C.1 C.2.1 dX8_copy_168 ?_
        refine lv_iload C.1 C.2.1 dX8_copy_169 (lv_at hl 0 rfl) ?_
        refine lv_iadd C.1 C.2.1 dX8_copy_171 ?_
        refine lv_aload_n C.1 C.2.1 dX8_copy_172 rfl (lv_at hl 1 rfl) ?_
        refine r_get C w inX8_copy_X8 0 rfl rfl 10 (by decide) lkX8_copy_35 rfl dX8_copy_173 ?_
        refine lv_bipush (v := (24 : Int32)) C.1 C.2.1 dX8_copy_176 (by decide) ?_
        refine lv_iload_n C.1 C.2.1 dX8_copy_178 rfl (lv_at hl 2 rfl) ?_
        refine lv_imul C.1 C.2.1 dX8_copy_179 ?_
        refine lv_iload_n C.1 C.2.1 dX8_copy_180 rfl (lv_at hl 3 rfl) ?_
        refine lv_iadd C.1 C.2.1 dX8_copy_181 ?_
        refine lv_iload C.1 C.2.1 dX8_copy_182 (lv_at hl 0 rfl) ?_
        refine lv_iadd C.1 C.2.1 dX8_copy_184 ?_
        obtain ⟨y1, hy2, hf⟩ := bd hf
        refine r_lald C w 1 1 rfl rfl (rd_in hy2) dX8_copy_185 ?_
        obtain ⟨g3, hg4, hf⟩ := bd hf
        refine r_last (ws' := (wX8_copy cI cL cS cH a_this a_this_st a_this_past a_this_image a_this_imagePast a_this_tape a_this_laneOf a_this_sizeOf a_this_items a_this_code a_this_from a_this_by a_this_far a_this_met a_this_told q_acts q_imageActs q_tapeMany q_many q_round q_readAt q_isFault q_toldMany g3 q_laneOf q_sizeOf)) C w 1 1 rfl rfl (wl_in hg4) rfl dX8_copy_186 (fun H locs w => ?_)
        refine lv_iinc (v := (y156_7 + (1 : Int32))) (lv' := [(7, .int (y156_7 + (1 : Int32))), (8, .int z156_0), (0, .ref a_this), (1, .int y132_1), (2, .int y132_2), (3, .int y132_3), (4, .int y132_4), (5, .int y132_5), (6, .int y132_6)]) C.1 C.2.1 dX8_copy_187 hl (k := 8) rfl rfl (by decide) rfl (fun ls hl => ?_)
        refine lv_goto (tgt := 132) C.1 C.2.1 dX8_copy_190 (by decide) ?_
        obtain rfl := Option.some.inj hf
        exact ih ((y156_7 + (1 : Int32)), g3) _ _ _ hn w (lv_sub hl [2, 3, 4, 5, 6, 7, 8, 0] rfl)
      refine lv_iload C.1 C.2.1 dX8_copy_132 (lv_at hl 7 rfl) ?_
      refine lv_iload C.1 C.2.1 dX8_copy_134 (lv_at hl 5 rfl) ?_
      refine lv_icmp_ge (tgt := 193) C.1 C.2.1 dX8_copy_136 (by decide) (fun hq5 => ?_) (fun hq5 => ?_)
      · have hf := ite_t hf hq5
        obtain rfl := Option.some.inj hf
        obtain rfl := hn
        exact hk _ _ _ w (lv_sub hl [5] rfl)
      · have hf := ite_f hf hq5
        refine lv_iload C.1 C.2.1 dX8_copy_139 (lv_at hl 6 rfl) ?_
        refine lv_if_eq (tgt := 154) C.1 C.2.1 dX8_copy_141 (by decide) (fun hq6 => ?_) (fun hq6 => ?_)
        · have hf := ite_t hf hq6
          refine lv_iload C.1 C.2.1 dX8_copy_154 (lv_at hl 7 rfl) ?_
          exact hj156 v132.1 v132.1 v132.2 _ _ _ w (lv_sub hl [0, 1, 2, 3, 4, 5, 6, 7] rfl) hf
        · have hf := ite_f hf hq6
          refine lv_iload C.1 C.2.1 dX8_copy_144 (lv_at hl 5 rfl) ?_
          refine lv_iconst (v := (1 : Int32)) C.1 C.2.1 dX8_copy_146 (by decide) ?_
          refine lv_isub C.1 C.2.1 dX8_copy_147 ?_
          refine lv_iload C.1 C.2.1 dX8_copy_148 (lv_at hl 7 rfl) ?_
          refine lv_isub C.1 C.2.1 dX8_copy_150 ?_
          refine lv_goto (tgt := 156) C.1 C.2.1 dX8_copy_151 (by decide) ?_
          exact hj156 v132.1 ((y132_5 - (1 : Int32)) - v132.1) v132.2 _ _ _ w (lv_sub hl [0, 1, 2, 3, 4, 5, 6, 7] rfl) hf
  have hj127 : ∀ (z127_0 : Int32) (k127_q_items : Nat → Int64) (H : Heap) (locs : List Loc) (ls : Array Slot), wd D (ty4 cI cL cS cH) s (va_A (wX8_copy cI cL cS cH a_this a_this_st a_this_past a_this_image a_this_imagePast a_this_tape a_this_laneOf a_this_sizeOf a_this_items a_this_code a_this_from a_this_by a_this_far a_this_met a_this_told q_acts q_imageActs q_tapeMany q_many q_round q_readAt q_isFault q_toldMany q_items q_laneOf q_sizeOf) s.heap.size) s.heap H locs (wX8_copy cI cL cS cH a_this a_this_st a_this_past a_this_image a_this_imagePast a_this_tape a_this_laneOf a_this_sizeOf a_this_items a_this_code a_this_from a_this_by a_this_far a_this_met a_this_told q_acts q_imageActs q_tapeMany q_many q_round q_readAt q_isFault q_toldMany k127_q_items q_laneOf q_sizeOf) → lv_has ls 9 [(0, .ref a_this), (1, .int x1), (2, .int x2), (3, .int x3), (4, .int x4), (5, .int x5)] → jX8_copy_127 q_laneOf q_sizeOf x1 x2 x3 x4 x5 z127_0 k127_q_items = some res → gX8_copy p l e s m below meth c D cI cL cS cH a_this a_this_st a_this_past a_this_image a_this_imagePast a_this_tape a_this_laneOf a_this_sizeOf a_this_items a_this_code a_this_from a_this_by a_this_far a_this_met a_this_told q_acts q_imageActs q_tapeMany q_many q_round q_readAt q_isFault q_toldMany q_items q_laneOf q_sizeOf x1 x2 x3 x4 x5 res H locs (F0 m 127 ls [.int z127_0]) := by
    intro z127_0 k127_q_items H locs ls w hl hf
    unfold jX8_copy_127 at hf
    refine lv_istore (lv' := [(6, .int z127_0), (0, .ref a_this), (1, .int x1), (2, .int x2), (3, .int x3), (4, .int x4), (5, .int x5)]) C.1 C.2.1 dX8_copy_127 hl (by decide) rfl (fun ls hl => ?_)
    refine lv_iconst (v := (0 : Int32)) C.1 C.2.1 dX8_copy_129 (by decide) ?_
    refine lv_istore (lv' := [(7, .int (0 : Int32)), (6, .int z127_0), (0, .ref a_this), (1, .int x1), (2, .int x2), (3, .int x3), (4, .int x4), (5, .int x5)]) C.1 C.2.1 dX8_copy_130 hl (by decide) rfl (fun ls hl => ?_)
    obtain ⟨ex7, hx8, hf⟩ := bd hf
    refine hlp132 x1 x2 x3 x4 x5 z127_0 ex7 ?_ fu ((0 : Int32), k127_q_items) _ _ _ hx8 w (lv_sub hl [2, 3, 4, 5, 6, 7, 1, 0] rfl)
    intro H locs ls w hl
    refine lv_iload C.1 C.2.1 dX8_copy_193 (lv_at hl 0 rfl) ?_
    have hres := Option.some.inj hf
    subst hres
    exact ret_i C hr hlocks w rfl dX8_copy_195
  refine lv_iload_n C.1 C.2.1 dX8_copy_0 rfl (lv_at hl 1 rfl) ?_
  refine lv_i2l C.1 C.2.1 dX8_copy_1 rfl ?_
  refine lv_lconst (v := (0 : Int64)) C.1 C.2.1 dX8_copy_2 (by decide) ?_
  refine lv_ldc2 (v := (3 : Int64)) C.1 C.2.1 C.2.2.2.1 (C.2.2.2.2 (.constantLong RX8 252 (3 : Int64)) (by decide +kernel)) dX8_copy_3 ?_
  obtain ⟨r9, hc10, hf⟩ := bd hf
  refine call_Si (ws' := (wX8_copy cI cL cS cH a_this a_this_st a_this_past a_this_image a_this_imagePast a_this_tape a_this_laneOf a_this_sizeOf a_this_items a_this_code a_this_from a_this_by a_this_far a_this_met a_this_told q_acts q_imageActs q_tapeMany q_many q_round q_readAt q_isFault q_toldMany q_items q_laneOf q_sizeOf)) (rest := []) C w (mX8_in l D cI cL cS cH _ ((x1).toInt64) (0 : Int64) (3 : Int64) hc10) (va_cwS 3 C.2.2.2.2 gX8_copy_X8_in rfl rfl rfl (by decide +kernel) ⟨Nat.le_of_ble_eq_true rfl, Nat.le_of_ble_eq_true rfl⟩) [] [0, 1, 2, 3] 4 trivial trivial ⟨⟨_, rfl, rfl⟩, ⟨_, rfl, rfl⟩, ⟨_, rfl, rfl⟩, ⟨_, rfl, rfl⟩, trivial⟩ rfl (by decide) (by decide) rfl hl.1 rfl (lv_room (Nat.le_of_ble_eq_true rfl)) dX8_copy_6 ⟨Nat.zero_le _, Nat.zero_le _⟩ (fun H locs w => ?_)
  refine lv_if_eq (tgt := 24) C.1 C.2.1 dX8_copy_9 (by decide) (fun hq11 => ?_) (fun hq11 => ?_)
  · have hf := ite_t hf hq11
    refine lv_iconst (v := (-1 : Int32)) C.1 C.2.1 dX8_copy_24 (by decide) ?_
    have hres := Option.some.inj hf
    subst hres
    exact ret_i C hr hlocks w rfl dX8_copy_25
  · have hf := ite_f hf hq11
    refine lv_iload_n C.1 C.2.1 dX8_copy_12 rfl (lv_at hl 3 rfl) ?_
    refine lv_i2l C.1 C.2.1 dX8_copy_13 rfl ?_
    refine lv_lconst (v := (0 : Int64)) C.1 C.2.1 dX8_copy_14 (by decide) ?_
    refine lv_ldc2 (v := (3 : Int64)) C.1 C.2.1 C.2.2.2.1 (C.2.2.2.2 (.constantLong RX8 252 (3 : Int64)) (by decide +kernel)) dX8_copy_15 ?_
    obtain ⟨r12, hc13, hf⟩ := bd hf
    refine call_Si (ws' := (wX8_copy cI cL cS cH a_this a_this_st a_this_past a_this_image a_this_imagePast a_this_tape a_this_laneOf a_this_sizeOf a_this_items a_this_code a_this_from a_this_by a_this_far a_this_met a_this_told q_acts q_imageActs q_tapeMany q_many q_round q_readAt q_isFault q_toldMany q_items q_laneOf q_sizeOf)) (rest := []) C w (mX8_in l D cI cL cS cH _ ((x3).toInt64) (0 : Int64) (3 : Int64) hc13) (va_cwS 3 C.2.2.2.2 gX8_copy_X8_in rfl rfl rfl (by decide +kernel) ⟨Nat.le_of_ble_eq_true rfl, Nat.le_of_ble_eq_true rfl⟩) [] [0, 1, 2, 3] 4 trivial trivial ⟨⟨_, rfl, rfl⟩, ⟨_, rfl, rfl⟩, ⟨_, rfl, rfl⟩, ⟨_, rfl, rfl⟩, trivial⟩ rfl (by decide) (by decide) rfl hl.1 rfl (lv_room (Nat.le_of_ble_eq_true rfl)) dX8_copy_18 ⟨Nat.zero_le _, Nat.zero_le _⟩ (fun H locs w => ?_)
    refine lv_if_ne (tgt := 26) C.1 C.2.1 dX8_copy_21 (by decide) (fun hq14 => ?_) (fun hq14 => ?_)
    · have hf := ite_f hf hq14
      refine lv_aload_n C.1 C.2.1 dX8_copy_26 rfl (lv_at hl 0 rfl) ?_
      refine r_get C w inX8_copy_X8 0 rfl rfl 8 (by decide) lkX8_copy_29 rfl dX8_copy_27 ?_
      refine lv_iload_n C.1 C.2.1 dX8_copy_30 rfl (lv_at hl 1 rfl) ?_
      obtain ⟨y15, hy16, hf⟩ := bd hf
      refine r_iald C w 2 0 rfl rfl (rd_in hy16) dX8_copy_31 ?_
      refine lv_if_lt (tgt := 44) C.1 C.2.1 dX8_copy_32 (by decide) (fun hq17 => ?_) (fun hq17 => ?_)
      · have hf := ite_t hf hq17
        refine lv_bipush (v := (-11 : Int32)) C.1 C.2.1 dX8_copy_44 (by decide) ?_
        have hres := Option.some.inj hf
        subst hres
        exact ret_i C hr hlocks w rfl dX8_copy_46
      · have hf := ite_f hf hq17
        refine lv_aload_n C.1 C.2.1 dX8_copy_35 rfl (lv_at hl 0 rfl) ?_
        refine r_get C w inX8_copy_X8 0 rfl rfl 8 (by decide) lkX8_copy_29 rfl dX8_copy_36 ?_
        refine lv_iload_n C.1 C.2.1 dX8_copy_39 rfl (lv_at hl 3 rfl) ?_
        obtain ⟨y18, hy19, hf⟩ := bd hf
        refine r_iald C w 2 0 rfl rfl (rd_in hy19) dX8_copy_40 ?_
        refine lv_if_ge (tgt := 47) C.1 C.2.1 dX8_copy_41 (by decide) (fun hq20 => ?_) (fun hq20 => ?_)
        · have hf := ite_t hf hq20
          refine lv_aload_n C.1 C.2.1 dX8_copy_47 rfl (lv_at hl 0 rfl) ?_
          refine r_get C w inX8_copy_X8 0 rfl rfl 8 (by decide) lkX8_copy_29 rfl dX8_copy_48 ?_
          refine lv_iload_n C.1 C.2.1 dX8_copy_51 rfl (lv_at hl 1 rfl) ?_
          obtain ⟨y21, hy22, hf⟩ := bd hf
          refine r_iald C w 2 0 rfl rfl (rd_in hy22) dX8_copy_52 ?_
          refine lv_aload_n C.1 C.2.1 dX8_copy_53 rfl (lv_at hl 0 rfl) ?_
          refine r_get C w inX8_copy_X8 0 rfl rfl 8 (by decide) lkX8_copy_29 rfl dX8_copy_54 ?_
          refine lv_iload_n C.1 C.2.1 dX8_copy_57 rfl (lv_at hl 3 rfl) ?_
          obtain ⟨y23, hy24, hf⟩ := bd hf
          refine r_iald C w 2 0 rfl rfl (rd_in hy24) dX8_copy_58 ?_
          refine lv_icmp_eq (tgt := 65) C.1 C.2.1 dX8_copy_59 (by decide) (fun hq25 => ?_) (fun hq25 => ?_)
          · have hf := ite_t hf hq25
            refine lv_iload C.1 C.2.1 dX8_copy_65 (lv_at hl 5 rfl) ?_
            refine lv_if_lt (tgt := 113) C.1 C.2.1 dX8_copy_67 (by decide) (fun hq26 => ?_) (fun hq26 => ?_)
            · have hf := ite_t hf hq26
              refine lv_bipush (v := (-13 : Int32)) C.1 C.2.1 dX8_copy_113 (by decide) ?_
              have hres := Option.some.inj hf
              subst hres
              exact ret_i C hr hlocks w rfl dX8_copy_115
            · have hf := ite_f hf hq26
              refine lv_iload C.1 C.2.1 dX8_copy_70 (lv_at hl 5 rfl) ?_
              refine lv_bipush (v := (24 : Int32)) C.1 C.2.1 dX8_copy_72 (by decide) ?_
              refine lv_icmp_gt (tgt := 113) C.1 C.2.1 dX8_copy_74 (by decide) (fun hq27 => ?_) (fun hq27 => ?_)
              · have hf := ite_t hf hq27
                refine lv_bipush (v := (-13 : Int32)) C.1 C.2.1 dX8_copy_113 (by decide) ?_
                have hres := Option.some.inj hf
                subst hres
                exact ret_i C hr hlocks w rfl dX8_copy_115
              · have hf := ite_f hf hq27
                refine lv_iload_n C.1 C.2.1 dX8_copy_77 rfl (lv_at hl 2 rfl) ?_
                refine lv_if_lt (tgt := 113) C.1 C.2.1 dX8_copy_78 (by decide) (fun hq28 => ?_) (fun hq28 => ?_)
                · have hf := ite_t hf hq28
                  refine lv_bipush (v := (-13 : Int32)) C.1 C.2.1 dX8_copy_113 (by decide) ?_
                  have hres := Option.some.inj hf
                  subst hres
                  exact ret_i C hr hlocks w rfl dX8_copy_115
                · have hf := ite_f hf hq28
                  refine lv_iload C.1 C.2.1 dX8_copy_81 (lv_at hl 4 rfl) ?_
                  refine lv_if_lt (tgt := 113) C.1 C.2.1 dX8_copy_83 (by decide) (fun hq29 => ?_) (fun hq29 => ?_)
                  · have hf := ite_t hf hq29
                    refine lv_bipush (v := (-13 : Int32)) C.1 C.2.1 dX8_copy_113 (by decide) ?_
                    have hres := Option.some.inj hf
                    subst hres
                    exact ret_i C hr hlocks w rfl dX8_copy_115
                  · have hf := ite_f hf hq29
                    refine lv_iload_n C.1 C.2.1 dX8_copy_86 rfl (lv_at hl 2 rfl) ?_
                    refine lv_aload_n C.1 C.2.1 dX8_copy_87 rfl (lv_at hl 0 rfl) ?_
                    refine r_get C w inX8_copy_X8 0 rfl rfl 9 (by decide) lkX8_copy_32 rfl dX8_copy_88 ?_
                    refine lv_iload_n C.1 C.2.1 dX8_copy_91 rfl (lv_at hl 1 rfl) ?_
                    obtain ⟨y30, hy31, hf⟩ := bd hf
                    refine r_iald C w 3 0 rfl rfl (rd_in hy31) dX8_copy_92 ?_
                    refine lv_iload C.1 C.2.1 dX8_copy_93 (lv_at hl 5 rfl) ?_
                    refine lv_isub C.1 C.2.1 dX8_copy_95 ?_
                    refine lv_icmp_gt (tgt := 113) C.1 C.2.1 dX8_copy_96 (by decide) (fun hq32 => ?_) (fun hq32 => ?_)
                    · have hf := ite_t hf hq32
                      refine lv_bipush (v := (-13 : Int32)) C.1 C.2.1 dX8_copy_113 (by decide) ?_
                      have hres := Option.some.inj hf
                      subst hres
                      exact ret_i C hr hlocks w rfl dX8_copy_115
                    · have hf := ite_f hf hq32
                      refine lv_iload C.1 C.2.1 dX8_copy_99 (lv_at hl 4 rfl) ?_
                      refine lv_aload_n C.1 C.2.1 dX8_copy_101 rfl (lv_at hl 0 rfl) ?_
                      refine r_get C w inX8_copy_X8 0 rfl rfl 9 (by decide) lkX8_copy_32 rfl dX8_copy_102 ?_
                      refine lv_iload_n C.1 C.2.1 dX8_copy_105 rfl (lv_at hl 3 rfl) ?_
                      obtain ⟨y33, hy34, hf⟩ := bd hf
                      refine r_iald C w 3 0 rfl rfl (rd_in hy34) dX8_copy_106 ?_
                      refine lv_iload C.1 C.2.1 dX8_copy_107 (lv_at hl 5 rfl) ?_
                      refine lv_isub C.1 C.2.1 dX8_copy_109 ?_
                      refine lv_icmp_le (tgt := 116) C.1 C.2.1 dX8_copy_110 (by decide) (fun hq35 => ?_) (fun hq35 => ?_)
                      · have hf := ite_t hf hq35
                        refine lv_iload C.1 C.2.1 dX8_copy_116 (lv_at hl 4 rfl) ?_
                        refine lv_iload_n C.1 C.2.1 dX8_copy_118 rfl (lv_at hl 2 rfl) ?_
                        refine lv_icmp_le (tgt := 126) C.1 C.2.1 dX8_copy_119 (by decide) (fun hq36 => ?_) (fun hq36 => ?_)
                        · have hf := ite_t hf hq36
                          refine lv_iconst (v := (0 : Int32)) C.1 C.2.1 dX8_copy_126 (by decide) ?_
                          exact hj127 (0 : Int32) q_items _ _ _ w (lv_sub hl [0, 1, 2, 3, 4, 5] rfl) hf
                        · have hf := ite_f hf hq36
                          refine lv_iconst (v := (1 : Int32)) C.1 C.2.1 dX8_copy_122 (by decide) ?_
                          refine lv_goto (tgt := 127) C.1 C.2.1 dX8_copy_123 (by decide) ?_
                          exact hj127 (1 : Int32) q_items _ _ _ w (lv_sub hl [0, 1, 2, 3, 4, 5] rfl) hf
                      · have hf := ite_f hf hq35
                        refine lv_bipush (v := (-13 : Int32)) C.1 C.2.1 dX8_copy_113 (by decide) ?_
                        have hres := Option.some.inj hf
                        subst hres
                        exact ret_i C hr hlocks w rfl dX8_copy_115
          · have hf := ite_f hf hq25
            refine lv_bipush (v := (-12 : Int32)) C.1 C.2.1 dX8_copy_62 (by decide) ?_
            have hres := Option.some.inj hf
            subst hres
            exact ret_i C hr hlocks w rfl dX8_copy_64
        · have hf := ite_f hf hq20
          refine lv_bipush (v := (-11 : Int32)) C.1 C.2.1 dX8_copy_44 (by decide) ?_
          have hres := Option.some.inj hf
          subst hres
          exact ret_i C hr hlocks w rfl dX8_copy_46
    · have hf := ite_t hf hq14
      refine lv_iconst (v := (-1 : Int32)) C.1 C.2.1 dX8_copy_24 (by decide) ?_
      have hres := Option.some.inj hf
      subst hres
      exact ret_i C hr hlocks w rfl dX8_copy_25
