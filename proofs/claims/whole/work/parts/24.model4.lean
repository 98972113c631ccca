set_option maxRecDepth 100000 in
theorem inX8_links_X8 : ∀ w ∈ u_ws RX8 TX8 22, w ∈ wsX8_links := by decide +kernel
set_option maxRecDepth 100000 in
theorem lkX8_links_54 : Cond.fieldLink RX8 54 "CleanNetsModel" "told" "[I" ∈ wsX8_links := by decide +kernel
abbrev wX8_links (cI cL cS cH : ClassId) (a_this : Nat) (a_this_st : Nat) (a_this_past : Nat) (a_this_image : Nat) (a_this_imagePast : Nat) (a_this_tape : Nat) (a_this_laneOf : Nat) (a_this_sizeOf : Nat) (a_this_items : Nat) (a_this_code : Nat) (a_this_from : Nat) (a_this_by : Nat) (a_this_far : Nat) (a_this_met : Nat) (a_this_told : Nat) (q_acts : Int32) (q_imageActs : Int32) (q_tapeMany : Int32) (q_many : Int32) (q_round : Int32) (q_readAt : Int32) (q_isFault : Int32) (q_toldMany : Int32) (q_told : Nat → Int32) : va_W := [(a_this, .inr (8, [.ref a_this_st, .ref a_this_past, .int q_acts, .ref a_this_image, .ref a_this_imagePast, .int q_imageActs, .ref a_this_tape, .int q_tapeMany, .ref a_this_laneOf, .ref a_this_sizeOf, .ref a_this_items, .ref a_this_code, .ref a_this_from, .ref a_this_by, .ref a_this_far, .int q_many, .ref a_this_met, .int q_round, .int q_readAt, .int q_isFault, .int q_toldMany, .ref a_this_told])),
  (a_this_told, .inl (cI, 7, .inl q_told))]
def fX8_links (q_told : Nat → Int32) (x1 : Int32) (x2 : Int32) : Option (Nat → Int32) := Option.bind (rd q_told 7 x1) (fun y1 => Option.bind (wi q_told 7 x1 (y1 ||| ((1 : Int32) <<< (x2 &&& 31)))) (fun g3 => Option.bind (rd g3 7 x2) (fun y5 => Option.bind (wi g3 7 x2 (y5 ||| ((1 : Int32) <<< (x1 &&& 31)))) (fun g7 => some g7))))
set_option maxHeartbeats 4000000 in
set_option maxRecDepth 100000 in
theorem mX8_links (l : Launch) (D : vg) (cI cL cS cH : ClassId) (sz : Nat) (a_this : Nat) (a_this_st : Nat) (a_this_past : Nat) (a_this_image : Nat) (a_this_imagePast : Nat) (a_this_tape : Nat) (a_this_laneOf : Nat) (a_this_sizeOf : Nat) (a_this_items : Nat) (a_this_code : Nat) (a_this_from : Nat) (a_this_by : Nat) (a_this_far : Nat) (a_this_met : Nat) (a_this_told : Nat) (q_acts : Int32) (q_imageActs : Int32) (q_tapeMany : Int32) (q_many : Int32) (q_round : Int32) (q_readAt : Int32) (q_isFault : Int32) (q_toldMany : Int32) (q_told : Nat → Int32) (x1 : Int32) (x2 : Int32) {res : Nat → Int32} (hf : fX8_links q_told x1 x2 = some res) : ctv l yX8_links wsX8_links ({ frames := 0, cells := 0, slots := 0, locals := 0 }) D (ty4 cI cL cS cH) sz [.ref a_this, .int x1, .int x2] (wX8_links cI cL cS cH a_this a_this_st a_this_past a_this_image a_this_imagePast a_this_tape a_this_laneOf a_this_sizeOf a_this_items a_this_code a_this_from a_this_by a_this_far a_this_met a_this_told q_acts q_imageActs q_tapeMany q_many q_round q_readAt q_isFault q_toldMany q_told) (wX8_links cI cL cS cH a_this a_this_st a_this_past a_this_image a_this_imagePast a_this_tape a_this_laneOf a_this_sizeOf a_this_items a_this_code a_this_from a_this_by a_this_far a_this_met a_this_told q_acts q_imageActs q_tapeMany q_many q_round q_readAt q_isFault q_toldMany res) := by
  refine Met.ofW (cc := cX8_links) (maxL := 3) (ret := none) (by decide) rfl ?_
  intro p e s m args below meth c s₁ B hml hv
  obtain ⟨rfl, hpre⟩ := hv
  obtain rfl := hpre.1
  have C : CallFix p m c cX8_links 3 s _ wsX8_links RX8 := ⟨B.exec, B.bytes, hml, findClass_of_methodNamed B.named, atoms_spec (ws := wsX8_links) B.pre⟩
  have hr := B.returns
  have hlocks := B.notSynchronized
  have w := wd_start hpre
  clear hpre B
  have hl := lv_entry ([.ref a_this, .int x1, .int x2]) (n := 3) (Nat.le_of_ble_eq_true rfl)
  rw [lg_entry_eq]
  generalize (lg_sl ([.ref a_this, .int x1, .int x2]) ++ List.replicate (3 - (lg_sl ([.ref a_this, .int x1, .int x2])).length) Slot.unset).toArray = ls at hl ⊢
  have hl : lv_has ls 3 [(0, .ref a_this), (1, .int x1), (2, .int x2)] := hl
  unfold fX8_links at hf
  refine lv_aload_n C.1 C.2.1 dX8_links_0 rfl (lv_at hl 0 rfl) ?_
  refine r_get C w inX8_links_X8 0 rfl rfl 21 (by decide) lkX8_links_54 rfl dX8_links_1 ?_
  refine lv_iload_n C.1 C.2.1 dX8_links_4 rfl (lv_at hl 1 rfl) ?_
  refine lv_dup2_11 C.1 C.2.1 dX8_links_5 rfl rfl ?_
  obtain ⟨y1, hy2, hf⟩ := bd hf
  refine r_iald C w 1 0 rfl rfl (rd_in hy2) dX8_links_6 ?_
  refine lv_iconst (v := (1 : Int32)) C.1 C.2.1 dX8_links_7 (by decide) ?_
  refine lv_iload_n C.1 C.2.1 dX8_links_8 rfl (lv_at hl 2 rfl) ?_
  refine lv_ishl C.1 C.2.1 dX8_links_9 ?_
  refine lv_ior C.1 C.2.1 dX8_links_10 ?_
  obtain ⟨g3, hg4, hf⟩ := bd hf
  refine r_iast (ws' := (wX8_links cI cL cS cH a_this a_this_st a_this_past a_this_image a_this_imagePast a_this_tape a_this_laneOf a_this_sizeOf a_this_items a_this_code a_this_from a_this_by a_this_far a_this_met a_this_told q_acts q_imageActs q_tapeMany q_many q_round q_readAt q_isFault q_toldMany g3)) C w 1 0 rfl rfl (wi_in hg4) rfl dX8_links_11 (fun H locs w => ?_)
  refine lv_aload_n C.1 C.2.1 dX8_links_12 rfl (lv_at hl 0 rfl) ?_
  refine r_get C w inX8_links_X8 0 rfl rfl 21 (by decide) lkX8_links_54 rfl dX8_links_13 ?_
  refine lv_iload_n C.1 C.2.1 dX8_links_16 rfl (lv_at hl 2 rfl) ?_
  refine lv_dup2_11 C.1 C.2.1 dX8_links_17 rfl rfl ?_
  obtain ⟨y5, hy6, hf⟩ := bd hf
  refine r_iald C w 1 0 rfl rfl (rd_in hy6) dX8_links_18 ?_
  refine lv_iconst (v := (1 : Int32)) C.1 C.2.1 dX8_links_19 (by decide) ?_
  refine lv_iload_n C.1 C.2.1 dX8_links_20 rfl (lv_at hl 1 rfl) ?_
  refine lv_ishl C.1 C.2.1 dX8_links_21 ?_
  refine lv_ior C.1 C.2.1 dX8_links_22 ?_
  obtain ⟨g7, hg8, hf⟩ := bd hf
  refine r_iast (ws' := (wX8_links cI cL cS cH a_this a_this_st a_this_past a_this_image a_this_imagePast a_this_tape a_this_laneOf a_this_sizeOf a_this_items a_this_code a_this_from a_this_by a_this_far a_this_met a_this_told q_acts q_imageActs q_tapeMany q_many q_round q_readAt q_isFault q_toldMany g7)) C w 1 0 rfl rfl (wi_in hg8) rfl dX8_links_23 (fun H locs w => ?_)
  have hres := Option.some.inj hf
  subst hres
  exact ret_v C hr hlocks w dX8_links_24

set_option maxRecDepth 100000 in
theorem inX8_readsLink_X8 : ∀ w ∈ u_ws RX8 TX8 22, w ∈ wsX8_readsLink := by decide +kernel
set_option maxRecDepth 100000 in
theorem lkX8_readsLink_190 : Cond.fieldLink RX8 190 "CleanNetsModel" "isFault" "Z" ∈ wsX8_readsLink := by decide +kernel
set_option maxRecDepth 100000 in
theorem lkX8_readsLink_212 : Cond.fieldLink RX8 212 "CleanNetsModel" "toldMany" "I" ∈ wsX8_readsLink := by decide +kernel
set_option maxRecDepth 100000 in
theorem lkX8_readsLink_54 : Cond.fieldLink RX8 54 "CleanNetsModel" "told" "[I" ∈ wsX8_readsLink := by decide +kernel
abbrev wX8_readsLink (cI cL cS cH : ClassId) (a_this : Nat) (a_this_st : Nat) (a_this_past : Nat) (a_this_image : Nat) (a_this_imagePast : Nat) (a_this_tape : Nat) (a_this_laneOf : Nat) (a_this_sizeOf : Nat) (a_this_items : Nat) (a_this_code : Nat) (a_this_from : Nat) (a_this_by : Nat) (a_this_far : Nat) (a_this_met : Nat) (a_this_told : Nat) (q_acts : Int32) (q_imageActs : Int32) (q_tapeMany : Int32) (q_many : Int32) (q_round : Int32) (q_readAt : Int32) (q_isFault : Int32) (q_toldMany : Int32) (q_tape : Nat → Int32) (q_told : Nat → Int32) : va_W := [(a_this, .inr (8, [.ref a_this_st, .ref a_this_past, .int q_acts, .ref a_this_image, .ref a_this_imagePast, .int q_imageActs, .ref a_this_tape, .int q_tapeMany, .ref a_this_laneOf, .ref a_this_sizeOf, .ref a_this_items, .ref a_this_code, .ref a_this_from, .ref a_this_by, .ref a_this_far, .int q_many, .ref a_this_met, .int q_round, .int q_readAt, .int q_isFault, .int q_toldMany, .ref a_this_told])),
  (a_this_tape, .inl (cI, 90, .inl q_tape)),
  (a_this_told, .inl (cI, 7, .inl q_told))]
def jX8_readsLink_103 (q_tapeMany : Int32) (q_toldMany : Int32) (q_tape : Nat → Int32) (y103_1 : Int32) (y103_2 : Int32) (z103_0 : Int32) (k103_q_readAt : Int32) (k103_q_isFault : Int32) (k103_q_told : Nat → Int32) : Option (Int32 × Int32 × (Nat → Int32)) := Option.bind (fX8_takes k103_q_readAt k103_q_isFault z103_0) (fun r1 => (if r1.2 = 0 then Option.bind (fX8_links k103_q_told y103_1 y103_2) (fun r4 => some (r1.1, r1.2, r4)) else some (r1.1, r1.2, k103_q_told)))
def jX8_readsLink_102 (q_tapeMany : Int32) (q_toldMany : Int32) (q_tape : Nat → Int32) (y102_1 : Int32) (y102_2 : Int32) (k102_q_readAt : Int32) (k102_q_isFault : Int32) (k102_q_told : Nat → Int32) : Option (Int32 × Int32 × (Nat → Int32)) := jX8_readsLink_103 q_tapeMany q_toldMany q_tape y102_1 y102_2 (0 : Int32) k102_q_readAt k102_q_isFault k102_q_told
def jX8_readsLink_98 (q_tapeMany : Int32) (q_toldMany : Int32) (q_tape : Nat → Int32) (y98_1 : Int32) (y98_2 : Int32) (k98_q_readAt : Int32) (k98_q_isFault : Int32) (k98_q_told : Nat → Int32) : Option (Int32 × Int32 × (Nat → Int32)) := jX8_readsLink_103 q_tapeMany q_toldMany q_tape y98_1 y98_2 (1 : Int32) k98_q_readAt k98_q_isFault k98_q_told
def jX8_readsLink_55 (q_tapeMany : Int32) (q_toldMany : Int32) (q_tape : Nat → Int32) (y55_1 : Int32) (z55_0 : Int32) (k55_q_readAt : Int32) (k55_q_isFault : Int32) (k55_q_told : Nat → Int32) : Option (Int32 × Int32 × (Nat → Int32)) := (if k55_q_isFault = 0 then Option.bind (fX8_in ((z55_0).toInt64) (0 : Int64) (((q_toldMany - (1 : Int32))).toInt64)) (fun r7 => (if r7 = 0 then jX8_readsLink_102 q_tapeMany q_toldMany q_tape y55_1 z55_0 k55_q_readAt k55_q_isFault k55_q_told else (if z55_0 = y55_1 then jX8_readsLink_102 q_tapeMany q_toldMany q_tape y55_1 z55_0 k55_q_readAt k55_q_isFault k55_q_told else Option.bind (rd k55_q_told 7 y55_1) (fun y11 => Option.bind (fX8_has y11 z55_0) (fun r13 => (if r13 = 0 then jX8_readsLink_98 q_tapeMany q_toldMany q_tape y55_1 z55_0 k55_q_readAt k55_q_isFault k55_q_told else jX8_readsLink_102 q_tapeMany q_toldMany q_tape y55_1 z55_0 k55_q_readAt k55_q_isFault k55_q_told)))))) else jX8_readsLink_98 q_tapeMany q_toldMany q_tape y55_1 z55_0 k55_q_readAt k55_q_isFault k55_q_told)
def jX8_readsLink_34 (q_tapeMany : Int32) (q_toldMany : Int32) (q_tape : Nat → Int32) (y34_1 : Int32) (z34_0 : Int32) (k34_q_readAt : Int32) (k34_q_isFault : Int32) (k34_q_told : Nat → Int32) : Option (Int32 × Int32 × (Nat → Int32)) := Option.bind (fX8_takes k34_q_readAt k34_q_isFault z34_0) (fun r16 => (if r16.2 = 0 then Option.bind (fX8_looks q_tapeMany r16.1 q_tape) (fun r19 => jX8_readsLink_55 q_tapeMany q_toldMany q_tape y34_1 (r19.1 - (48 : Int32)) r19.2 r16.2 k34_q_told) else jX8_readsLink_55 q_tapeMany q_toldMany q_tape y34_1 (0 : Int32) r16.1 r16.2 k34_q_told))
def jX8_readsLink_29 (q_tapeMany : Int32) (q_toldMany : Int32) (q_tape : Nat → Int32) (y29_1 : Int32) (k29_q_readAt : Int32) (k29_q_isFault : Int32) (k29_q_told : Nat → Int32) : Option (Int32 × Int32 × (Nat → Int32)) := jX8_readsLink_34 q_tapeMany q_toldMany q_tape y29_1 (1 : Int32) k29_q_readAt k29_q_isFault k29_q_told
def fX8_readsLink (q_tapeMany : Int32) (q_readAt : Int32) (q_isFault : Int32) (q_toldMany : Int32) (q_tape : Nat → Int32) (q_told : Nat → Int32)  : Option (Int32 × Int32 × (Nat → Int32)) := Option.bind (fX8_figure q_tapeMany q_readAt q_isFault q_tape (0 : Int32) (q_toldMany - (1 : Int32))) (fun r21 => (if r21.2.2 = 0 then Option.bind (fX8_looks q_tapeMany r21.2.1 q_tape) (fun r24 => (if r24.1 = (45 : Int32) then jX8_readsLink_29 q_tapeMany q_toldMany q_tape r21.1 r24.2 r21.2.2 q_told else jX8_readsLink_34 q_tapeMany q_toldMany q_tape r21.1 (0 : Int32) r24.2 r21.2.2 q_told)) else jX8_readsLink_29 q_tapeMany q_toldMany q_tape r21.1 r21.2.1 r21.2.2 q_told))
abbrev gX8_readsLink (p : Program) (l : Launch) (e : Env) (s : State) (m : MethodId) (below : List Frame) (meth : Method) (c : Code) (D : vg) (cI cL cS cH : ClassId) (a_this : Nat) (a_this_st : Nat) (a_this_past : Nat) (a_this_image : Nat) (a_this_imagePast : Nat) (a_this_tape : Nat) (a_this_laneOf : Nat) (a_this_sizeOf : Nat) (a_this_items : Nat) (a_this_code : Nat) (a_this_from : Nat) (a_this_by : Nat) (a_this_far : Nat) (a_this_met : Nat) (a_this_told : Nat) (q_acts : Int32) (q_imageActs : Int32) (q_tapeMany : Int32) (q_many : Int32) (q_round : Int32) (q_readAt : Int32) (q_isFault : Int32) (q_toldMany : Int32) (q_tape : Nat → Int32) (q_told : Nat → Int32) (res : Int32 × Int32 × (Nat → Int32)) (H : Heap) (locs : List Loc) (g : JFrame) : Prop := W p l e (headSpec wsX8_readsLink ({ frames := 2, cells := 0, slots := 0, locals := 48 })).room s m ([.ref a_this] : List Value).toArray below meth c H locs 0 0 (MQ below (va_Qv (fun (_ : Unit) => True) (fun _ t => pos1 D s.heap.size (wX8_readsLink cI cL cS cH a_this a_this_st a_this_past a_this_image a_this_imagePast a_this_tape a_this_laneOf a_this_sizeOf a_this_items a_this_code a_this_from a_this_by a_this_far a_this_met a_this_told q_acts q_imageActs q_tapeMany q_many q_round q_readAt q_isFault q_toldMany q_tape q_told) (wX8_readsLink cI cL cS cH a_this a_this_st a_this_past a_this_image a_this_imagePast a_this_tape a_this_laneOf a_this_sizeOf a_this_items a_this_code a_this_from a_this_by a_this_far a_this_met a_this_told q_acts q_imageActs q_tapeMany q_many q_round res.1 res.2.1 q_toldMany q_tape res.2.2) t) (va_A (wX8_readsLink cI cL cS cH a_this a_this_st a_this_past a_this_image a_this_imagePast a_this_tape a_this_laneOf a_this_sizeOf a_this_items a_this_code a_this_from a_this_by a_this_far a_this_met a_this_told q_acts q_imageActs q_tapeMany q_many q_round q_readAt q_isFault q_toldMany q_tape q_told) s.heap.size)) ([.ref a_this] : List Value).toArray s 0 0 (va_A (wX8_readsLink cI cL cS cH a_this a_this_st a_this_past a_this_image a_this_imagePast a_this_tape a_this_laneOf a_this_sizeOf a_this_items a_this_code a_this_from a_this_by a_this_far a_this_met a_this_told q_acts q_imageActs q_tapeMany q_many q_round q_readAt q_isFault q_toldMany q_tape q_told) s.heap.size)) g
set_option maxHeartbeats 4000000 in
set_option maxRecDepth 100000 in
theorem mX8_readsLink (l : Launch) (D : vg) (cI cL cS cH : ClassId) (sz : Nat) (a_this : Nat) (a_this_st : Nat) (a_this_past : Nat) (a_this_image : Nat) (a_this_imagePast : Nat) (a_this_tape : Nat) (a_this_laneOf : Nat) (a_this_sizeOf : Nat) (a_this_items : Nat) (a_this_code : Nat) (a_this_from : Nat) (a_this_by : Nat) (a_this_far : Nat) (a_this_met : Nat) (a_this_told : Nat) (q_acts : Int32) (q_imageActs : Int32) (q_tapeMany : Int32) (q_many : Int32) (q_round : Int32) (q_readAt : Int32) (q_isFault : Int32) (q_toldMany : Int32) (q_tape : Nat → Int32) (q_told : Nat → Int32) {res : Int32 × Int32 × (Nat → Int32)} (hf : fX8_readsLink q_tapeMany q_readAt q_isFault q_toldMany q_tape q_told = some res) : ctv l yX8_readsLink wsX8_readsLink ({ frames := 2, cells := 0, slots := 0, locals := 48 }) D (ty4 cI cL cS cH) sz [.ref a_this] (wX8_readsLink cI cL cS cH a_this a_this_st a_this_past a_this_image a_this_imagePast a_this_tape a_this_laneOf a_this_sizeOf a_this_items a_this_code a_this_from a_this_by a_this_far a_this_met a_this_told q_acts q_imageActs q_tapeMany q_many q_round q_readAt q_isFault q_toldMany q_tape q_told) (wX8_readsLink cI cL cS cH a_this a_this_st a_this_past a_this_image a_this_imagePast a_this_tape a_this_laneOf a_this_sizeOf a_this_items a_this_code a_this_from a_this_by a_this_far a_this_met a_this_told q_acts q_imageActs q_tapeMany q_many q_round res.1 res.2.1 q_toldMany q_tape res.2.2) := by
  refine Met.ofW (cc := cX8_readsLink) (maxL := 3) (ret := none) (by decide) rfl ?_
  intro p e s m args below meth c s₁ B hml hv
  obtain ⟨rfl, hpre⟩ := hv
  obtain rfl := hpre.1
  have C : CallFix p m c cX8_readsLink 3 s _ wsX8_readsLink RX8 := ⟨B.exec, B.bytes, hml, findClass_of_methodNamed B.named, atoms_spec (ws := wsX8_readsLink) B.pre⟩
  have hr := B.returns
  have hlocks := B.notSynchronized
  have w := wd_start hpre
  clear hpre B
  have hl := lv_entry ([.ref a_this]) (n := 3) (Nat.le_of_ble_eq_true rfl)
  rw [lg_entry_eq]
  generalize (lg_sl ([.ref a_this]) ++ List.replicate (3 - (lg_sl ([.ref a_this])).length) Slot.unset).toArray = ls at hl ⊢
  have hl : lv_has ls 3 [(0, .ref a_this)] := hl
  unfold fX8_readsLink at hf
  have hj103 : ∀ (y103_1 : Int32) (y103_2 : Int32) (z103_0 : Int32) (k103_q_readAt : Int32) (k103_q_isFault : Int32) (k103_q_told : Nat → Int32) (H : Heap) (locs : List Loc) (ls : Array Slot), wd D (ty4 cI cL cS cH) s (va_A (wX8_readsLink cI cL cS cH a_this a_this_st a_this_past a_this_image a_this_imagePast a_this_tape a_this_laneOf a_this_sizeOf a_this_items a_this_code a_this_from a_this_by a_this_far a_this_met a_this_told q_acts q_imageActs q_tapeMany q_many q_round q_readAt q_isFault q_toldMany q_tape q_told) s.heap.size) s.heap H locs (wX8_readsLink cI cL cS cH a_this a_this_st a_this_past a_this_image a_this_imagePast a_this_tape a_this_laneOf a_this_sizeOf a_this_items a_this_code a_this_from a_this_by a_this_far a_this_met a_this_told q_acts q_imageActs q_tapeMany q_many q_round k103_q_readAt k103_q_isFault q_toldMany q_tape k103_q_told) → lv_has ls 3 [(0, .ref a_this), (1, .int y103_1), (2, .int y103_2)] → jX8_readsLink_103 q_tapeMany q_toldMany q_tape y103_1 y103_2 z103_0 k103_q_readAt k103_q_isFault k103_q_told = some res → gX8_readsLink p l e s m below meth c D cI cL cS cH a_this a_this_st a_this_past a_this_image a_this_imagePast a_this_tape a_this_laneOf a_this_sizeOf a_this_items a_this_code a_this_from a_this_by a_this_far a_this_met a_this_told q_acts q_imageActs q_tapeMany q_many q_round q_readAt q_isFault q_toldMany q_tape q_told res H locs (F0 m 103 ls [.int z103_0, .ref a_this]) := by
    intro y103_1 y103_2 z103_0 k103_q_readAt k103_q_isFault k103_q_told H locs ls w hl hf
    unfold jX8_readsLink_103 at hf
    obtain ⟨r1, hc2, hf⟩ := bd hf
    refine call_Vv (ws' := (wX8_readsLink cI cL cS cH a_this a_this_st a_this_past a_this_image a_this_imagePast a_this_tape a_this_laneOf a_this_sizeOf a_this_items a_this_code a_this_from a_this_by a_this_far a_this_met a_this_told q_acts q_imageActs q_tapeMany q_many q_round r1.1 r1.2 q_toldMany q_tape k103_q_told)) (rest := []) C w (mX8_takes l D cI cL cS cH _ a_this a_this_st a_this_past a_this_image a_this_imagePast a_this_tape a_this_laneOf a_this_sizeOf a_this_items a_this_code a_this_from a_this_by a_this_far a_this_met a_this_told q_acts q_imageActs q_tapeMany q_many q_round k103_q_readAt k103_q_isFault q_toldMany z103_0 hc2) (cwV 1 C.2.2.2.2 gX8_readsLink_X8_takes rfl rfl rfl (by decide +kernel) ⟨Nat.le_of_ble_eq_true rfl, Nat.le_of_ble_eq_true rfl⟩) [0] [1, 2] 3 ⟨rfl, trivial⟩ ⟨rfl, trivial⟩ ⟨⟨_, rfl, rfl⟩, ⟨_, rfl, rfl⟩, trivial⟩ rfl (by decide) (by decide) (ci := 8) (q0 := 0) rfl rfl rfl hl.1 rfl (lv_room (Nat.le_of_ble_eq_true rfl)) dX8_readsLink_103 ⟨Nat.zero_le _, Nat.zero_le _⟩ (fun H locs w => ?_)
    refine lv_aload_n C.1 C.2.1 dX8_readsLink_106 rfl (lv_at hl 0 rfl) ?_
    refine r_get C w inX8_readsLink_X8 0 rfl rfl 19 (by decide) lkX8_readsLink_190 rfl dX8_readsLink_107 ?_
    refine lv_if_ne (tgt := 119) C.1 C.2.1 dX8_readsLink_110 (by decide) (fun hq3 => ?_) (fun hq3 => ?_)
    · have hf := ite_f hf hq3
      have hres := Option.some.inj hf
      subst hres
      exact ret_v C hr hlocks w dX8_readsLink_119
    · have hf := ite_t hf hq3
      refine lv_aload_n C.1 C.2.1 dX8_readsLink_113 rfl (lv_at hl 0 rfl) ?_
      refine lv_iload_n C.1 C.2.1 dX8_readsLink_114 rfl (lv_at hl 1 rfl) ?_
      refine lv_iload_n C.1 C.2.1 dX8_readsLink_115 rfl (lv_at hl 2 rfl) ?_
      obtain ⟨r4, hc5, hf⟩ := bd hf
      refine call_Vv (ws' := (wX8_readsLink cI cL cS cH a_this a_this_st a_this_past a_this_image a_this_imagePast a_this_tape a_this_laneOf a_this_sizeOf a_this_items a_this_code a_this_from a_this_by a_this_far a_this_met a_this_told q_acts q_imageActs q_tapeMany q_many q_round r1.1 r1.2 q_toldMany q_tape r4)) (rest := []) C w (mX8_links l D cI cL cS cH _ a_this a_this_st a_this_past a_this_image a_this_imagePast a_this_tape a_this_laneOf a_this_sizeOf a_this_items a_this_code a_this_from a_this_by a_this_far a_this_met a_this_told q_acts q_imageActs q_tapeMany q_many q_round r1.1 r1.2 q_toldMany k103_q_told y103_1 y103_2 hc5) (cwV 2 C.2.2.2.2 gX8_readsLink_X8_links rfl rfl rfl (by decide +kernel) ⟨Nat.le_of_ble_eq_true rfl, Nat.le_of_ble_eq_true rfl⟩) [0, 2] [1] 3 ⟨rfl, rfl, trivial⟩ ⟨rfl, rfl, trivial⟩ ⟨⟨_, rfl, rfl⟩, trivial⟩ rfl (by decide) (by decide) (ci := 8) (q0 := 0) rfl rfl rfl hl.1 rfl (lv_room (Nat.le_of_ble_eq_true rfl)) dX8_readsLink_116 ⟨Nat.zero_le _, Nat.zero_le _⟩ (fun H locs w => ?_)
      have hres := Option.some.inj hf
      subst hres
      exact ret_v C hr hlocks w dX8_readsLink_119
  have hj102 : ∀ (y102_1 : Int32) (y102_2 : Int32) (k102_q_readAt : Int32) (k102_q_isFault : Int32) (k102_q_told : Nat → Int32) (H : Heap) (locs : List Loc) (ls : Array Slot), wd D (ty4 cI cL cS cH) s (va_A (wX8_readsLink cI cL cS cH a_this a_this_st a_this_past a_this_image a_this_imagePast a_this_tape a_this_laneOf a_this_sizeOf a_this_items a_this_code a_this_from a_this_by a_this_far a_this_met a_this_told q_acts q_imageActs q_tapeMany q_many q_round q_readAt q_isFault q_toldMany q_tape q_told) s.heap.size) s.heap H locs (wX8_readsLink cI cL cS cH a_this a_this_st a_this_past a_this_image a_this_imagePast a_this_tape a_this_laneOf a_this_sizeOf a_this_items a_this_code a_this_from a_this_by a_this_far a_this_met a_this_told q_acts q_imageActs q_tapeMany q_many q_round k102_q_readAt k102_q_isFault q_toldMany q_tape k102_q_told) → lv_has ls 3 [(0, .ref a_this), (1, .int y102_1), (2, .int y102_2)] → jX8_readsLink_102 q_tapeMany q_toldMany q_tape y102_1 y102_2 k102_q_readAt k102_q_isFault k102_q_told = some res → gX8_readsLink p l e s m below meth c D cI cL cS cH a_this a_this_st a_this_past a_this_image a_this_imagePast a_this_tape a_this_laneOf a_this_sizeOf a_this_items a_this_code a_this_from a_this_by a_this_far a_this_met a_this_told q_acts q_imageActs q_tapeMany q_many q_round q_readAt q_isFault q_toldMany q_tape q_told res H locs (F0 m 102 ls [.ref a_this]) := by
    intro y102_1 y102_2 k102_q_readAt k102_q_isFault k102_q_told H locs ls w hl hf
    unfold jX8_readsLink_102 at hf
    refine lv_iconst (v := (0 : Int32)) C.1 C.2.1 dX8_readsLink_102 (by decide) ?_
    exact hj103 y102_1 y102_2 (0 : Int32) k102_q_readAt k102_q_isFault k102_q_told _ _ _ w (lv_sub hl [0, 1, 2] rfl) hf
  have hj98 : ∀ (y98_1 : Int32) (y98_2 : Int32) (k98_q_readAt : Int32) (k98_q_isFault : Int32) (k98_q_told : Nat → Int32) (H : Heap) (locs : List Loc) (ls : Array Slot), wd D (ty4 cI cL cS cH) s (va_A (wX8_readsLink cI cL cS cH a_this a_this_st a_this_past a_this_image a_this_imagePast a_this_tape a_this_laneOf a_this_sizeOf a_this_items a_this_code a_this_from a_this_by a_this_far a_this_met a_this_told q_acts q_imageActs q_tapeMany q_many q_round q_readAt q_isFault q_toldMany q_tape q_told) s.heap.size) s.heap H locs (wX8_readsLink cI cL cS cH a_this a_this_st a_this_past a_this_image a_this_imagePast a_this_tape a_this_laneOf a_this_sizeOf a_this_items a_this_code a_this_from a_this_by a_this_far a_this_met a_this_told q_acts q_imageActs q_tapeMany q_many q_round k98_q_readAt k98_q_isFault q_toldMany q_tape k98_q_told) → lv_has ls 3 [(0, .ref a_this), (1, .int y98_1), (2, .int y98_2)] → jX8_readsLink_98 q_tapeMany q_toldMany q_tape y98_1 y98_2 k98_q_readAt k98_q_isFault k98_q_told = some res → gX8_readsLink p l e s m below meth c D cI cL cS cH a_this a_this_st a_this_past a_this_image a_this_imagePast a_this_tape a_this_laneOf a_this_sizeOf a_this_items a_this_code a_this_from a_this_by a_this_far a_this_met a_this_told q_acts q_imageActs q_tapeMany q_many q_round q_readAt q_isFault q_toldMany q_tape q_told res H locs (F0 m 98 ls [.ref a_this]) := by
    intro y98_1 y98_2 k98_q_readAt k98_q_isFault k98_q_told H locs ls w hl hf
    unfold jX8_readsLink_98 at hf
    refine lv_iconst (v := (1 : Int32)) C.1 C.2.1 dX8_readsLink_98 (by decide) ?_
    refine lv_goto (tgt := 103) C.1 C.2.1 dX8_readsLink_99 (by decide) ?_
    exact hj103 y98_1 y98_2 (1 : Int32) k98_q_readAt k98_q_isFault k98_q_told _ _ _ w (lv_sub hl [0, 1, 2] rfl) hf
  have hj55 : ∀ (y55_1 : Int32) (z55_0 : Int32) (k55_q_readAt : Int32) (k55_q_isFault : Int32) (k55_q_told : Nat → Int32) (H : Heap) (locs : List Loc) (ls : Array Slot), wd D (ty4 cI cL cS cH) s (va_A (wX8_readsLink cI cL cS cH a_this a_this_st a_this_past a_this_image a_this_imagePast a_this_tape a_this_laneOf a_this_sizeOf a_this_items a_this_code a_this_from a_this_by a_this_far a_this_met a_this_told q_acts q_imageActs q_tapeMany q_many q_round q_readAt q_isFault q_toldMany q_tape q_told) s.heap.size) s.heap H locs (wX8_readsLink cI cL cS cH a_this a_this_st a_this_past a_this_image a_this_imagePast a_this_tape a_this_laneOf a_this_sizeOf a_this_items a_this_code a_this_from a_this_by a_this_far a_this_met a_this_told q_acts q_imageActs q_tapeMany q_many q_round k55_q_readAt k55_q_isFault q_toldMany q_tape k55_q_told) → lv_has ls 3 [(0, .ref a_this), (1, .int y55_1)] → jX8_readsLink_55 q_tapeMany q_toldMany q_tape y55_1 z55_0 k55_q_readAt k55_q_isFault k55_q_told = some res → gX8_readsLink p l e s m below meth c D cI cL cS cH a_this a_this_st a_this_past a_this_image a_this_imagePast a_this_tape a_this_laneOf a_this_sizeOf a_this_items a_this_code a_this_from a_this_by a_this_far a_this_met a_this_told q_acts q_imageActs q_tapeMany q_many q_round q_readAt q_isFault q_toldMany q_tape q_told res H locs (F0 m 55 ls [.int z55_0]) := by
    intro y55_1 z55_0 k55_q_readAt k55_q_isFault k55_q_told H locs ls w hl hf
    unfold jX8_readsLink_55 at hf
    refine lv_istore_n (lv' := [(2, .int z55_0), (0, .ref a_this), (1, .int y55_1)]) C.1 C.2.1 dX8_readsLink_55 rfl hl (by decide) rfl (fun ls hl => ?_)
    refine lv_aload_n C.1 C.2.1 dX8_readsLink_56 rfl (lv_at hl 1 rfl) ?_
    refine lv_aload_n C.1 C.2.1 dX8_readsLink_57 rfl (lv_at hl 1 rfl) ?_
    refine r_get C w inX8_readsLink_X8 0 rfl rfl 19 (by decide) lkX8_readsLink_190 rfl dX8_readsLink_58 ?_
    refine lv_if_ne (tgt := 98) C.1 C.2.1 dX8_readsLink_61 (by decide) (fun hq6 => ?_) (fun hq6 => ?_)
    · have hf := ite_f hf hq6
      exact hj98 y55_1 z55_0 k55_q_readAt k55_q_isFault k55_q_told _ _ _ w (lv_sub hl [1, 2, 0] rfl) hf
    · have hf := ite_t hf hq6
      refine lv_iload_n C.1 C.2.1 dX8_readsLink_64 rfl (lv_at hl 0 rfl) ?_
      refine lv_i2l C.1 C.2.1 dX8_readsLink_65 rfl ?_
      refine lv_lconst (v := (0 : Int64)) C.1 C.2.1 dX8_readsLink_66 (by decide) ?_
      refine lv_aload_n C.1 C.2.1 dX8_readsLink_67 rfl (lv_at hl 1 rfl) ?_
      refine r_get C w inX8_readsLink_X8 0 rfl rfl 20 (by decide) lkX8_readsLink_212 rfl dX8_readsLink_68 ?_
      refine lv_iconst (v := (1 : Int32)) C.1 C.2.1 dX8_readsLink_71 (by decide) ?_
      refine lv_isub C.1 C.2.1 dX8_readsLink_72 ?_
      refine lv_i2l C.1 C.2.1 dX8_readsLink_73 rfl ?_
      obtain ⟨r7, hc8, hf⟩ := bd hf
      refine call_Si (ws' := (wX8_readsLink cI cL cS cH a_this a_this_st a_this_past a_this_image a_this_imagePast a_this_tape a_this_laneOf a_this_sizeOf a_this_items a_this_code a_this_from a_this_by a_this_far a_this_met a_this_told q_acts q_imageActs q_tapeMany q_many q_round k55_q_readAt k55_q_isFault q_toldMany q_tape k55_q_told)) (rest := [.ref a_this]) C w (mX8_in l D cI cL cS cH _ ((z55_0).toInt64) (0 : Int64) (((q_toldMany - (1 : Int32))).toInt64) hc8) (va_cwS 3 C.2.2.2.2 gX8_readsLink_X8_in rfl rfl rfl (by decide +kernel) ⟨Nat.le_of_ble_eq_true rfl, Nat.le_of_ble_eq_true rfl⟩) [] [0, 1, 2] 3 trivial trivial ⟨⟨_, rfl, rfl⟩, ⟨_, rfl, rfl⟩, ⟨_, rfl, rfl⟩, trivial⟩ rfl (by decide) (by decide) rfl hl.1 rfl (lv_room (Nat.le_of_ble_eq_true rfl)) dX8_readsLink_74 ⟨Nat.zero_le _, Nat.zero_le _⟩ (fun H locs w => ?_)
      refine lv_if_eq (tgt := 102) C.1 C.2.1 dX8_readsLink_77 (by decide) (fun hq9 => ?_) (fun hq9 => ?_)
      · have hf := ite_t hf hq9
        exact hj102 y55_1 z55_0 k55_q_readAt k55_q_isFault k55_q_told _ _ _ w (lv_sub hl [1, 2, 0] rfl) hf
      · have hf := ite_f hf hq9
        refine lv_iload_n C.1 C.2.1 dX8_readsLink_80 rfl (lv_at hl 0 rfl) ?_
        refine lv_iload_n C.1 C.2.1 dX8_readsLink_81 rfl (lv_at hl 2 rfl) ?_
        refine lv_icmp_eq (tgt := 102) C.1 C.2.1 dX8_readsLink_82 (by decide) (fun hq10 => ?_) (fun hq10 => ?_)
        · have hf := ite_t hf hq10
          exact hj102 y55_1 z55_0 k55_q_readAt k55_q_isFault k55_q_told _ _ _ w (lv_sub hl [1, 2, 0] rfl) hf
        · have hf := ite_f hf hq10
          refine lv_aload_n C.1 C.2.1 dX8_readsLink_85 rfl (lv_at hl 1 rfl) ?_
          refine r_get C w inX8_readsLink_X8 0 rfl rfl 21 (by decide) lkX8_readsLink_54 rfl dX8_readsLink_86 ?_
          refine lv_iload_n C.1 C.2.1 dX8_readsLink_89 rfl (lv_at hl 2 rfl) ?_
          obtain ⟨y11, hy12, hf⟩ := bd hf
          refine r_iald C w 2 0 rfl rfl (rd_in hy12) dX8_readsLink_90 ?_
          refine lv_iload_n C.1 C.2.1 dX8_readsLink_91 rfl (lv_at hl 0 rfl) ?_
          obtain ⟨r13, hc14, hf⟩ := bd hf
          refine call_Si (ws' := (wX8_readsLink cI cL cS cH a_this a_this_st a_this_past a_this_image a_this_imagePast a_this_tape a_this_laneOf a_this_sizeOf a_this_items a_this_code a_this_from a_this_by a_this_far a_this_met a_this_told q_acts q_imageActs q_tapeMany q_many q_round k55_q_readAt k55_q_isFault q_toldMany q_tape k55_q_told)) (rest := [.ref a_this]) C w (mX8_has l D cI cL cS cH _ y11 z55_0 hc14) (va_cwS 2 C.2.2.2.2 gX8_readsLink_X8_has rfl rfl rfl (by decide +kernel) ⟨Nat.le_of_ble_eq_true rfl, Nat.le_of_ble_eq_true rfl⟩) [] [0, 1, 2] 3 trivial trivial ⟨⟨_, rfl, rfl⟩, ⟨_, rfl, rfl⟩, ⟨_, rfl, rfl⟩, trivial⟩ rfl (by decide) (by decide) rfl hl.1 rfl (lv_room (Nat.le_of_ble_eq_true rfl)) dX8_readsLink_92 ⟨Nat.zero_le _, Nat.zero_le _⟩ (fun H locs w => ?_)
          refine lv_if_ne (tgt := 102) C.1 C.2.1 dX8_readsLink_95 (by decide) (fun hq15 => ?_) (fun hq15 => ?_)
          · have hf := ite_f hf hq15
            exact hj102 y55_1 z55_0 k55_q_readAt k55_q_isFault k55_q_told _ _ _ w (lv_sub hl [1, 2, 0] rfl) hf
          · have hf := ite_t hf hq15
            exact hj98 y55_1 z55_0 k55_q_readAt k55_q_isFault k55_q_told _ _ _ w (lv_sub hl [1, 2, 0] rfl) hf
  have hj34 : ∀ (y34_1 : Int32) (z34_0 : Int32) (k34_q_readAt : Int32) (k34_q_isFault : Int32) (k34_q_told : Nat → Int32) (H : Heap) (locs : List Loc) (ls : Array Slot), wd D (ty4 cI cL cS cH) s (va_A (wX8_readsLink cI cL cS cH a_this a_this_st a_this_past a_this_image a_this_imagePast a_this_tape a_this_laneOf a_this_sizeOf a_this_items a_this_code a_this_from a_this_by a_this_far a_this_met a_this_told q_acts q_imageActs q_tapeMany q_many q_round q_readAt q_isFault q_toldMany q_tape q_told) s.heap.size) s.heap H locs (wX8_readsLink cI cL cS cH a_this a_this_st a_this_past a_this_image a_this_imagePast a_this_tape a_this_laneOf a_this_sizeOf a_this_items a_this_code a_this_from a_this_by a_this_far a_this_met a_this_told q_acts q_imageActs q_tapeMany q_many q_round k34_q_readAt k34_q_isFault q_toldMany q_tape k34_q_told) → lv_has ls 3 [(0, .ref a_this), (1, .int y34_1)] → jX8_readsLink_34 q_tapeMany q_toldMany q_tape y34_1 z34_0 k34_q_readAt k34_q_isFault k34_q_told = some res → gX8_readsLink p l e s m below meth c D cI cL cS cH a_this a_this_st a_this_past a_this_image a_this_imagePast a_this_tape a_this_laneOf a_this_sizeOf a_this_items a_this_code a_this_from a_this_by a_this_far a_this_met a_this_told q_acts q_imageActs q_tapeMany q_many q_round q_readAt q_isFault q_toldMany q_tape q_told res H locs (F0 m 34 ls [.int z34_0, .ref a_this]) := by
    intro y34_1 z34_0 k34_q_readAt k34_q_isFault k34_q_told H locs ls w hl hf
    unfold jX8_readsLink_34 at hf
    obtain ⟨r16, hc17, hf⟩ := bd hf
    refine call_Vv (ws' := (wX8_readsLink cI cL cS cH a_this a_this_st a_this_past a_this_image a_this_imagePast a_this_tape a_this_laneOf a_this_sizeOf a_this_items a_this_code a_this_from a_this_by a_this_far a_this_met a_this_told q_acts q_imageActs q_tapeMany q_many q_round r16.1 r16.2 q_toldMany q_tape k34_q_told)) (rest := []) C w (mX8_takes l D cI cL cS cH _ a_this a_this_st a_this_past a_this_image a_this_imagePast a_this_tape a_this_laneOf a_this_sizeOf a_this_items a_this_code a_this_from a_this_by a_this_far a_this_met a_this_told q_acts q_imageActs q_tapeMany q_many q_round k34_q_readAt k34_q_isFault q_toldMany z34_0 hc17) (cwV 1 C.2.2.2.2 gX8_readsLink_X8_takes rfl rfl rfl (by decide +kernel) ⟨Nat.le_of_ble_eq_true rfl, Nat.le_of_ble_eq_true rfl⟩) [0] [1, 2] 3 ⟨rfl, trivial⟩ ⟨rfl, trivial⟩ ⟨⟨_, rfl, rfl⟩, ⟨_, rfl, rfl⟩, trivial⟩ rfl (by decide) (by decide) (ci := 8) (q0 := 0) rfl rfl rfl hl.1 rfl (lv_room (Nat.le_of_ble_eq_true rfl)) dX8_readsLink_34 ⟨Nat.zero_le _, Nat.zero_le _⟩ (fun H locs w => ?_)
    refine lv_aload_n C.1 C.2.1 dX8_readsLink_37 rfl (lv_at hl 0 rfl) ?_
    refine r_get C w inX8_readsLink_X8 0 rfl rfl 19 (by decide) lkX8_readsLink_190 rfl dX8_readsLink_38 ?_
    refine lv_if_eq (tgt := 48) C.1 C.2.1 dX8_readsLink_41 (by decide) (fun hq18 => ?_) (fun hq18 => ?_)
    · have hf := ite_t hf hq18
      refine lv_aload_n C.1 C.2.1 dX8_readsLink_48 rfl (lv_at hl 0 rfl) ?_
      obtain ⟨r19, hc20, hf⟩ := bd hf
      refine call_Vi (ws' := (wX8_readsLink cI cL cS cH a_this a_this_st a_this_past a_this_image a_this_imagePast a_this_tape a_this_laneOf a_this_sizeOf a_this_items a_this_code a_this_from a_this_by a_this_far a_this_met a_this_told q_acts q_imageActs q_tapeMany q_many q_round r19.2 r16.2 q_toldMany q_tape k34_q_told)) (rest := []) C w (mX8_looks l D cI cL cS cH _ a_this a_this_st a_this_past a_this_image a_this_imagePast a_this_tape a_this_laneOf a_this_sizeOf a_this_items a_this_code a_this_from a_this_by a_this_far a_this_met a_this_told q_acts q_imageActs q_tapeMany q_many q_round r16.1 r16.2 q_toldMany q_tape hc20) (cwV 0 C.2.2.2.2 gX8_readsLink_X8_looks rfl rfl rfl (by decide +kernel) ⟨Nat.le_of_ble_eq_true rfl, Nat.le_of_ble_eq_true rfl⟩) [0, 1] [2] 3 ⟨rfl, rfl, trivial⟩ ⟨rfl, rfl, trivial⟩ ⟨⟨_, rfl, rfl⟩, trivial⟩ rfl (by decide) (by decide) (ci := 8) (q0 := 0) rfl rfl rfl hl.1 rfl (lv_room (Nat.le_of_ble_eq_true rfl)) dX8_readsLink_49 ⟨Nat.zero_le _, Nat.zero_le _⟩ (fun H locs w => ?_)
      refine lv_bipush (v := (48 : Int32)) C.1 C.2.1 dX8_readsLink_52 (by decide) ?_
      refine lv_isub C.1 C.2.1 dX8_readsLink_54 ?_
      exact hj55 y34_1 (r19.1 - (48 : Int32)) r19.2 r16.2 k34_q_told _ _ _ w (lv_sub hl [0, 1] rfl) hf
    · have hf := ite_f hf hq18
      refine lv_iconst (v := (0 : Int32)) C.1 C.2.1 dX8_readsLink_44 (by decide) ?_
      refine lv_goto (tgt := 55) C.1 C.2.1 dX8_readsLink_45 (by decide) ?_
      exact hj55 y34_1 (0 : Int32) r16.1 r16.2 k34_q_told _ _ _ w (lv_sub hl [0, 1] rfl) hf
  have hj29 : ∀ (y29_1 : Int32) (k29_q_readAt : Int32) (k29_q_isFault : Int32) (k29_q_told : Nat → Int32) (H : Heap) (locs : List Loc) (ls : Array Slot), wd D (ty4 cI cL cS cH) s (va_A (wX8_readsLink cI cL cS cH a_this a_this_st a_this_past a_this_image a_this_imagePast a_this_tape a_this_laneOf a_this_sizeOf a_this_items a_this_code a_this_from a_this_by a_this_far a_this_met a_this_told q_acts q_imageActs q_tapeMany q_many q_round q_readAt q_isFault q_toldMany q_tape q_told) s.heap.size) s.heap H locs (wX8_readsLink cI cL cS cH a_this a_this_st a_this_past a_this_image a_this_imagePast a_this_tape a_this_laneOf a_this_sizeOf a_this_items a_this_code a_this_from a_this_by a_this_far a_this_met a_this_told q_acts q_imageActs q_tapeMany q_many q_round k29_q_readAt k29_q_isFault q_toldMany q_tape k29_q_told) → lv_has ls 3 [(0, .ref a_this), (1, .int y29_1)] → jX8_readsLink_29 q_tapeMany q_toldMany q_tape y29_1 k29_q_readAt k29_q_isFault k29_q_told = some res → gX8_readsLink p l e s m below meth c D cI cL cS cH a_this a_this_st a_this_past a_this_image a_this_imagePast a_this_tape a_this_laneOf a_this_sizeOf a_this_items a_this_code a_this_from a_this_by a_this_far a_this_met a_this_told q_acts q_imageActs q_tapeMany q_many q_round q_readAt q_isFault q_toldMany q_tape q_told res H locs (F0 m 29 ls [.ref a_this]) := by
    intro y29_1 k29_q_readAt k29_q_isFault k29_q_told H locs ls w hl hf
    unfold jX8_readsLink_29 at hf
    refine lv_iconst (v := (1 : Int32)) C.1 C.2.1 dX8_readsLink_29 (by decide) ?_
    refine lv_goto (tgt := 34) C.1 C.2.1 dX8_readsLink_30 (by decide) ?_
    exact hj34 y29_1 (1 : Int32) k29_q_readAt k29_q_isFault k29_q_told _ _ _ w (lv_sub hl [0, 1] rfl) hf
  refine lv_aload_n C.1 C.2.1 dX8_readsLink_0 rfl (lv_at hl 0 rfl) ?_
  refine lv_iconst (v := (0 : Int32)) C.1 C.2.1 dX8_readsLink_1 (by decide) ?_
  refine lv_aload_n C.1 C.2.1 dX8_readsLink_2 rfl (lv_at hl 0 rfl) ?_
  refine r_get C w inX8_readsLink_X8 0 rfl rfl 20 (by decide) lkX8_readsLink_212 rfl dX8_readsLink_3 ?_
  refine lv_iconst (v := (1 : Int32)) C.1 C.2.1 dX8_readsLink_6 (by decide) ?_
  refine lv_isub C.1 C.2.1 dX8_readsLink_7 ?_
  obtain ⟨r21, hc22, hf⟩ := bd hf
  refine call_Vi (ws' := (wX8_readsLink cI cL cS cH a_this a_this_st a_this_past a_this_image a_this_imagePast a_this_tape a_this_laneOf a_this_sizeOf a_this_items a_this_code a_this_from a_this_by a_this_far a_this_met a_this_told q_acts q_imageActs q_tapeMany q_many q_round r21.2.1 r21.2.2 q_toldMany q_tape q_told)) (rest := []) C w (mX8_figure l D cI cL cS cH _ a_this a_this_st a_this_past a_this_image a_this_imagePast a_this_tape a_this_laneOf a_this_sizeOf a_this_items a_this_code a_this_from a_this_by a_this_far a_this_met a_this_told q_acts q_imageActs q_tapeMany q_many q_round q_readAt q_isFault q_toldMany q_tape (0 : Int32) (q_toldMany - (1 : Int32)) hc22) (cwV 2 C.2.2.2.2 gX8_readsLink_X8_figure rfl rfl rfl (by decide +kernel) ⟨Nat.le_of_ble_eq_true rfl, Nat.le_of_ble_eq_true rfl⟩) [0, 1] [2] 3 ⟨rfl, rfl, trivial⟩ ⟨rfl, rfl, trivial⟩ ⟨⟨_, rfl, rfl⟩, trivial⟩ rfl (by decide) (by decide) (ci := 8) (q0 := 0) rfl rfl rfl hl.1 rfl (lv_room (Nat.le_of_ble_eq_true rfl)) dX8_readsLink_8 ⟨Nat.zero_le _, Nat.zero_le _⟩ (fun H locs w => ?_)
  refine lv_istore_n (lv' := [(1, .int r21.1), (0, .ref a_this)]) C.1 C.2.1 dX8_readsLink_11 rfl hl (by decide) rfl (fun ls hl => ?_)
  refine lv_aload_n C.1 C.2.1 dX8_readsLink_12 rfl (lv_at hl 1 rfl) ?_
  refine lv_aload_n C.1 C.2.1 dX8_readsLink_13 rfl (lv_at hl 1 rfl) ?_
  refine r_get C w inX8_readsLink_X8 0 rfl rfl 19 (by decide) lkX8_readsLink_190 rfl dX8_readsLink_14 ?_
  refine lv_if_ne (tgt := 29) C.1 C.2.1 dX8_readsLink_17 (by decide) (fun hq23 => ?_) (fun hq23 => ?_)
  · have hf := ite_f hf hq23
    exact hj29 r21.1 r21.2.1 r21.2.2 q_told _ _ _ w (lv_sub hl [1, 0] rfl) hf
  · have hf := ite_t hf hq23
    refine lv_aload_n C.1 C.2.1 dX8_readsLink_20 rfl (lv_at hl 1 rfl) ?_
    obtain ⟨r24, hc25, hf⟩ := bd hf
    refine call_Vi (ws' := (wX8_readsLink cI cL cS cH a_this a_this_st a_this_past a_this_image a_this_imagePast a_this_tape a_this_laneOf a_this_sizeOf a_this_items a_this_code a_this_from a_this_by a_this_far a_this_met a_this_told q_acts q_imageActs q_tapeMany q_many q_round r24.2 r21.2.2 q_toldMany q_tape q_told)) (rest := [.ref a_this]) C w (mX8_looks l D cI cL cS cH _ a_this a_this_st a_this_past a_this_image a_this_imagePast a_this_tape a_this_laneOf a_this_sizeOf a_this_items a_this_code a_this_from a_this_by a_this_far a_this_met a_this_told q_acts q_imageActs q_tapeMany q_many q_round r21.2.1 r21.2.2 q_toldMany q_tape hc25) (cwV 0 C.2.2.2.2 gX8_readsLink_X8_looks rfl rfl rfl (by decide +kernel) ⟨Nat.le_of_ble_eq_true rfl, Nat.le_of_ble_eq_true rfl⟩) [0, 1] [2] 3 ⟨rfl, rfl, trivial⟩ ⟨rfl, rfl, trivial⟩ ⟨⟨_, rfl, rfl⟩, trivial⟩ rfl (by decide) (by decide) (ci := 8) (q0 := 0) rfl rfl rfl hl.1 rfl (lv_room (Nat.le_of_ble_eq_true rfl)) dX8_readsLink_21 ⟨Nat.zero_le _, Nat.zero_le _⟩ (fun H locs w => ?_)
    refine lv_bipush (v := (45 : Int32)) C.1 C.2.1 dX8_readsLink_24 (by decide) ?_
    refine lv_icmp_ne (tgt := 33) C.1 C.2.1 dX8_readsLink_26 (by decide) (fun hq26 => ?_) (fun hq26 => ?_)
    · have hf := ite_f hf hq26
      refine lv_iconst (v := (0 : Int32)) C.1 C.2.1 dX8_readsLink_33 (by decide) ?_
      exact hj34 r21.1 (0 : Int32) r24.2 r21.2.2 q_told _ _ _ w (lv_sub hl [1, 0] rfl) hf
    · have hf := ite_t hf hq26
      exact hj29 r21.1 r24.2 r21.2.2 q_told _ _ _ w (lv_sub hl [1, 0] rfl) hf

set_option maxRecDepth 100000 in
theorem inX8_readsLinks_X8 : ∀ w ∈ u_ws RX8 TX8 22, w ∈ wsX8_readsLinks := by decide +kernel
set_option maxRecDepth 100000 in
theorem lkX8_readsLinks_190 : Cond.fieldLink RX8 190 "CleanNetsModel" "isFault" "Z" ∈ wsX8_readsLinks := by decide +kernel
set_option maxRecDepth 100000 in
theorem lkX8_readsLinks_187 : Cond.fieldLink RX8 187 "CleanNetsModel" "readAt" "I" ∈ wsX8_readsLinks := by decide +kernel
abbrev wX8_readsLinks (cI cL cS cH : ClassId) (a_this : Nat) (a_this_st : Nat) (a_this_past : Nat) (a_this_image : Nat) (a_this_imagePast : Nat) (a_this_tape : Nat) (a_this_laneOf : Nat) (a_this_sizeOf : Nat) (a_this_items : Nat) (a_this_code : Nat) (a_this_from : Nat) (a_this_by : Nat) (a_this_far : Nat) (a_this_met : Nat) (a_this_told : Nat) (q_acts : Int32) (q_imageActs : Int32) (q_tapeMany : Int32) (q_many : Int32) (q_round : Int32) (q_readAt : Int32) (q_isFault : Int32) (q_toldMany : Int32) (q_tape : Nat → Int32) (q_told : Nat → Int32) : va_W := [(a_this, .inr (8, [.ref a_this_st, .ref a_this_past, .int q_acts, .ref a_this_image, .ref a_this_imagePast, .int q_imageActs, .ref a_this_tape, .int q_tapeMany, .ref a_this_laneOf, .ref a_this_sizeOf, .ref a_this_items, .ref a_this_code, .ref a_this_from, .ref a_this_by, .ref a_this_far, .int q_many, .ref a_this_met, .int q_round, .int q_readAt, .int q_isFault, .int q_toldMany, .ref a_this_told])),
  (a_this_tape, .inl (cI, 90, .inl q_tape)),
  (a_this_told, .inl (cI, 7, .inl q_told))]
def bX8_readsLinks_4 (q_tapeMany : Int32) (q_toldMany : Int32) (q_tape : Nat → Int32)  (v4 : Int32 × Int32 × (Nat → Int32)) : Option ((Int32 × Int32 × (Nat → Int32)) ⊕ (Int32 × Int32 × (Nat → Int32))) := (if v4.2.1 = 0 then Option.bind (fX8_looks q_tapeMany v4.1 q_tape) (fun r2 => (if r2.1 = (44 : Int32) then Option.bind (fX8_readsLink q_tapeMany (r2.2 + (1 : Int32)) v4.2.1 q_toldMany q_tape v4.2.2) (fun r5 => some (.inl (r5.1, r5.2.1, r5.2.2))) else some (.inr (r2.2, v4.2.1, v4.2.2)))) else some (.inr (v4.1, v4.2.1, v4.2.2)))
def fX8_readsLinks (q_tapeMany : Int32) (q_readAt : Int32) (q_isFault : Int32) (q_toldMany : Int32) (q_tape : Nat → Int32) (q_told : Nat → Int32)  : Option (Int32 × Int32 × (Nat → Int32)) := Option.bind (fX8_readsLink q_tapeMany q_readAt q_isFault q_toldMany q_tape q_told) (fun r7 => Option.bind (itL (bX8_readsLinks_4 q_tapeMany q_toldMany q_tape) fu (r7.1, r7.2.1, r7.2.2)) (fun ex9 => some (ex9.1, ex9.2.1, ex9.2.2)))
abbrev gX8_readsLinks (p : Program) (l : Launch) (e : Env) (s : State) (m : MethodId) (below : List Frame) (meth : Method) (c : Code) (D : vg) (cI cL cS cH : ClassId) (a_this : Nat) (a_this_st : Nat) (a_this_past : Nat) (a_this_image : Nat) (a_this_imagePast : Nat) (a_this_tape : Nat) (a_this_laneOf : Nat) (a_this_sizeOf : Nat) (a_this_items : Nat) (a_this_code : Nat) (a_this_from : Nat) (a_this_by : Nat) (a_this_far : Nat) (a_this_met : Nat) (a_this_told : Nat) (q_acts : Int32) (q_imageActs : Int32) (q_tapeMany : Int32) (q_many : Int32) (q_round : Int32) (q_readAt : Int32) (q_isFault : Int32) (q_toldMany : Int32) (q_tape : Nat → Int32) (q_told : Nat → Int32) (res : Int32 × Int32 × (Nat → Int32)) (H : Heap) (locs : List Loc) (g : JFrame) : Prop := W p l e (headSpec wsX8_readsLinks ({ frames := 3, cells := 0, slots := 0, locals := 70 })).room s m ([.ref a_this] : List Value).toArray below meth c H locs 0 0 (MQ below (va_Qv (fun (_ : Unit) => True) (fun _ t => pos1 D s.heap.size (wX8_readsLinks cI cL cS cH a_this a_this_st a_this_past a_this_image a_this_imagePast a_this_tape a_this_laneOf a_this_sizeOf a_this_items a_this_code a_this_from a_this_by a_this_far a_this_met a_this_told q_acts q_imageActs q_tapeMany q_many q_round q_readAt q_isFault q_toldMany q_tape q_told) (wX8_readsLinks cI cL cS cH a_this a_this_st a_this_past a_this_image a_this_imagePast a_this_tape a_this_laneOf a_this_sizeOf a_this_items a_this_code a_this_from a_this_by a_this_far a_this_met a_this_told q_acts q_imageActs q_tapeMany q_many q_round res.1 res.2.1 q_toldMany q_tape res.2.2) t) (va_A (wX8_readsLinks cI cL cS cH a_this a_this_st a_this_past a_this_image a_this_imagePast a_this_tape a_this_laneOf a_this_sizeOf a_this_items a_this_code a_this_from a_this_by a_this_far a_this_met a_this_told q_acts q_imageActs q_tapeMany q_many q_round q_readAt q_isFault q_toldMany q_tape q_told) s.heap.size)) ([.ref a_this] : List Value).toArray s 0 0 (va_A (wX8_readsLinks cI cL cS cH a_this a_this_st a_this_past a_this_image a_this_imagePast a_this_tape a_this_laneOf a_this_sizeOf a_this_items a_this_code a_this_from a_this_by a_this_far a_this_met a_this_told q_acts q_imageActs q_tapeMany q_many q_round q_readAt q_isFault q_toldMany q_tape q_told) s.heap.size)) g
set_option maxHeartbeats 4000000 in
set_option maxRecDepth 100000 in
theorem mX8_readsLinks (l : Launch) (D : vg) (cI cL cS cH : ClassId) (sz : Nat) (a_this : Nat) (a_this_st : Nat) (a_this_past : Nat) (a_this_image : Nat) (a_this_imagePast : Nat) (a_this_tape : Nat) (a_this_laneOf : Nat) (a_this_sizeOf : Nat) (a_this_items : Nat) (a_this_code : Nat) (a_this_from : Nat) (a_this_by : Nat) (a_this_far : Nat) (a_this_met : Nat) (a_this_told : Nat) (q_acts : Int32) (q_imageActs : Int32) (q_tapeMany : Int32) (q_many : Int32) (q_round : Int32) (q_readAt : Int32) (q_isFault : Int32) (q_toldMany : Int32) (q_tape : Nat → Int32) (q_told : Nat → Int32) {res : Int32 × Int32 × (Nat → Int32)} (hf : fX8_readsLinks q_tapeMany q_readAt q_isFault q_toldMany q_tape q_told = some res) : ctv l yX8_readsLinks wsX8_readsLinks ({ frames := 3, cells := 0, slots := 0, locals := 70 }) D (ty4 cI cL cS cH) sz [.ref a_this] (wX8_readsLinks cI cL cS cH a_this a_this_st a_this_past a_this_image a_this_imagePast a_this_tape a_this_laneOf a_this_sizeOf a_this_items a_this_code a_this_from a_this_by a_this_far a_this_met a_this_told q_acts q_imageActs q_tapeMany q_many q_round q_readAt q_isFault q_toldMany q_tape q_told) (wX8_readsLinks cI cL cS cH a_this a_this_st a_this_past a_this_image a_this_imagePast a_this_tape a_this_laneOf a_this_sizeOf a_this_items a_this_code a_this_from a_this_by a_this_far a_this_met a_this_told q_acts q_imageActs q_tapeMany q_many q_round res.1 res.2.1 q_toldMany q_tape res.2.2) := by
  refine Met.ofW (cc := cX8_readsLinks) (maxL := 1) (ret := none) (by decide) rfl ?_
  intro p e s m args below meth c s₁ B hml hv
  obtain ⟨rfl, hpre⟩ := hv
  obtain rfl := hpre.1
  have C : CallFix p m c cX8_readsLinks 1 s _ wsX8_readsLinks RX8 := ⟨B.exec, B.bytes, hml, findClass_of_methodNamed B.named, atoms_spec (ws := wsX8_readsLinks) B.pre⟩
  have hr := B.returns
  have hlocks := B.notSynchronized
  have w := wd_start hpre
  clear hpre B
  have hl := lv_entry ([.ref a_this]) (n := 1) (Nat.le_of_ble_eq_true rfl)
  rw [lg_entry_eq]
  generalize (lg_sl ([.ref a_this]) ++ List.replicate (1 - (lg_sl ([.ref a_this])).length) Slot.unset).toArray = ls at hl ⊢
  have hl : lv_has ls 1 [(0, .ref a_this)] := hl
  unfold fX8_readsLinks at hf
  have hlp4 : ∀  (ex4 : Int32 × Int32 × (Nat → Int32)) (hk : (∀ (H : Heap) (locs : List Loc) (ls : Array Slot), wd D (ty4 cI cL cS cH) s (va_A (wX8_readsLinks cI cL cS cH a_this a_this_st a_this_past a_this_image a_this_imagePast a_this_tape a_this_laneOf a_this_sizeOf a_this_items a_this_code a_this_from a_this_by a_this_far a_this_met a_this_told q_acts q_imageActs q_tapeMany q_many q_round q_readAt q_isFault q_toldMany q_tape q_told) s.heap.size) s.heap H locs (wX8_readsLinks cI cL cS cH a_this a_this_st a_this_past a_this_image a_this_imagePast a_this_tape a_this_laneOf a_this_sizeOf a_this_items a_this_code a_this_from a_this_by a_this_far a_this_met a_this_told q_acts q_imageActs q_tapeMany q_many q_round ex4.1 ex4.2.1 q_toldMany q_tape ex4.2.2) → lv_has ls 1 [] → gX8_readsLinks p l e s m below meth c D cI cL cS cH a_this a_this_st a_this_past a_this_image a_this_imagePast a_this_tape a_this_laneOf a_this_sizeOf a_this_items a_this_code a_this_from a_this_by a_this_far a_this_met a_this_told q_acts q_imageActs q_tapeMany q_many q_round q_readAt q_isFault q_toldMany q_tape q_told res H locs (F0 m 37 ls []))) (n : Nat) (v4 : Int32 × Int32 × (Nat → Int32)) (H : Heap) (locs : List Loc) (ls : Array Slot), itL (bX8_readsLinks_4 q_tapeMany q_toldMany q_tape) n v4 = some ex4 → wd D (ty4 cI cL cS cH) s (va_A (wX8_readsLinks cI cL cS cH a_this a_this_st a_this_past a_this_image a_this_imagePast a_this_tape a_this_laneOf a_this_sizeOf a_this_items a_this_code a_this_from a_this_by a_this_far a_this_met a_this_told q_acts q_imageActs q_tapeMany q_many q_round q_readAt q_isFault q_toldMany q_tape q_told) s.heap.size) s.heap H locs (wX8_readsLinks cI cL cS cH a_this a_this_st a_this_past a_this_image a_this_imagePast a_this_tape a_this_laneOf a_this_sizeOf a_this_items a_this_code a_this_from a_this_by a_this_far a_this_met a_this_told q_acts q_imageActs q_tapeMany q_many q_round v4.1 v4.2.1 q_toldMany q_tape v4.2.2) → lv_has ls 1 [(0, .ref a_this)] → gX8_readsLinks p l e s m below meth c D cI cL cS cH a_this a_this_st a_this_past a_this_image a_this_imagePast a_this_tape a_this_laneOf a_this_sizeOf a_this_items a_this_code a_this_from a_this_by a_this_far a_this_met a_this_told q_acts q_imageActs q_tapeMany q_many q_round q_readAt q_isFault q_toldMany q_tape q_told res H locs (F0 m 4 ls []) := by
    intro  ex4 hk n
    induction n with
    | zero => intro v4 H locs ls hi w hl; exact (itL_zero hi).elim
    | succ n ih =>
      intro v4 H locs ls hi w hl
      obtain ⟨o, hf, hn⟩ := itL_succ hi
      unfold bX8_readsLinks_4 at hf
      refine lv_aload_n C.1 C.2.1 dX8_readsLinks_4 rfl (lv_at hl 0 rfl) ?_
      refine r_get C w inX8_readsLinks_X8 0 rfl rfl 19 (by decide) lkX8_readsLinks_190 rfl dX8_readsLinks_5 ?_
      refine lv_if_ne (tgt := 37) C.1 C.2.1 dX8_readsLinks_8 (by decide) (fun hq1 => ?_) (fun hq1 => ?_)
      · have hf := ite_f hf hq1
        obtain rfl := Option.some.inj hf
        obtain rfl := hn
        exact hk _ _ _ w (lv_sub hl [] rfl)
      · have hf := ite_t hf hq1
        refine lv_aload_n C.1 C.2.1 dX8_readsLinks_11 rfl (lv_at hl 0 rfl) ?_
        obtain ⟨r2, hc3, hf⟩ := bd hf
        refine call_Vi (ws' := (wX8_readsLinks cI cL cS cH a_this a_this_st a_this_past a_this_image a_this_imagePast a_this_tape a_this_laneOf a_this_sizeOf a_this_items a_this_code a_this_from a_this_by a_this_far a_this_met a_this_told q_acts q_imageActs q_tapeMany q_many q_round r2.2 v4.2.1 q_toldMany q_tape v4.2.2)) (rest := []) C w (mX8_looks l D cI cL cS cH _ a_this a_this_st a_this_past a_this_image a_this_imagePast a_this_tape a_this_laneOf a_this_sizeOf a_this_items a_this_code a_this_from a_this_by a_this_far a_this_met a_this_told q_acts q_imageActs q_tapeMany q_many q_round v4.1 v4.2.1 q_toldMany q_tape hc3) (cwV 0 C.2.2.2.2 gX8_readsLinks_X8_looks rfl rfl rfl (by decide +kernel) ⟨Nat.le_of_ble_eq_true rfl, Nat.le_of_ble_eq_true rfl⟩) [0, 1] [2] 3 ⟨rfl, rfl, trivial⟩ ⟨rfl, rfl, trivial⟩ ⟨⟨_, rfl, rfl⟩, trivial⟩ rfl (by decide) (by decide) (ci := 8) (q0 := 0) rfl rfl rfl hl.1 rfl (lv_room (Nat.le_of_ble_eq_true rfl)) dX8_readsLinks_12 ⟨Nat.zero_le _, Nat.zero_le _⟩ (fun H locs w => ?_)
        refine lv_bipush (v := (44 : Int32)) C.1 C.2.1 dX8_readsLinks_15 (by decide) ?_
        refine lv_icmp_ne (tgt := 37) C.1 C.2.1 dX8_readsLinks_17 (by decide) (fun hq4 => ?_) (fun hq4 => ?_)
        · have hf := ite_f hf hq4
          obtain rfl := Option.some.inj hf
          obtain rfl := hn
          exact hk _ _ _ w (lv_sub hl [] rfl)
        · have hf := ite_t hf hq4
          refine lv_aload_n C.1 C.2.1 dX8_readsLinks_20 rfl (lv_at hl 0 rfl) ?_
          refine lv_dup C.1 C.2.1 dX8_readsLinks_21 rfl ?_
          refine r_get C w inX8_readsLinks_X8 0 rfl rfl 18 (by decide) lkX8_readsLinks_187 rfl dX8_readsLinks_22 ?_
          refine lv_iconst (v := (1 : Int32)) C.1 C.2.1 dX8_readsLinks_25 (by decide) ?_
          refine lv_iadd C.1 C.2.1 dX8_readsLinks_26 ?_
          refine r_put (ws' := (wX8_readsLinks cI cL cS cH a_this a_this_st a_this_past a_this_image a_this_imagePast a_this_tape a_this_laneOf a_this_sizeOf a_this_items a_this_code a_this_from a_this_by a_this_far a_this_met a_this_told q_acts q_imageActs q_tapeMany q_many q_round (r2.2 + (1 : Int32)) v4.2.1 q_toldMany q_tape v4.2.2)) C w inX8_readsLinks_X8 tyX8 tyX8_ok nmX8 0 rfl rfl 18 (by decide) lkX8_readsLinks_187 rfl rfl rfl (Nat.le_of_ble_eq_true rfl) rfl dX8_readsLinks_27 (fun H locs w => ?_)
          refine lv_aload_n C.1 C.2.1 dX8_readsLinks_30 rfl (lv_at hl 0 rfl) ?_
          obtain ⟨r5, hc6, hf⟩ := bd hf
          refine call_Vv (ws' := (wX8_readsLinks cI cL cS cH a_this a_this_st a_this_past a_this_image a_this_imagePast a_this_tape a_this_laneOf a_this_sizeOf a_this_items a_this_code a_this_from a_this_by a_this_far a_this_met a_this_told q_acts q_imageActs q_tapeMany q_many q_round r5.1 r5.2.1 q_toldMany q_tape r5.2.2)) (rest := []) C w (mX8_readsLink l D cI cL cS cH _ a_this a_this_st a_this_past a_this_image a_this_imagePast a_this_tape a_this_laneOf a_this_sizeOf a_this_items a_this_code a_this_from a_this_by a_this_far a_this_met a_this_told q_acts q_imageActs q_tapeMany q_many q_round (r2.2 + (1 : Int32)) v4.2.1 q_toldMany q_tape v4.2.2 hc6) (cwV 0 C.2.2.2.2 gX8_readsLinks_X8_readsLink rfl rfl rfl (by decide +kernel) ⟨Nat.le_of_ble_eq_true rfl, Nat.le_of_ble_eq_true rfl⟩) [0, 1, 2] [] 3 ⟨rfl, rfl, rfl, trivial⟩ ⟨rfl, rfl, rfl, trivial⟩ trivial rfl (by decide) (by decide) (ci := 8) (q0 := 0) rfl rfl rfl hl.1 rfl (lv_room (Nat.le_of_ble_eq_true rfl)) dX8_readsLinks_31 ⟨Nat.zero_le _, Nat.zero_le _⟩ (fun H locs w => ?_)
          refine lv_goto (tgt := 4) C.1 C.2.1 dX8_readsLinks_34 (by decide) ?_
          obtain rfl := Option.some.inj hf
          exact ih (r5.1, r5.2.1, r5.2.2) _ _ _ hn w (lv_sub hl [0] rfl)
  refine lv_aload_n C.1 C.2.1 dX8_readsLinks_0 rfl (lv_at hl 0 rfl) ?_
  obtain ⟨r7, hc8, hf⟩ := bd hf
  refine call_Vv (ws' := (wX8_readsLinks cI cL cS cH a_this a_this_st a_this_past a_this_image a_this_imagePast a_this_tape a_this_laneOf a_this_sizeOf a_this_items a_this_code a_this_from a_this_by a_this_far a_this_met a_this_told q_acts q_imageActs q_tapeMany q_many q_round r7.1 r7.2.1 q_toldMany q_tape r7.2.2)) (rest := []) C w (mX8_readsLink l D cI cL cS cH _ a_this a_this_st a_this_past a_this_image a_this_imagePast a_this_tape a_this_laneOf a_this_sizeOf a_this_items a_this_code a_this_from a_this_by a_this_far a_this_met a_this_told q_acts q_imageActs q_tapeMany q_many q_round q_readAt q_isFault q_toldMany q_tape q_told hc8) (cwV 0 C.2.2.2.2 gX8_readsLinks_X8_readsLink rfl rfl rfl (by decide +kernel) ⟨Nat.le_of_ble_eq_true rfl, Nat.le_of_ble_eq_true rfl⟩) [0, 1, 2] [] 3 ⟨rfl, rfl, rfl, trivial⟩ ⟨rfl, rfl, rfl, trivial⟩ trivial rfl (by decide) (by decide) (ci := 8) (q0 := 0) rfl rfl rfl hl.1 rfl (lv_room (Nat.le_of_ble_eq_true rfl)) dX8_readsLinks_1 ⟨Nat.zero_le _, Nat.zero_le _⟩ (fun H locs w => ?_)
  obtain ⟨ex9, hx10, hf⟩ := bd hf
  refine hlp4  ex9 ?_ fu (r7.1, r7.2.1, r7.2.2) _ _ _ hx10 w (lv_sub hl [0] rfl)
  intro H locs ls w hl
  have hres := Option.some.inj hf
  subst hres
  exact ret_v C hr hlocks w dX8_readsLinks_37

set_option maxRecDepth 100000 in
theorem inX8_readsGrid_X8 : ∀ w ∈ u_ws RX8 TX8 22, w ∈ wsX8_readsGrid := by decide +kernel
set_option maxRecDepth 100000 in
theorem lkX8_readsGrid_212 : Cond.fieldLink RX8 212 "CleanNetsModel" "toldMany" "I" ∈ wsX8_readsGrid := by decide +kernel
set_option maxRecDepth 100000 in
theorem lkX8_readsGrid_190 : Cond.fieldLink RX8 190 "CleanNetsModel" "isFault" "Z" ∈ wsX8_readsGrid := by decide +kernel
abbrev wX8_readsGrid (cI cL cS cH : ClassId) (a_this : Nat) (a_this_st : Nat) (a_this_past : Nat) (a_this_image : Nat) (a_this_imagePast : Nat) (a_this_tape : Nat) (a_this_laneOf : Nat) (a_this_sizeOf : Nat) (a_this_items : Nat) (a_this_code : Nat) (a_this_from : Nat) (a_this_by : Nat) (a_this_far : Nat) (a_this_met : Nat) (a_this_told : Nat) (q_acts : Int32) (q_imageActs : Int32) (q_tapeMany : Int32) (q_many : Int32) (q_round : Int32) (q_readAt : Int32) (q_isFault : Int32) (q_toldMany : Int32) (q_tape : Nat → Int32) (q_told : Nat → Int32) : va_W := [(a_this, .inr (8, [.ref a_this_st, .ref a_this_past, .int q_acts, .ref a_this_image, .ref a_this_imagePast, .int q_imageActs, .ref a_this_tape, .int q_tapeMany, .ref a_this_laneOf, .ref a_this_sizeOf, .ref a_this_items, .ref a_this_code, .ref a_this_from, .ref a_this_by, .ref a_this_far, .int q_many, .ref a_this_met, .int q_round, .int q_readAt, .int q_isFault, .int q_toldMany, .ref a_this_told])),
  (a_this_tape, .inl (cI, 90, .inl q_tape)),
  (a_this_told, .inl (cI, 7, .inl q_told))]
def jX8_readsGrid_148 (q_tapeMany : Int32) (q_tape : Nat → Int32) (y113_1 : Int32) (y148_3 : Int32) (k113_q_readAt : Int32) (k113_q_isFault : Int32) (k113_q_toldMany : Int32) (k148_q_told : Nat → Int32) : Option ((Int32 × (Nat → Int32)) ⊕ (Int32 × (Nat → Int32))) := some (.inl ((y148_3 + (1 : Int32)), k148_q_told))
def jX8_readsGrid_135 (q_tapeMany : Int32) (q_tape : Nat → Int32) (y113_1 : Int32) (y135_3 : Int32) (k113_q_readAt : Int32) (k113_q_isFault : Int32) (k113_q_toldMany : Int32) (k135_q_told : Nat → Int32) : Option ((Int32 × (Nat → Int32)) ⊕ (Int32 × (Nat → Int32))) := (if y135_3 < y113_1 then jX8_readsGrid_148 q_tapeMany q_tape y113_1 y135_3 k113_q_readAt k113_q_isFault k113_q_toldMany k135_q_told else Option.bind (fX8_links k135_q_told (y135_3 - y113_1) y135_3) (fun r2 => jX8_readsGrid_148 q_tapeMany q_tape y113_1 y135_3 k113_q_readAt k113_q_isFault k113_q_toldMany r2))
def bX8_readsGrid_113 (q_tapeMany : Int32) (q_tape : Nat → Int32) (y113_1 : Int32) (k113_q_readAt : Int32) (k113_q_isFault : Int32) (k113_q_toldMany : Int32) (v113 : Int32 × (Nat → Int32)) : Option ((Int32 × (Nat → Int32)) ⊕ (Int32 × (Nat → Int32))) := (if k113_q_toldMany ≤ v113.1 then some (.inr (v113.1, v113.2)) else Option.bind (rmd v113.1 y113_1) (fun y5 => (if y5 ≤ 0 then jX8_readsGrid_135 q_tapeMany q_tape y113_1 v113.1 k113_q_readAt k113_q_isFault k113_q_toldMany v113.2 else Option.bind (fX8_links v113.2 (v113.1 - (1 : Int32)) v113.1) (fun r8 => jX8_readsGrid_135 q_tapeMany q_tape y113_1 v113.1 k113_q_readAt k113_q_isFault k113_q_toldMany r8))))
def jX8_readsGrid_93 (q_tapeMany : Int32) (q_tape : Nat → Int32) (y93_1 : Int32) (y93_2 : Int32) (z93_0 : Int32) (k93_q_readAt : Int32) (k93_q_isFault : Int32) (k93_q_toldMany : Int32) (k93_q_told : Nat → Int32) : Option (Int32 × Int32 × Int32 × (Nat → Int32)) := Option.bind (fX8_takes k93_q_readAt k93_q_isFault z93_0) (fun r10 => (if r10.2 = 0 then Option.bind (itL (bX8_readsGrid_113 q_tapeMany q_tape y93_1 r10.1 r10.2 (y93_1 * y93_2)) fu ((0 : Int32), k93_q_told)) (fun ex13 => some (r10.1, r10.2, (y93_1 * y93_2), ex13.2)) else some (r10.1, r10.2, k93_q_toldMany, k93_q_told)))
def jX8_readsGrid_92 (q_tapeMany : Int32) (q_tape : Nat → Int32) (y92_1 : Int32) (y92_2 : Int32) (k92_q_readAt : Int32) (k92_q_isFault : Int32) (k92_q_toldMany : Int32) (k92_q_told : Nat → Int32) : Option (Int32 × Int32 × Int32 × (Nat → Int32)) := jX8_readsGrid_93 q_tapeMany q_tape y92_1 y92_2 (0 : Int32) k92_q_readAt k92_q_isFault k92_q_toldMany k92_q_told
def jX8_readsGrid_88 (q_tapeMany : Int32) (q_tape : Nat → Int32) (y88_1 : Int32) (y88_2 : Int32) (k88_q_readAt : Int32) (k88_q_isFault : Int32) (k88_q_toldMany : Int32) (k88_q_told : Nat → Int32) : Option (Int32 × Int32 × Int32 × (Nat → Int32)) := jX8_readsGrid_93 q_tapeMany q_tape y88_1 y88_2 (1 : Int32) k88_q_readAt k88_q_isFault k88_q_toldMany k88_q_told
def jX8_readsGrid_51 (q_tapeMany : Int32) (q_tape : Nat → Int32) (y51_1 : Int32) (z51_0 : Int32) (k51_q_readAt : Int32) (k51_q_isFault : Int32) (k51_q_toldMany : Int32) (k51_q_told : Nat → Int32) : Option (Int32 × Int32 × Int32 × (Nat → Int32)) := (if k51_q_isFault = 0 then Option.bind (fX8_in ((z51_0).toInt64) (1 : Int64) (7 : Int64)) (fun r16 => (if r16 = 0 then jX8_readsGrid_92 q_tapeMany q_tape y51_1 z51_0 k51_q_readAt k51_q_isFault k51_q_toldMany k51_q_told else Option.bind (fX8_in (((y51_1 * z51_0)).toInt64) (2 : Int64) (7 : Int64)) (fun r19 => (if r19 = 0 then jX8_readsGrid_92 q_tapeMany q_tape y51_1 z51_0 k51_q_readAt k51_q_isFault k51_q_toldMany k51_q_told else jX8_readsGrid_88 q_tapeMany q_tape y51_1 z51_0 k51_q_readAt k51_q_isFault k51_q_toldMany k51_q_told)))) else jX8_readsGrid_88 q_tapeMany q_tape y51_1 z51_0 k51_q_readAt k51_q_isFault k51_q_toldMany k51_q_told)
def jX8_readsGrid_30 (q_tapeMany : Int32) (q_tape : Nat → Int32) (y30_1 : Int32) (z30_0 : Int32) (k30_q_readAt : Int32) (k30_q_isFault : Int32) (k30_q_toldMany : Int32) (k30_q_told : Nat → Int32) : Option (Int32 × Int32 × Int32 × (Nat → Int32)) := Option.bind (fX8_takes k30_q_readAt k30_q_isFault z30_0) (fun r22 => (if r22.2 = 0 then Option.bind (fX8_looks q_tapeMany r22.1 q_tape) (fun r25 => jX8_readsGrid_51 q_tapeMany q_tape y30_1 (r25.1 - (48 : Int32)) r25.2 r22.2 k30_q_toldMany k30_q_told) else jX8_readsGrid_51 q_tapeMany q_tape y30_1 (1 : Int32) r22.1 r22.2 k30_q_toldMany k30_q_told))
def jX8_readsGrid_25 (q_tapeMany : Int32) (q_tape : Nat → Int32) (y25_1 : Int32) (k25_q_readAt : Int32) (k25_q_isFault : Int32) (k25_q_toldMany : Int32) (k25_q_told : Nat → Int32) : Option (Int32 × Int32 × Int32 × (Nat → Int32)) := jX8_readsGrid_30 q_tapeMany q_tape y25_1 (1 : Int32) k25_q_readAt k25_q_isFault k25_q_toldMany k25_q_told
def fX8_readsGrid (q_tapeMany : Int32) (q_readAt : Int32) (q_isFault : Int32) (q_toldMany : Int32) (q_tape : Nat → Int32) (q_told : Nat → Int32)  : Option (Int32 × Int32 × Int32 × (Nat → Int32)) := Option.bind (fX8_figure q_tapeMany q_readAt q_isFault q_tape (1 : Int32) (7 : Int32)) (fun r27 => (if r27.2.2 = 0 then Option.bind (fX8_looks q_tapeMany r27.2.1 q_tape) (fun r30 => (if r30.1 = (42 : Int32) then jX8_readsGrid_25 q_tapeMany q_tape r27.1 r30.2 r27.2.2 q_toldMany q_told else jX8_readsGrid_30 q_tapeMany q_tape r27.1 (0 : Int32) r30.2 r27.2.2 q_toldMany q_told)) else jX8_readsGrid_25 q_tapeMany q_tape r27.1 r27.2.1 r27.2.2 q_toldMany q_told))
abbrev gX8_readsGrid (p : Program) (l : Launch) (e : Env) (s : State) (m : MethodId) (below : List Frame) (meth : Method) (c : Code) (D : vg) (cI cL cS cH : ClassId) (a_this : Nat) (a_this_st : Nat) (a_this_past : Nat) (a_this_image : Nat) (a_this_imagePast : Nat) (a_this_tape : Nat) (a_this_laneOf : Nat) (a_this_sizeOf : Nat) (a_this_items : Nat) (a_this_code : Nat) (a_this_from : Nat) (a_this_by : Nat) (a_this_far : Nat) (a_this_met : Nat) (a_this_told : Nat) (q_acts : Int32) (q_imageActs : Int32) (q_tapeMany : Int32) (q_many : Int32) (q_round : Int32) (q_readAt : Int32) (q_isFault : Int32) (q_toldMany : Int32) (q_tape : Nat → Int32) (q_told : Nat → Int32) (res : Int32 × Int32 × Int32 × (Nat → Int32)) (H : Heap) (locs : List Loc) (g : JFrame) : Prop := W p l e (headSpec wsX8_readsGrid ({ frames := 2, cells := 0, slots := 0, locals := 48 })).room s m ([.ref a_this] : List Value).toArray below meth c H locs 0 0 (MQ below (va_Qv (fun (_ : Unit) => True) (fun _ t => pos1 D s.heap.size (wX8_readsGrid cI cL cS cH a_this a_this_st a_this_past a_this_image a_this_imagePast a_this_tape a_this_laneOf a_this_sizeOf a_this_items a_this_code a_this_from a_this_by a_this_far a_this_met a_this_told q_acts q_imageActs q_tapeMany q_many q_round q_readAt q_isFault q_toldMany q_tape q_told) (wX8_readsGrid cI cL cS cH a_this a_this_st a_this_past a_this_image a_this_imagePast a_this_tape a_this_laneOf a_this_sizeOf a_this_items a_this_code a_this_from a_this_by a_this_far a_this_met a_this_told q_acts q_imageActs q_tapeMany q_many q_round res.1 res.2.1 res.2.2.1 q_tape res.2.2.2) t) (va_A (wX8_readsGrid cI cL cS cH a_this a_this_st a_this_past a_this_image a_this_imagePast a_this_tape a_this_laneOf a_this_sizeOf a_this_items a_this_code a_this_from a_this_by a_this_far a_this_met a_this_told q_acts q_imageActs q_tapeMany q_many q_round q_readAt q_isFault q_toldMany q_tape q_told) s.heap.size)) ([.ref a_this] : List Value).toArray s 0 0 (va_A (wX8_readsGrid cI cL cS cH a_this a_this_st a_this_past a_this_image a_this_imagePast a_this_tape a_this_laneOf a_this_sizeOf a_this_items a_this_code a_this_from a_this_by a_this_far a_this_met a_this_told q_acts q_imageActs q_tapeMany q_many q_round q_readAt q_isFault q_toldMany q_tape q_told) s.heap.size)) g
set_option maxHeartbeats 4000000 in
set_option maxRecDepth 100000 in
theorem mX8_readsGrid (l : Launch) (D : vg) (cI cL cS cH : ClassId) (sz : Nat) (a_this : Nat) (a_this_st : Nat) (a_this_past : Nat) (a_this_image : Nat) (a_this_imagePast : Nat) (a_this_tape : Nat) (a_this_laneOf : Nat) (a_this_sizeOf : Nat) (a_this_items : Nat) (a_this_code : Nat) (a_this_from : Nat) (a_this_by : Nat) (a_this_far : Nat) (a_this_met : Nat) (a_this_told : Nat) (q_acts : Int32) (q_imageActs : Int32) (q_tapeMany : Int32) (q_many : Int32) (q_round : Int32) (q_readAt : Int32) (q_isFault : Int32) (q_toldMany : Int32) (q_tape : Nat → Int32) (q_told : Nat → Int32) {res : Int32 × Int32 × Int32 × (Nat → Int32)} (hf : fX8_readsGrid q_tapeMany q_readAt q_isFault q_toldMany q_tape q_told = some res) : ctv l yX8_readsGrid wsX8_readsGrid ({ frames := 2, cells := 0, slots := 0, locals := 48 }) D (ty4 cI cL cS cH) sz [.ref a_this] (wX8_readsGrid cI cL cS cH a_this a_this_st a_this_past a_this_image a_this_imagePast a_this_tape a_this_laneOf a_this_sizeOf a_this_items a_this_code a_this_from a_this_by a_this_far a_this_met a_this_told q_acts q_imageActs q_tapeMany q_many q_round q_readAt q_isFault q_toldMany q_tape q_told) (wX8_readsGrid cI cL cS cH a_this a_this_st a_this_past a_this_image a_this_imagePast a_this_tape a_this_laneOf a_this_sizeOf a_this_items a_this_code a_this_from a_this_by a_this_far a_this_met a_this_told q_acts q_imageActs q_tapeMany q_many q_round res.1 res.2.1 res.2.2.1 q_tape res.2.2.2) := by
  refine Met.ofW (cc := cX8_readsGrid) (maxL := 4) (ret := none) (by decide) rfl ?_
  intro p e s m args below meth c s₁ B hml hv
  obtain ⟨rfl, hpre⟩ := hv
  obtain rfl := hpre.1
  have C : CallFix p m c cX8_readsGrid 4 s _ wsX8_readsGrid RX8 := ⟨B.exec, B.bytes, hml, findClass_of_methodNamed B.named, atoms_spec (ws := wsX8_readsGrid) B.pre⟩
  have hr := B.returns
  have hlocks := B.notSynchronized
  have w := wd_start hpre
  clear hpre B
  have hl := lv_entry ([.ref a_this]) (n := 4) (Nat.le_of_ble_eq_true rfl)
  rw [lg_entry_eq]
  generalize (lg_sl ([.ref a_this]) ++ List.replicate (4 - (lg_sl ([.ref a_this])).length) Slot.unset).toArray = ls at hl ⊢
  have hl : lv_has ls 4 [(0, .ref a_this)] := hl
  unfold fX8_readsGrid at hf
  have hlp113 : ∀ (y113_1 : Int32) (k113_q_readAt : Int32) (k113_q_isFault : Int32) (k113_q_toldMany : Int32) (ex113 : Int32 × (Nat → Int32)) (hk : (∀ (H : Heap) (locs : List Loc) (ls : Array Slot), wd D (ty4 cI cL cS cH) s (va_A (wX8_readsGrid cI cL cS cH a_this a_this_st a_this_past a_this_image a_this_imagePast a_this_tape a_this_laneOf a_this_sizeOf a_this_items a_this_code a_this_from a_this_by a_this_far a_this_met a_this_told q_acts q_imageActs q_tapeMany q_many q_round q_readAt q_isFault q_toldMany q_tape q_told) s.heap.size) s.heap H locs (wX8_readsGrid cI cL cS cH a_this a_this_st a_this_past a_this_image a_this_imagePast a_this_tape a_this_laneOf a_this_sizeOf a_this_items a_this_code a_this_from a_this_by a_this_far a_this_met a_this_told q_acts q_imageActs q_tapeMany q_many q_round k113_q_readAt k113_q_isFault k113_q_toldMany q_tape ex113.2) → lv_has ls 4 [] → gX8_readsGrid p l e s m below meth c D cI cL cS cH a_this a_this_st a_this_past a_this_image a_this_imagePast a_this_tape a_this_laneOf a_this_sizeOf a_this_items a_this_code a_this_from a_this_by a_this_far a_this_met a_this_told q_acts q_imageActs q_tapeMany q_many q_round q_readAt q_isFault q_toldMany q_tape q_told res H locs (F0 m 154 ls []))) (n : Nat) (v113 : Int32 × (Nat → Int32)) (H : Heap) (locs : List Loc) (ls : Array Slot), itL (bX8_readsGrid_113 q_tapeMany q_tape y113_1 k113_q_readAt k113_q_isFault k113_q_toldMany) n v113 = some ex113 → wd D (ty4 cI cL cS cH) s (va_A (wX8_readsGrid cI cL cS cH a_this a_this_st a_this_past a_this_image a_this_imagePast a_this_tape a_this_laneOf a_this_sizeOf a_this_items a_this_code a_this_from a_this_by a_this_far a_this_met a_this_told q_acts q_imageActs q_tapeMany q_many q_round q_readAt q_isFault q_toldMany q_tape q_told) s.heap.size) s.heap H locs (wX8_readsGrid cI cL cS cH a_this a_this_st a_this_past a_this_image a_this_imagePast a_this_tape a_this_laneOf a_this_sizeOf a_this_items a_this_code a_this_from a_this_by a_this_far a_this_met a_this_told q_acts q_imageActs q_tapeMany q_many q_round k113_q_readAt k113_q_isFault k113_q_toldMany q_tape v113.2) → lv_has ls 4 [(0, .ref a_this), (1, .int y113_1), (3, .int v113.1)] → gX8_readsGrid p l e s m below meth c D cI cL cS cH a_this a_this_st a_this_past a_this_image a_this_imagePast a_this_tape a_this_laneOf a_this_sizeOf a_this_items a_this_code a_this_from a_this_by a_this_far a_this_met a_this_told q_acts q_imageActs q_tapeMany q_many q_round q_readAt q_isFault q_toldMany q_tape q_told res H locs (F0 m 113 ls []) := by
    intro y113_1 k113_q_readAt k113_q_isFault k113_q_toldMany ex113 hk n
    induction n with
    | zero => intro v113 H locs ls hi w hl; exact (itL_zero hi).elim
    | succ n ih =>
      intro v113 H locs ls hi w hl
      obtain ⟨o, hf, hn⟩ := itL_succ hi
      unfold bX8_readsGrid_113 at hf
      have hj148 : ∀ (y148_3 : Int32) (k148_q_told : Nat → Int32) (H : Heap) (locs : List Loc) (ls : Array Slot), wd D (ty4 cI cL cS cH) s (va_A (wX8_readsGrid cI cL cS cH a_this a_this_st a_this_past a_this_image a_this_imagePast a_this_tape a_this_laneOf a_this_sizeOf a_this_items a_this_code a_this_from a_this_by a_this_far a_this_met a_this_told q_acts q_imageActs q_tapeMany q_many q_round q_readAt q_isFault q_toldMany q_tape q_told) s.heap.size) s.heap H locs (wX8_readsGrid cI cL cS cH a_this a_this_st a_this_past a_this_image a_this_imagePast a_this_tape a_this_laneOf a_this_sizeOf a_this_items a_this_code a_this_from a_this_by a_this_far a_this_met a_this_told q_acts q_imageActs q_tapeMany q_many q_round k113_q_readAt k113_q_isFault k113_q_toldMany q_tape k148_q_told) → lv_has ls 4 [(0, .ref a_this), (1, .int y113_1), (3, .int y148_3)] → jX8_readsGrid_148 q_tapeMany q_tape y113_1 y148_3 k113_q_readAt k113_q_isFault k113_q_toldMany k148_q_told = some o → gX8_readsGrid p l e s m below meth c D cI cL cS cH a_this a_this_st a_this_past a_this_image a_this_imagePast a_this_tape a_this_laneOf a_this_sizeOf a_this_items a_this_code a_this_from a_this_by a_this_far a_this_met a_this_told q_acts q_imageActs q_tapeMany q_many q_round q_readAt q_isFault q_toldMany q_tape q_told res H locs (F0 m 148 ls []) := by
        intro y148_3 k148_q_told H locs ls w hl hf
        unfold jX8_readsGrid_148 at hf
        refine lv_iinc (v := (y148_3 + (1 : Int32))) (lv' := [(3, .int (y148_3 + (1 : Int32))), (0, .ref a_this), (1, .int y113_1)]) C.1 C.2.1 dX8_readsGrid_148 hl (k := 2) rfl rfl (by decide) rfl (fun ls hl => ?_)
        refine lv_goto (tgt := 113) C.1 C.2.1 dX8_readsGrid_151 (by decide) ?_
        obtain rfl := Option.some.inj hf
        exact ih ((y148_3 + (1 : Int32)), k148_q_told) _ _ _ hn w (lv_sub hl [1, 2, 0] rfl)
      have hj135 : ∀ (y135_3 : Int32) (k135_q_told : Nat → Int32) (H : Heap) (locs : List Loc) (ls : Array Slot), wd D (ty4 cI cL cS cH) s (va_A (wX8_readsGrid cI cL cS cH a_this a_this_st a_this_past a_this_image a_this_imagePast a_this_tape a_this_laneOf a_this_sizeOf a_this_items a_this_code a_this_from a_this_by a_this_far a_this_met a_this_told q_acts q_imageActs q_tapeMany q_many q_round q_readAt q_isFault q_toldMany q_tape q_told) s.heap.size) s.heap H locs (wX8_readsGrid cI cL cS cH a_this a_this_st a_this_past a_this_image a_this_imagePast a_this_tape a_this_laneOf a_this_sizeOf a_this_items a_this_code a_this_from a_this_by a_this_far a_this_met a_this_told q_acts q_imageActs q_tapeMany q_many q_round k113_q_readAt k113_q_isFault k113_q_toldMany q_tape k135_q_told) → lv_has ls 4 [(0, .ref a_this), (1, .int y113_1), (3, .int y135_3)] → jX8_readsGrid_135 q_tapeMany q_tape y113_1 y135_3 k113_q_readAt k113_q_isFault k113_q_toldMany k135_q_told = some o → gX8_readsGrid p l e s m below meth c D cI cL cS cH a_this a_this_st a_this_past a_this_image a_this_imagePast a_this_tape a_this_laneOf a_this_sizeOf a_this_items a_this_code a_this_from a_this_by a_this_far a_this_met a_this_told q_acts q_imageActs q_tapeMany q_many q_round q_readAt q_isFault q_toldMany q_tape q_told res H locs (F0 m 135 ls []) := by
        intro y135_3 k135_q_told H locs ls w hl hf
        unfold jX8_readsGrid_135 at hf
        refine lv_iload_n C.1 C.2.1 dX8_readsGrid_135 rfl (lv_at hl 2 rfl) ?_
        refine lv_iload_n C.1 C.2.1 dX8_readsGrid_136 rfl (lv_at hl 1 rfl) ?_
        refine lv_icmp_lt (tgt := 148) C.1 C.2.1 dX8_readsGrid_137 (by decide) (fun hq1 => ?_) (fun hq1 => ?_)
        · have hf := ite_t hf hq1
          exact hj148 y135_3 k135_q_told _ _ _ w (lv_sub hl [0, 1, 2] rfl) hf
        · have hf := ite_f hf hq1
          refine lv_aload_n C.1 C.2.1 dX8_readsGrid_140 rfl (lv_at hl 0 rfl) ?_
          refine lv_iload_n C.1 C.2.1 dX8_readsGrid_141 rfl (lv_at hl 2 rfl) ?_
          refine lv_iload_n C.1 C.2.1 dX8_readsGrid_142 rfl (lv_at hl 1 rfl) ?_
          refine lv_isub C.1 C.2.1 dX8_readsGrid_143 ?_
          refine lv_iload_n C.1 C.2.1 dX8_readsGrid_144 rfl (lv_at hl 2 rfl) ?_
          obtain ⟨r2, hc3, hf⟩ := bd hf
          refine call_Vv (ws' := (wX8_readsGrid cI cL cS cH a_this a_this_st a_this_past a_this_image a_this_imagePast a_this_tape a_this_laneOf a_this_sizeOf a_this_items a_this_code a_this_from a_this_by a_this_far a_this_met a_this_told q_acts q_imageActs q_tapeMany q_many q_round k113_q_readAt k113_q_isFault k113_q_toldMany q_tape r2)) (rest := []) C w (mX8_links l D cI cL cS cH _ a_this a_this_st a_this_past a_this_image a_this_imagePast a_this_tape a_this_laneOf a_this_sizeOf a_this_items a_this_code a_this_from a_this_by a_this_far a_this_met a_this_told q_acts q_imageActs q_tapeMany q_many q_round k113_q_readAt k113_q_isFault k113_q_toldMany k135_q_told (y135_3 - y113_1) y135_3 hc3) (cwV 2 C.2.2.2.2 gX8_readsGrid_X8_links rfl rfl rfl (by decide +kernel) ⟨Nat.le_of_ble_eq_true rfl, Nat.le_of_ble_eq_true rfl⟩) [0, 2] [1] 3 ⟨rfl, rfl, trivial⟩ ⟨rfl, rfl, trivial⟩ ⟨⟨_, rfl, rfl⟩, trivial⟩ rfl (by decide) (by decide) (ci := 8) (q0 := 0) rfl rfl rfl hl.1 rfl (lv_room (Nat.le_of_ble_eq_true rfl)) dX8_readsGrid_145 ⟨Nat.zero_le _, Nat.zero_le _⟩ (fun H locs w => ?_)
          exact hj148 y135_3 r2 _ _ _ w (lv_sub hl [0, 1, 2] rfl) hf
      refine lv_iload_n C.1 C.2.1 dX8_readsGrid_113 rfl (lv_at hl 2 rfl) ?_
      refine lv_aload_n C.1 C.2.1 dX8_readsGrid_114 rfl (lv_at hl 0 rfl) ?_
      refine r_get C w inX8_readsGrid_X8 0 rfl rfl 20 (by decide) lkX8_readsGrid_212 rfl dX8_readsGrid_115 ?_
      refine lv_icmp_ge (tgt := 154) C.1 C.2.1 dX8_readsGrid_118 (by decide) (fun hq4 => ?_) (fun hq4 => ?_)
      · have hf := ite_t hf hq4
        obtain rfl := Option.some.inj hf
        obtain rfl := hn
        exact hk _ _ _ w (lv_sub hl [] rfl)
      · have hf := ite_f hf hq4
        refine lv_iload_n C.1 C.2.1 dX8_readsGrid_121 rfl (lv_at hl 2 rfl) ?_
        refine lv_iload_n C.1 C.2.1 dX8_readsGrid_122 rfl (lv_at hl 1 rfl) ?_
        obtain ⟨y5, hy6, hf⟩ := bd hf
        refine lv_irem C.1 C.2.1 dX8_readsGrid_123 (rmd_in hy6).1 ?_
        refine lt_topi (rmd_in hy6).2 ?_
        refine lv_if_le (tgt := 135) C.1 C.2.1 dX8_readsGrid_124 (by decide) (fun hq7 => ?_) (fun hq7 => ?_)
        · have hf := ite_t hf hq7
          exact hj135 v113.1 v113.2 _ _ _ w (lv_sub hl [0, 1, 2] rfl) hf
        · have hf := ite_f hf hq7
          refine lv_aload_n C.1 C.2.1 dX8_readsGrid_127 rfl (lv_at hl 0 rfl) ?_
          refine lv_iload_n C.1 C.2.1 dX8_readsGrid_128 rfl (lv_at hl 2 rfl) ?_
          refine lv_iconst (v := (1 : Int32)) C.1 C.2.1 dX8_readsGrid_129 (by decide) ?_
          refine lv_isub C.1 C.2.1 dX8_readsGrid_130 ?_
          refine lv_iload_n C.1 C.2.1 dX8_readsGrid_131 rfl (lv_at hl 2 rfl) ?_
          obtain ⟨r8, hc9, hf⟩ := bd hf
          refine call_Vv (ws' := (wX8_readsGrid cI cL cS cH a_this a_this_st a_this_past a_this_image a_this_imagePast a_this_tape a_this_laneOf a_this_sizeOf a_this_items a_this_code a_this_from a_this_by a_this_far a_this_met a_this_told q_acts q_imageActs q_tapeMany q_many q_round k113_q_readAt k113_q_isFault k113_q_toldMany q_tape r8)) (rest := []) C w (mX8_links l D cI cL cS cH _ a_this a_this_st a_this_past a_this_image a_this_imagePast a_this_tape a_this_laneOf a_this_sizeOf a_this_items a_this_code a_this_from a_this_by a_this_far a_this_met a_this_told q_acts q_imageActs q_tapeMany q_many q_round k113_q_readAt k113_q_isFault k113_q_toldMany v113.2 (v113.1 - (1 : Int32)) v113.1 hc9) (cwV 2 C.2.2.2.2 gX8_readsGrid_X8_links rfl rfl rfl (by decide +kernel) ⟨Nat.le_of_ble_eq_true rfl, Nat.le_of_ble_eq_true rfl⟩) [0, 2] [1] 3 ⟨rfl, rfl, trivial⟩ ⟨rfl, rfl, trivial⟩ ⟨⟨_, rfl, rfl⟩, trivial⟩ rfl (by decide) (by decide) (ci := 8) (q0 := 0) rfl rfl rfl hl.1 rfl (lv_room (Nat.le_of_ble_eq_true rfl)) dX8_readsGrid_132 ⟨Nat.zero_le _, Nat.zero_le _⟩ (fun H locs w => ?_)
          exact hj135 v113.1 r8 _ _ _ w (lv_sub hl [0, 1, 2] rfl) hf
  have hj93 : ∀ (y93_1 : Int32) (y93_2 : Int32) (z93_0 : Int32) (k93_q_readAt : Int32) (k93_q_isFault : Int32) (k93_q_toldMany : Int32) (k93_q_told : Nat → Int32) (H : Heap) (locs : List Loc) (ls : Array Slot), wd D (ty4 cI cL cS cH) s (va_A (wX8_readsGrid cI cL cS cH a_this a_this_st a_this_past a_this_image a_this_imagePast a_this_tape a_this_laneOf a_this_sizeOf a_this_items a_this_code a_this_from a_this_by a_this_far a_this_met a_this_told q_acts q_imageActs q_tapeMany q_many q_round q_readAt q_isFault q_toldMany q_tape q_told) s.heap.size) s.heap H locs (wX8_readsGrid cI cL cS cH a_this a_this_st a_this_past a_this_image a_this_imagePast a_this_tape a_this_laneOf a_this_sizeOf a_this_items a_this_code a_this_from a_this_by a_this_far a_this_met a_this_told q_acts q_imageActs q_tapeMany q_many q_round k93_q_readAt k93_q_isFault k93_q_toldMany q_tape k93_q_told) → lv_has ls 4 [(0, .ref a_this), (1, .int y93_1), (2, .int y93_2)] → jX8_readsGrid_93 q_tapeMany q_tape y93_1 y93_2 z93_0 k93_q_readAt k93_q_isFault k93_q_toldMany k93_q_told = some res → gX8_readsGrid p l e s m below meth c D cI cL cS cH a_this a_this_st a_this_past a_this_image a_this_imagePast a_this_tape a_this_laneOf a_this_sizeOf a_this_items a_this_code a_this_from a_this_by a_this_far a_this_met a_this_told q_acts q_imageActs q_tapeMany q_many q_round q_readAt q_isFault q_toldMany q_tape q_told res H locs (F0 m 93 ls [.int z93_0, .ref a_this]) := by
    intro y93_1 y93_2 z93_0 k93_q_readAt k93_q_isFault k93_q_toldMany k93_q_told H locs ls w hl hf
    unfold jX8_readsGrid_93 at hf
    obtain ⟨r10, hc11, hf⟩ := bd hf
    refine call_Vv (ws' := (wX8_readsGrid cI cL cS cH a_this a_this_st a_this_past a_this_image a_this_imagePast a_this_tape a_this_laneOf a_this_sizeOf a_this_items a_this_code a_this_from a_this_by a_this_far a_this_met a_this_told q_acts q_imageActs q_tapeMany q_many q_round r10.1 r10.2 k93_q_toldMany q_tape k93_q_told)) (rest := []) C w (mX8_takes l D cI cL cS cH _ a_this a_this_st a_this_past a_this_image a_this_imagePast a_this_tape a_this_laneOf a_this_sizeOf a_this_items a_this_code a_this_from a_this_by a_this_far a_this_met a_this_told q_acts q_imageActs q_tapeMany q_many q_round k93_q_readAt k93_q_isFault k93_q_toldMany z93_0 hc11) (cwV 1 C.2.2.2.2 gX8_readsGrid_X8_takes rfl rfl rfl (by decide +kernel) ⟨Nat.le_of_ble_eq_true rfl, Nat.le_of_ble_eq_true rfl⟩) [0] [1, 2] 3 ⟨rfl, trivial⟩ ⟨rfl, trivial⟩ ⟨⟨_, rfl, rfl⟩, ⟨_, rfl, rfl⟩, trivial⟩ rfl (by decide) (by decide) (ci := 8) (q0 := 0) rfl rfl rfl hl.1 rfl (lv_room (Nat.le_of_ble_eq_true rfl)) dX8_readsGrid_93 ⟨Nat.zero_le _, Nat.zero_le _⟩ (fun H locs w => ?_)
    refine lv_aload_n C.1 C.2.1 dX8_readsGrid_96 rfl (lv_at hl 0 rfl) ?_
    refine r_get C w inX8_readsGrid_X8 0 rfl rfl 19 (by decide) lkX8_readsGrid_190 rfl dX8_readsGrid_97 ?_
    refine lv_if_eq (tgt := 104) C.1 C.2.1 dX8_readsGrid_100 (by decide) (fun hq12 => ?_) (fun hq12 => ?_)
    · have hf := ite_t hf hq12
      refine lv_aload_n C.1 C.2.1 dX8_readsGrid_104 rfl (lv_at hl 0 rfl) ?_
      refine lv_iload_n C.1 C.2.1 dX8_readsGrid_105 rfl (lv_at hl 1 rfl) ?_
      refine lv_iload_n C.1 C.2.1 dX8_readsGrid_106 rfl (lv_at hl 2 rfl) ?_
      refine lv_imul C.1 C.2.1 dX8_readsGrid_107 ?_
      refine r_put (ws' := (wX8_readsGrid cI cL cS cH a_this a_this_st a_this_past a_this_image a_this_imagePast a_this_tape a_this_laneOf a_this_sizeOf a_this_items a_this_code a_this_from a_this_by a_this_far a_this_met a_this_told q_acts q_imageActs q_tapeMany q_many q_round r10.1 r10.2 (y93_1 * y93_2) q_tape k93_q_told)) C w inX8_readsGrid_X8 tyX8 tyX8_ok nmX8 0 rfl rfl 20 (by decide) lkX8_readsGrid_212 rfl rfl rfl (Nat.le_of_ble_eq_true rfl) rfl dX8_readsGrid_108 (fun H locs w => ?_)
      refine lv_iconst (v := (0 : Int32)) C.1 C.2.1 dX8_readsGrid_111 (by decide) ?_
      refine lv_istore_n (lv' := [(3, .int (0 : Int32)), (0, .ref a_this), (1, .int y93_1), (2, .int y93_2)]) C.1 C.2.1 dX8_readsGrid_112 rfl hl (by decide) rfl (fun ls hl => ?_)
      obtain ⟨ex13, hx14, hf⟩ := bd hf
      refine hlp113 y93_1 r10.1 r10.2 (y93_1 * y93_2) ex13 ?_ fu ((0 : Int32), k93_q_told) _ _ _ hx14 w (lv_sub hl [1, 2, 0] rfl)
      intro H locs ls w hl
      have hres := Option.some.inj hf
      subst hres
      exact ret_v C hr hlocks w dX8_readsGrid_154
    · have hf := ite_f hf hq12
      have hres := Option.some.inj hf
      subst hres
      exact ret_v C hr hlocks w dX8_readsGrid_103
  have hj92 : ∀ (y92_1 : Int32) (y92_2 : Int32) (k92_q_readAt : Int32) (k92_q_isFault : Int32) (k92_q_toldMany : Int32) (k92_q_told : Nat → Int32) (H : Heap) (locs : List Loc) (ls : Array Slot), wd D (ty4 cI cL cS cH) s (va_A (wX8_readsGrid cI cL cS cH a_this a_this_st a_this_past a_this_image a_this_imagePast a_this_tape a_this_laneOf a_this_sizeOf a_this_items a_this_code a_this_from a_this_by a_this_far a_this_met a_this_told q_acts q_imageActs q_tapeMany q_many q_round q_readAt q_isFault q_toldMany q_tape q_told) s.heap.size) s.heap H locs (wX8_readsGrid cI cL cS cH a_this a_this_st a_this_past a_this_image a_this_imagePast a_this_tape a_this_laneOf a_this_sizeOf a_this_items a_this_code a_this_from a_this_by a_this_far a_this_met a_this_told q_acts q_imageActs q_tapeMany q_many q_round k92_q_readAt k92_q_isFault k92_q_toldMany q_tape k92_q_told) → lv_has ls 4 [(0, .ref a_this), (1, .int y92_1), (2, .int y92_2)] → jX8_readsGrid_92 q_tapeMany q_tape y92_1 y92_2 k92_q_readAt k92_q_isFault k92_q_toldMany k92_q_told = some res → gX8_readsGrid p l e s m below meth c D cI cL cS cH a_this a_this_st a_this_past a_this_image a_this_imagePast a_this_tape a_this_laneOf a_this_sizeOf a_this_items a_this_code a_this_from a_this_by a_this_far a_this_met a_this_told q_acts q_imageActs q_tapeMany q_many q_round q_readAt q_isFault q_toldMany q_tape q_told res H locs (F0 m 92 ls [.ref a_this]) := by
    intro y92_1 y92_2 k92_q_readAt k92_q_isFault k92_q_toldMany k92_q_told H locs ls w hl hf
    unfold jX8_readsGrid_92 at hf
    refine lv_iconst (v := (0 : Int32)) C.1 C.2.1 dX8_readsGrid_92 (by decide) ?_
    exact hj93 y92_1 y92_2 (0 : Int32) k92_q_readAt k92_q_isFault k92_q_toldMany k92_q_told _ _ _ w (lv_sub hl [0, 1, 2] rfl) hf
  have hj88 : ∀ (y88_1 : Int32) (y88_2 : Int32) (k88_q_readAt : Int32) (k88_q_isFault : Int32) (k88_q_toldMany : Int32) (k88_q_told : Nat → Int32) (H : Heap) (locs : List Loc) (ls : Array Slot), wd D (ty4 cI cL cS cH) s (va_A (wX8_readsGrid cI cL cS cH a_this a_this_st a_this_past a_this_image a_this_imagePast a_this_tape a_this_laneOf a_this_sizeOf a_this_items a_this_code a_this_from a_this_by a_this_far a_this_met a_this_told q_acts q_imageActs q_tapeMany q_many q_round q_readAt q_isFault q_toldMany q_tape q_told) s.heap.size) s.heap H locs (wX8_readsGrid cI cL cS cH a_this a_this_st a_this_past a_this_image a_this_imagePast a_this_tape a_this_laneOf a_this_sizeOf a_this_items a_this_code a_this_from a_this_by a_this_far a_this_met a_this_told q_acts q_imageActs q_tapeMany q_many q_round k88_q_readAt k88_q_isFault k88_q_toldMany q_tape k88_q_told) → lv_has ls 4 [(0, .ref a_this), (1, .int y88_1), (2, .int y88_2)] → jX8_readsGrid_88 q_tapeMany q_tape y88_1 y88_2 k88_q_readAt k88_q_isFault k88_q_toldMany k88_q_told = some res → gX8_readsGrid p l e s m below meth c D cI cL cS cH a_this a_this_st a_this_past a_this_image a_this_imagePast a_this_tape a_this_laneOf a_this_sizeOf a_this_items a_this_code a_this_from a_this_by a_this_far a_this_met a_this_told q_acts q_imageActs q_tapeMany q_many q_round q_readAt q_isFault q_toldMany q_tape q_told res H locs (F0 m 88 ls [.ref a_this]) := by
    intro y88_1 y88_2 k88_q_readAt k88_q_isFault k88_q_toldMany k88_q_told H locs ls w hl hf
    unfold jX8_readsGrid_88 at hf
    refine lv_iconst (v := (1 : Int32)) C.1 C.2.1 dX8_readsGrid_88 (by decide) ?_
    refine lv_goto (tgt := 93) C.1 C.2.1 dX8_readsGrid_89 (by decide) ?_
    exact hj93 y88_1 y88_2 (1 : Int32) k88_q_readAt k88_q_isFault k88_q_toldMany k88_q_told _ _ _ w (lv_sub hl [0, 1, 2] rfl) hf
  have hj51 : ∀ (y51_1 : Int32) (z51_0 : Int32) (k51_q_readAt : Int32) (k51_q_isFault : Int32) (k51_q_toldMany : Int32) (k51_q_told : Nat → Int32) (H : Heap) (locs : List Loc) (ls : Array Slot), wd D (ty4 cI cL cS cH) s (va_A (wX8_readsGrid cI cL cS cH a_this a_this_st a_this_past a_this_image a_this_imagePast a_this_tape a_this_laneOf a_this_sizeOf a_this_items a_this_code a_this_from a_this_by a_this_far a_this_met a_this_told q_acts q_imageActs q_tapeMany q_many q_round q_readAt q_isFault q_toldMany q_tape q_told) s.heap.size) s.heap H locs (wX8_readsGrid cI cL cS cH a_this a_this_st a_this_past a_this_image a_this_imagePast a_this_tape a_this_laneOf a_this_sizeOf a_this_items a_this_code a_this_from a_this_by a_this_far a_this_met a_this_told q_acts q_imageActs q_tapeMany q_many q_round k51_q_readAt k51_q_isFault k51_q_toldMany q_tape k51_q_told) → lv_has ls 4 [(0, .ref a_this), (1, .int y51_1)] → jX8_readsGrid_51 q_tapeMany q_tape y51_1 z51_0 k51_q_readAt k51_q_isFault k51_q_toldMany k51_q_told = some res → gX8_readsGrid p l e s m below meth c D cI cL cS cH a_this a_this_st a_this_past a_this_image a_this_imagePast a_this_tape a_this_laneOf a_this_sizeOf a_this_items a_this_code a_this_from a_this_by a_this_far a_this_met a_this_told q_acts q_imageActs q_tapeMany q_many q_round q_readAt q_isFault q_toldMany q_tape q_told res H locs (F0 m 51 ls [.int z51_0]) := by
    intro y51_1 z51_0 k51_q_readAt k51_q_isFault k51_q_toldMany k51_q_told H locs ls w hl hf
    unfold jX8_readsGrid_51 at hf
    refine lv_istore_n (lv' := [(2, .int z51_0), (0, .ref a_this), (1, .int y51_1)]) C.1 C.2.1 dX8_readsGrid_51 rfl hl (by decide) rfl (fun ls hl => ?_)
    refine lv_aload_n C.1 C.2.1 dX8_readsGrid_52 rfl (lv_at hl 1 rfl) ?_
    refine lv_aload_n C.1 C.2.1 dX8_readsGrid_53 rfl (lv_at hl 1 rfl) ?_
    refine r_get C w inX8_readsGrid_X8 0 rfl rfl 19 (by decide) lkX8_readsGrid_190 rfl dX8_readsGrid_54 ?_
    refine lv_if_ne (tgt := 88) C.1 C.2.1 dX8_readsGrid_57 (by decide) (fun hq15 => ?_) (fun hq15 => ?_)
    · have hf := ite_f hf hq15
      exact hj88 y51_1 z51_0 k51_q_readAt k51_q_isFault k51_q_toldMany k51_q_told _ _ _ w (lv_sub hl [1, 2, 0] rfl) hf
    · have hf := ite_t hf hq15
      refine lv_iload_n C.1 C.2.1 dX8_readsGrid_60 rfl (lv_at hl 0 rfl) ?_
      refine lv_i2l C.1 C.2.1 dX8_readsGrid_61 rfl ?_
      refine lv_lconst (v := (1 : Int64)) C.1 C.2.1 dX8_readsGrid_62 (by decide) ?_
      refine lv_ldc2 (v := (7 : Int64)) C.1 C.2.1 C.2.2.2.1 (C.2.2.2.2 (.constantLong RX8 161 (7 : Int64)) (by decide +kernel)) dX8_readsGrid_63 ?_
      obtain ⟨r16, hc17, hf⟩ := bd hf
      refine call_Si (ws' := (wX8_readsGrid cI cL cS cH a_this a_this_st a_this_past a_this_image a_this_imagePast a_this_tape a_this_laneOf a_this_sizeOf a_this_items a_this_code a_this_from a_this_by a_this_far a_this_met a_this_told q_acts q_imageActs q_tapeMany q_many q_round k51_q_readAt k51_q_isFault k51_q_toldMany q_tape k51_q_told)) (rest := [.ref a_this]) C w (mX8_in l D cI cL cS cH _ ((z51_0).toInt64) (1 : Int64) (7 : Int64) hc17) (va_cwS 3 C.2.2.2.2 gX8_readsGrid_X8_in rfl rfl rfl (by decide +kernel) ⟨Nat.le_of_ble_eq_true rfl, Nat.le_of_ble_eq_true rfl⟩) [] [0, 1, 2] 3 trivial trivial ⟨⟨_, rfl, rfl⟩, ⟨_, rfl, rfl⟩, ⟨_, rfl, rfl⟩, trivial⟩ rfl (by decide) (by decide) rfl hl.1 rfl (lv_room (Nat.le_of_ble_eq_true rfl)) dX8_readsGrid_66 ⟨Nat.zero_le _, Nat.zero_le _⟩ (fun H locs w => ?_)
      refine lv_if_eq (tgt := 92) C.1 C.2.1 dX8_readsGrid_69 (by decide) (fun hq18 => ?_) (fun hq18 => ?_)
      · have hf := ite_t hf hq18
        exact hj92 y51_1 z51_0 k51_q_readAt k51_q_isFault k51_q_toldMany k51_q_told _ _ _ w (lv_sub hl [1, 2, 0] rfl) hf
      · have hf := ite_f hf hq18
        refine lv_iload_n C.1 C.2.1 dX8_readsGrid_72 rfl (lv_at hl 2 rfl) ?_
        refine lv_iload_n C.1 C.2.1 dX8_readsGrid_73 rfl (lv_at hl 0 rfl) ?_
        refine lv_imul C.1 C.2.1 dX8_readsGrid_74 ?_
        refine lv_i2l C.1 C.2.1 dX8_readsGrid_75 rfl ?_
        refine lv_ldc2 (v := (2 : Int64)) C.1 C.2.1 C.2.2.2.1 (C.2.2.2.2 (.constantLong RX8 152 (2 : Int64)) (by decide +kernel)) dX8_readsGrid_76 ?_
        refine lv_ldc2 (v := (7 : Int64)) C.1 C.2.1 C.2.2.2.1 (C.2.2.2.2 (.constantLong RX8 161 (7 : Int64)) (by decide +kernel)) dX8_readsGrid_79 ?_
        obtain ⟨r19, hc20, hf⟩ := bd hf
        refine call_Si (ws' := (wX8_readsGrid cI cL cS cH a_this a_this_st a_this_past a_this_image a_this_imagePast a_this_tape a_this_laneOf a_this_sizeOf a_this_items a_this_code a_this_from a_this_by a_this_far a_this_met a_this_told q_acts q_imageActs q_tapeMany q_many q_round k51_q_readAt k51_q_isFault k51_q_toldMany q_tape k51_q_told)) (rest := [.ref a_this]) C w (mX8_in l D cI cL cS cH _ (((y51_1 * z51_0)).toInt64) (2 : Int64) (7 : Int64) hc20) (va_cwS 3 C.2.2.2.2 gX8_readsGrid_X8_in rfl rfl rfl (by decide +kernel) ⟨Nat.le_of_ble_eq_true rfl, Nat.le_of_ble_eq_true rfl⟩) [] [0, 1, 2] 3 trivial trivial ⟨⟨_, rfl, rfl⟩, ⟨_, rfl, rfl⟩, ⟨_, rfl, rfl⟩, trivial⟩ rfl (by decide) (by decide) rfl hl.1 rfl (lv_room (Nat.le_of_ble_eq_true rfl)) dX8_readsGrid_82 ⟨Nat.zero_le _, Nat.zero_le _⟩ (fun H locs w => ?_)
        refine lv_if_eq (tgt := 92) C.1 C.2.1 dX8_readsGrid_85 (by decide) (fun hq21 => ?_) (fun hq21 => ?_)
        · have hf := ite_t hf hq21
          exact hj92 y51_1 z51_0 k51_q_readAt k51_q_isFault k51_q_toldMany k51_q_told _ _ _ w (lv_sub hl [1, 2, 0] rfl) hf
        · have hf := ite_f hf hq21
          exact hj88 y51_1 z51_0 k51_q_readAt k51_q_isFault k51_q_toldMany k51_q_told _ _ _ w (lv_sub hl [1, 2, 0] rfl) hf
  have hj30 : ∀ (y30_1 : Int32) (z30_0 : Int32) (k30_q_readAt : Int32) (k30_q_isFault : Int32) (k30_q_toldMany : Int32) (k30_q_told : Nat → Int32) (H : Heap) (locs : List Loc) (ls : Array Slot), wd D (ty4 cI cL cS cH) s (va_A (wX8_readsGrid cI cL cS cH a_this a_this_st a_this_past a_this_image a_this_imagePast a_this_tape a_this_laneOf a_this_sizeOf a_this_items a_this_code a_this_from a_this_by a_this_far a_this_met a_this_told q_acts q_imageActs q_tapeMany q_many q_round q_readAt q_isFault q_toldMany q_tape q_told) s.heap.size) s.heap H locs (wX8_readsGrid cI cL cS cH a_this a_this_st a_this_past a_this_image a_this_imagePast a_this_tape a_this_laneOf a_this_sizeOf a_this_items a_this_code a_this_from a_this_by a_this_far a_this_met a_this_told q_acts q_imageActs q_tapeMany q_many q_round k30_q_readAt k30_q_isFault k30_q_toldMany q_tape k30_q_told) → lv_has ls 4 [(0, .ref a_this), (1, .int y30_1)] → jX8_readsGrid_30 q_tapeMany q_tape y30_1 z30_0 k30_q_readAt k30_q_isFault k30_q_toldMany k30_q_told = some res → gX8_readsGrid p l e s m below meth c D cI cL cS cH a_this a_this_st a_this_past a_this_image a_this_imagePast a_this_tape a_this_laneOf a_this_sizeOf a_this_items a_this_code a_this_from a_this_by a_this_far a_this_met a_this_told q_acts q_imageActs q_tapeMany q_many q_round q_readAt q_isFault q_toldMany q_tape q_told res H locs (F0 m 30 ls [.int z30_0, .ref a_this]) := by
    intro y30_1 z30_0 k30_q_readAt k30_q_isFault k30_q_toldMany k30_q_told H locs ls w hl hf
    unfold jX8_readsGrid_30 at hf
    obtain ⟨r22, hc23, hf⟩ := bd hf
    refine call_Vv (ws' := (wX8_readsGrid cI cL cS cH a_this a_this_st a_this_past a_this_image a_this_imagePast a_this_tape a_this_laneOf a_this_sizeOf a_this_items a_this_code a_this_from a_this_by a_this_far a_this_met a_this_told q_acts q_imageActs q_tapeMany q_many q_round r22.1 r22.2 k30_q_toldMany q_tape k30_q_told)) (rest := []) C w (mX8_takes l D cI cL cS cH _ a_this a_this_st a_this_past a_this_image a_this_imagePast a_this_tape a_this_laneOf a_this_sizeOf a_this_items a_this_code a_this_from a_this_by a_this_far a_this_met a_this_told q_acts q_imageActs q_tapeMany q_many q_round k30_q_readAt k30_q_isFault k30_q_toldMany z30_0 hc23) (cwV 1 C.2.2.2.2 gX8_readsGrid_X8_takes rfl rfl rfl (by decide +kernel) ⟨Nat.le_of_ble_eq_true rfl, Nat.le_of_ble_eq_true rfl⟩) [0] [1, 2] 3 ⟨rfl, trivial⟩ ⟨rfl, trivial⟩ ⟨⟨_, rfl, rfl⟩, ⟨_, rfl, rfl⟩, trivial⟩ rfl (by decide) (by decide) (ci := 8) (q0 := 0) rfl rfl rfl hl.1 rfl (lv_room (Nat.le_of_ble_eq_true rfl)) dX8_readsGrid_30 ⟨Nat.zero_le _, Nat.zero_le _⟩ (fun H locs w => ?_)
    refine lv_aload_n C.1 C.2.1 dX8_readsGrid_33 rfl (lv_at hl 0 rfl) ?_
    refine r_get C w inX8_readsGrid_X8 0 rfl rfl 19 (by decide) lkX8_readsGrid_190 rfl dX8_readsGrid_34 ?_
    refine lv_if_eq (tgt := 44) C.1 C.2.1 dX8_readsGrid_37 (by decide) (fun hq24 => ?_) (fun hq24 => ?_)
    · have hf := ite_t hf hq24
      refine lv_aload_n C.1 C.2.1 dX8_readsGrid_44 rfl (lv_at hl 0 rfl) ?_
      obtain ⟨r25, hc26, hf⟩ := bd hf
      refine call_Vi (ws' := (wX8_readsGrid cI cL cS cH a_this a_this_st a_this_past a_this_image a_this_imagePast a_this_tape a_this_laneOf a_this_sizeOf a_this_items a_this_code a_this_from a_this_by a_this_far a_this_met a_this_told q_acts q_imageActs q_tapeMany q_many q_round r25.2 r22.2 k30_q_toldMany q_tape k30_q_told)) (rest := []) C w (mX8_looks l D cI cL cS cH _ a_this a_this_st a_this_past a_this_image a_this_imagePast a_this_tape a_this_laneOf a_this_sizeOf a_this_items a_this_code a_this_from a_this_by a_this_far a_this_met a_this_told q_acts q_imageActs q_tapeMany q_many q_round r22.1 r22.2 k30_q_toldMany q_tape hc26) (cwV 0 C.2.2.2.2 gX8_readsGrid_X8_looks rfl rfl rfl (by decide +kernel) ⟨Nat.le_of_ble_eq_true rfl, Nat.le_of_ble_eq_true rfl⟩) [0, 1] [2] 3 ⟨rfl, rfl, trivial⟩ ⟨rfl, rfl, trivial⟩ ⟨⟨_, rfl, rfl⟩, trivial⟩ rfl (by decide) (by decide) (ci := 8) (q0 := 0) rfl rfl rfl hl.1 rfl (lv_room (Nat.le_of_ble_eq_true rfl)) dX8_readsGrid_45 ⟨Nat.zero_le _, Nat.zero_le _⟩ (fun H locs w => ?_)
      refine lv_bipush (v := (48 : Int32)) C.1 C.2.1 dX8_readsGrid_48 (by decide) ?_
      refine lv_isub C.1 C.2.1 dX8_readsGrid_50 ?_
      exact hj51 y30_1 (r25.1 - (48 : Int32)) r25.2 r22.2 k30_q_toldMany k30_q_told _ _ _ w (lv_sub hl [0, 1] rfl) hf
    · have hf := ite_f hf hq24
      refine lv_iconst (v := (1 : Int32)) C.1 C.2.1 dX8_readsGrid_40 (by decide) ?_
      refine lv_goto (tgt := 51) C.1 C.2.1 dX8_readsGrid_41 (by decide) ?_
      exact hj51 y30_1 (1 : Int32) r22.1 r22.2 k30_q_toldMany k30_q_told _ _ _ w (lv_sub hl [0, 1] rfl) hf
  have hj25 : ∀ (y25_1 : Int32) (k25_q_readAt : Int32) (k25_q_isFault : Int32) (k25_q_toldMany : Int32) (k25_q_told : Nat → Int32) (H : Heap) (locs : List Loc) (ls : Array Slot), wd D (ty4 cI cL cS cH) s (va_A (wX8_readsGrid cI cL cS cH a_this a_this_st a_this_past a_this_image a_this_imagePast a_this_tape a_this_laneOf a_this_sizeOf a_this_items a_this_code a_this_from a_this_by a_this_far a_this_met a_this_told q_acts q_imageActs q_tapeMany q_many q_round q_readAt q_isFault q_toldMany q_tape q_told) s.heap.size) s.heap H locs (wX8_readsGrid cI cL cS cH a_this a_this_st a_this_past a_this_image a_this_imagePast a_this_tape a_this_laneOf a_this_sizeOf a_this_items a_this_code a_this_from a_this_by a_this_far a_this_met a_this_told q_acts q_imageActs q_tapeMany q_many q_round k25_q_readAt k25_q_isFault k25_q_toldMany q_tape k25_q_told) → lv_has ls 4 [(0, .ref a_this), (1, .int y25_1)] → jX8_readsGrid_25 q_tapeMany q_tape y25_1 k25_q_readAt k25_q_isFault k25_q_toldMany k25_q_told = some res → gX8_readsGrid p l e s m below meth c D cI cL cS cH a_this a_this_st a_this_past a_this_image a_this_imagePast a_this_tape a_this_laneOf a_this_sizeOf a_this_items a_this_code a_this_from a_this_by a_this_far a_this_met a_this_told q_acts q_imageActs q_tapeMany q_many q_round q_readAt q_isFault q_toldMany q_tape q_told res H locs (F0 m 25 ls [.ref a_this]) := by
    intro y25_1 k25_q_readAt k25_q_isFault k25_q_toldMany k25_q_told H locs ls w hl hf
    unfold jX8_readsGrid_25 at hf
    refine lv_iconst (v := (1 : Int32)) C.1 C.2.1 dX8_readsGrid_25 (by decide) ?_
    refine lv_goto (tgt := 30) C.1 C.2.1 dX8_readsGrid_26 (by decide) ?_
    exact hj30 y25_1 (1 : Int32) k25_q_readAt k25_q_isFault k25_q_toldMany k25_q_told _ _ _ w (lv_sub hl [0, 1] rfl) hf
  refine lv_aload_n C.1 C.2.1 dX8_readsGrid_0 rfl (lv_at hl 0 rfl) ?_
  refine lv_iconst (v := (1 : Int32)) C.1 C.2.1 dX8_readsGrid_1 (by decide) ?_
  refine lv_bipush (v := (7 : Int32)) C.1 C.2.1 dX8_readsGrid_2 (by decide) ?_
  obtain ⟨r27, hc28, hf⟩ := bd hf
  refine call_Vi (ws' := (wX8_readsGrid cI cL cS cH a_this a_this_st a_this_past a_this_image a_this_imagePast a_this_tape a_this_laneOf a_this_sizeOf a_this_items a_this_code a_this_from a_this_by a_this_far a_this_met a_this_told q_acts q_imageActs q_tapeMany q_many q_round r27.2.1 r27.2.2 q_toldMany q_tape q_told)) (rest := []) C w (mX8_figure l D cI cL cS cH _ a_this a_this_st a_this_past a_this_image a_this_imagePast a_this_tape a_this_laneOf a_this_sizeOf a_this_items a_this_code a_this_from a_this_by a_this_far a_this_met a_this_told q_acts q_imageActs q_tapeMany q_many q_round q_readAt q_isFault q_toldMany q_tape (1 : Int32) (7 : Int32) hc28) (cwV 2 C.2.2.2.2 gX8_readsGrid_X8_figure rfl rfl rfl (by decide +kernel) ⟨Nat.le_of_ble_eq_true rfl, Nat.le_of_ble_eq_true rfl⟩) [0, 1] [2] 3 ⟨rfl, rfl, trivial⟩ ⟨rfl, rfl, trivial⟩ ⟨⟨_, rfl, rfl⟩, trivial⟩ rfl (by decide) (by decide) (ci := 8) (q0 := 0) rfl rfl rfl hl.1 rfl (lv_room (Nat.le_of_ble_eq_true rfl)) dX8_readsGrid_4 ⟨Nat.zero_le _, Nat.zero_le _⟩ (fun H locs w => ?_)
  refine lv_istore_n (lv' := [(1, .int r27.1), (0, .ref a_this)]) C.1 C.2.1 dX8_readsGrid_7 rfl hl (by decide) rfl (fun ls hl => ?_)
  refine lv_aload_n C.1 C.2.1 dX8_readsGrid_8 rfl (lv_at hl 1 rfl) ?_
  refine lv_aload_n C.1 C.2.1 dX8_readsGrid_9 rfl (lv_at hl 1 rfl) ?_
  refine r_get C w inX8_readsGrid_X8 0 rfl rfl 19 (by decide) lkX8_readsGrid_190 rfl dX8_readsGrid_10 ?_
  refine lv_if_ne (tgt := 25) C.1 C.2.1 dX8_readsGrid_13 (by decide) (fun hq29 => ?_) (fun hq29 => ?_)
  · have hf := ite_f hf hq29
    exact hj25 r27.1 r27.2.1 r27.2.2 q_toldMany q_told _ _ _ w (lv_sub hl [1, 0] rfl) hf
  · have hf := ite_t hf hq29
    refine lv_aload_n C.1 C.2.1 dX8_readsGrid_16 rfl (lv_at hl 1 rfl) ?_
    obtain ⟨r30, hc31, hf⟩ := bd hf
    refine call_Vi (ws' := (wX8_readsGrid cI cL cS cH a_this a_this_st a_this_past a_this_image a_this_imagePast a_this_tape a_this_laneOf a_this_sizeOf a_this_items a_this_code a_this_from a_this_by a_this_far a_this_met a_this_told q_acts q_imageActs q_tapeMany q_many q_round r30.2 r27.2.2 q_toldMany q_tape q_told)) (rest := [.ref a_this]) C w (mX8_looks l D cI cL cS cH _ a_this a_this_st a_this_past a_this_image a_this_imagePast a_this_tape a_this_laneOf a_this_sizeOf a_this_items a_this_code a_this_from a_this_by a_this_far a_this_met a_this_told q_acts q_imageActs q_tapeMany q_many q_round r27.2.1 r27.2.2 q_toldMany q_tape hc31) (cwV 0 C.2.2.2.2 gX8_readsGrid_X8_looks rfl rfl rfl (by decide +kernel) ⟨Nat.le_of_ble_eq_true rfl, Nat.le_of_ble_eq_true rfl⟩) [0, 1] [2] 3 ⟨rfl, rfl, trivial⟩ ⟨rfl, rfl, trivial⟩ ⟨⟨_, rfl, rfl⟩, trivial⟩ rfl (by decide) (by decide) (ci := 8) (q0 := 0) rfl rfl rfl hl.1 rfl (lv_room (Nat.le_of_ble_eq_true rfl)) dX8_readsGrid_17 ⟨Nat.zero_le _, Nat.zero_le _⟩ (fun H locs w => ?_)
    refine lv_bipush (v := (42 : Int32)) C.1 C.2.1 dX8_readsGrid_20 (by decide) ?_
    refine lv_icmp_ne (tgt := 29) C.1 C.2.1 dX8_readsGrid_22 (by decide) (fun hq32 => ?_) (fun hq32 => ?_)
    · have hf := ite_f hf hq32
      refine lv_iconst (v := (0 : Int32)) C.1 C.2.1 dX8_readsGrid_29 (by decide) ?_
      exact hj30 r27.1 (0 : Int32) r30.2 r27.2.2 q_toldMany q_told _ _ _ w (lv_sub hl [1, 0] rfl) hf
    · have hf := ite_t hf hq32
      exact hj25 r27.1 r30.2 r27.2.2 q_toldMany q_told _ _ _ w (lv_sub hl [1, 0] rfl) hf

set_option maxRecDepth 100000 in
theorem inX8_readsOthers_X8 : ∀ w ∈ u_ws RX8 TX8 22, w ∈ wsX8_readsOthers := by decide +kernel
set_option maxRecDepth 100000 in
theorem lkX8_readsOthers_212 : Cond.fieldLink RX8 212 "CleanNetsModel" "toldMany" "I" ∈ wsX8_readsOthers := by decide +kernel
set_option maxRecDepth 100000 in
theorem lkX8_readsOthers_190 : Cond.fieldLink RX8 190 "CleanNetsModel" "isFault" "Z" ∈ wsX8_readsOthers := by decide +kernel
set_option maxRecDepth 100000 in
theorem lkX8_readsOthers_187 : Cond.fieldLink RX8 187 "CleanNetsModel" "readAt" "I" ∈ wsX8_readsOthers := by decide +kernel
abbrev wX8_readsOthers (cI cL cS cH : ClassId) (a_this : Nat) (a_this_st : Nat) (a_this_past : Nat) (a_this_image : Nat) (a_this_imagePast : Nat) (a_this_tape : Nat) (a_this_laneOf : Nat) (a_this_sizeOf : Nat) (a_this_items : Nat) (a_this_code : Nat) (a_this_from : Nat) (a_this_by : Nat) (a_this_far : Nat) (a_this_met : Nat) (a_this_told : Nat) (q_acts : Int32) (q_imageActs : Int32) (q_tapeMany : Int32) (q_many : Int32) (q_round : Int32) (q_readAt : Int32) (q_isFault : Int32) (q_toldMany : Int32) (q_tape : Nat → Int32) (q_told : Nat → Int32) : va_W := [(a_this, .inr (8, [.ref a_this_st, .ref a_this_past, .int q_acts, .ref a_this_image, .ref a_this_imagePast, .int q_imageActs, .ref a_this_tape, .int q_tapeMany, .ref a_this_laneOf, .ref a_this_sizeOf, .ref a_this_items, .ref a_this_code, .ref a_this_from, .ref a_this_by, .ref a_this_far, .int q_many, .ref a_this_met, .int q_round, .int q_readAt, .int q_isFault, .int q_toldMany, .ref a_this_told])),
  (a_this_tape, .inl (cI, 90, .inl q_tape)),
  (a_this_told, .inl (cI, 7, .inl q_told))]
def jX8_readsOthers_148 (q_tapeMany : Int32) (q_tape : Nat → Int32) (y40_1 : Int32) (y40_2 : Int32) (y148_3 : Int32) (k40_q_readAt : Int32) (k40_q_isFault : Int32) (k40_q_toldMany : Int32) (k148_q_told : Nat → Int32) : Option ((Int32 × (Nat → Int32)) ⊕ (Int32 × (Nat → Int32))) := some (.inl ((y148_3 + (1 : Int32)), k148_q_told))
def jX8_readsOthers_135 (q_tapeMany : Int32) (q_tape : Nat → Int32) (y40_1 : Int32) (y40_2 : Int32) (y135_3 : Int32) (z135_0 : Int32) (k40_q_readAt : Int32) (k40_q_isFault : Int32) (k40_q_toldMany : Int32) (k135_q_told : Nat → Int32) : Option ((Int32 × (Nat → Int32)) ⊕ (Int32 × (Nat → Int32))) := (if z135_0 = 0 then jX8_readsOthers_148 q_tapeMany q_tape y40_1 y40_2 y135_3 k40_q_readAt k40_q_isFault k40_q_toldMany k135_q_told else Option.bind (fX8_links k135_q_told y40_2 y135_3) (fun r2 => jX8_readsOthers_148 q_tapeMany q_tape y40_1 y40_2 y135_3 k40_q_readAt k40_q_isFault k40_q_toldMany r2))
def jX8_readsOthers_100 (q_tapeMany : Int32) (q_tape : Nat → Int32) (y40_1 : Int32) (y40_2 : Int32) (y100_3 : Int32) (k40_q_readAt : Int32) (k40_q_isFault : Int32) (k40_q_toldMany : Int32) (k100_q_told : Nat → Int32) : Option ((Int32 × (Nat → Int32)) ⊕ (Int32 × (Nat → Int32))) := jX8_readsOthers_135 q_tapeMany q_tape y40_1 y40_2 y100_3 (1 : Int32) k40_q_readAt k40_q_isFault k40_q_toldMany k100_q_told
def jX8_readsOthers_83 (q_tapeMany : Int32) (q_tape : Nat → Int32) (y40_1 : Int32) (y40_2 : Int32) (y83_3 : Int32) (y83_4 : Int32) (z83_0 : Int32) (k40_q_readAt : Int32) (k40_q_isFault : Int32) (k40_q_toldMany : Int32) (k83_q_told : Nat → Int32) : Option ((Int32 × (Nat → Int32)) ⊕ (Int32 × (Nat → Int32))) := (if (2 : Int32) ≤ y40_1 then (if y40_1 = (2 : Int32) then (if y83_3 = 0 then jX8_readsOthers_135 q_tapeMany q_tape y40_1 y40_2 y83_3 (1 : Int32) k40_q_readAt k40_q_isFault k40_q_toldMany k83_q_told else jX8_readsOthers_135 q_tapeMany q_tape y40_1 y40_2 y83_3 (0 : Int32) k40_q_readAt k40_q_isFault k40_q_toldMany k83_q_told) else (if y40_1 = (3 : Int32) then jX8_readsOthers_135 q_tapeMany q_tape y40_1 y40_2 y83_3 (1 : Int32) k40_q_readAt k40_q_isFault k40_q_toldMany k83_q_told else jX8_readsOthers_135 q_tapeMany q_tape y40_1 y40_2 y83_3 (0 : Int32) k40_q_readAt k40_q_isFault k40_q_toldMany k83_q_told)) else (if y83_4 = 0 then (if z83_0 = 0 then jX8_readsOthers_135 q_tapeMany q_tape y40_1 y40_2 y83_3 (0 : Int32) k40_q_readAt k40_q_isFault k40_q_toldMany k83_q_told else jX8_readsOthers_100 q_tapeMany q_tape y40_1 y40_2 y83_3 k40_q_readAt k40_q_isFault k40_q_toldMany k83_q_told) else jX8_readsOthers_100 q_tapeMany q_tape y40_1 y40_2 y83_3 k40_q_readAt k40_q_isFault k40_q_toldMany k83_q_told))
def jX8_readsOthers_82 (q_tapeMany : Int32) (q_tape : Nat → Int32) (y40_1 : Int32) (y40_2 : Int32) (y82_3 : Int32) (y82_4 : Int32) (k40_q_readAt : Int32) (k40_q_isFault : Int32) (k40_q_toldMany : Int32) (k82_q_told : Nat → Int32) : Option ((Int32 × (Nat → Int32)) ⊕ (Int32 × (Nat → Int32))) := jX8_readsOthers_83 q_tapeMany q_tape y40_1 y40_2 y82_3 y82_4 (0 : Int32) k40_q_readAt k40_q_isFault k40_q_toldMany k82_q_told
def jX8_readsOthers_57 (q_tapeMany : Int32) (q_tape : Nat → Int32) (y40_1 : Int32) (y40_2 : Int32) (y57_3 : Int32) (z57_0 : Int32) (k40_q_readAt : Int32) (k40_q_isFault : Int32) (k40_q_toldMany : Int32) (k57_q_told : Nat → Int32) : Option ((Int32 × (Nat → Int32)) ⊕ (Int32 × (Nat → Int32))) := (if y40_1 = (1 : Int32) then (if y57_3 = 0 then (if y40_2 = (k40_q_toldMany - (1 : Int32)) then jX8_readsOthers_83 q_tapeMany q_tape y40_1 y40_2 y57_3 z57_0 (1 : Int32) k40_q_readAt k40_q_isFault k40_q_toldMany k57_q_told else jX8_readsOthers_82 q_tapeMany q_tape y40_1 y40_2 y57_3 z57_0 k40_q_readAt k40_q_isFault k40_q_toldMany k57_q_told) else jX8_readsOthers_82 q_tapeMany q_tape y40_1 y40_2 y57_3 z57_0 k40_q_readAt k40_q_isFault k40_q_toldMany k57_q_told) else jX8_readsOthers_82 q_tapeMany q_tape y40_1 y40_2 y57_3 z57_0 k40_q_readAt k40_q_isFault k40_q_toldMany k57_q_told)
def bX8_readsOthers_40 (q_tapeMany : Int32) (q_tape : Nat → Int32) (y40_1 : Int32) (y40_2 : Int32) (k40_q_readAt : Int32) (k40_q_isFault : Int32) (k40_q_toldMany : Int32) (v40 : Int32 × (Nat → Int32)) : Option ((Int32 × (Nat → Int32)) ⊕ (Int32 × (Nat → Int32))) := (if y40_2 ≤ v40.1 then some (.inr (v40.1, v40.2)) else (if v40.1 = (y40_2 - (1 : Int32)) then jX8_readsOthers_57 q_tapeMany q_tape y40_1 y40_2 v40.1 (1 : Int32) k40_q_readAt k40_q_isFault k40_q_toldMany v40.2 else jX8_readsOthers_57 q_tapeMany q_tape y40_1 y40_2 v40.1 (0 : Int32) k40_q_readAt k40_q_isFault k40_q_toldMany v40.2))
def bX8_readsOthers_30 (q_tapeMany : Int32) (q_tape : Nat → Int32) (y30_1 : Int32) (k30_q_readAt : Int32) (k30_q_isFault : Int32) (k30_q_toldMany : Int32) (v30 : Int32 × (Nat → Int32)) : Option ((Int32 × (Nat → Int32)) ⊕ (Int32 × (Nat → Int32))) := (if k30_q_toldMany ≤ v30.1 then some (.inr (v30.1, v30.2)) else Option.bind (itL (bX8_readsOthers_40 q_tapeMany q_tape y30_1 v30.1 k30_q_readAt k30_q_isFault k30_q_toldMany) fu ((0 : Int32), v30.2)) (fun ex16 => some (.inl ((v30.1 + (1 : Int32)), ex16.2))))
def jX8_readsOthers_12 (q_tapeMany : Int32) (q_tape : Nat → Int32) (x1 : Int32) (z12_0 : Int32) (k12_q_readAt : Int32) (k12_q_isFault : Int32) (k12_q_toldMany : Int32) (k12_q_told : Nat → Int32) : Option (Int32 × Int32 × Int32 × (Nat → Int32)) := Option.bind (fX8_figure q_tapeMany k12_q_readAt k12_q_isFault q_tape z12_0 (7 : Int32)) (fun r18 => (if r18.2.2 = 0 then Option.bind (itL (bX8_readsOthers_30 q_tapeMany q_tape x1 r18.2.1 r18.2.2 r18.1) fu ((0 : Int32), k12_q_told)) (fun ex21 => (if x1 = (4 : Int32) then Option.bind (fX8_looks q_tapeMany r18.2.1 q_tape) (fun r24 => (if r24.1 = (58 : Int32) then Option.bind (fX8_readsLinks q_tapeMany (r24.2 + (1 : Int32)) r18.2.2 r18.1 q_tape ex21.2) (fun r27 => some (r27.1, r27.2.1, r18.1, r27.2.2)) else some (r24.2, r18.2.2, r18.1, ex21.2))) else some (r18.2.1, r18.2.2, r18.1, ex21.2))) else some (r18.2.1, r18.2.2, r18.1, k12_q_told)))
def fX8_readsOthers (q_tapeMany : Int32) (q_readAt : Int32) (q_isFault : Int32) (q_toldMany : Int32) (q_tape : Nat → Int32) (q_told : Nat → Int32) (x1 : Int32) : Option (Int32 × Int32 × Int32 × (Nat → Int32)) := (if x1 = (1 : Int32) then jX8_readsOthers_12 q_tapeMany q_tape x1 (3 : Int32) q_readAt q_isFault q_toldMany q_told else jX8_readsOthers_12 q_tapeMany q_tape x1 (2 : Int32) q_readAt q_isFault q_toldMany q_told)
abbrev gX8_readsOthers (p : Program) (l : Launch) (e : Env) (s : State) (m : MethodId) (below : List Frame) (meth : Method) (c : Code) (D : vg) (cI cL cS cH : ClassId) (a_this : Nat) (a_this_st : Nat) (a_this_past : Nat) (a_this_image : Nat) (a_this_imagePast : Nat) (a_this_tape : Nat) (a_this_laneOf : Nat) (a_this_sizeOf : Nat) (a_this_items : Nat) (a_this_code : Nat) (a_this_from : Nat) (a_this_by : Nat) (a_this_far : Nat) (a_this_met : Nat) (a_this_told : Nat) (q_acts : Int32) (q_imageActs : Int32) (q_tapeMany : Int32) (q_many : Int32) (q_round : Int32) (q_readAt : Int32) (q_isFault : Int32) (q_toldMany : Int32) (q_tape : Nat → Int32) (q_told : Nat → Int32) (x1 : Int32) (res : Int32 × Int32 × Int32 × (Nat → Int32)) (H : Heap) (locs : List Loc) (g : JFrame) : Prop := W p l e (headSpec wsX8_readsOthers ({ frames := 4, cells := 0, slots := 0, locals := 90 })).room s m ([.ref a_this, .int x1] : List Value).toArray below meth c H locs 0 0 (MQ below (va_Qv (fun (_ : Unit) => True) (fun _ t => pos1 D s.heap.size (wX8_readsOthers cI cL cS cH a_this a_this_st a_this_past a_this_image a_this_imagePast a_this_tape a_this_laneOf a_this_sizeOf a_this_items a_this_code a_this_from a_this_by a_this_far a_this_met a_this_told q_acts q_imageActs q_tapeMany q_many q_round q_readAt q_isFault q_toldMany q_tape q_told) (wX8_readsOthers cI cL cS cH a_this a_this_st a_this_past a_this_image a_this_imagePast a_this_tape a_this_laneOf a_this_sizeOf a_this_items a_this_code a_this_from a_this_by a_this_far a_this_met a_this_told q_acts q_imageActs q_tapeMany q_many q_round res.1 res.2.1 res.2.2.1 q_tape res.2.2.2) t) (va_A (wX8_readsOthers cI cL cS cH a_this a_this_st a_this_past a_this_image a_this_imagePast a_this_tape a_this_laneOf a_this_sizeOf a_this_items a_this_code a_this_from a_this_by a_this_far a_this_met a_this_told q_acts q_imageActs q_tapeMany q_many q_round q_readAt q_isFault q_toldMany q_tape q_told) s.heap.size)) ([.ref a_this, .int x1] : List Value).toArray s 0 0 (va_A (wX8_readsOthers cI cL cS cH a_this a_this_st a_this_past a_this_image a_this_imagePast a_this_tape a_this_laneOf a_this_sizeOf a_this_items a_this_code a_this_from a_this_by a_this_far a_this_met a_this_told q_acts q_imageActs q_tapeMany q_many q_round q_readAt q_isFault q_toldMany q_tape q_told) s.heap.size)) g
set_option maxHeartbeats 4000000 in
set_option maxRecDepth 100000 in
theorem mX8_readsOthers (l : Launch) (D : vg) (cI cL cS cH : ClassId) (sz : Nat) (a_this : Nat) (a_this_st : Nat) (a_this_past : Nat) (a_this_image : Nat) (a_this_imagePast : Nat) (a_this_tape : Nat) (a_this_laneOf : Nat) (a_this_sizeOf : Nat) (a_this_items : Nat) (a_this_code : Nat) (a_this_from : Nat) (a_this_by : Nat) (a_this_far : Nat) (a_this_met : Nat) (a_this_told : Nat) (q_acts : Int32) (q_imageActs : Int32) (q_tapeMany : Int32) (q_many : Int32) (q_round : Int32) (q_readAt : Int32) (q_isFault : Int32) (q_toldMany : Int32) (q_tape : Nat → Int32) (q_told : Nat → Int32) (x1 : Int32) {res : Int32 × Int32 × Int32 × (Nat → Int32)} (hf : fX8_readsOthers q_tapeMany q_readAt q_isFault q_toldMany q_tape q_told x1 = some res) : ctv l yX8_readsOthers wsX8_readsOthers ({ frames := 4, cells := 0, slots := 0, locals := 90 }) D (ty4 cI cL cS cH) sz [.ref a_this, .int x1] (wX8_readsOthers cI cL cS cH a_this a_this_st a_this_past a_this_image a_this_imagePast a_this_tape a_this_laneOf a_this_sizeOf a_this_items a_this_code a_this_from a_this_by a_this_far a_this_met a_this_told q_acts q_imageActs q_tapeMany q_many q_round q_readAt q_isFault q_toldMany q_tape q_told) (wX8_readsOthers cI cL cS cH a_this a_this_st a_this_past a_this_image a_this_imagePast a_this_tape a_this_laneOf a_this_sizeOf a_this_items a_this_code a_this_from a_this_by a_this_far a_this_met a_this_told q_acts q_imageActs q_tapeMany q_many q_round res.1 res.2.1 res.2.2.1 q_tape res.2.2.2) := by
  refine Met.ofW (cc := cX8_readsOthers) (maxL := 7) (ret := none) (by decide) rfl ?_
  intro p e s m args below meth c s₁ B hml hv
  obtain ⟨rfl, hpre⟩ := hv
  obtain rfl := hpre.1
  have C : CallFix p m c cX8_readsOthers 7 s _ wsX8_readsOthers RX8 := ⟨B.exec, B.bytes, hml, findClass_of_methodNamed B.named, atoms_spec (ws := wsX8_readsOthers) B.pre⟩
  have hr := B.returns
  have hlocks := B.notSynchronized
  have w := wd_start hpre
  clear hpre B
  have hl := lv_entry ([.ref a_this, .int x1]) (n := 7) (Nat.le_of_ble_eq_true rfl)
  rw [lg_entry_eq]
  generalize (lg_sl ([.ref a_this, .int x1]) ++ List.replicate (7 - (lg_sl ([.ref a_this, .int x1])).length) Slot.unset).toArray = ls at hl ⊢
  have hl : lv_has ls 7 [(0, .ref a_this), (1, .int x1)] := hl
  unfold fX8_readsOthers at hf
  have hlp30 : ∀ (y30_1 : Int32) (k30_q_readAt : Int32) (k30_q_isFault : Int32) (k30_q_toldMany : Int32) (ex30 : Int32 × (Nat → Int32)) (hk : (∀ (H : Heap) (locs : List Loc) (ls : Array Slot), wd D (ty4 cI cL cS cH) s (va_A (wX8_readsOthers cI cL cS cH a_this a_this_st a_this_past a_this_image a_this_imagePast a_this_tape a_this_laneOf a_this_sizeOf a_this_items a_this_code a_this_from a_this_by a_this_far a_this_met a_this_told q_acts q_imageActs q_tapeMany q_many q_round q_readAt q_isFault q_toldMany q_tape q_told) s.heap.size) s.heap H locs (wX8_readsOthers cI cL cS cH a_this a_this_st a_this_past a_this_image a_this_imagePast a_this_tape a_this_laneOf a_this_sizeOf a_this_items a_this_code a_this_from a_this_by a_this_far a_this_met a_this_told q_acts q_imageActs q_tapeMany q_many q_round k30_q_readAt k30_q_isFault k30_q_toldMany q_tape ex30.2) → lv_has ls 7 [(0, .ref a_this), (1, .int y30_1)] → gX8_readsOthers p l e s m below meth c D cI cL cS cH a_this a_this_st a_this_past a_this_image a_this_imagePast a_this_tape a_this_laneOf a_this_sizeOf a_this_items a_this_code a_this_from a_this_by a_this_far a_this_met a_this_told q_acts q_imageActs q_tapeMany q_many q_round q_readAt q_isFault q_toldMany q_tape q_told x1 res H locs (F0 m 160 ls []))) (n : Nat) (v30 : Int32 × (Nat → Int32)) (H : Heap) (locs : List Loc) (ls : Array Slot), itL (bX8_readsOthers_30 q_tapeMany q_tape y30_1 k30_q_readAt k30_q_isFault k30_q_toldMany) n v30 = some ex30 → wd D (ty4 cI cL cS cH) s (va_A (wX8_readsOthers cI cL cS cH a_this a_this_st a_this_past a_this_image a_this_imagePast a_this_tape a_this_laneOf a_this_sizeOf a_this_items a_this_code a_this_from a_this_by a_this_far a_this_met a_this_told q_acts q_imageActs q_tapeMany q_many q_round q_readAt q_isFault q_toldMany q_tape q_told) s.heap.size) s.heap H locs (wX8_readsOthers cI cL cS cH a_this a_this_st a_this_past a_this_image a_this_imagePast a_this_tape a_this_laneOf a_this_sizeOf a_this_items a_this_code a_this_from a_this_by a_this_far a_this_met a_this_told q_acts q_imageActs q_tapeMany q_many q_round k30_q_readAt k30_q_isFault k30_q_toldMany q_tape v30.2) → lv_has ls 7 [(0, .ref a_this), (1, .int y30_1), (2, .int v30.1)] → gX8_readsOthers p l e s m below meth c D cI cL cS cH a_this a_this_st a_this_past a_this_image a_this_imagePast a_this_tape a_this_laneOf a_this_sizeOf a_this_items a_this_code a_this_from a_this_by a_this_far a_this_met a_this_told q_acts q_imageActs q_tapeMany q_many q_round q_readAt q_isFault q_toldMany q_tape q_told x1 res H locs (F0 m 30 ls []) := by
    intro y30_1 k30_q_readAt k30_q_isFault k30_q_toldMany ex30 hk n
    induction n with
    | zero => intro v30 H locs ls hi w hl; exact (itL_zero hi).elim
    | succ n ih =>
      intro v30 H locs ls hi w hl
      obtain ⟨o, hf, hn⟩ := itL_succ hi
      unfold bX8_readsOthers_30 at hf
      have hlp40 : ∀ (y40_1 : Int32) (y40_2 : Int32) (k40_q_readAt : Int32) (k40_q_isFault : Int32) (k40_q_toldMany : Int32) (ex40 : Int32 × (Nat → Int32)) (hk : (∀ (H : Heap) (locs : List Loc) (ls : Array Slot), wd D (ty4 cI cL cS cH) s (va_A (wX8_readsOthers cI cL cS cH a_this a_this_st a_this_past a_this_image a_this_imagePast a_this_tape a_this_laneOf a_this_sizeOf a_this_items a_this_code a_this_from a_this_by a_this_far a_this_met a_this_told q_acts q_imageActs q_tapeMany q_many q_round q_readAt q_isFault q_toldMany q_tape q_told) s.heap.size) s.heap H locs (wX8_readsOthers cI cL cS cH a_this a_this_st a_this_past a_this_image a_this_imagePast a_this_tape a_this_laneOf a_this_sizeOf a_this_items a_this_code a_this_from a_this_by a_this_far a_this_met a_this_told q_acts q_imageActs q_tapeMany q_many q_round k40_q_readAt k40_q_isFault k40_q_toldMany q_tape ex40.2) → lv_has ls 7 [(0, .ref a_this), (1, .int y40_1), (2, .int y40_2)] → gX8_readsOthers p l e s m below meth c D cI cL cS cH a_this a_this_st a_this_past a_this_image a_this_imagePast a_this_tape a_this_laneOf a_this_sizeOf a_this_items a_this_code a_this_from a_this_by a_this_far a_this_met a_this_told q_acts q_imageActs q_tapeMany q_many q_round q_readAt q_isFault q_toldMany q_tape q_told x1 res H locs (F0 m 154 ls []))) (n : Nat) (v40 : Int32 × (Nat → Int32)) (H : Heap) (locs : List Loc) (ls : Array Slot), itL (bX8_readsOthers_40 q_tapeMany q_tape y40_1 y40_2 k40_q_readAt k40_q_isFault k40_q_toldMany) n v40 = some ex40 → wd D (ty4 cI cL cS cH) s (va_A (wX8_readsOthers cI cL cS cH a_this a_this_st a_this_past a_this_image a_this_imagePast a_this_tape a_this_laneOf a_this_sizeOf a_this_items a_this_code a_this_from a_this_by a_this_far a_this_met a_this_told q_acts q_imageActs q_tapeMany q_many q_round q_readAt q_isFault q_toldMany q_tape q_told) s.heap.size) s.heap H locs (wX8_readsOthers cI cL cS cH a_this a_this_st a_this_past a_this_image a_this_imagePast a_this_tape a_this_laneOf a_this_sizeOf a_this_items a_this_code a_this_from a_this_by a_this_far a_this_met a_this_told q_acts q_imageActs q_tapeMany q_many q_round k40_q_readAt k40_q_isFault k40_q_toldMany q_tape v40.2) → lv_has ls 7 [(0, .ref a_this), (1, .int y40_1), (2, .int y40_2), (3, .int v40.1)] → gX8_readsOthers p l e s m below meth c D cI cL cS cH a_this a_this_st a_this_past a_this_image a_this_imagePast a_this_tape a_this_laneOf a_this_sizeOf a_this_items a_this_code a_this_from a_this_by a_this_far a_this_met a_this_told q_acts q_imageActs q_tapeMany q_many q_round q_readAt q_isFault q_toldMany q_tape q_told x1 res H locs (F0 m 40 ls []) := by
        intro y40_1 y40_2 k40_q_readAt k40_q_isFault k40_q_toldMany ex40 hk n
        induction n with
        | zero => intro v40 H locs ls hi w hl; exact (itL_zero hi).elim
        | succ n ih =>
          intro v40 H locs ls hi w hl
          obtain ⟨o, hf, hn⟩ := itL_succ hi
          unfold bX8_readsOthers_40 at hf
          have hj148 : ∀ (y148_3 : Int32) (k148_q_told : Nat → Int32) (H : Heap) (locs : List Loc) (ls : Array Slot), wd D (ty4 cI cL cS cH) s (va_A (wX8_readsOthers cI cL cS cH a_this a_this_st a_this_past a_this_image a_this_imagePast a_this_tape a_this_laneOf a_this_sizeOf a_this_items a_this_code a_this_from a_this_by a_this_far a_this_met a_this_told q_acts q_imageActs q_tapeMany q_many q_round q_readAt q_isFault q_toldMany q_tape q_told) s.heap.size) s.heap H locs (wX8_readsOthers cI cL cS cH a_this a_this_st a_this_past a_this_image a_this_imagePast a_this_tape a_this_laneOf a_this_sizeOf a_this_items a_this_code a_this_from a_this_by a_this_far a_this_met a_this_told q_acts q_imageActs q_tapeMany q_many q_round k40_q_readAt k40_q_isFault k40_q_toldMany q_tape k148_q_told) → lv_has ls 7 [(0, .ref a_this), (1, .int y40_1), (2, .int y40_2), (3, .int y148_3)] → jX8_readsOthers_148 q_tapeMany q_tape y40_1 y40_2 y148_3 k40_q_readAt k40_q_isFault k40_q_toldMany k148_q_told = some o → gX8_readsOthers p l e s m below meth c D cI cL cS cH a_this a_this_st a_this_past a_this_image a_this_imagePast a_this_tape a_this_laneOf a_this_sizeOf a_this_items a_this_code a_this_from a_this_by a_this_far a_this_met a_this_told q_acts q_imageActs q_tapeMany q_many q_round q_readAt q_isFault q_toldMany q_tape q_told x1 res H locs (F0 m 148 ls []) := by
            intro y148_3 k148_q_told H locs ls w hl hf
            unfold jX8_readsOthers_148 at hf
            refine lv_iinc (v := (y148_3 + (1 : Int32))) (lv' := [(3, .int (y148_3 + (1 : Int32))), (0, .ref a_this), (1, .int y40_1), (2, .int y40_2)]) C.1 C.2.1 dX8_readsOthers_148 hl (k := 3) rfl rfl (by decide) rfl (fun ls hl => ?_)
            refine lv_goto (tgt := 40) C.1 C.2.1 dX8_readsOthers_151 (by decide) ?_
            obtain rfl := Option.some.inj hf
            exact ih ((y148_3 + (1 : Int32)), k148_q_told) _ _ _ hn w (lv_sub hl [1, 2, 3, 0] rfl)
          have hj135 : ∀ (y135_3 : Int32) (z135_0 : Int32) (k135_q_told : Nat → Int32) (H : Heap) (locs : List Loc) (ls : Array Slot), wd D (ty4 cI cL cS cH) s (va_A (wX8_readsOthers cI cL cS cH a_this a_this_st a_this_past a_this_image a_this_imagePast a_this_tape a_this_laneOf a_this_sizeOf a_this_items a_this_code a_this_from a_this_by a_this_far a_this_met a_this_told q_acts q_imageActs q_tapeMany q_many q_round q_readAt q_isFault q_toldMany q_tape q_told) s.heap.size) s.heap H locs (wX8_readsOthers cI cL cS cH a_this a_this_st a_this_past a_this_image a_this_imagePast a_this_tape a_this_laneOf a_this_sizeOf a_this_items a_this_code a_this_from a_this_by a_this_far a_this_met a_this_told q_acts q_imageActs q_tapeMany q_many q_round k40_q_readAt k40_q_isFault k40_q_toldMany q_tape k135_q_told) → lv_has ls 7 [(0, .ref a_this), (1, .int y40_1), (2, .int y40_2), (3, .int y135_3)] → jX8_readsOthers_135 q_tapeMany q_tape y40_1 y40_2 y135_3 z135_0 k40_q_readAt k40_q_isFault k40_q_toldMany k135_q_told = some o → gX8_readsOthers p l e s m below meth c D cI cL cS cH a_this a_this_st a_this_past a_this_image a_this_imagePast a_this_tape a_this_laneOf a_this_sizeOf a_this_items a_this_code a_this_from a_this_by a_this_far a_this_met a_this_told q_acts q_imageActs q_tapeMany q_many q_round q_readAt q_isFault q_toldMany q_tape q_told x1 res H locs (F0 m 135 ls [.int z135_0]) := by
            intro y135_3 z135_0 k135_q_told H locs ls w hl hf
            unfold jX8_readsOthers_135 at hf
            refine lv_istore (lv' := [(6, .int z135_0), (0, .ref a_this), (1, .int y40_1), (2, .int y40_2), (3, .int y135_3)]) C.1 C.2.1 dX8_readsOthers_135 hl (by decide) rfl (fun ls hl => ?_)
            refine lv_iload C.1 C.2.1 dX8_readsOthers_137 (lv_at hl 0 rfl) ?_
            refine lv_if_eq (tgt := 148) C.1 C.2.1 dX8_readsOthers_139 (by decide) (fun hq1 => ?_) (fun hq1 => ?_)
            · have hf := ite_t hf hq1
              exact hj148 y135_3 k135_q_told _ _ _ w (lv_sub hl [1, 2, 3, 4] rfl) hf
            · have hf := ite_f hf hq1
              refine lv_aload_n C.1 C.2.1 dX8_readsOthers_142 rfl (lv_at hl 1 rfl) ?_
              refine lv_iload_n C.1 C.2.1 dX8_readsOthers_143 rfl (lv_at hl 3 rfl) ?_
              refine lv_iload_n C.1 C.2.1 dX8_readsOthers_144 rfl (lv_at hl 4 rfl) ?_
              obtain ⟨r2, hc3, hf⟩ := bd hf
              refine call_Vv (ws' := (wX8_readsOthers cI cL cS cH a_this a_this_st a_this_past a_this_image a_this_imagePast a_this_tape a_this_laneOf a_this_sizeOf a_this_items a_this_code a_this_from a_this_by a_this_far a_this_met a_this_told q_acts q_imageActs q_tapeMany q_many q_round k40_q_readAt k40_q_isFault k40_q_toldMany q_tape r2)) (rest := []) C w (mX8_links l D cI cL cS cH _ a_this a_this_st a_this_past a_this_image a_this_imagePast a_this_tape a_this_laneOf a_this_sizeOf a_this_items a_this_code a_this_from a_this_by a_this_far a_this_met a_this_told q_acts q_imageActs q_tapeMany q_many q_round k40_q_readAt k40_q_isFault k40_q_toldMany k135_q_told y40_2 y135_3 hc3) (cwV 2 C.2.2.2.2 gX8_readsOthers_X8_links rfl rfl rfl (by decide +kernel) ⟨Nat.le_of_ble_eq_true rfl, Nat.le_of_ble_eq_true rfl⟩) [0, 2] [1] 3 ⟨rfl, rfl, trivial⟩ ⟨rfl, rfl, trivial⟩ ⟨⟨_, rfl, rfl⟩, trivial⟩ rfl (by decide) (by decide) (ci := 8) (q0 := 0) rfl rfl rfl hl.1 rfl (lv_room (Nat.le_of_ble_eq_true rfl)) dX8_readsOthers_145 ⟨Nat.zero_le _, Nat.zero_le _⟩ (fun H locs w => ?_)
              exact hj148 y135_3 r2 _ _ _ w (lv_sub hl [1, 2, 3, 4] rfl) hf
          have hj100 : ∀ (y100_3 : Int32) (k100_q_told : Nat → Int32) (H : Heap) (locs : List Loc) (ls : Array Slot), wd D (ty4 cI cL cS cH) s (va_A (wX8_readsOthers cI cL cS cH a_this a_this_st a_this_past a_this_image a_this_imagePast a_this_tape a_this_laneOf a_this_sizeOf a_this_items a_this_code a_this_from a_this_by a_this_far a_this_met a_this_told q_acts q_imageActs q_tapeMany q_many q_round q_readAt q_isFault q_toldMany q_tape q_told) s.heap.size) s.heap H locs (wX8_readsOthers cI cL cS cH a_this a_this_st a_this_past a_this_image a_this_imagePast a_this_tape a_this_laneOf a_this_sizeOf a_this_items a_this_code a_this_from a_this_by a_this_far a_this_met a_this_told q_acts q_imageActs q_tapeMany q_many q_round k40_q_readAt k40_q_isFault k40_q_toldMany q_tape k100_q_told) → lv_has ls 7 [(0, .ref a_this), (1, .int y40_1), (2, .int y40_2), (3, .int y100_3)] → jX8_readsOthers_100 q_tapeMany q_tape y40_1 y40_2 y100_3 k40_q_readAt k40_q_isFault k40_q_toldMany k100_q_told = some o → gX8_readsOthers p l e s m below meth c D cI cL cS cH a_this a_this_st a_this_past a_this_image a_this_imagePast a_this_tape a_this_laneOf a_this_sizeOf a_this_items a_this_code a_this_from a_this_by a_this_far a_this_met a_this_told q_acts q_imageActs q_tapeMany q_many q_round q_readAt q_isFault q_toldMany q_tape q_told x1 res H locs (F0 m 100 ls []) := by
            intro y100_3 k100_q_told H locs ls w hl hf
            unfold jX8_readsOthers_100 at hf
            refine lv_iconst (v := (1 : Int32)) C.1 C.2.1 dX8_readsOthers_100 (by decide) ?_
            refine lv_goto (tgt := 135) C.1 C.2.1 dX8_readsOthers_101 (by decide) ?_
            exact hj135 y100_3 (1 : Int32) k100_q_told _ _ _ w (lv_sub hl [0, 1, 2, 3] rfl) hf
          have hj83 : ∀ (y83_3 : Int32) (y83_4 : Int32) (z83_0 : Int32) (k83_q_told : Nat → Int32) (H : Heap) (locs : List Loc) (ls : Array Slot), wd D (ty4 cI cL cS cH) s (va_A (wX8_readsOthers cI cL cS cH a_this a_this_st a_this_past a_this_image a_this_imagePast a_this_tape a_this_laneOf a_this_sizeOf a_this_items a_this_code a_this_from a_this_by a_this_far a_this_met a_this_told q_acts q_imageActs q_tapeMany q_many q_round q_readAt q_isFault q_toldMany q_tape q_told) s.heap.size) s.heap H locs (wX8_readsOthers cI cL cS cH a_this a_this_st a_this_past a_this_image a_this_imagePast a_this_tape a_this_laneOf a_this_sizeOf a_this_items a_this_code a_this_from a_this_by a_this_far a_this_met a_this_told q_acts q_imageActs q_tapeMany q_many q_round k40_q_readAt k40_q_isFault k40_q_toldMany q_tape k83_q_told) → lv_has ls 7 [(0, .ref a_this), (1, .int y40_1), (2, .int y40_2), (3, .int y83_3), (4, .int y83_4)] → jX8_readsOthers_83 q_tapeMany q_tape y40_1 y40_2 y83_3 y83_4 z83_0 k40_q_readAt k40_q_isFault k40_q_toldMany k83_q_told = some o → gX8_readsOthers p l e s m below meth c D cI cL cS cH a_this a_this_st a_this_past a_this_image a_this_imagePast a_this_tape a_this_laneOf a_this_sizeOf a_this_items a_this_code a_this_from a_this_by a_this_far a_this_met a_this_told q_acts q_imageActs q_tapeMany q_many q_round q_readAt q_isFault q_toldMany q_tape q_told x1 res H locs (F0 m 83 ls [.int z83_0]) := by
            intro y83_3 y83_4 z83_0 k83_q_told H locs ls w hl hf
            unfold jX8_readsOthers_83 at hf
            refine lv_istore (lv' := [(5, .int z83_0), (0, .ref a_this), (1, .int y40_1), (2, .int y40_2), (3, .int y83_3), (4, .int y83_4)]) C.1 C.2.1 dX8_readsOthers_83 hl (by decide) rfl (fun ls hl => ?_)
            refine lv_iload_n C.1 C.2.1 dX8_readsOthers_85 rfl (lv_at hl 2 rfl) ?_
            refine lv_iconst (v := (2 : Int32)) C.1 C.2.1 dX8_readsOthers_86 (by decide) ?_
            refine lv_icmp_ge (tgt := 108) C.1 C.2.1 dX8_readsOthers_87 (by decide) (fun hq4 => ?_) (fun hq4 => ?_)
            · have hf := ite_t hf hq4
              refine lv_iload_n C.1 C.2.1 dX8_readsOthers_108 rfl (lv_at hl 2 rfl) ?_
              refine lv_iconst (v := (2 : Int32)) C.1 C.2.1 dX8_readsOthers_109 (by decide) ?_
              refine lv_icmp_ne (tgt := 125) C.1 C.2.1 dX8_readsOthers_110 (by decide) (fun hq5 => ?_) (fun hq5 => ?_)
              · have hf := ite_f hf hq5
                refine lv_iload_n C.1 C.2.1 dX8_readsOthers_125 rfl (lv_at hl 2 rfl) ?_
                refine lv_iconst (v := (3 : Int32)) C.1 C.2.1 dX8_readsOthers_126 (by decide) ?_
                refine lv_icmp_ne (tgt := 134) C.1 C.2.1 dX8_readsOthers_127 (by decide) (fun hq6 => ?_) (fun hq6 => ?_)
                · have hf := ite_f hf hq6
                  refine lv_iconst (v := (0 : Int32)) C.1 C.2.1 dX8_readsOthers_134 (by decide) ?_
                  exact hj135 y83_3 (0 : Int32) k83_q_told _ _ _ w (lv_sub hl [1, 2, 3, 4] rfl) hf
                · have hf := ite_t hf hq6
                  refine lv_iconst (v := (1 : Int32)) C.1 C.2.1 dX8_readsOthers_130 (by decide) ?_
                  refine lv_goto (tgt := 135) C.1 C.2.1 dX8_readsOthers_131 (by decide) ?_
                  exact hj135 y83_3 (1 : Int32) k83_q_told _ _ _ w (lv_sub hl [1, 2, 3, 4] rfl) hf
              · have hf := ite_t hf hq5
                refine lv_iload_n C.1 C.2.1 dX8_readsOthers_113 rfl (lv_at hl 4 rfl) ?_
                refine lv_if_ne (tgt := 121) C.1 C.2.1 dX8_readsOthers_114 (by decide) (fun hq7 => ?_) (fun hq7 => ?_)
                · have hf := ite_f hf hq7
                  refine lv_iconst (v := (0 : Int32)) C.1 C.2.1 dX8_readsOthers_121 (by decide) ?_
                  refine lv_goto (tgt := 135) C.1 C.2.1 dX8_readsOthers_122 (by decide) ?_
                  exact hj135 y83_3 (0 : Int32) k83_q_told _ _ _ w (lv_sub hl [1, 2, 3, 4] rfl) hf
                · have hf := ite_t hf hq7
                  refine lv_iconst (v := (1 : Int32)) C.1 C.2.1 dX8_readsOthers_117 (by decide) ?_
                  refine lv_goto (tgt := 135) C.1 C.2.1 dX8_readsOthers_118 (by decide) ?_
                  exact hj135 y83_3 (1 : Int32) k83_q_told _ _ _ w (lv_sub hl [1, 2, 3, 4] rfl) hf
            · have hf := ite_f hf hq4
              refine lv_iload C.1 C.2.1 dX8_readsOthers_90 (lv_at hl 5 rfl) ?_
              refine lv_if_ne (tgt := 100) C.1 C.2.1 dX8_readsOthers_92 (by decide) (fun hq8 => ?_) (fun hq8 => ?_)
              · have hf := ite_f hf hq8
                exact hj100 y83_3 k83_q_told _ _ _ w (lv_sub hl [1, 2, 3, 4] rfl) hf
              · have hf := ite_t hf hq8
                refine lv_iload C.1 C.2.1 dX8_readsOthers_95 (lv_at hl 0 rfl) ?_
                refine lv_if_eq (tgt := 104) C.1 C.2.1 dX8_readsOthers_97 (by decide) (fun hq9 => ?_) (fun hq9 => ?_)
                · have hf := ite_t hf hq9
                  refine lv_iconst (v := (0 : Int32)) C.1 C.2.1 dX8_readsOthers_104 (by decide) ?_
                  refine lv_goto (tgt := 135) C.1 C.2.1 dX8_readsOthers_105 (by decide) ?_
                  exact hj135 y83_3 (0 : Int32) k83_q_told _ _ _ w (lv_sub hl [1, 2, 3, 4] rfl) hf
                · have hf := ite_f hf hq9
                  exact hj100 y83_3 k83_q_told _ _ _ w (lv_sub hl [1, 2, 3, 4] rfl) hf
          have hj82 : ∀ (y82_3 : Int32) (y82_4 : Int32) (k82_q_told : Nat → Int32) (H : Heap) (locs : List Loc) (ls : Array Slot), wd D (ty4 cI cL cS cH) s (va_A (wX8_readsOthers cI cL cS cH a_this a_this_st a_this_past a_this_image a_this_imagePast a_this_tape a_this_laneOf a_this_sizeOf a_this_items a_this_code a_this_from a_this_by a_this_far a_this_met a_this_told q_acts q_imageActs q_tapeMany q_many q_round q_readAt q_isFault q_toldMany q_tape q_told) s.heap.size) s.heap H locs (wX8_readsOthers cI cL cS cH a_this a_this_st a_this_past a_this_image a_this_imagePast a_this_tape a_this_laneOf a_this_sizeOf a_this_items a_this_code a_this_from a_this_by a_this_far a_this_met a_this_told q_acts q_imageActs q_tapeMany q_many q_round k40_q_readAt k40_q_isFault k40_q_toldMany q_tape k82_q_told) → lv_has ls 7 [(0, .ref a_this), (1, .int y40_1), (2, .int y40_2), (3, .int y82_3), (4, .int y82_4)] → jX8_readsOthers_82 q_tapeMany q_tape y40_1 y40_2 y82_3 y82_4 k40_q_readAt k40_q_isFault k40_q_toldMany k82_q_told = some o → gX8_readsOthers p l e s m below meth c D cI cL cS cH a_this a_this_st a_this_past a_this_image a_this_imagePast a_this_tape a_this_laneOf a_this_sizeOf a_this_items a_this_code a_this_from a_this_by a_this_far a_this_met a_this_told q_acts q_imageActs q_tapeMany q_many q_round q_readAt q_isFault q_toldMany q_tape q_told x1 res H locs (F0 m 82 ls []) := by
            intro y82_3 y82_4 k82_q_told H locs ls w hl hf
            unfold jX8_readsOthers_82 at hf
            refine lv_iconst (v := (0 : Int32)) C.1 C.2.1 dX8_readsOthers_82 (by decide) ?_
            exact hj83 y82_3 y82_4 (0 : Int32) k82_q_told _ _ _ w (lv_sub hl [0, 1, 2, 3, 4] rfl) hf
          have hj57 : ∀ (y57_3 : Int32) (z57_0 : Int32) (k57_q_told : Nat → Int32) (H : Heap) (locs : List Loc) (ls : Array Slot), wd D (ty4 cI cL cS cH) s (va_A (wX8_readsOthers cI cL cS cH a_this a_this_st a_this_past a_this_image a_this_imagePast a_this_tape a_this_laneOf a_this_sizeOf a_this_items a_this_code a_this_from a_this_by a_this_far a_this_met a_this_told q_acts q_imageActs q_tapeMany q_many q_round q_readAt q_isFault q_toldMany q_tape q_told) s.heap.size) s.heap H locs (wX8_readsOthers cI cL cS cH a_this a_this_st a_this_past a_this_image a_this_imagePast a_this_tape a_this_laneOf a_this_sizeOf a_this_items a_this_code a_this_from a_this_by a_this_far a_this_met a_this_told q_acts q_imageActs q_tapeMany q_many q_round k40_q_readAt k40_q_isFault k40_q_toldMany q_tape k57_q_told) → lv_has ls 7 [(0, .ref a_this), (1, .int y40_1), (2, .int y40_2), (3, .int y57_3)] → jX8_readsOthers_57 q_tapeMany q_tape y40_1 y40_2 y57_3 z57_0 k40_q_readAt k40_q_isFault k40_q_toldMany k57_q_told = some o → gX8_readsOthers p l e s m below meth c D cI cL cS cH a_this a_this_st a_this_past a_this_image a_this_imagePast a_this_tape a_this_laneOf a_this_sizeOf a_this_items a_this_code a_this_from a_this_by a_this_far a_this_met a_this_told q_acts q_imageActs q_tapeMany q_many q_round q_readAt q_isFault q_toldMany q_tape q_told x1 res H locs (F0 m 57 ls [.int z57_0]) := by
            intro y57_3 z57_0 k57_q_told H locs ls w hl hf
            unfold jX8_readsOthers_57 at hf
            refine lv_istore (lv' := [(4, .int z57_0), (0, .ref a_this), (1, .int y40_1), (2, .int y40_2), (3, .int y57_3)]) C.1 C.2.1 dX8_readsOthers_57 hl (by decide) rfl (fun ls hl => ?_)
            refine lv_iload_n C.1 C.2.1 dX8_readsOthers_59 rfl (lv_at hl 2 rfl) ?_
            refine lv_iconst (v := (1 : Int32)) C.1 C.2.1 dX8_readsOthers_60 (by decide) ?_
            refine lv_icmp_ne (tgt := 82) C.1 C.2.1 dX8_readsOthers_61 (by decide) (fun hq10 => ?_) (fun hq10 => ?_)
            · have hf := ite_f hf hq10
              exact hj82 y57_3 z57_0 k57_q_told _ _ _ w (lv_sub hl [1, 2, 3, 4, 0] rfl) hf
            · have hf := ite_t hf hq10
              refine lv_iload_n C.1 C.2.1 dX8_readsOthers_64 rfl (lv_at hl 4 rfl) ?_
              refine lv_if_ne (tgt := 82) C.1 C.2.1 dX8_readsOthers_65 (by decide) (fun hq11 => ?_) (fun hq11 => ?_)
              · have hf := ite_f hf hq11
                exact hj82 y57_3 z57_0 k57_q_told _ _ _ w (lv_sub hl [1, 2, 3, 4, 0] rfl) hf
              · have hf := ite_t hf hq11
                refine lv_iload_n C.1 C.2.1 dX8_readsOthers_68 rfl (lv_at hl 3 rfl) ?_
                refine lv_aload_n C.1 C.2.1 dX8_readsOthers_69 rfl (lv_at hl 1 rfl) ?_
                refine r_get C w inX8_readsOthers_X8 0 rfl rfl 20 (by decide) lkX8_readsOthers_212 rfl dX8_readsOthers_70 ?_
                refine lv_iconst (v := (1 : Int32)) C.1 C.2.1 dX8_readsOthers_73 (by decide) ?_
                refine lv_isub C.1 C.2.1 dX8_readsOthers_74 ?_
                refine lv_icmp_ne (tgt := 82) C.1 C.2.1 dX8_readsOthers_75 (by decide) (fun hq12 => ?_) (fun hq12 => ?_)
                · have hf := ite_f hf hq12
                  exact hj82 y57_3 z57_0 k57_q_told _ _ _ w (lv_sub hl [1, 2, 3, 4, 0] rfl) hf
                · have hf := ite_t hf hq12
                  refine lv_iconst (v := (1 : Int32)) C.1 C.2.1 dX8_readsOthers_78 (by decide) ?_
                  refine lv_goto (tgt := 83) C.1 C.2.1 dX8_readsOthers_79 (by decide) ?_
                  exact hj83 y57_3 z57_0 (1 : Int32) k57_q_told _ _ _ w (lv_sub hl [1, 2, 3, 4, 0] rfl) hf
          refine lv_iload_n C.1 C.2.1 dX8_readsOthers_40 rfl (lv_at hl 3 rfl) ?_
          refine lv_iload_n C.1 C.2.1 dX8_readsOthers_41 rfl (lv_at hl 2 rfl) ?_
          refine lv_icmp_ge (tgt := 154) C.1 C.2.1 dX8_readsOthers_42 (by decide) (fun hq13 => ?_) (fun hq13 => ?_)
          · have hf := ite_t hf hq13
            obtain rfl := Option.some.inj hf
            obtain rfl := hn
            exact hk _ _ _ w (lv_sub hl [0, 1, 2] rfl)
          · have hf := ite_f hf hq13
            refine lv_iload_n C.1 C.2.1 dX8_readsOthers_45 rfl (lv_at hl 3 rfl) ?_
            refine lv_iload_n C.1 C.2.1 dX8_readsOthers_46 rfl (lv_at hl 2 rfl) ?_
            refine lv_iconst (v := (1 : Int32)) C.1 C.2.1 dX8_readsOthers_47 (by decide) ?_
            refine lv_isub C.1 C.2.1 dX8_readsOthers_48 ?_
            refine lv_icmp_ne (tgt := 56) C.1 C.2.1 dX8_readsOthers_49 (by decide) (fun hq14 => ?_) (fun hq14 => ?_)
            · have hf := ite_f hf hq14
              refine lv_iconst (v := (0 : Int32)) C.1 C.2.1 dX8_readsOthers_56 (by decide) ?_
              exact hj57 v40.1 (0 : Int32) v40.2 _ _ _ w (lv_sub hl [0, 1, 2, 3] rfl) hf
            · have hf := ite_t hf hq14
              refine lv_iconst (v := (1 : Int32)) C.1 C.2.1 dX8_readsOthers_52 (by decide) ?_
              refine lv_goto (tgt := 57) C.1 C.2.1 dX8_readsOthers_53 (by decide) ?_
              exact hj57 v40.1 (1 : Int32) v40.2 _ _ _ w (lv_sub hl [0, 1, 2, 3] rfl) hf
      refine lv_iload_n C.1 C.2.1 dX8_readsOthers_30 rfl (lv_at hl 2 rfl) ?_
      refine lv_aload_n C.1 C.2.1 dX8_readsOthers_31 rfl (lv_at hl 0 rfl) ?_
      refine r_get C w inX8_readsOthers_X8 0 rfl rfl 20 (by decide) lkX8_readsOthers_212 rfl dX8_readsOthers_32 ?_
      refine lv_icmp_ge (tgt := 160) C.1 C.2.1 dX8_readsOthers_35 (by decide) (fun hq15 => ?_) (fun hq15 => ?_)
      · have hf := ite_t hf hq15
        obtain rfl := Option.some.inj hf
        obtain rfl := hn
        exact hk _ _ _ w (lv_sub hl [0, 1] rfl)
      · have hf := ite_f hf hq15
        refine lv_iconst (v := (0 : Int32)) C.1 C.2.1 dX8_readsOthers_38 (by decide) ?_
        refine lv_istore_n (lv' := [(3, .int (0 : Int32)), (0, .ref a_this), (1, .int y30_1), (2, .int v30.1)]) C.1 C.2.1 dX8_readsOthers_39 rfl hl (by decide) rfl (fun ls hl => ?_)
        obtain ⟨ex16, hx17, hf⟩ := bd hf
        refine hlp40 y30_1 v30.1 k30_q_readAt k30_q_isFault k30_q_toldMany ex16 ?_ fu ((0 : Int32), v30.2) _ _ _ hx17 w (lv_sub hl [1, 2, 3, 0] rfl)
        intro H locs ls w hl
        refine lv_iinc (v := (v30.1 + (1 : Int32))) (lv' := [(2, .int (v30.1 + (1 : Int32))), (0, .ref a_this), (1, .int y30_1)]) C.1 C.2.1 dX8_readsOthers_154 hl (k := 2) rfl rfl (by decide) rfl (fun ls hl => ?_)
        refine lv_goto (tgt := 30) C.1 C.2.1 dX8_readsOthers_157 (by decide) ?_
        obtain rfl := Option.some.inj hf
        exact ih ((v30.1 + (1 : Int32)), ex16.2) _ _ _ hn w (lv_sub hl [1, 2, 0] rfl)
  have hj12 : ∀ (z12_0 : Int32) (k12_q_readAt : Int32) (k12_q_isFault : Int32) (k12_q_toldMany : Int32) (k12_q_told : Nat → Int32) (H : Heap) (locs : List Loc) (ls : Array Slot), wd D (ty4 cI cL cS cH) s (va_A (wX8_readsOthers cI cL cS cH a_this a_this_st a_this_past a_this_image a_this_imagePast a_this_tape a_this_laneOf a_this_sizeOf a_this_items a_this_code a_this_from a_this_by a_this_far a_this_met a_this_told q_acts q_imageActs q_tapeMany q_many q_round q_readAt q_isFault q_toldMany q_tape q_told) s.heap.size) s.heap H locs (wX8_readsOthers cI cL cS cH a_this a_this_st a_this_past a_this_image a_this_imagePast a_this_tape a_this_laneOf a_this_sizeOf a_this_items a_this_code a_this_from a_this_by a_this_far a_this_met a_this_told q_acts q_imageActs q_tapeMany q_many q_round k12_q_readAt k12_q_isFault k12_q_toldMany q_tape k12_q_told) → lv_has ls 7 [(0, .ref a_this), (1, .int x1)] → jX8_readsOthers_12 q_tapeMany q_tape x1 z12_0 k12_q_readAt k12_q_isFault k12_q_toldMany k12_q_told = some res → gX8_readsOthers p l e s m below meth c D cI cL cS cH a_this a_this_st a_this_past a_this_image a_this_imagePast a_this_tape a_this_laneOf a_this_sizeOf a_this_items a_this_code a_this_from a_this_by a_this_far a_this_met a_this_told q_acts q_imageActs q_tapeMany q_many q_round q_readAt q_isFault q_toldMany q_tape q_told x1 res H locs (F0 m 12 ls [.int z12_0, .ref a_this, .ref a_this]) := by
    intro z12_0 k12_q_readAt k12_q_isFault k12_q_toldMany k12_q_told H locs ls w hl hf
    unfold jX8_readsOthers_12 at hf
    refine lv_bipush (v := (7 : Int32)) C.1 C.2.1 dX8_readsOthers_12 (by decide) ?_
    obtain ⟨r18, hc19, hf⟩ := bd hf
    refine call_Vi (ws' := (wX8_readsOthers cI cL cS cH a_this a_this_st a_this_past a_this_image a_this_imagePast a_this_tape a_this_laneOf a_this_sizeOf a_this_items a_this_code a_this_from a_this_by a_this_far a_this_met a_this_told q_acts q_imageActs q_tapeMany q_many q_round r18.2.1 r18.2.2 k12_q_toldMany q_tape k12_q_told)) (rest := [.ref a_this]) C w (mX8_figure l D cI cL cS cH _ a_this a_this_st a_this_past a_this_image a_this_imagePast a_this_tape a_this_laneOf a_this_sizeOf a_this_items a_this_code a_this_from a_this_by a_this_far a_this_met a_this_told q_acts q_imageActs q_tapeMany q_many q_round k12_q_readAt k12_q_isFault k12_q_toldMany q_tape z12_0 (7 : Int32) hc19) (cwV 2 C.2.2.2.2 gX8_readsOthers_X8_figure rfl rfl rfl (by decide +kernel) ⟨Nat.le_of_ble_eq_true rfl, Nat.le_of_ble_eq_true rfl⟩) [0, 1] [2] 3 ⟨rfl, rfl, trivial⟩ ⟨rfl, rfl, trivial⟩ ⟨⟨_, rfl, rfl⟩, trivial⟩ rfl (by decide) (by decide) (ci := 8) (q0 := 0) rfl rfl rfl hl.1 rfl (lv_room (Nat.le_of_ble_eq_true rfl)) dX8_readsOthers_14 ⟨Nat.zero_le _, Nat.zero_le _⟩ (fun H locs w => ?_)
    refine r_put (ws' := (wX8_readsOthers cI cL cS cH a_this a_this_st a_this_past a_this_image a_this_imagePast a_this_tape a_this_laneOf a_this_sizeOf a_this_items a_this_code a_this_from a_this_by a_this_far a_this_met a_this_told q_acts q_imageActs q_tapeMany q_many q_round r18.2.1 r18.2.2 r18.1 q_tape k12_q_told)) C w inX8_readsOthers_X8 tyX8 tyX8_ok nmX8 0 rfl rfl 20 (by decide) lkX8_readsOthers_212 rfl rfl rfl (Nat.le_of_ble_eq_true rfl) rfl dX8_readsOthers_17 (fun H locs w => ?_)
    refine lv_aload_n C.1 C.2.1 dX8_readsOthers_20 rfl (lv_at hl 0 rfl) ?_
    refine r_get C w inX8_readsOthers_X8 0 rfl rfl 19 (by decide) lkX8_readsOthers_190 rfl dX8_readsOthers_21 ?_
    refine lv_if_eq (tgt := 28) C.1 C.2.1 dX8_readsOthers_24 (by decide) (fun hq20 => ?_) (fun hq20 => ?_)
    · have hf := ite_t hf hq20
      refine lv_iconst (v := (0 : Int32)) C.1 C.2.1 dX8_readsOthers_28 (by decide) ?_
      refine lv_istore_n (lv' := [(2, .int (0 : Int32)), (0, .ref a_this), (1, .int x1)]) C.1 C.2.1 dX8_readsOthers_29 rfl hl (by decide) rfl (fun ls hl => ?_)
      obtain ⟨ex21, hx22, hf⟩ := bd hf
      refine hlp30 x1 r18.2.1 r18.2.2 r18.1 ex21 ?_ fu ((0 : Int32), k12_q_told) _ _ _ hx22 w (lv_sub hl [1, 2, 0] rfl)
      intro H locs ls w hl
      refine lv_iload_n C.1 C.2.1 dX8_readsOthers_160 rfl (lv_at hl 1 rfl) ?_
      refine lv_iconst (v := (4 : Int32)) C.1 C.2.1 dX8_readsOthers_161 (by decide) ?_
      refine lv_icmp_ne (tgt := 188) C.1 C.2.1 dX8_readsOthers_162 (by decide) (fun hq23 => ?_) (fun hq23 => ?_)
      · have hf := ite_f hf hq23
        have hres := Option.some.inj hf
        subst hres
        exact ret_v C hr hlocks w dX8_readsOthers_188
      · have hf := ite_t hf hq23
        refine lv_aload_n C.1 C.2.1 dX8_readsOthers_165 rfl (lv_at hl 0 rfl) ?_
        obtain ⟨r24, hc25, hf⟩ := bd hf
        refine call_Vi (ws' := (wX8_readsOthers cI cL cS cH a_this a_this_st a_this_past a_this_image a_this_imagePast a_this_tape a_this_laneOf a_this_sizeOf a_this_items a_this_code a_this_from a_this_by a_this_far a_this_met a_this_told q_acts q_imageActs q_tapeMany q_many q_round r24.2 r18.2.2 r18.1 q_tape ex21.2)) (rest := []) C w (mX8_looks l D cI cL cS cH _ a_this a_this_st a_this_past a_this_image a_this_imagePast a_this_tape a_this_laneOf a_this_sizeOf a_this_items a_this_code a_this_from a_this_by a_this_far a_this_met a_this_told q_acts q_imageActs q_tapeMany q_many q_round r18.2.1 r18.2.2 r18.1 q_tape hc25) (cwV 0 C.2.2.2.2 gX8_readsOthers_X8_looks rfl rfl rfl (by decide +kernel) ⟨Nat.le_of_ble_eq_true rfl, Nat.le_of_ble_eq_true rfl⟩) [0, 1] [2] 3 ⟨rfl, rfl, trivial⟩ ⟨rfl, rfl, trivial⟩ ⟨⟨_, rfl, rfl⟩, trivial⟩ rfl (by decide) (by decide) (ci := 8) (q0 := 0) rfl rfl rfl hl.1 rfl (lv_room (Nat.le_of_ble_eq_true rfl)) dX8_readsOthers_166 ⟨Nat.zero_le _, Nat.zero_le _⟩ (fun H locs w => ?_)
        refine lv_bipush (v := (58 : Int32)) C.1 C.2.1 dX8_readsOthers_169 (by decide) ?_
        refine lv_icmp_ne (tgt := 188) C.1 C.2.1 dX8_readsOthers_171 (by decide) (fun hq26 => ?_) (fun hq26 => ?_)
        · have hf := ite_f hf hq26
          have hres := Option.some.inj hf
          subst hres
          exact ret_v C hr hlocks w dX8_readsOthers_188
        · have hf := ite_t hf hq26
          refine lv_aload_n C.1 C.2.1 dX8_readsOthers_174 rfl (lv_at hl 0 rfl) ?_
          refine lv_dup C.1 C.2.1 dX8_readsOthers_175 rfl ?_
          refine r_get C w inX8_readsOthers_X8 0 rfl rfl 18 (by decide) lkX8_readsOthers_187 rfl dX8_readsOthers_176 ?_
          refine lv_iconst (v := (1 : Int32)) C.1 C.2.1 dX8_readsOthers_179 (by decide) ?_
          refine lv_iadd C.1 C.2.1 dX8_readsOthers_180 ?_
          refine r_put (ws' := (wX8_readsOthers cI cL cS cH a_this a_this_st a_this_past a_this_image a_this_imagePast a_this_tape a_this_laneOf a_this_sizeOf a_this_items a_this_code a_this_from a_this_by a_this_far a_this_met a_this_told q_acts q_imageActs q_tapeMany q_many q_round (r24.2 + (1 : Int32)) r18.2.2 r18.1 q_tape ex21.2)) C w inX8_readsOthers_X8 tyX8 tyX8_ok nmX8 0 rfl rfl 18 (by decide) lkX8_readsOthers_187 rfl rfl rfl (Nat.le_of_ble_eq_true rfl) rfl dX8_readsOthers_181 (fun H locs w => ?_)
          refine lv_aload_n C.1 C.2.1 dX8_readsOthers_184 rfl (lv_at hl 0 rfl) ?_
          obtain ⟨r27, hc28, hf⟩ := bd hf
          refine call_Vv (ws' := (wX8_readsOthers cI cL cS cH a_this a_this_st a_this_past a_this_image a_this_imagePast a_this_tape a_this_laneOf a_this_sizeOf a_this_items a_this_code a_this_from a_this_by a_this_far a_this_met a_this_told q_acts q_imageActs q_tapeMany q_many q_round r27.1 r27.2.1 r18.1 q_tape r27.2.2)) (rest := []) C w (mX8_readsLinks l D cI cL cS cH _ a_this a_this_st a_this_past a_this_image a_this_imagePast a_this_tape a_this_laneOf a_this_sizeOf a_this_items a_this_code a_this_from a_this_by a_this_far a_this_met a_this_told q_acts q_imageActs q_tapeMany q_many q_round (r24.2 + (1 : Int32)) r18.2.2 r18.1 q_tape ex21.2 hc28) (cwV 0 C.2.2.2.2 gX8_readsOthers_X8_readsLinks rfl rfl rfl (by decide +kernel) ⟨Nat.le_of_ble_eq_true rfl, Nat.le_of_ble_eq_true rfl⟩) [0, 1, 2] [] 3 ⟨rfl, rfl, rfl, trivial⟩ ⟨rfl, rfl, rfl, trivial⟩ trivial rfl (by decide) (by decide) (ci := 8) (q0 := 0) rfl rfl rfl hl.1 rfl (lv_room (Nat.le_of_ble_eq_true rfl)) dX8_readsOthers_185 ⟨Nat.zero_le _, Nat.zero_le _⟩ (fun H locs w => ?_)
          have hres := Option.some.inj hf
          subst hres
          exact ret_v C hr hlocks w dX8_readsOthers_188
    · have hf := ite_f hf hq20
      have hres := Option.some.inj hf
      subst hres
      exact ret_v C hr hlocks w dX8_readsOthers_27
  refine lv_aload_n C.1 C.2.1 dX8_readsOthers_0 rfl (lv_at hl 0 rfl) ?_
  refine lv_aload_n C.1 C.2.1 dX8_readsOthers_1 rfl (lv_at hl 0 rfl) ?_
  refine lv_iload_n C.1 C.2.1 dX8_readsOthers_2 rfl (lv_at hl 1 rfl) ?_
  refine lv_iconst (v := (1 : Int32)) C.1 C.2.1 dX8_readsOthers_3 (by decide) ?_
  refine lv_icmp_ne (tgt := 11) C.1 C.2.1 dX8_readsOthers_4 (by decide) (fun hq29 => ?_) (fun hq29 => ?_)
  · have hf := ite_f hf hq29
    refine lv_iconst (v := (2 : Int32)) C.1 C.2.1 dX8_readsOthers_11 (by decide) ?_
    exact hj12 (2 : Int32) q_readAt q_isFault q_toldMany q_told _ _ _ w (lv_sub hl [0, 1] rfl) hf
  · have hf := ite_t hf hq29
    refine lv_iconst (v := (3 : Int32)) C.1 C.2.1 dX8_readsOthers_7 (by decide) ?_
    refine lv_goto (tgt := 12) C.1 C.2.1 dX8_readsOthers_8 (by decide) ?_
    exact hj12 (3 : Int32) q_readAt q_isFault q_toldMany q_told _ _ _ w (lv_sub hl [0, 1] rfl) hf

set_option maxRecDepth 100000 in
theorem inX8_readsAll_X8 : ∀ w ∈ u_ws RX8 TX8 22, w ∈ wsX8_readsAll := by decide +kernel
set_option maxRecDepth 100000 in
theorem lkX8_readsAll_190 : Cond.fieldLink RX8 190 "CleanNetsModel" "isFault" "Z" ∈ wsX8_readsAll := by decide +kernel
set_option maxRecDepth 100000 in
theorem lkX8_readsAll_54 : Cond.fieldLink RX8 54 "CleanNetsModel" "told" "[I" ∈ wsX8_readsAll := by decide +kernel
set_option maxRecDepth 100000 in
theorem lkX8_readsAll_187 : Cond.fieldLink RX8 187 "CleanNetsModel" "readAt" "I" ∈ wsX8_readsAll := by decide +kernel
abbrev wX8_readsAll (cI cL cS cH : ClassId) (a_this : Nat) (a_this_st : Nat) (a_this_past : Nat) (a_this_image : Nat) (a_this_imagePast : Nat) (a_this_tape : Nat) (a_this_laneOf : Nat) (a_this_sizeOf : Nat) (a_this_items : Nat) (a_this_code : Nat) (a_this_from : Nat) (a_this_by : Nat) (a_this_far : Nat) (a_this_met : Nat) (a_this_told : Nat) (q_acts : Int32) (q_imageActs : Int32) (q_tapeMany : Int32) (q_many : Int32) (q_round : Int32) (q_readAt : Int32) (q_isFault : Int32) (q_toldMany : Int32) (q_tape : Nat → Int32) (q_told : Nat → Int32) : va_W := [(a_this, .inr (8, [.ref a_this_st, .ref a_this_past, .int q_acts, .ref a_this_image, .ref a_this_imagePast, .int q_imageActs, .ref a_this_tape, .int q_tapeMany, .ref a_this_laneOf, .ref a_this_sizeOf, .ref a_this_items, .ref a_this_code, .ref a_this_from, .ref a_this_by, .ref a_this_far, .int q_many, .ref a_this_met, .int q_round, .int q_readAt, .int q_isFault, .int q_toldMany, .ref a_this_told])),
  (a_this_tape, .inl (cI, 90, .inl q_tape)),
  (a_this_told, .inl (cI, 7, .inl q_told))]
def jX8_readsAll_77 (q_tapeMany : Int32) (q_tape : Nat → Int32) (z77_0 : Int32) (k77_q_readAt : Int32) (k77_q_isFault : Int32) (k77_q_toldMany : Int32) (k77_q_told : Nat → Int32) : Option (Int32 × Int32 × Int32 × (Nat → Int32)) := Option.bind (bz z77_0) (fun _ => some (k77_q_readAt, z77_0, k77_q_toldMany, k77_q_told))
def jX8_readsAll_72 (q_tapeMany : Int32) (q_tape : Nat → Int32) (k72_q_readAt : Int32) (k72_q_isFault : Int32) (k72_q_toldMany : Int32) (k72_q_told : Nat → Int32) : Option (Int32 × Int32 × Int32 × (Nat → Int32)) := jX8_readsAll_77 q_tapeMany q_tape (1 : Int32) k72_q_readAt k72_q_isFault k72_q_toldMany k72_q_told
def jX8_readsAll_57 (q_tapeMany : Int32) (q_tape : Nat → Int32) (k57_q_readAt : Int32) (k57_q_isFault : Int32) (k57_q_toldMany : Int32) (k57_q_told : Nat → Int32) : Option (Int32 × Int32 × Int32 × (Nat → Int32)) := (if k57_q_isFault = 0 then Option.bind (fX8_looks q_tapeMany k57_q_readAt q_tape) (fun r3 => (if r3.1 = 0 then jX8_readsAll_77 q_tapeMany q_tape (0 : Int32) r3.2 k57_q_isFault k57_q_toldMany k57_q_told else jX8_readsAll_72 q_tapeMany q_tape r3.2 k57_q_isFault k57_q_toldMany k57_q_told)) else jX8_readsAll_72 q_tapeMany q_tape k57_q_readAt k57_q_isFault k57_q_toldMany k57_q_told)
def bX8_readsAll_12 (q_tapeMany : Int32) (q_tape : Nat → Int32) (k12_q_readAt : Int32) (k12_q_isFault : Int32) (k12_q_toldMany : Int32) (v12 : Int32 × (Nat → Int32)) : Option ((Int32 × (Nat → Int32)) ⊕ (Int32 × (Nat → Int32))) := (if (7 : Int32) ≤ v12.1 then some (.inr (v12.1, v12.2)) else Option.bind (wi v12.2 7 v12.1 (0 : Int32)) (fun g7 => some (.inl ((v12.1 + (1 : Int32)), g7))))
def fX8_readsAll (q_tapeMany : Int32) (q_readAt : Int32) (q_isFault : Int32) (q_toldMany : Int32) (q_tape : Nat → Int32) (q_told : Nat → Int32)  : Option (Int32 × Int32 × Int32 × (Nat → Int32)) := Option.bind (itL (bX8_readsAll_12 q_tapeMany q_tape (0 : Int32) (0 : Int32) q_toldMany) fu ((0 : Int32), q_told)) (fun ex9 => Option.bind (fX8_name q_tapeMany (0 : Int32) (0 : Int32) q_tape) (fun r11 => (if r11.1 = (5 : Int32) then Option.bind (fX8_readsGrid q_tapeMany r11.2.1 r11.2.2 q_toldMany q_tape ex9.2) (fun r17 => jX8_readsAll_57 q_tapeMany q_tape r17.1 r17.2.1 r17.2.2.1 r17.2.2.2) else (if r11.1 < 0 then jX8_readsAll_57 q_tapeMany q_tape r11.2.1 r11.2.2 q_toldMany ex9.2 else Option.bind (fX8_readsOthers q_tapeMany r11.2.1 r11.2.2 q_toldMany q_tape ex9.2 r11.1) (fun r15 => jX8_readsAll_57 q_tapeMany q_tape r15.1 r15.2.1 r15.2.2.1 r15.2.2.2)))))
abbrev gX8_readsAll (p : Program) (l : Launch) (e : Env) (s : State) (m : MethodId) (below : List Frame) (meth : Method) (c : Code) (D : vg) (cI cL cS cH : ClassId) (a_this : Nat) (a_this_st : Nat) (a_this_past : Nat) (a_this_image : Nat) (a_this_imagePast : Nat) (a_this_tape : Nat) (a_this_laneOf : Nat) (a_this_sizeOf : Nat) (a_this_items : Nat) (a_this_code : Nat) (a_this_from : Nat) (a_this_by : Nat) (a_this_far : Nat) (a_this_met : Nat) (a_this_told : Nat) (q_acts : Int32) (q_imageActs : Int32) (q_tapeMany : Int32) (q_many : Int32) (q_round : Int32) (q_readAt : Int32) (q_isFault : Int32) (q_toldMany : Int32) (q_tape : Nat → Int32) (q_told : Nat → Int32) (res : Int32 × Int32 × Int32 × (Nat → Int32)) (H : Heap) (locs : List Loc) (g : JFrame) : Prop := W p l e (headSpec wsX8_readsAll ({ frames := 5, cells := 0, slots := 0, locals := 116 })).room s m ([.ref a_this] : List Value).toArray below meth c H locs 0 0 (MQ below (va_Qv (fun (_ : Unit) => True) (fun _ t => pos1 D s.heap.size (wX8_readsAll cI cL cS cH a_this a_this_st a_this_past a_this_image a_this_imagePast a_this_tape a_this_laneOf a_this_sizeOf a_this_items a_this_code a_this_from a_this_by a_this_far a_this_met a_this_told q_acts q_imageActs q_tapeMany q_many q_round q_readAt q_isFault q_toldMany q_tape q_told) (wX8_readsAll cI cL cS cH a_this a_this_st a_this_past a_this_image a_this_imagePast a_this_tape a_this_laneOf a_this_sizeOf a_this_items a_this_code a_this_from a_this_by a_this_far a_this_met a_this_told q_acts q_imageActs q_tapeMany q_many q_round res.1 res.2.1 res.2.2.1 q_tape res.2.2.2) t) (va_A (wX8_readsAll cI cL cS cH a_this a_this_st a_this_past a_this_image a_this_imagePast a_this_tape a_this_laneOf a_this_sizeOf a_this_items a_this_code a_this_from a_this_by a_this_far a_this_met a_this_told q_acts q_imageActs q_tapeMany q_many q_round q_readAt q_isFault q_toldMany q_tape q_told) s.heap.size)) ([.ref a_this] : List Value).toArray s 0 0 (va_A (wX8_readsAll cI cL cS cH a_this a_this_st a_this_past a_this_image a_this_imagePast a_this_tape a_this_laneOf a_this_sizeOf a_this_items a_this_code a_this_from a_this_by a_this_far a_this_met a_this_told q_acts q_imageActs q_tapeMany q_many q_round q_readAt q_isFault q_toldMany q_tape q_told) s.heap.size)) g
set_option maxHeartbeats 4000000 in
set_option maxRecDepth 100000 in
theorem mX8_readsAll (l : Launch) (D : vg) (cI cL cS cH : ClassId) (sz : Nat) (a_this : Nat) (a_this_st : Nat) (a_this_past : Nat) (a_this_image : Nat) (a_this_imagePast : Nat) (a_this_tape : Nat) (a_this_laneOf : Nat) (a_this_sizeOf : Nat) (a_this_items : Nat) (a_this_code : Nat) (a_this_from : Nat) (a_this_by : Nat) (a_this_far : Nat) (a_this_met : Nat) (a_this_told : Nat) (q_acts : Int32) (q_imageActs : Int32) (q_tapeMany : Int32) (q_many : Int32) (q_round : Int32) (q_readAt : Int32) (q_isFault : Int32) (q_toldMany : Int32) (q_tape : Nat → Int32) (q_told : Nat → Int32) {res : Int32 × Int32 × Int32 × (Nat → Int32)} (hf : fX8_readsAll q_tapeMany q_readAt q_isFault q_toldMany q_tape q_told = some res) : ctv l yX8_readsAll wsX8_readsAll ({ frames := 5, cells := 0, slots := 0, locals := 116 }) D (ty4 cI cL cS cH) sz [.ref a_this] (wX8_readsAll cI cL cS cH a_this a_this_st a_this_past a_this_image a_this_imagePast a_this_tape a_this_laneOf a_this_sizeOf a_this_items a_this_code a_this_from a_this_by a_this_far a_this_met a_this_told q_acts q_imageActs q_tapeMany q_many q_round q_readAt q_isFault q_toldMany q_tape q_told) (wX8_readsAll cI cL cS cH a_this a_this_st a_this_past a_this_image a_this_imagePast a_this_tape a_this_laneOf a_this_sizeOf a_this_items a_this_code a_this_from a_this_by a_this_far a_this_met a_this_told q_acts q_imageActs q_tapeMany q_many q_round res.1 res.2.1 res.2.2.1 q_tape res.2.2.2) := by
  refine Met.ofW (cc := cX8_readsAll) (maxL := 2) (ret := none) (by decide) rfl ?_
  intro p e s m args below meth c s₁ B hml hv
  obtain ⟨rfl, hpre⟩ := hv
  obtain rfl := hpre.1
  have C : CallFix p m c cX8_readsAll 2 s _ wsX8_readsAll RX8 := ⟨B.exec, B.bytes, hml, findClass_of_methodNamed B.named, atoms_spec (ws := wsX8_readsAll) B.pre⟩
  have hr := B.returns
  have hlocks := B.notSynchronized
  have w := wd_start hpre
  clear hpre B
  have hl := lv_entry ([.ref a_this]) (n := 2) (Nat.le_of_ble_eq_true rfl)
  rw [lg_entry_eq]
  generalize (lg_sl ([.ref a_this]) ++ List.replicate (2 - (lg_sl ([.ref a_this])).length) Slot.unset).toArray = ls at hl ⊢
  have hl : lv_has ls 2 [(0, .ref a_this)] := hl
  unfold fX8_readsAll at hf
  have hj77 : ∀ (z77_0 : Int32) (k77_q_readAt : Int32) (k77_q_isFault : Int32) (k77_q_toldMany : Int32) (k77_q_told : Nat → Int32) (H : Heap) (locs : List Loc) (ls : Array Slot), wd D (ty4 cI cL cS cH) s (va_A (wX8_readsAll cI cL cS cH a_this a_this_st a_this_past a_this_image a_this_imagePast a_this_tape a_this_laneOf a_this_sizeOf a_this_items a_this_code a_this_from a_this_by a_this_far a_this_met a_this_told q_acts q_imageActs q_tapeMany q_many q_round q_readAt q_isFault q_toldMany q_tape q_told) s.heap.size) s.heap H locs (wX8_readsAll cI cL cS cH a_this a_this_st a_this_past a_this_image a_this_imagePast a_this_tape a_this_laneOf a_this_sizeOf a_this_items a_this_code a_this_from a_this_by a_this_far a_this_met a_this_told q_acts q_imageActs q_tapeMany q_many q_round k77_q_readAt k77_q_isFault k77_q_toldMany q_tape k77_q_told) → lv_has ls 2 [] → jX8_readsAll_77 q_tapeMany q_tape z77_0 k77_q_readAt k77_q_isFault k77_q_toldMany k77_q_told = some res → gX8_readsAll p l e s m below meth c D cI cL cS cH a_this a_this_st a_this_past a_this_image a_this_imagePast a_this_tape a_this_laneOf a_this_sizeOf a_this_items a_this_code a_this_from a_this_by a_this_far a_this_met a_this_told q_acts q_imageActs q_tapeMany q_many q_round q_readAt q_isFault q_toldMany q_tape q_told res H locs (F0 m 77 ls [.int z77_0, .ref a_this]) := by
    intro z77_0 k77_q_readAt k77_q_isFault k77_q_toldMany k77_q_told H locs ls w hl hf
    unfold jX8_readsAll_77 at hf
    obtain ⟨_, hb1, hf⟩ := bd hf
    refine r_put (ws' := (wX8_readsAll cI cL cS cH a_this a_this_st a_this_past a_this_image a_this_imagePast a_this_tape a_this_laneOf a_this_sizeOf a_this_items a_this_code a_this_from a_this_by a_this_far a_this_met a_this_told q_acts q_imageActs q_tapeMany q_many q_round k77_q_readAt z77_0 k77_q_toldMany q_tape k77_q_told)) C w inX8_readsAll_X8 tyX8 tyX8_ok nmX8 0 rfl rfl 19 (by decide) lkX8_readsAll_190 rfl (bz_in hb1).1 (bz_in hb1).2 (Nat.le_of_ble_eq_true rfl) rfl dX8_readsAll_77 (fun H locs w => ?_)
    have hres := Option.some.inj hf
    subst hres
    exact ret_v C hr hlocks w dX8_readsAll_80
  have hj72 : ∀ (k72_q_readAt : Int32) (k72_q_isFault : Int32) (k72_q_toldMany : Int32) (k72_q_told : Nat → Int32) (H : Heap) (locs : List Loc) (ls : Array Slot), wd D (ty4 cI cL cS cH) s (va_A (wX8_readsAll cI cL cS cH a_this a_this_st a_this_past a_this_image a_this_imagePast a_this_tape a_this_laneOf a_this_sizeOf a_this_items a_this_code a_this_from a_this_by a_this_far a_this_met a_this_told q_acts q_imageActs q_tapeMany q_many q_round q_readAt q_isFault q_toldMany q_tape q_told) s.heap.size) s.heap H locs (wX8_readsAll cI cL cS cH a_this a_this_st a_this_past a_this_image a_this_imagePast a_this_tape a_this_laneOf a_this_sizeOf a_this_items a_this_code a_this_from a_this_by a_this_far a_this_met a_this_told q_acts q_imageActs q_tapeMany q_many q_round k72_q_readAt k72_q_isFault k72_q_toldMany q_tape k72_q_told) → lv_has ls 2 [] → jX8_readsAll_72 q_tapeMany q_tape k72_q_readAt k72_q_isFault k72_q_toldMany k72_q_told = some res → gX8_readsAll p l e s m below meth c D cI cL cS cH a_this a_this_st a_this_past a_this_image a_this_imagePast a_this_tape a_this_laneOf a_this_sizeOf a_this_items a_this_code a_this_from a_this_by a_this_far a_this_met a_this_told q_acts q_imageActs q_tapeMany q_many q_round q_readAt q_isFault q_toldMany q_tape q_told res H locs (F0 m 72 ls [.ref a_this]) := by
    intro k72_q_readAt k72_q_isFault k72_q_toldMany k72_q_told H locs ls w hl hf
    unfold jX8_readsAll_72 at hf
    refine lv_iconst (v := (1 : Int32)) C.1 C.2.1 dX8_readsAll_72 (by decide) ?_
    refine lv_goto (tgt := 77) C.1 C.2.1 dX8_readsAll_73 (by decide) ?_
    exact hj77 (1 : Int32) k72_q_readAt k72_q_isFault k72_q_toldMany k72_q_told _ _ _ w (lv_sub hl [] rfl) hf
  have hj57 : ∀ (k57_q_readAt : Int32) (k57_q_isFault : Int32) (k57_q_toldMany : Int32) (k57_q_told : Nat → Int32) (H : Heap) (locs : List Loc) (ls : Array Slot), wd D (ty4 cI cL cS cH) s (va_A (wX8_readsAll cI cL cS cH a_this a_this_st a_this_past a_this_image a_this_imagePast a_this_tape a_this_laneOf a_this_sizeOf a_this_items a_this_code a_this_from a_this_by a_this_far a_this_met a_this_told q_acts q_imageActs q_tapeMany q_many q_round q_readAt q_isFault q_toldMany q_tape q_told) s.heap.size) s.heap H locs (wX8_readsAll cI cL cS cH a_this a_this_st a_this_past a_this_image a_this_imagePast a_this_tape a_this_laneOf a_this_sizeOf a_this_items a_this_code a_this_from a_this_by a_this_far a_this_met a_this_told q_acts q_imageActs q_tapeMany q_many q_round k57_q_readAt k57_q_isFault k57_q_toldMany q_tape k57_q_told) → lv_has ls 2 [(0, .ref a_this)] → jX8_readsAll_57 q_tapeMany q_tape k57_q_readAt k57_q_isFault k57_q_toldMany k57_q_told = some res → gX8_readsAll p l e s m below meth c D cI cL cS cH a_this a_this_st a_this_past a_this_image a_this_imagePast a_this_tape a_this_laneOf a_this_sizeOf a_this_items a_this_code a_this_from a_this_by a_this_far a_this_met a_this_told q_acts q_imageActs q_tapeMany q_many q_round q_readAt q_isFault q_toldMany q_tape q_told res H locs (F0 m 57 ls []) := by
    intro k57_q_readAt k57_q_isFault k57_q_toldMany k57_q_told H locs ls w hl hf
    unfold jX8_readsAll_57 at hf
    refine lv_aload_n C.1 C.2.1 dX8_readsAll_57 rfl (lv_at hl 0 rfl) ?_
    refine lv_aload_n C.1 C.2.1 dX8_readsAll_58 rfl (lv_at hl 0 rfl) ?_
    refine r_get C w inX8_readsAll_X8 0 rfl rfl 19 (by decide) lkX8_readsAll_190 rfl dX8_readsAll_59 ?_
    refine lv_if_ne (tgt := 72) C.1 C.2.1 dX8_readsAll_62 (by decide) (fun hq2 => ?_) (fun hq2 => ?_)
    · have hf := ite_f hf hq2
      exact hj72 k57_q_readAt k57_q_isFault k57_q_toldMany k57_q_told _ _ _ w (lv_sub hl [] rfl) hf
    · have hf := ite_t hf hq2
      refine lv_aload_n C.1 C.2.1 dX8_readsAll_65 rfl (lv_at hl 0 rfl) ?_
      obtain ⟨r3, hc4, hf⟩ := bd hf
      refine call_Vi (ws' := (wX8_readsAll cI cL cS cH a_this a_this_st a_this_past a_this_image a_this_imagePast a_this_tape a_this_laneOf a_this_sizeOf a_this_items a_this_code a_this_from a_this_by a_this_far a_this_met a_this_told q_acts q_imageActs q_tapeMany q_many q_round r3.2 k57_q_isFault k57_q_toldMany q_tape k57_q_told)) (rest := [.ref a_this]) C w (mX8_looks l D cI cL cS cH _ a_this a_this_st a_this_past a_this_image a_this_imagePast a_this_tape a_this_laneOf a_this_sizeOf a_this_items a_this_code a_this_from a_this_by a_this_far a_this_met a_this_told q_acts q_imageActs q_tapeMany q_many q_round k57_q_readAt k57_q_isFault k57_q_toldMany q_tape hc4) (cwV 0 C.2.2.2.2 gX8_readsAll_X8_looks rfl rfl rfl (by decide +kernel) ⟨Nat.le_of_ble_eq_true rfl, Nat.le_of_ble_eq_true rfl⟩) [0, 1] [2] 3 ⟨rfl, rfl, trivial⟩ ⟨rfl, rfl, trivial⟩ ⟨⟨_, rfl, rfl⟩, trivial⟩ rfl (by decide) (by decide) (ci := 8) (q0 := 0) rfl rfl rfl hl.1 rfl (lv_room (Nat.le_of_ble_eq_true rfl)) dX8_readsAll_66 ⟨Nat.zero_le _, Nat.zero_le _⟩ (fun H locs w => ?_)
      refine lv_if_eq (tgt := 76) C.1 C.2.1 dX8_readsAll_69 (by decide) (fun hq5 => ?_) (fun hq5 => ?_)
      · have hf := ite_t hf hq5
        refine lv_iconst (v := (0 : Int32)) C.1 C.2.1 dX8_readsAll_76 (by decide) ?_
        exact hj77 (0 : Int32) r3.2 k57_q_isFault k57_q_toldMany k57_q_told _ _ _ w (lv_sub hl [] rfl) hf
      · have hf := ite_f hf hq5
        exact hj72 r3.2 k57_q_isFault k57_q_toldMany k57_q_told _ _ _ w (lv_sub hl [] rfl) hf
  have hlp12 : ∀ (k12_q_readAt : Int32) (k12_q_isFault : Int32) (k12_q_toldMany : Int32) (ex12 : Int32 × (Nat → Int32)) (hk : (∀ (H : Heap) (locs : List Loc) (ls : Array Slot), wd D (ty4 cI cL cS cH) s (va_A (wX8_readsAll cI cL cS cH a_this a_this_st a_this_past a_this_image a_this_imagePast a_this_tape a_this_laneOf a_this_sizeOf a_this_items a_this_code a_this_from a_this_by a_this_far a_this_met a_this_told q_acts q_imageActs q_tapeMany q_many q_round q_readAt q_isFault q_toldMany q_tape q_told) s.heap.size) s.heap H locs (wX8_readsAll cI cL cS cH a_this a_this_st a_this_past a_this_image a_this_imagePast a_this_tape a_this_laneOf a_this_sizeOf a_this_items a_this_code a_this_from a_this_by a_this_far a_this_met a_this_told q_acts q_imageActs q_tapeMany q_many q_round k12_q_readAt k12_q_isFault k12_q_toldMany q_tape ex12.2) → lv_has ls 2 [(0, .ref a_this)] → gX8_readsAll p l e s m below meth c D cI cL cS cH a_this a_this_st a_this_past a_this_image a_this_imagePast a_this_tape a_this_laneOf a_this_sizeOf a_this_items a_this_code a_this_from a_this_by a_this_far a_this_met a_this_told q_acts q_imageActs q_tapeMany q_many q_round q_readAt q_isFault q_toldMany q_tape q_told res H locs (F0 m 31 ls []))) (n : Nat) (v12 : Int32 × (Nat → Int32)) (H : Heap) (locs : List Loc) (ls : Array Slot), itL (bX8_readsAll_12 q_tapeMany q_tape k12_q_readAt k12_q_isFault k12_q_toldMany) n v12 = some ex12 → wd D (ty4 cI cL cS cH) s (va_A (wX8_readsAll cI cL cS cH a_this a_this_st a_this_past a_this_image a_this_imagePast a_this_tape a_this_laneOf a_this_sizeOf a_this_items a_this_code a_this_from a_this_by a_this_far a_this_met a_this_told q_acts q_imageActs q_tapeMany q_many q_round q_readAt q_isFault q_toldMany q_tape q_told) s.heap.size) s.heap H locs (wX8_readsAll cI cL cS cH a_this a_this_st a_this_past a_this_image a_this_imagePast a_this_tape a_this_laneOf a_this_sizeOf a_this_items a_this_code a_this_from a_this_by a_this_far a_this_met a_this_told q_acts q_imageActs q_tapeMany q_many q_round k12_q_readAt k12_q_isFault k12_q_toldMany q_tape v12.2) → lv_has ls 2 [(0, .ref a_this), (1, .int v12.1)] → gX8_readsAll p l e s m below meth c D cI cL cS cH a_this a_this_st a_this_past a_this_image a_this_imagePast a_this_tape a_this_laneOf a_this_sizeOf a_this_items a_this_code a_this_from a_this_by a_this_far a_this_met a_this_told q_acts q_imageActs q_tapeMany q_many q_round q_readAt q_isFault q_toldMany q_tape q_told res H locs (F0 m 12 ls []) := by
    intro k12_q_readAt k12_q_isFault k12_q_toldMany ex12 hk n
    induction n with
    | zero => intro v12 H locs ls hi w hl; exact (itL_zero hi).elim
    | succ n ih =>
      intro v12 H locs ls hi w hl
      obtain ⟨o, hf, hn⟩ := itL_succ hi
      unfold bX8_readsAll_12 at hf
      refine lv_iload_n C.1 C.2.1 dX8_readsAll_12 rfl (lv_at hl 1 rfl) ?_
      refine lv_bipush (v := (7 : Int32)) C.1 C.2.1 dX8_readsAll_13 (by decide) ?_
      refine lv_icmp_ge (tgt := 31) C.1 C.2.1 dX8_readsAll_15 (by decide) (fun hq6 => ?_) (fun hq6 => ?_)
      · have hf := ite_t hf hq6
        obtain rfl := Option.some.inj hf
        obtain rfl := hn
        exact hk _ _ _ w (lv_sub hl [0] rfl)
      · have hf := ite_f hf hq6
        refine lv_aload_n C.1 C.2.1 dX8_readsAll_18 rfl (lv_at hl 0 rfl) ?_
        refine r_get C w inX8_readsAll_X8 0 rfl rfl 21 (by decide) lkX8_readsAll_54 rfl dX8_readsAll_19 ?_
        refine lv_iload_n C.1 C.2.1 dX8_readsAll_22 rfl (lv_at hl 1 rfl) ?_
        refine lv_iconst (v := (0 : Int32)) C.1 C.2.1 dX8_readsAll_23 (by decide) ?_
        obtain ⟨g7, hg8, hf⟩ := bd hf
        refine r_iast (ws' := (wX8_readsAll cI cL cS cH a_this a_this_st a_this_past a_this_image a_this_imagePast a_this_tape a_this_laneOf a_this_sizeOf a_this_items a_this_code a_this_from a_this_by a_this_far a_this_met a_this_told q_acts q_imageActs q_tapeMany q_many q_round k12_q_readAt k12_q_isFault k12_q_toldMany q_tape g7)) C w 2 0 rfl rfl (wi_in hg8) rfl dX8_readsAll_24 (fun H locs w => ?_)
        refine lv_iinc (v := (v12.1 + (1 : Int32))) (lv' := [(1, .int (v12.1 + (1 : Int32))), (0, .ref a_this)]) C.1 C.2.1 dX8_readsAll_25 hl (k := 1) rfl rfl (by decide) rfl (fun ls hl => ?_)
        refine lv_goto (tgt := 12) C.1 C.2.1 dX8_readsAll_28 (by decide) ?_
        obtain rfl := Option.some.inj hf
        exact ih ((v12.1 + (1 : Int32)), g7) _ _ _ hn w (lv_sub hl [1, 0] rfl)
  refine lv_aload_n C.1 C.2.1 dX8_readsAll_0 rfl (lv_at hl 0 rfl) ?_
  refine lv_iconst (v := (0 : Int32)) C.1 C.2.1 dX8_readsAll_1 (by decide) ?_
  refine r_put (ws' := (wX8_readsAll cI cL cS cH a_this a_this_st a_this_past a_this_image a_this_imagePast a_this_tape a_this_laneOf a_this_sizeOf a_this_items a_this_code a_this_from a_this_by a_this_far a_this_met a_this_told q_acts q_imageActs q_tapeMany q_many q_round (0 : Int32) q_isFault q_toldMany q_tape q_told)) C w inX8_readsAll_X8 tyX8 tyX8_ok nmX8 0 rfl rfl 18 (by decide) lkX8_readsAll_187 rfl rfl rfl (Nat.le_of_ble_eq_true rfl) rfl dX8_readsAll_2 (fun H locs w => ?_)
  refine lv_aload_n C.1 C.2.1 dX8_readsAll_5 rfl (lv_at hl 0 rfl) ?_
  refine lv_iconst (v := (0 : Int32)) C.1 C.2.1 dX8_readsAll_6 (by decide) ?_
  refine r_put (ws' := (wX8_readsAll cI cL cS cH a_this a_this_st a_this_past a_this_image a_this_imagePast a_this_tape a_this_laneOf a_this_sizeOf a_this_items a_this_code a_this_from a_this_by a_this_far a_this_met a_this_told q_acts q_imageActs q_tapeMany q_many q_round (0 : Int32) (0 : Int32) q_toldMany q_tape q_told)) C w inX8_readsAll_X8 tyX8 tyX8_ok nmX8 0 rfl rfl 19 (by decide) lkX8_readsAll_190 rfl (by decide) (by decide) (Nat.le_of_ble_eq_true rfl) rfl dX8_readsAll_7 (fun H locs w => ?_)
  refine lv_iconst (v := (0 : Int32)) C.1 C.2.1 dX8_readsAll_10 (by decide) ?_
  refine lv_istore_n (lv' := [(1, .int (0 : Int32)), (0, .ref a_this)]) C.1 C.2.1 dX8_readsAll_11 rfl hl (by decide) rfl (fun ls hl => ?_)
  obtain ⟨ex9, hx10, hf⟩ := bd hf
  refine hlp12 (0 : Int32) (0 : Int32) q_toldMany ex9 ?_ fu ((0 : Int32), q_told) _ _ _ hx10 w (lv_sub hl [1, 0] rfl)
  intro H locs ls w hl
  refine lv_aload_n C.1 C.2.1 dX8_readsAll_31 rfl (lv_at hl 0 rfl) ?_
  obtain ⟨r11, hc12, hf⟩ := bd hf
  refine call_Vi (ws' := (wX8_readsAll cI cL cS cH a_this a_this_st a_this_past a_this_image a_this_imagePast a_this_tape a_this_laneOf a_this_sizeOf a_this_items a_this_code a_this_from a_this_by a_this_far a_this_met a_this_told q_acts q_imageActs q_tapeMany q_many q_round r11.2.1 r11.2.2 q_toldMany q_tape ex9.2)) (rest := []) C w (mX8_name l D cI cL cS cH _ a_this a_this_st a_this_past a_this_image a_this_imagePast a_this_tape a_this_laneOf a_this_sizeOf a_this_items a_this_code a_this_from a_this_by a_this_far a_this_met a_this_told q_acts q_imageActs q_tapeMany q_many q_round (0 : Int32) (0 : Int32) q_toldMany q_tape hc12) (cwV 0 C.2.2.2.2 gX8_readsAll_X8_name rfl rfl rfl (by decide +kernel) ⟨Nat.le_of_ble_eq_true rfl, Nat.le_of_ble_eq_true rfl⟩) [0, 1] [2] 3 ⟨rfl, rfl, trivial⟩ ⟨rfl, rfl, trivial⟩ ⟨⟨_, rfl, rfl⟩, trivial⟩ rfl (by decide) (by decide) (ci := 8) (q0 := 0) rfl rfl rfl hl.1 rfl (lv_room (Nat.le_of_ble_eq_true rfl)) dX8_readsAll_32 ⟨Nat.zero_le _, Nat.zero_le _⟩ (fun H locs w => ?_)
  refine lv_istore_n (lv' := [(1, .int r11.1), (0, .ref a_this)]) C.1 C.2.1 dX8_readsAll_35 rfl hl (by decide) rfl (fun ls hl => ?_)
  refine lv_iload_n C.1 C.2.1 dX8_readsAll_36 rfl (lv_at hl 0 rfl) ?_
  refine lv_iconst (v := (5 : Int32)) C.1 C.2.1 dX8_readsAll_37 (by decide) ?_
  refine lv_icmp_ne (tgt := 48) C.1 C.2.1 dX8_readsAll_38 (by decide) (fun hq13 => ?_) (fun hq13 => ?_)
  · have hf := ite_f hf hq13
    refine lv_iload_n C.1 C.2.1 dX8_readsAll_48 rfl (lv_at hl 0 rfl) ?_
    refine lv_if_lt (tgt := 57) C.1 C.2.1 dX8_readsAll_49 (by decide) (fun hq14 => ?_) (fun hq14 => ?_)
    · have hf := ite_t hf hq14
      exact hj57 r11.2.1 r11.2.2 q_toldMany ex9.2 _ _ _ w (lv_sub hl [1] rfl) hf
    · have hf := ite_f hf hq14
      refine lv_aload_n C.1 C.2.1 dX8_readsAll_52 rfl (lv_at hl 1 rfl) ?_
      refine lv_iload_n C.1 C.2.1 dX8_readsAll_53 rfl (lv_at hl 0 rfl) ?_
      obtain ⟨r15, hc16, hf⟩ := bd hf
      refine call_Vv (ws' := (wX8_readsAll cI cL cS cH a_this a_this_st a_this_past a_this_image a_this_imagePast a_this_tape a_this_laneOf a_this_sizeOf a_this_items a_this_code a_this_from a_this_by a_this_far a_this_met a_this_told q_acts q_imageActs q_tapeMany q_many q_round r15.1 r15.2.1 r15.2.2.1 q_tape r15.2.2.2)) (rest := []) C w (mX8_readsOthers l D cI cL cS cH _ a_this a_this_st a_this_past a_this_image a_this_imagePast a_this_tape a_this_laneOf a_this_sizeOf a_this_items a_this_code a_this_from a_this_by a_this_far a_this_met a_this_told q_acts q_imageActs q_tapeMany q_many q_round r11.2.1 r11.2.2 q_toldMany q_tape ex9.2 r11.1 hc16) (cwV 1 C.2.2.2.2 gX8_readsAll_X8_readsOthers rfl rfl rfl (by decide +kernel) ⟨Nat.le_of_ble_eq_true rfl, Nat.le_of_ble_eq_true rfl⟩) [0, 1, 2] [] 3 ⟨rfl, rfl, rfl, trivial⟩ ⟨rfl, rfl, rfl, trivial⟩ trivial rfl (by decide) (by decide) (ci := 8) (q0 := 0) rfl rfl rfl hl.1 rfl (lv_room (Nat.le_of_ble_eq_true rfl)) dX8_readsAll_54 ⟨Nat.zero_le _, Nat.zero_le _⟩ (fun H locs w => ?_)
      exact hj57 r15.1 r15.2.1 r15.2.2.1 r15.2.2.2 _ _ _ w (lv_sub hl [1] rfl) hf
  · have hf := ite_t hf hq13
    refine lv_aload_n C.1 C.2.1 dX8_readsAll_41 rfl (lv_at hl 1 rfl) ?_
    obtain ⟨r17, hc18, hf⟩ := bd hf
    refine call_Vv (ws' := (wX8_readsAll cI cL cS cH a_this a_this_st a_this_past a_this_image a_this_imagePast a_this_tape a_this_laneOf a_this_sizeOf a_this_items a_this_code a_this_from a_this_by a_this_far a_this_met a_this_told q_acts q_imageActs q_tapeMany q_many q_round r17.1 r17.2.1 r17.2.2.1 q_tape r17.2.2.2)) (rest := []) C w (mX8_readsGrid l D cI cL cS cH _ a_this a_this_st a_this_past a_this_image a_this_imagePast a_this_tape a_this_laneOf a_this_sizeOf a_this_items a_this_code a_this_from a_this_by a_this_far a_this_met a_this_told q_acts q_imageActs q_tapeMany q_many q_round r11.2.1 r11.2.2 q_toldMany q_tape ex9.2 hc18) (cwV 0 C.2.2.2.2 gX8_readsAll_X8_readsGrid rfl rfl rfl (by decide +kernel) ⟨Nat.le_of_ble_eq_true rfl, Nat.le_of_ble_eq_true rfl⟩) [0, 1, 2] [] 3 ⟨rfl, rfl, rfl, trivial⟩ ⟨rfl, rfl, rfl, trivial⟩ trivial rfl (by decide) (by decide) (ci := 8) (q0 := 0) rfl rfl rfl hl.1 rfl (lv_room (Nat.le_of_ble_eq_true rfl)) dX8_readsAll_42 ⟨Nat.zero_le _, Nat.zero_le _⟩ (fun H locs w => ?_)
    refine lv_goto (tgt := 57) C.1 C.2.1 dX8_readsAll_45 (by decide) ?_
    exact hj57 r17.1 r17.2.1 r17.2.2.1 r17.2.2.2 _ _ _ w (lv_sub hl [1] rfl) hf

set_option maxRecDepth 100000 in
theorem inX8_read_X8 : ∀ w ∈ u_ws RX8 TX8 22, w ∈ wsX8_read := by decide +kernel
set_option maxRecDepth 100000 in
theorem lkX8_read_187 : Cond.fieldLink RX8 187 "CleanNetsModel" "readAt" "I" ∈ wsX8_read := by decide +kernel
set_option maxRecDepth 100000 in
theorem lkX8_read_184 : Cond.fieldLink RX8 184 "CleanNetsModel" "tapeMany" "I" ∈ wsX8_read := by decide +kernel
set_option maxRecDepth 100000 in
theorem lkX8_read_190 : Cond.fieldLink RX8 190 "CleanNetsModel" "isFault" "Z" ∈ wsX8_read := by decide +kernel
set_option maxRecDepth 100000 in
theorem lkX8_read_7 : Cond.fieldLink RX8 7 "CleanNetsModel" "st" "[I" ∈ wsX8_read := by decide +kernel
set_option maxRecDepth 100000 in
theorem lkX8_read_212 : Cond.fieldLink RX8 212 "CleanNetsModel" "toldMany" "I" ∈ wsX8_read := by decide +kernel
set_option maxRecDepth 100000 in
theorem lkX8_read_54 : Cond.fieldLink RX8 54 "CleanNetsModel" "told" "[I" ∈ wsX8_read := by decide +kernel
abbrev wX8_read (cI cL cS cH : ClassId) (a_this : Nat) (a_this_st : Nat) (a_this_past : Nat) (a_this_image : Nat) (a_this_imagePast : Nat) (a_this_tape : Nat) (a_this_laneOf : Nat) (a_this_sizeOf : Nat) (a_this_items : Nat) (a_this_code : Nat) (a_this_from : Nat) (a_this_by : Nat) (a_this_far : Nat) (a_this_met : Nat) (a_this_told : Nat) (q_acts : Int32) (q_imageActs : Int32) (q_tapeMany : Int32) (q_many : Int32) (q_round : Int32) (q_readAt : Int32) (q_isFault : Int32) (q_toldMany : Int32) (q_past : Nat → Int32) (q_st : Nat → Int32) (q_tape : Nat → Int32) (q_told : Nat → Int32) : va_W := [(a_this, .inr (8, [.ref a_this_st, .ref a_this_past, .int q_acts, .ref a_this_image, .ref a_this_imagePast, .int q_imageActs, .ref a_this_tape, .int q_tapeMany, .ref a_this_laneOf, .ref a_this_sizeOf, .ref a_this_items, .ref a_this_code, .ref a_this_from, .ref a_this_by, .ref a_this_far, .int q_many, .ref a_this_met, .int q_round, .int q_readAt, .int q_isFault, .int q_toldMany, .ref a_this_told])),
  (a_this_past, .inl (cI, 78, .inl q_past)),
  (a_this_st, .inl (cI, 13, .inl q_st)),
  (a_this_tape, .inl (cI, 90, .inl q_tape)),
  (a_this_told, .inl (cI, 7, .inl q_told))]
def fX8_read (q_acts : Int32) (q_tapeMany : Int32) (q_readAt : Int32) (q_isFault : Int32) (q_toldMany : Int32) (q_past : Nat → Int32) (q_st : Nat → Int32) (q_tape : Nat → Int32) (q_told : Nat → Int32)  : Option (Int32 × Int32 × Int32 × Int32 × Int32 × Int32 × (Nat → Int32) × (Nat → Int32) × (Nat → Int32)) := Option.bind (fX8_readsAll q_tapeMany q_readAt q_isFault q_toldMany q_tape q_told) (fun r1 => Option.bind (fX8_looks q_tapeMany r1.1 q_tape) (fun r3 => (if r1.2.1 = 0 then Option.bind (fX8_notes q_acts q_past q_st) (fun r6 => Option.bind (wi q_st 13 (0 : Int32) r1.2.2.1) (fun g8 => Option.bind (fX8_bring 7 13 r1.2.2.2 g8 (0 : Int32) (1 : Int32) (7 : Int32)) (fun r10 => Option.bind (wi r10 13 (8 : Int32) (0 : Int32)) (fun g12 => Option.bind (wi g12 13 (9 : Int32) (0 : Int32)) (fun g14 => Option.bind (fX8_linkMany g14) (fun r16 => some (r16, r6.1, (0 : Int32), r3.2, r1.2.1, r1.2.2.1, r6.2, g14, r1.2.2.2))))))) else some (((-20 : Int32) - r3.2), q_acts, (0 : Int32), r3.2, r1.2.1, r1.2.2.1, q_past, q_st, r1.2.2.2))))
set_option maxHeartbeats 4000000 in
set_option maxRecDepth 100000 in
theorem mX8_read (l : Launch) (D : vg) (cI cL cS cH : ClassId) (sz : Nat) (a_this : Nat) (a_this_st : Nat) (a_this_past : Nat) (a_this_image : Nat) (a_this_imagePast : Nat) (a_this_tape : Nat) (a_this_laneOf : Nat) (a_this_sizeOf : Nat) (a_this_items : Nat) (a_this_code : Nat) (a_this_from : Nat) (a_this_by : Nat) (a_this_far : Nat) (a_this_met : Nat) (a_this_told : Nat) (q_acts : Int32) (q_imageActs : Int32) (q_tapeMany : Int32) (q_many : Int32) (q_round : Int32) (q_readAt : Int32) (q_isFault : Int32) (q_toldMany : Int32) (q_past : Nat → Int32) (q_st : Nat → Int32) (q_tape : Nat → Int32) (q_told : Nat → Int32) {res : Int32 × Int32 × Int32 × Int32 × Int32 × Int32 × (Nat → Int32) × (Nat → Int32) × (Nat → Int32)} (hf : fX8_read q_acts q_tapeMany q_readAt q_isFault q_toldMany q_past q_st q_tape q_told = some res) : cti l yX8_read wsX8_read ({ frames := 6, cells := 0, slots := 0, locals := 137 }) D (ty4 cI cL cS cH) sz [.ref a_this] (wX8_read cI cL cS cH a_this a_this_st a_this_past a_this_image a_this_imagePast a_this_tape a_this_laneOf a_this_sizeOf a_this_items a_this_code a_this_from a_this_by a_this_far a_this_met a_this_told q_acts q_imageActs q_tapeMany q_many q_round q_readAt q_isFault q_toldMany q_past q_st q_tape q_told) (wX8_read cI cL cS cH a_this a_this_st a_this_past a_this_image a_this_imagePast a_this_tape a_this_laneOf a_this_sizeOf a_this_items a_this_code a_this_from a_this_by a_this_far a_this_met a_this_told res.2.1 q_imageActs res.2.2.1 q_many q_round res.2.2.2.1 res.2.2.2.2.1 res.2.2.2.2.2.1 res.2.2.2.2.2.2.1 res.2.2.2.2.2.2.2.1 q_tape res.2.2.2.2.2.2.2.2) res.1 := by
  refine Met.ofW (cc := cX8_read) (maxL := 2) (ret := (some .int)) (by decide) rfl ?_
  intro p e s m args below meth c s₁ B hml hv
  obtain ⟨rfl, hpre⟩ := hv
  obtain rfl := hpre.1
  have C : CallFix p m c cX8_read 2 s _ wsX8_read RX8 := ⟨B.exec, B.bytes, hml, findClass_of_methodNamed B.named, atoms_spec (ws := wsX8_read) B.pre⟩
  have hr := B.returns
  have hlocks := B.notSynchronized
  have w := wd_start hpre
  clear hpre B
  have hl := lv_entry ([.ref a_this]) (n := 2) (Nat.le_of_ble_eq_true rfl)
  rw [lg_entry_eq]
  generalize (lg_sl ([.ref a_this]) ++ List.replicate (2 - (lg_sl ([.ref a_this])).length) Slot.unset).toArray = ls at hl ⊢
  have hl : lv_has ls 2 [(0, .ref a_this)] := hl
  unfold fX8_read at hf
  refine lv_aload_n C.1 C.2.1 dX8_read_0 rfl (lv_at hl 0 rfl) ?_
  obtain ⟨r1, hc2, hf⟩ := bd hf
  refine call_Vv (ws' := (wX8_read cI cL cS cH a_this a_this_st a_this_past a_this_image a_this_imagePast a_this_tape a_this_laneOf a_this_sizeOf a_this_items a_this_code a_this_from a_this_by a_this_far a_this_met a_this_told q_acts q_imageActs q_tapeMany q_many q_round r1.1 r1.2.1 r1.2.2.1 q_past q_st q_tape r1.2.2.2)) (rest := []) C w (mX8_readsAll l D cI cL cS cH _ a_this a_this_st a_this_past a_this_image a_this_imagePast a_this_tape a_this_laneOf a_this_sizeOf a_this_items a_this_code a_this_from a_this_by a_this_far a_this_met a_this_told q_acts q_imageActs q_tapeMany q_many q_round q_readAt q_isFault q_toldMany q_tape q_told hc2) (cwV 0 C.2.2.2.2 gX8_read_X8_readsAll rfl rfl rfl (by decide +kernel) ⟨Nat.le_of_ble_eq_true rfl, Nat.le_of_ble_eq_true rfl⟩) [0, 3, 4] [1, 2] 5 ⟨rfl, rfl, rfl, trivial⟩ ⟨rfl, rfl, rfl, trivial⟩ ⟨⟨_, rfl, rfl⟩, ⟨_, rfl, rfl⟩, trivial⟩ rfl (by decide) (by decide) (ci := 8) (q0 := 0) rfl rfl rfl hl.1 rfl (lv_room (Nat.le_of_ble_eq_true rfl)) dX8_read_1 ⟨Nat.zero_le _, Nat.zero_le _⟩ (fun H locs w => ?_)
  refine lv_aload_n C.1 C.2.1 dX8_read_4 rfl (lv_at hl 0 rfl) ?_
  obtain ⟨r3, hc4, hf⟩ := bd hf
  refine call_Vi (ws' := (wX8_read cI cL cS cH a_this a_this_st a_this_past a_this_image a_this_imagePast a_this_tape a_this_laneOf a_this_sizeOf a_this_items a_this_code a_this_from a_this_by a_this_far a_this_met a_this_told q_acts q_imageActs q_tapeMany q_many q_round r3.2 r1.2.1 r1.2.2.1 q_past q_st q_tape r1.2.2.2)) (rest := []) C w (mX8_looks l D cI cL cS cH _ a_this a_this_st a_this_past a_this_image a_this_imagePast a_this_tape a_this_laneOf a_this_sizeOf a_this_items a_this_code a_this_from a_this_by a_this_far a_this_met a_this_told q_acts q_imageActs q_tapeMany q_many q_round r1.1 r1.2.1 r1.2.2.1 q_tape hc4) (cwV 0 C.2.2.2.2 gX8_read_X8_looks rfl rfl rfl (by decide +kernel) ⟨Nat.le_of_ble_eq_true rfl, Nat.le_of_ble_eq_true rfl⟩) [0, 3] [1, 2, 4] 5 ⟨rfl, rfl, trivial⟩ ⟨rfl, rfl, trivial⟩ ⟨⟨_, rfl, rfl⟩, ⟨_, rfl, rfl⟩, ⟨_, rfl, rfl⟩, trivial⟩ rfl (by decide) (by decide) (ci := 8) (q0 := 0) rfl rfl rfl hl.1 rfl (lv_room (Nat.le_of_ble_eq_true rfl)) dX8_read_5 ⟨Nat.zero_le _, Nat.zero_le _⟩ (fun H locs w => ?_)
  refine lv_pop C.1 C.2.1 dX8_read_8 rfl ?_
  refine lv_aload_n C.1 C.2.1 dX8_read_9 rfl (lv_at hl 0 rfl) ?_
  refine r_get C w inX8_read_X8 0 rfl rfl 18 (by decide) lkX8_read_187 rfl dX8_read_10 ?_
  refine lv_istore_n (lv' := [(1, .int r3.2), (0, .ref a_this)]) C.1 C.2.1 dX8_read_13 rfl hl (by decide) rfl (fun ls hl => ?_)
  refine lv_aload_n C.1 C.2.1 dX8_read_14 rfl (lv_at hl 1 rfl) ?_
  refine lv_iconst (v := (0 : Int32)) C.1 C.2.1 dX8_read_15 (by decide) ?_
  refine r_put (ws' := (wX8_read cI cL cS cH a_this a_this_st a_this_past a_this_image a_this_imagePast a_this_tape a_this_laneOf a_this_sizeOf a_this_items a_this_code a_this_from a_this_by a_this_far a_this_met a_this_told q_acts q_imageActs (0 : Int32) q_many q_round r3.2 r1.2.1 r1.2.2.1 q_past q_st q_tape r1.2.2.2)) C w inX8_read_X8 tyX8 tyX8_ok nmX8 0 rfl rfl 7 (by decide) lkX8_read_184 rfl rfl rfl (Nat.le_of_ble_eq_true rfl) rfl dX8_read_16 (fun H locs w => ?_)
  refine lv_aload_n C.1 C.2.1 dX8_read_19 rfl (lv_at hl 1 rfl) ?_
  refine r_get C w inX8_read_X8 0 rfl rfl 19 (by decide) lkX8_read_190 rfl dX8_read_20 ?_
  refine lv_if_eq (tgt := 31) C.1 C.2.1 dX8_read_23 (by decide) (fun hq5 => ?_) (fun hq5 => ?_)
  · have hf := ite_t hf hq5
    refine lv_aload_n C.1 C.2.1 dX8_read_31 rfl (lv_at hl 1 rfl) ?_
    obtain ⟨r6, hc7, hf⟩ := bd hf
    refine call_Vv (ws' := (wX8_read cI cL cS cH a_this a_this_st a_this_past a_this_image a_this_imagePast a_this_tape a_this_laneOf a_this_sizeOf a_this_items a_this_code a_this_from a_this_by a_this_far a_this_met a_this_told r6.1 q_imageActs (0 : Int32) q_many q_round r3.2 r1.2.1 r1.2.2.1 r6.2 q_st q_tape r1.2.2.2)) (rest := []) C w (mX8_notes l D cI cL cS cH _ a_this a_this_st a_this_past a_this_image a_this_imagePast a_this_tape a_this_laneOf a_this_sizeOf a_this_items a_this_code a_this_from a_this_by a_this_far a_this_met a_this_told q_acts q_imageActs (0 : Int32) q_many q_round r3.2 r1.2.1 r1.2.2.1 q_past q_st hc7) (cwV 0 C.2.2.2.2 gX8_read_X8_notes rfl rfl rfl (by decide +kernel) ⟨Nat.le_of_ble_eq_true rfl, Nat.le_of_ble_eq_true rfl⟩) [0, 1, 2] [3, 4] 5 ⟨rfl, rfl, rfl, trivial⟩ ⟨rfl, rfl, rfl, trivial⟩ ⟨⟨_, rfl, rfl⟩, ⟨_, rfl, rfl⟩, trivial⟩ rfl (by decide) (by decide) (ci := 8) (q0 := 0) rfl rfl rfl hl.1 rfl (lv_room (Nat.le_of_ble_eq_true rfl)) dX8_read_32 ⟨Nat.zero_le _, Nat.zero_le _⟩ (fun H locs w => ?_)
    refine lv_aload_n C.1 C.2.1 dX8_read_35 rfl (lv_at hl 1 rfl) ?_
    refine r_get C w inX8_read_X8 0 rfl rfl 0 (by decide) lkX8_read_7 rfl dX8_read_36 ?_
    refine lv_iconst (v := (0 : Int32)) C.1 C.2.1 dX8_read_39 (by decide) ?_
    refine lv_aload_n C.1 C.2.1 dX8_read_40 rfl (lv_at hl 1 rfl) ?_
    refine r_get C w inX8_read_X8 0 rfl rfl 20 (by decide) lkX8_read_212 rfl dX8_read_41 ?_
    obtain ⟨g8, hg9, hf⟩ := bd hf
    refine r_iast (ws' := (wX8_read cI cL cS cH a_this a_this_st a_this_past a_this_image a_this_imagePast a_this_tape a_this_laneOf a_this_sizeOf a_this_items a_this_code a_this_from a_this_by a_this_far a_this_met a_this_told r6.1 q_imageActs (0 : Int32) q_many q_round r3.2 r1.2.1 r1.2.2.1 r6.2 g8 q_tape r1.2.2.2)) C w 2 0 rfl rfl (wi_in hg9) rfl dX8_read_44 (fun H locs w => ?_)
    refine lv_aload_n C.1 C.2.1 dX8_read_45 rfl (lv_at hl 1 rfl) ?_
    refine r_get C w inX8_read_X8 0 rfl rfl 21 (by decide) lkX8_read_54 rfl dX8_read_46 ?_
    refine lv_iconst (v := (0 : Int32)) C.1 C.2.1 dX8_read_49 (by decide) ?_
    refine lv_aload_n C.1 C.2.1 dX8_read_50 rfl (lv_at hl 1 rfl) ?_
    refine r_get C w inX8_read_X8 0 rfl rfl 0 (by decide) lkX8_read_7 rfl dX8_read_51 ?_
    refine lv_iconst (v := (1 : Int32)) C.1 C.2.1 dX8_read_54 (by decide) ?_
    refine lv_bipush (v := (7 : Int32)) C.1 C.2.1 dX8_read_55 (by decide) ?_
    obtain ⟨r10, hc11, hf⟩ := bd hf
    refine call_Sv (ws' := (wX8_read cI cL cS cH a_this a_this_st a_this_past a_this_image a_this_imagePast a_this_tape a_this_laneOf a_this_sizeOf a_this_items a_this_code a_this_from a_this_by a_this_far a_this_met a_this_told r6.1 q_imageActs (0 : Int32) q_many q_round r3.2 r1.2.1 r1.2.2.1 r6.2 r10 q_tape r1.2.2.2)) (rest := []) C w (mX8_bring l D cI cL cS cH _ 7 13 a_this_told a_this_st r1.2.2.2 g8 (0 : Int32) (1 : Int32) (7 : Int32) hc11) (va_cwS 5 C.2.2.2.2 gX8_read_X8_bring rfl rfl rfl (by decide +kernel) ⟨Nat.le_of_ble_eq_true rfl, Nat.le_of_ble_eq_true rfl⟩) [4, 2] [0, 1, 3] 5 ⟨rfl, rfl, trivial⟩ ⟨rfl, rfl, trivial⟩ ⟨⟨_, rfl, rfl⟩, ⟨_, rfl, rfl⟩, ⟨_, rfl, rfl⟩, trivial⟩ rfl (by decide) (by decide) rfl hl.1 rfl (lv_room (Nat.le_of_ble_eq_true rfl)) dX8_read_57 ⟨Nat.zero_le _, Nat.zero_le _⟩ (fun H locs w => ?_)
    refine lv_aload_n C.1 C.2.1 dX8_read_60 rfl (lv_at hl 1 rfl) ?_
    refine r_get C w inX8_read_X8 0 rfl rfl 0 (by decide) lkX8_read_7 rfl dX8_read_61 ?_
    refine lv_bipush (v := (8 : Int32)) C.1 C.2.1 dX8_read_64 (by decide) ?_
    refine lv_iconst (v := (0 : Int32)) C.1 C.2.1 dX8_read_66 (by decide) ?_
    obtain ⟨g12, hg13, hf⟩ := bd hf
    refine r_iast (ws' := (wX8_read cI cL cS cH a_this a_this_st a_this_past a_this_image a_this_imagePast a_this_tape a_this_laneOf a_this_sizeOf a_this_items a_this_code a_this_from a_this_by a_this_far a_this_met a_this_told r6.1 q_imageActs (0 : Int32) q_many q_round r3.2 r1.2.1 r1.2.2.1 r6.2 g12 q_tape r1.2.2.2)) C w 2 0 rfl rfl (wi_in hg13) rfl dX8_read_67 (fun H locs w => ?_)
    refine lv_aload_n C.1 C.2.1 dX8_read_68 rfl (lv_at hl 1 rfl) ?_
    refine r_get C w inX8_read_X8 0 rfl rfl 0 (by decide) lkX8_read_7 rfl dX8_read_69 ?_
    refine lv_bipush (v := (9 : Int32)) C.1 C.2.1 dX8_read_72 (by decide) ?_
    refine lv_iconst (v := (0 : Int32)) C.1 C.2.1 dX8_read_74 (by decide) ?_
    obtain ⟨g14, hg15, hf⟩ := bd hf
    refine r_iast (ws' := (wX8_read cI cL cS cH a_this a_this_st a_this_past a_this_image a_this_imagePast a_this_tape a_this_laneOf a_this_sizeOf a_this_items a_this_code a_this_from a_this_by a_this_far a_this_met a_this_told r6.1 q_imageActs (0 : Int32) q_many q_round r3.2 r1.2.1 r1.2.2.1 r6.2 g14 q_tape r1.2.2.2)) C w 2 0 rfl rfl (wi_in hg15) rfl dX8_read_75 (fun H locs w => ?_)
    refine lv_aload_n C.1 C.2.1 dX8_read_76 rfl (lv_at hl 1 rfl) ?_
    obtain ⟨r16, hc17, hf⟩ := bd hf
    refine call_Vi (ws' := (wX8_read cI cL cS cH a_this a_this_st a_this_past a_this_image a_this_imagePast a_this_tape a_this_laneOf a_this_sizeOf a_this_items a_this_code a_this_from a_this_by a_this_far a_this_met a_this_told r6.1 q_imageActs (0 : Int32) q_many q_round r3.2 r1.2.1 r1.2.2.1 r6.2 g14 q_tape r1.2.2.2)) (rest := []) C w (mX8_linkMany l D cI cL cS cH _ a_this a_this_st a_this_past a_this_image a_this_imagePast a_this_tape a_this_laneOf a_this_sizeOf a_this_items a_this_code a_this_from a_this_by a_this_far a_this_met a_this_told r6.1 q_imageActs (0 : Int32) q_many q_round r3.2 r1.2.1 r1.2.2.1 g14 hc17) (cwV 0 C.2.2.2.2 gX8_read_X8_linkMany rfl rfl rfl (by decide +kernel) ⟨Nat.le_of_ble_eq_true rfl, Nat.le_of_ble_eq_true rfl⟩) [0, 2] [1, 3, 4] 5 ⟨rfl, rfl, trivial⟩ ⟨rfl, rfl, trivial⟩ ⟨⟨_, rfl, rfl⟩, ⟨_, rfl, rfl⟩, ⟨_, rfl, rfl⟩, trivial⟩ rfl (by decide) (by decide) (ci := 8) (q0 := 0) rfl rfl rfl hl.1 rfl (lv_room (Nat.le_of_ble_eq_true rfl)) dX8_read_77 ⟨Nat.zero_le _, Nat.zero_le _⟩ (fun H locs w => ?_)
    have hres := Option.some.inj hf
    subst hres
    exact ret_i C hr hlocks w rfl dX8_read_80
  · have hf := ite_f hf hq5
    refine lv_bipush (v := (-20 : Int32)) C.1 C.2.1 dX8_read_26 (by decide) ?_
    refine lv_iload_n C.1 C.2.1 dX8_read_28 rfl (lv_at hl 0 rfl) ?_
    refine lv_isub C.1 C.2.1 dX8_read_29 ?_
    have hres := Option.some.inj hf
    subst hres
    exact ret_i C hr hlocks w rfl dX8_read_30

set_option maxRecDepth 100000 in
theorem inX8_turnsOnce_X8 : ∀ w ∈ u_ws RX8 TX8 22, w ∈ wsX8_turnsOnce := by decide +kernel
set_option maxRecDepth 100000 in
theorem lkX8_turnsOnce_7 : Cond.fieldLink RX8 7 "CleanNetsModel" "st" "[I" ∈ wsX8_turnsOnce := by decide +kernel
abbrev wX8_turnsOnce (cI cL cS cH : ClassId) (a_this : Nat) (a_this_st : Nat) (a_this_past : Nat) (a_this_image : Nat) (a_this_imagePast : Nat) (a_this_tape : Nat) (a_this_laneOf : Nat) (a_this_sizeOf : Nat) (a_this_items : Nat) (a_this_code : Nat) (a_this_from : Nat) (a_this_by : Nat) (a_this_far : Nat) (a_this_met : Nat) (a_this_told : Nat) (q_acts : Int32) (q_imageActs : Int32) (q_tapeMany : Int32) (q_many : Int32) (q_round : Int32) (q_readAt : Int32) (q_isFault : Int32) (q_toldMany : Int32) (q_past : Nat → Int32) (q_st : Nat → Int32) : va_W := [(a_this, .inr (8, [.ref a_this_st, .ref a_this_past, .int q_acts, .ref a_this_image, .ref a_this_imagePast, .int q_imageActs, .ref a_this_tape, .int q_tapeMany, .ref a_this_laneOf, .ref a_this_sizeOf, .ref a_this_items, .ref a_this_code, .ref a_this_from, .ref a_this_by, .ref a_this_far, .int q_many, .ref a_this_met, .int q_round, .int q_readAt, .int q_isFault, .int q_toldMany, .ref a_this_told])),
  (a_this_past, .inl (cI, 78, .inl q_past)),
  (a_this_st, .inl (cI, 13, .inl q_st))]
def jX8_turnsOnce_83  (k83_q_acts : Int32) (k83_q_past : Nat → Int32) (k83_q_st : Nat → Int32) : Option (Int32 × (Nat → Int32) × (Nat → Int32)) := Option.bind (fX8_fouls k83_q_st) (fun r1 => some (k83_q_acts, k83_q_past, r1))
def fX8_turnsOnce (q_acts : Int32) (q_past : Nat → Int32) (q_st : Nat → Int32)  : Option (Int32 × (Nat → Int32) × (Nat → Int32)) := Option.bind (fX8_notes q_acts q_past q_st) (fun r3 => Option.bind (rd q_st 13 (12 : Int32)) (fun y5 => bnd (((y5).toInt64 * (1103515245 : Int64)) + (12345 : Int64)) (fun y7 => Option.bind (wi q_st 13 (12 : Int32) (((y7 - y7 / (2147483648 : Int64) * (2147483648 : Int64))).toInt32)) (fun g9 => Option.bind (rd g9 13 (12 : Int32)) (fun y11 => Option.bind (rd g9 13 (0 : Int32)) (fun y13 => Option.bind (rmd (y11 / (65536 : Int32)) y13) (fun y15 => Option.bind (rd g9 13 (0 : Int32)) (fun y17 => Option.bind (rmd ((y11 / (65536 : Int32)) / (8 : Int32)) y17) (fun y19 => (if y15 = y19 then jX8_turnsOnce_83 r3.1 r3.2 g9 else Option.bind (fX8_turnsLink g9 y15 y19) (fun r22 => jX8_turnsOnce_83 r3.1 r3.2 r22)))))))))))
abbrev gX8_turnsOnce (p : Program) (l : Launch) (e : Env) (s : State) (m : MethodId) (below : List Frame) (meth : Method) (c : Code) (D : vg) (cI cL cS cH : ClassId) (a_this : Nat) (a_this_st : Nat) (a_this_past : Nat) (a_this_image : Nat) (a_this_imagePast : Nat) (a_this_tape : Nat) (a_this_laneOf : Nat) (a_this_sizeOf : Nat) (a_this_items : Nat) (a_this_code : Nat) (a_this_from : Nat) (a_this_by : Nat) (a_this_far : Nat) (a_this_met : Nat) (a_this_told : Nat) (q_acts : Int32) (q_imageActs : Int32) (q_tapeMany : Int32) (q_many : Int32) (q_round : Int32) (q_readAt : Int32) (q_isFault : Int32) (q_toldMany : Int32) (q_past : Nat → Int32) (q_st : Nat → Int32) (res : Int32 × (Nat → Int32) × (Nat → Int32)) (H : Heap) (locs : List Loc) (g : JFrame) : Prop := W p l e (headSpec wsX8_turnsOnce ({ frames := 4, cells := 0, slots := 0, locals := 88 })).room s m ([.ref a_this] : List Value).toArray below meth c H locs 0 0 (MQ below (va_Qv (fun (_ : Unit) => True) (fun _ t => pos1 D s.heap.size (wX8_turnsOnce cI cL cS cH a_this a_this_st a_this_past a_this_image a_this_imagePast a_this_tape a_this_laneOf a_this_sizeOf a_this_items a_this_code a_this_from a_this_by a_this_far a_this_met a_this_told q_acts q_imageActs q_tapeMany q_many q_round q_readAt q_isFault q_toldMany q_past q_st) (wX8_turnsOnce cI cL cS cH a_this a_this_st a_this_past a_this_image a_this_imagePast a_this_tape a_this_laneOf a_this_sizeOf a_this_items a_this_code a_this_from a_this_by a_this_far a_this_met a_this_told res.1 q_imageActs q_tapeMany q_many q_round q_readAt q_isFault q_toldMany res.2.1 res.2.2) t) (va_A (wX8_turnsOnce cI cL cS cH a_this a_this_st a_this_past a_this_image a_this_imagePast a_this_tape a_this_laneOf a_this_sizeOf a_this_items a_this_code a_this_from a_this_by a_this_far a_this_met a_this_told q_acts q_imageActs q_tapeMany q_many q_round q_readAt q_isFault q_toldMany q_past q_st) s.heap.size)) ([.ref a_this] : List Value).toArray s 0 0 (va_A (wX8_turnsOnce cI cL cS cH a_this a_this_st a_this_past a_this_image a_this_imagePast a_this_tape a_this_laneOf a_this_sizeOf a_this_items a_this_code a_this_from a_this_by a_this_far a_this_met a_this_told q_acts q_imageActs q_tapeMany q_many q_round q_readAt q_isFault q_toldMany q_past q_st) s.heap.size)) g
set_option maxHeartbeats 4000000 in
set_option maxRecDepth 100000 in
theorem mX8_turnsOnce (l : Launch) (D : vg) (cI cL cS cH : ClassId) (sz : Nat) (a_this : Nat) (a_this_st : Nat) (a_this_past : Nat) (a_this_image : Nat) (a_this_imagePast : Nat) (a_this_tape : Nat) (a_this_laneOf : Nat) (a_this_sizeOf : Nat) (a_this_items : Nat) (a_this_code : Nat) (a_this_from : Nat) (a_this_by : Nat) (a_this_far : Nat) (a_this_met : Nat) (a_this_told : Nat) (q_acts : Int32) (q_imageActs : Int32) (q_tapeMany : Int32) (q_many : Int32) (q_round : Int32) (q_readAt : Int32) (q_isFault : Int32) (q_toldMany : Int32) (q_past : Nat → Int32) (q_st : Nat → Int32) {res : Int32 × (Nat → Int32) × (Nat → Int32)} (hf : fX8_turnsOnce q_acts q_past q_st = some res) : ctv l yX8_turnsOnce wsX8_turnsOnce ({ frames := 4, cells := 0, slots := 0, locals := 88 }) D (ty4 cI cL cS cH) sz [.ref a_this] (wX8_turnsOnce cI cL cS cH a_this a_this_st a_this_past a_this_image a_this_imagePast a_this_tape a_this_laneOf a_this_sizeOf a_this_items a_this_code a_this_from a_this_by a_this_far a_this_met a_this_told q_acts q_imageActs q_tapeMany q_many q_round q_readAt q_isFault q_toldMany q_past q_st) (wX8_turnsOnce cI cL cS cH a_this a_this_st a_this_past a_this_image a_this_imagePast a_this_tape a_this_laneOf a_this_sizeOf a_this_items a_this_code a_this_from a_this_by a_this_far a_this_met a_this_told res.1 q_imageActs q_tapeMany q_many q_round q_readAt q_isFault q_toldMany res.2.1 res.2.2) := by
  refine Met.ofW (cc := cX8_turnsOnce) (maxL := 6) (ret := none) (by decide) rfl ?_
  intro p e s m args below meth c s₁ B hml hv
  obtain ⟨rfl, hpre⟩ := hv
  obtain rfl := hpre.1
  have C : CallFix p m c cX8_turnsOnce 6 s _ wsX8_turnsOnce RX8 := ⟨B.exec, B.bytes, hml, findClass_of_methodNamed B.named, atoms_spec (ws := wsX8_turnsOnce) B.pre⟩
  have hr := B.returns
  have hlocks := B.notSynchronized
  have w := wd_start hpre
  clear hpre B
  have hl := lv_entry ([.ref a_this]) (n := 6) (Nat.le_of_ble_eq_true rfl)
  rw [lg_entry_eq]
  generalize (lg_sl ([.ref a_this]) ++ List.replicate (6 - (lg_sl ([.ref a_this])).length) Slot.unset).toArray = ls at hl ⊢
  have hl : lv_has ls 6 [(0, .ref a_this)] := hl
  unfold fX8_turnsOnce at hf
  have hj83 : ∀ (k83_q_acts : Int32) (k83_q_past : Nat → Int32) (k83_q_st : Nat → Int32) (H : Heap) (locs : List Loc) (ls : Array Slot), wd D (ty4 cI cL cS cH) s (va_A (wX8_turnsOnce cI cL cS cH a_this a_this_st a_this_past a_this_image a_this_imagePast a_this_tape a_this_laneOf a_this_sizeOf a_this_items a_this_code a_this_from a_this_by a_this_far a_this_met a_this_told q_acts q_imageActs q_tapeMany q_many q_round q_readAt q_isFault q_toldMany q_past q_st) s.heap.size) s.heap H locs (wX8_turnsOnce cI cL cS cH a_this a_this_st a_this_past a_this_image a_this_imagePast a_this_tape a_this_laneOf a_this_sizeOf a_this_items a_this_code a_this_from a_this_by a_this_far a_this_met a_this_told k83_q_acts q_imageActs q_tapeMany q_many q_round q_readAt q_isFault q_toldMany k83_q_past k83_q_st) → lv_has ls 6 [(0, .ref a_this)] → jX8_turnsOnce_83 k83_q_acts k83_q_past k83_q_st = some res → gX8_turnsOnce p l e s m below meth c D cI cL cS cH a_this a_this_st a_this_past a_this_image a_this_imagePast a_this_tape a_this_laneOf a_this_sizeOf a_this_items a_this_code a_this_from a_this_by a_this_far a_this_met a_this_told q_acts q_imageActs q_tapeMany q_many q_round q_readAt q_isFault q_toldMany q_past q_st res H locs (F0 m 83 ls []) := by
    intro k83_q_acts k83_q_past k83_q_st H locs ls w hl hf
    unfold jX8_turnsOnce_83 at hf
    refine lv_aload_n C.1 C.2.1 dX8_turnsOnce_83 rfl (lv_at hl 0 rfl) ?_
    obtain ⟨r1, hc2, hf⟩ := bd hf
    refine call_Vv (ws' := (wX8_turnsOnce cI cL cS cH a_this a_this_st a_this_past a_this_image a_this_imagePast a_this_tape a_this_laneOf a_this_sizeOf a_this_items a_this_code a_this_from a_this_by a_this_far a_this_met a_this_told k83_q_acts q_imageActs q_tapeMany q_many q_round q_readAt q_isFault q_toldMany k83_q_past r1)) (rest := []) C w (mX8_fouls l D cI cL cS cH _ a_this a_this_st a_this_past a_this_image a_this_imagePast a_this_tape a_this_laneOf a_this_sizeOf a_this_items a_this_code a_this_from a_this_by a_this_far a_this_met a_this_told k83_q_acts q_imageActs q_tapeMany q_many q_round q_readAt q_isFault q_toldMany k83_q_st hc2) (cwV 0 C.2.2.2.2 gX8_turnsOnce_X8_fouls rfl rfl rfl (by decide +kernel) ⟨Nat.le_of_ble_eq_true rfl, Nat.le_of_ble_eq_true rfl⟩) [0, 2] [1] 3 ⟨rfl, rfl, trivial⟩ ⟨rfl, rfl, trivial⟩ ⟨⟨_, rfl, rfl⟩, trivial⟩ rfl (by decide) (by decide) (ci := 8) (q0 := 0) rfl rfl rfl hl.1 rfl (lv_room (Nat.le_of_ble_eq_true rfl)) dX8_turnsOnce_84 ⟨Nat.zero_le _, Nat.zero_le _⟩ (fun H locs w => ?_)
    have hres := Option.some.inj hf
    subst hres
    exact ret_v C hr hlocks w dX8_turnsOnce_87
  refine lv_aload_n C.1 C.2.1 dX8_turnsOnce_0 rfl (lv_at hl 0 rfl) ?_
  obtain ⟨r3, hc4, hf⟩ := bd hf
  refine call_Vv (ws' := (wX8_turnsOnce cI cL cS cH a_this a_this_st a_this_past a_this_image a_this_imagePast a_this_tape a_this_laneOf a_this_sizeOf a_this_items a_this_code a_this_from a_this_by a_this_far a_this_met a_this_told r3.1 q_imageActs q_tapeMany q_many q_round q_readAt q_isFault q_toldMany r3.2 q_st)) (rest := []) C w (mX8_notes l D cI cL cS cH _ a_this a_this_st a_this_past a_this_image a_this_imagePast a_this_tape a_this_laneOf a_this_sizeOf a_this_items a_this_code a_this_from a_this_by a_this_far a_this_met a_this_told q_acts q_imageActs q_tapeMany q_many q_round q_readAt q_isFault q_toldMany q_past q_st hc4) (cwV 0 C.2.2.2.2 gX8_turnsOnce_X8_notes rfl rfl rfl (by decide +kernel) ⟨Nat.le_of_ble_eq_true rfl, Nat.le_of_ble_eq_true rfl⟩) [0, 1, 2] [] 3 ⟨rfl, rfl, rfl, trivial⟩ ⟨rfl, rfl, rfl, trivial⟩ trivial rfl (by decide) (by decide) (ci := 8) (q0 := 0) rfl rfl rfl hl.1 rfl (lv_room (Nat.le_of_ble_eq_true rfl)) dX8_turnsOnce_1 ⟨Nat.zero_le _, Nat.zero_le _⟩ (fun H locs w => ?_)
  refine lv_aload_n C.1 C.2.1 dX8_turnsOnce_4 rfl (lv_at hl 0 rfl) ?_
  refine r_get C w inX8_turnsOnce_X8 0 rfl rfl 0 (by decide) lkX8_turnsOnce_7 rfl dX8_turnsOnce_5 ?_
  refine lv_bipush (v := (12 : Int32)) C.1 C.2.1 dX8_turnsOnce_8 (by decide) ?_
  obtain ⟨y5, hy6, hf⟩ := bd hf
  refine r_iald C w 2 0 rfl rfl (rd_in hy6) dX8_turnsOnce_10 ?_
  refine lv_i2l C.1 C.2.1 dX8_turnsOnce_11 rfl ?_
  refine lv_ldc2 (v := (1103515245 : Int64)) C.1 C.2.1 C.2.2.2.1 (C.2.2.2.2 (.constantLong RX8 240 (1103515245 : Int64)) (by decide +kernel)) dX8_turnsOnce_12 ?_
  refine lv_lmul C.1 C.2.1 dX8_turnsOnce_15 ?_
  refine lv_ldc2 (v := (12345 : Int64)) C.1 C.2.1 C.2.2.2.1 (C.2.2.2.2 (.constantLong RX8 242 (12345 : Int64)) (by decide +kernel)) dX8_turnsOnce_16 ?_
  refine lv_ladd C.1 C.2.1 dX8_turnsOnce_19 ?_
  obtain ⟨y7, hy8, hf⟩ := bnd_e hf
  refine lt_topl hy8 ?_
  refine lv_lstore_n (lv' := [(1, .long y7), (0, .ref a_this)]) C.1 C.2.1 dX8_turnsOnce_20 rfl hl (by decide) rfl (fun ls hl => ?_)
  refine lv_aload_n C.1 C.2.1 dX8_turnsOnce_21 rfl (lv_at hl 1 rfl) ?_
  refine r_get C w inX8_turnsOnce_X8 0 rfl rfl 0 (by decide) lkX8_turnsOnce_7 rfl dX8_turnsOnce_22 ?_
  refine lv_bipush (v := (12 : Int32)) C.1 C.2.1 dX8_turnsOnce_25 (by decide) ?_
  refine lv_lload_n C.1 C.2.1 dX8_turnsOnce_27 rfl (lv_at hl 0 rfl) ?_
  refine lv_ldc2 (v := (2147483648 : Int64)) C.1 C.2.1 C.2.2.2.1 (C.2.2.2.2 (.constantLong RX8 244 (2147483648 : Int64)) (by decide +kernel)) dX8_turnsOnce_28 ?_
  refine lv_lrem C.1 C.2.1 dX8_turnsOnce_31 (by decide) ?_
  refine lv_l2i C.1 C.2.1 dX8_turnsOnce_32 rfl ?_
  obtain ⟨g9, hg10, hf⟩ := bd hf
  refine r_iast (ws' := (wX8_turnsOnce cI cL cS cH a_this a_this_st a_this_past a_this_image a_this_imagePast a_this_tape a_this_laneOf a_this_sizeOf a_this_items a_this_code a_this_from a_this_by a_this_far a_this_met a_this_told r3.1 q_imageActs q_tapeMany q_many q_round q_readAt q_isFault q_toldMany r3.2 g9)) C w 2 0 rfl rfl (wi_in hg10) rfl dX8_turnsOnce_33 (fun H locs w => ?_)
  refine lv_aload_n C.1 C.2.1 dX8_turnsOnce_34 rfl (lv_at hl 1 rfl) ?_
  refine r_get C w inX8_turnsOnce_X8 0 rfl rfl 0 (by decide) lkX8_turnsOnce_7 rfl dX8_turnsOnce_35 ?_
  refine lv_bipush (v := (12 : Int32)) C.1 C.2.1 dX8_turnsOnce_38 (by decide) ?_
  obtain ⟨y11, hy12, hf⟩ := bd hf
  refine r_iald C w 2 0 rfl rfl (rd_in hy12) dX8_turnsOnce_40 ?_
  refine lv_ldc (v := (65536 : Int32)) C.1 C.2.1 C.2.2.2.1 (C.2.2.2.2 (.constant RX8 246 (65536 : Int32)) (by decide +kernel)) dX8_turnsOnce_41 ?_
  refine lv_idiv C.1 C.2.1 dX8_turnsOnce_43 (by decide) ?_
  refine lv_istore_n (lv' := [(3, .int (y11 / (65536 : Int32))), (1, .long y7), (0, .ref a_this)]) C.1 C.2.1 dX8_turnsOnce_44 rfl hl (by decide) rfl (fun ls hl => ?_)
  refine lv_iload_n C.1 C.2.1 dX8_turnsOnce_45 rfl (lv_at hl 0 rfl) ?_
  refine lv_aload_n C.1 C.2.1 dX8_turnsOnce_46 rfl (lv_at hl 2 rfl) ?_
  refine r_get C w inX8_turnsOnce_X8 0 rfl rfl 0 (by decide) lkX8_turnsOnce_7 rfl dX8_turnsOnce_47 ?_
  refine lv_iconst (v := (0 : Int32)) C.1 C.2.1 dX8_turnsOnce_50 (by decide) ?_
  obtain ⟨y13, hy14, hf⟩ := bd hf
  refine r_iald C w 2 0 rfl rfl (rd_in hy14) dX8_turnsOnce_51 ?_
  obtain ⟨y15, hy16, hf⟩ := bd hf
  refine lv_irem C.1 C.2.1 dX8_turnsOnce_52 (rmd_in hy16).1 ?_
  refine lt_topi (rmd_in hy16).2 ?_
  refine lv_istore (lv' := [(4, .int y15), (3, .int (y11 / (65536 : Int32))), (1, .long y7), (0, .ref a_this)]) C.1 C.2.1 dX8_turnsOnce_53 hl (by decide) rfl (fun ls hl => ?_)
  refine lv_iload_n C.1 C.2.1 dX8_turnsOnce_55 rfl (lv_at hl 1 rfl) ?_
  refine lv_bipush (v := (8 : Int32)) C.1 C.2.1 dX8_turnsOnce_56 (by decide) ?_
  refine lv_idiv C.1 C.2.1 dX8_turnsOnce_58 (by decide) ?_
  refine lv_aload_n C.1 C.2.1 dX8_turnsOnce_59 rfl (lv_at hl 3 rfl) ?_
  refine r_get C w inX8_turnsOnce_X8 0 rfl rfl 0 (by decide) lkX8_turnsOnce_7 rfl dX8_turnsOnce_60 ?_
  refine lv_iconst (v := (0 : Int32)) C.1 C.2.1 dX8_turnsOnce_63 (by decide) ?_
  obtain ⟨y17, hy18, hf⟩ := bd hf
  refine r_iald C w 2 0 rfl rfl (rd_in hy18) dX8_turnsOnce_64 ?_
  obtain ⟨y19, hy20, hf⟩ := bd hf
  refine lv_irem C.1 C.2.1 dX8_turnsOnce_65 (rmd_in hy20).1 ?_
  refine lt_topi (rmd_in hy20).2 ?_
  refine lv_istore (lv' := [(5, .int y19), (4, .int y15), (3, .int (y11 / (65536 : Int32))), (1, .long y7), (0, .ref a_this)]) C.1 C.2.1 dX8_turnsOnce_66 hl (by decide) rfl (fun ls hl => ?_)
  refine lv_iload C.1 C.2.1 dX8_turnsOnce_68 (lv_at hl 1 rfl) ?_
  refine lv_iload C.1 C.2.1 dX8_turnsOnce_70 (lv_at hl 0 rfl) ?_
  refine lv_icmp_eq (tgt := 83) C.1 C.2.1 dX8_turnsOnce_72 (by decide) (fun hq21 => ?_) (fun hq21 => ?_)
  · have hf := ite_t hf hq21
    exact hj83 r3.1 r3.2 g9 _ _ _ w (lv_sub hl [4] rfl) hf
  · have hf := ite_f hf hq21
    refine lv_aload_n C.1 C.2.1 dX8_turnsOnce_75 rfl (lv_at hl 4 rfl) ?_
    refine lv_iload C.1 C.2.1 dX8_turnsOnce_76 (lv_at hl 1 rfl) ?_
    refine lv_iload C.1 C.2.1 dX8_turnsOnce_78 (lv_at hl 0 rfl) ?_
    obtain ⟨r22, hc23, hf⟩ := bd hf
    refine call_Vv (ws' := (wX8_turnsOnce cI cL cS cH a_this a_this_st a_this_past a_this_image a_this_imagePast a_this_tape a_this_laneOf a_this_sizeOf a_this_items a_this_code a_this_from a_this_by a_this_far a_this_met a_this_told r3.1 q_imageActs q_tapeMany q_many q_round q_readAt q_isFault q_toldMany r3.2 r22)) (rest := []) C w (mX8_turnsLink l D cI cL cS cH _ a_this a_this_st a_this_past a_this_image a_this_imagePast a_this_tape a_this_laneOf a_this_sizeOf a_this_items a_this_code a_this_from a_this_by a_this_far a_this_met a_this_told r3.1 q_imageActs q_tapeMany q_many q_round q_readAt q_isFault q_toldMany g9 y15 y19 hc23) (cwV 2 C.2.2.2.2 gX8_turnsOnce_X8_turnsLink rfl rfl rfl (by decide +kernel) ⟨Nat.le_of_ble_eq_true rfl, Nat.le_of_ble_eq_true rfl⟩) [0, 2] [1] 3 ⟨rfl, rfl, trivial⟩ ⟨rfl, rfl, trivial⟩ ⟨⟨_, rfl, rfl⟩, trivial⟩ rfl (by decide) (by decide) (ci := 8) (q0 := 0) rfl rfl rfl hl.1 rfl (lv_room (Nat.le_of_ble_eq_true rfl)) dX8_turnsOnce_80 ⟨Nat.zero_le _, Nat.zero_le _⟩ (fun H locs w => ?_)
    exact hj83 r3.1 r3.2 r22 _ _ _ w (lv_sub hl [4] rfl) hf

abbrev wX8_drift (cI cL cS cH : ClassId) (a_this : Nat) (a_this_st : Nat) (a_this_past : Nat) (a_this_image : Nat) (a_this_imagePast : Nat) (a_this_tape : Nat) (a_this_laneOf : Nat) (a_this_sizeOf : Nat) (a_this_items : Nat) (a_this_code : Nat) (a_this_from : Nat) (a_this_by : Nat) (a_this_far : Nat) (a_this_met : Nat) (a_this_told : Nat) (q_acts : Int32) (q_imageActs : Int32) (q_tapeMany : Int32) (q_many : Int32) (q_round : Int32) (q_readAt : Int32) (q_isFault : Int32) (q_toldMany : Int32) (q_past : Nat → Int32) (q_st : Nat → Int32) : va_W := [(a_this, .inr (8, [.ref a_this_st, .ref a_this_past, .int q_acts, .ref a_this_image, .ref a_this_imagePast, .int q_imageActs, .ref a_this_tape, .int q_tapeMany, .ref a_this_laneOf, .ref a_this_sizeOf, .ref a_this_items, .ref a_this_code, .ref a_this_from, .ref a_this_by, .ref a_this_far, .int q_many, .ref a_this_met, .int q_round, .int q_readAt, .int q_isFault, .int q_toldMany, .ref a_this_told])),
  (a_this_past, .inl (cI, 78, .inl q_past)),
  (a_this_st, .inl (cI, 13, .inl q_st))]
def bX8_drift_16  (y16_1 : Int32) (v16 : Int32 × Int32 × (Nat → Int32) × (Nat → Int32)) : Option ((Int32 × Int32 × (Nat → Int32) × (Nat → Int32)) ⊕ (Int32 × Int32 × (Nat → Int32) × (Nat → Int32))) := (if y16_1 ≤ v16.1 then some (.inr (v16.1, v16.2.1, v16.2.2.1, v16.2.2.2)) else Option.bind (fX8_turnsOnce v16.2.1 v16.2.2.1 v16.2.2.2) (fun r2 => some (.inl ((v16.1 + (1 : Int32)), r2.1, r2.2.1, r2.2.2))))
def fX8_drift (q_acts : Int32) (q_past : Nat → Int32) (q_st : Nat → Int32) (x1 : Int32) : Option (Int32 × Int32 × (Nat → Int32) × (Nat → Int32)) := Option.bind (fX8_in ((x1).toInt64) (1 : Int64) (40 : Int64)) (fun r4 => (if r4 = 0 then some ((-1 : Int32), q_acts, q_past, q_st) else Option.bind (itL (bX8_drift_16 x1) fu ((0 : Int32), q_acts, q_past, q_st)) (fun ex7 => Option.bind (fX8_linkMany ex7.2.2.2) (fun r9 => some (r9, ex7.2.1, ex7.2.2.1, ex7.2.2.2)))))
abbrev gX8_drift (p : Program) (l : Launch) (e : Env) (s : State) (m : MethodId) (below : List Frame) (meth : Method) (c : Code) (D : vg) (cI cL cS cH : ClassId) (a_this : Nat) (a_this_st : Nat) (a_this_past : Nat) (a_this_image : Nat) (a_this_imagePast : Nat) (a_this_tape : Nat) (a_this_laneOf : Nat) (a_this_sizeOf : Nat) (a_this_items : Nat) (a_this_code : Nat) (a_this_from : Nat) (a_this_by : Nat) (a_this_far : Nat) (a_this_met : Nat) (a_this_told : Nat) (q_acts : Int32) (q_imageActs : Int32) (q_tapeMany : Int32) (q_many : Int32) (q_round : Int32) (q_readAt : Int32) (q_isFault : Int32) (q_toldMany : Int32) (q_past : Nat → Int32) (q_st : Nat → Int32) (x1 : Int32) (res : Int32 × Int32 × (Nat → Int32) × (Nat → Int32)) (H : Heap) (locs : List Loc) (g : JFrame) : Prop := W p l e (headSpec wsX8_drift ({ frames := 5, cells := 0, slots := 0, locals := 113 })).room s m ([.ref a_this, .int x1] : List Value).toArray below meth c H locs 0 0 (MQ below (va_Qi (fun r' (_ : Unit) => r' = res.1) (fun _ t => pos1 D s.heap.size (wX8_drift cI cL cS cH a_this a_this_st a_this_past a_this_image a_this_imagePast a_this_tape a_this_laneOf a_this_sizeOf a_this_items a_this_code a_this_from a_this_by a_this_far a_this_met a_this_told q_acts q_imageActs q_tapeMany q_many q_round q_readAt q_isFault q_toldMany q_past q_st) (wX8_drift cI cL cS cH a_this a_this_st a_this_past a_this_image a_this_imagePast a_this_tape a_this_laneOf a_this_sizeOf a_this_items a_this_code a_this_from a_this_by a_this_far a_this_met a_this_told res.2.1 q_imageActs q_tapeMany q_many q_round q_readAt q_isFault q_toldMany res.2.2.1 res.2.2.2) t) (va_A (wX8_drift cI cL cS cH a_this a_this_st a_this_past a_this_image a_this_imagePast a_this_tape a_this_laneOf a_this_sizeOf a_this_items a_this_code a_this_from a_this_by a_this_far a_this_met a_this_told q_acts q_imageActs q_tapeMany q_many q_round q_readAt q_isFault q_toldMany q_past q_st) s.heap.size)) ([.ref a_this, .int x1] : List Value).toArray s 0 0 (va_A (wX8_drift cI cL cS cH a_this a_this_st a_this_past a_this_image a_this_imagePast a_this_tape a_this_laneOf a_this_sizeOf a_this_items a_this_code a_this_from a_this_by a_this_far a_this_met a_this_told q_acts q_imageActs q_tapeMany q_many q_round q_readAt q_isFault q_toldMany q_past q_st) s.heap.size)) g
set_option maxHeartbeats 4000000 in
set_option maxRecDepth 100000 in
theorem mX8_drift (l : Launch) (D : vg) (cI cL cS cH : ClassId) (sz : Nat) (a_this : Nat) (a_this_st : Nat) (a_this_past : Nat) (a_this_image : Nat) (a_this_imagePast : Nat) (a_this_tape : Nat) (a_this_laneOf : Nat) (a_this_sizeOf : Nat) (a_this_items : Nat) (a_this_code : Nat) (a_this_from : Nat) (a_this_by : Nat) (a_this_far : Nat) (a_this_met : Nat) (a_this_told : Nat) (q_acts : Int32) (q_imageActs : Int32) (q_tapeMany : Int32) (q_many : Int32) (q_round : Int32) (q_readAt : Int32) (q_isFault : Int32) (q_toldMany : Int32) (q_past : Nat → Int32) (q_st : Nat → Int32) (x1 : Int32) {res : Int32 × Int32 × (Nat → Int32) × (Nat → Int32)} (hf : fX8_drift q_acts q_past q_st x1 = some res) : cti l yX8_drift wsX8_drift ({ frames := 5, cells := 0, slots := 0, locals := 113 }) D (ty4 cI cL cS cH) sz [.ref a_this, .int x1] (wX8_drift cI cL cS cH a_this a_this_st a_this_past a_this_image a_this_imagePast a_this_tape a_this_laneOf a_this_sizeOf a_this_items a_this_code a_this_from a_this_by a_this_far a_this_met a_this_told q_acts q_imageActs q_tapeMany q_many q_round q_readAt q_isFault q_toldMany q_past q_st) (wX8_drift cI cL cS cH a_this a_this_st a_this_past a_this_image a_this_imagePast a_this_tape a_this_laneOf a_this_sizeOf a_this_items a_this_code a_this_from a_this_by a_this_far a_this_met a_this_told res.2.1 q_imageActs q_tapeMany q_many q_round q_readAt q_isFault q_toldMany res.2.2.1 res.2.2.2) res.1 := by
  refine Met.ofW (cc := cX8_drift) (maxL := 3) (ret := (some .int)) (by decide) rfl ?_
  intro p e s m args below meth c s₁ B hml hv
  obtain ⟨rfl, hpre⟩ := hv
  obtain rfl := hpre.1
  have C : CallFix p m c cX8_drift 3 s _ wsX8_drift RX8 := ⟨B.exec, B.bytes, hml, findClass_of_methodNamed B.named, atoms_spec (ws := wsX8_drift) B.pre⟩
  have hr := B.returns
  have hlocks := B.notSynchronized
  have w := wd_start hpre
  clear hpre B
  have hl := lv_entry ([.ref a_this, .int x1]) (n := 3) (Nat.le_of_ble_eq_true rfl)
  rw [lg_entry_eq]
  generalize (lg_sl ([.ref a_this, .int x1]) ++ List.replicate (3 - (lg_sl ([.ref a_this, .int x1])).length) Slot.unset).toArray = ls at hl ⊢
  have hl : lv_has ls 3 [(0, .ref a_this), (1, .int x1)] := hl
  unfold fX8_drift at hf
  have hlp16 : ∀ (y16_1 : Int32) (ex16 : Int32 × Int32 × (Nat → Int32) × (Nat → Int32)) (hk : (∀ (H : Heap) (locs : List Loc) (ls : Array Slot), wd D (ty4 cI cL cS cH) s (va_A (wX8_drift cI cL cS cH a_this a_this_st a_this_past a_this_image a_this_imagePast a_this_tape a_this_laneOf a_this_sizeOf a_this_items a_this_code a_this_from a_this_by a_this_far a_this_met a_this_told q_acts q_imageActs q_tapeMany q_many q_round q_readAt q_isFault q_toldMany q_past q_st) s.heap.size) s.heap H locs (wX8_drift cI cL cS cH a_this a_this_st a_this_past a_this_image a_this_imagePast a_this_tape a_this_laneOf a_this_sizeOf a_this_items a_this_code a_this_from a_this_by a_this_far a_this_met a_this_told ex16.2.1 q_imageActs q_tapeMany q_many q_round q_readAt q_isFault q_toldMany ex16.2.2.1 ex16.2.2.2) → lv_has ls 3 [(0, .ref a_this)] → gX8_drift p l e s m below meth c D cI cL cS cH a_this a_this_st a_this_past a_this_image a_this_imagePast a_this_tape a_this_laneOf a_this_sizeOf a_this_items a_this_code a_this_from a_this_by a_this_far a_this_met a_this_told q_acts q_imageActs q_tapeMany q_many q_round q_readAt q_isFault q_toldMany q_past q_st x1 res H locs (F0 m 31 ls []))) (n : Nat) (v16 : Int32 × Int32 × (Nat → Int32) × (Nat → Int32)) (H : Heap) (locs : List Loc) (ls : Array Slot), itL (bX8_drift_16 y16_1) n v16 = some ex16 → wd D (ty4 cI cL cS cH) s (va_A (wX8_drift cI cL cS cH a_this a_this_st a_this_past a_this_image a_this_imagePast a_this_tape a_this_laneOf a_this_sizeOf a_this_items a_this_code a_this_from a_this_by a_this_far a_this_met a_this_told q_acts q_imageActs q_tapeMany q_many q_round q_readAt q_isFault q_toldMany q_past q_st) s.heap.size) s.heap H locs (wX8_drift cI cL cS cH a_this a_this_st a_this_past a_this_image a_this_imagePast a_this_tape a_this_laneOf a_this_sizeOf a_this_items a_this_code a_this_from a_this_by a_this_far a_this_met a_this_told v16.2.1 q_imageActs q_tapeMany q_many q_round q_readAt q_isFault q_toldMany v16.2.2.1 v16.2.2.2) → lv_has ls 3 [(0, .ref a_this), (1, .int y16_1), (2, .int v16.1)] → gX8_drift p l e s m below meth c D cI cL cS cH a_this a_this_st a_this_past a_this_image a_this_imagePast a_this_tape a_this_laneOf a_this_sizeOf a_this_items a_this_code a_this_from a_this_by a_this_far a_this_met a_this_told q_acts q_imageActs q_tapeMany q_many q_round q_readAt q_isFault q_toldMany q_past q_st x1 res H locs (F0 m 16 ls []) := by
    intro y16_1 ex16 hk n
    induction n with
    | zero => intro v16 H locs ls hi w hl; exact (itL_zero hi).elim
    | succ n ih =>
      intro v16 H locs ls hi w hl
      obtain ⟨o, hf, hn⟩ := itL_succ hi
      unfold bX8_drift_16 at hf
      refine lv_iload_n C.1 C.2.1 dX8_drift_16 rfl (lv_at hl 2 rfl) ?_
      refine lv_iload_n C.1 C.2.1 dX8_drift_17 rfl (lv_at hl 1 rfl) ?_
      refine lv_icmp_ge (tgt := 31) C.1 C.2.1 dX8_drift_18 (by decide) (fun hq1 => ?_) (fun hq1 => ?_)
      · have hf := ite_t hf hq1
        obtain rfl := Option.some.inj hf
        obtain rfl := hn
        exact hk _ _ _ w (lv_sub hl [0] rfl)
      · have hf := ite_f hf hq1
        refine lv_aload_n C.1 C.2.1 dX8_drift_21 rfl (lv_at hl 0 rfl) ?_
        obtain ⟨r2, hc3, hf⟩ := bd hf
        refine call_Vv (ws' := (wX8_drift cI cL cS cH a_this a_this_st a_this_past a_this_image a_this_imagePast a_this_tape a_this_laneOf a_this_sizeOf a_this_items a_this_code a_this_from a_this_by a_this_far a_this_met a_this_told r2.1 q_imageActs q_tapeMany q_many q_round q_readAt q_isFault q_toldMany r2.2.1 r2.2.2)) (rest := []) C w (mX8_turnsOnce l D cI cL cS cH _ a_this a_this_st a_this_past a_this_image a_this_imagePast a_this_tape a_this_laneOf a_this_sizeOf a_this_items a_this_code a_this_from a_this_by a_this_far a_this_met a_this_told v16.2.1 q_imageActs q_tapeMany q_many q_round q_readAt q_isFault q_toldMany v16.2.2.1 v16.2.2.2 hc3) (cwV 0 C.2.2.2.2 gX8_drift_X8_turnsOnce rfl rfl rfl (by decide +kernel) ⟨Nat.le_of_ble_eq_true rfl, Nat.le_of_ble_eq_true rfl⟩) [0, 1, 2] [] 3 ⟨rfl, rfl, rfl, trivial⟩ ⟨rfl, rfl, rfl, trivial⟩ trivial rfl (by decide) (by decide) (ci := 8) (q0 := 0) rfl rfl rfl hl.1 rfl (lv_room (Nat.le_of_ble_eq_true rfl)) dX8_drift_22 ⟨Nat.zero_le _, Nat.zero_le _⟩ (fun H locs w => ?_)
        refine lv_iinc (v := (v16.1 + (1 : Int32))) (lv' := [(2, .int (v16.1 + (1 : Int32))), (0, .ref a_this), (1, .int y16_1)]) C.1 C.2.1 dX8_drift_25 hl (k := 2) rfl rfl (by decide) rfl (fun ls hl => ?_)
        refine lv_goto (tgt := 16) C.1 C.2.1 dX8_drift_28 (by decide) ?_
        obtain rfl := Option.some.inj hf
        exact ih ((v16.1 + (1 : Int32)), r2.1, r2.2.1, r2.2.2) _ _ _ hn w (lv_sub hl [1, 2, 0] rfl)
  refine lv_iload_n C.1 C.2.1 dX8_drift_0 rfl (lv_at hl 1 rfl) ?_
  refine lv_i2l C.1 C.2.1 dX8_drift_1 rfl ?_
  refine lv_lconst (v := (1 : Int64)) C.1 C.2.1 dX8_drift_2 (by decide) ?_
  refine lv_ldc2 (v := (40 : Int64)) C.1 C.2.1 C.2.2.2.1 (C.2.2.2.2 (.constantLong RX8 247 (40 : Int64)) (by decide +kernel)) dX8_drift_3 ?_
  obtain ⟨r4, hc5, hf⟩ := bd hf
  refine call_Si (ws' := (wX8_drift cI cL cS cH a_this a_this_st a_this_past a_this_image a_this_imagePast a_this_tape a_this_laneOf a_this_sizeOf a_this_items a_this_code a_this_from a_this_by a_this_far a_this_met a_this_told q_acts q_imageActs q_tapeMany q_many q_round q_readAt q_isFault q_toldMany q_past q_st)) (rest := []) C w (mX8_in l D cI cL cS cH _ ((x1).toInt64) (1 : Int64) (40 : Int64) hc5) (va_cwS 3 C.2.2.2.2 gX8_drift_X8_in rfl rfl rfl (by decide +kernel) ⟨Nat.le_of_ble_eq_true rfl, Nat.le_of_ble_eq_true rfl⟩) [] [0, 1, 2] 3 trivial trivial ⟨⟨_, rfl, rfl⟩, ⟨_, rfl, rfl⟩, ⟨_, rfl, rfl⟩, trivial⟩ rfl (by decide) (by decide) rfl hl.1 rfl (lv_room (Nat.le_of_ble_eq_true rfl)) dX8_drift_6 ⟨Nat.zero_le _, Nat.zero_le _⟩ (fun H locs w => ?_)
  refine lv_if_ne (tgt := 14) C.1 C.2.1 dX8_drift_9 (by decide) (fun hq6 => ?_) (fun hq6 => ?_)
  · have hf := ite_f hf hq6
    refine lv_iconst (v := (0 : Int32)) C.1 C.2.1 dX8_drift_14 (by decide) ?_
    refine lv_istore_n (lv' := [(2, .int (0 : Int32)), (0, .ref a_this), (1, .int x1)]) C.1 C.2.1 dX8_drift_15 rfl hl (by decide) rfl (fun ls hl => ?_)
    obtain ⟨ex7, hx8, hf⟩ := bd hf
    refine hlp16 x1 ex7 ?_ fu ((0 : Int32), q_acts, q_past, q_st) _ _ _ hx8 w (lv_sub hl [1, 2, 0] rfl)
    intro H locs ls w hl
    refine lv_aload_n C.1 C.2.1 dX8_drift_31 rfl (lv_at hl 0 rfl) ?_
    obtain ⟨r9, hc10, hf⟩ := bd hf
    refine call_Vi (ws' := (wX8_drift cI cL cS cH a_this a_this_st a_this_past a_this_image a_this_imagePast a_this_tape a_this_laneOf a_this_sizeOf a_this_items a_this_code a_this_from a_this_by a_this_far a_this_met a_this_told ex7.2.1 q_imageActs q_tapeMany q_many q_round q_readAt q_isFault q_toldMany ex7.2.2.1 ex7.2.2.2)) (rest := []) C w (mX8_linkMany l D cI cL cS cH _ a_this a_this_st a_this_past a_this_image a_this_imagePast a_this_tape a_this_laneOf a_this_sizeOf a_this_items a_this_code a_this_from a_this_by a_this_far a_this_met a_this_told ex7.2.1 q_imageActs q_tapeMany q_many q_round q_readAt q_isFault q_toldMany ex7.2.2.2 hc10) (cwV 0 C.2.2.2.2 gX8_drift_X8_linkMany rfl rfl rfl (by decide +kernel) ⟨Nat.le_of_ble_eq_true rfl, Nat.le_of_ble_eq_true rfl⟩) [0, 2] [1] 3 ⟨rfl, rfl, trivial⟩ ⟨rfl, rfl, trivial⟩ ⟨⟨_, rfl, rfl⟩, trivial⟩ rfl (by decide) (by decide) (ci := 8) (q0 := 0) rfl rfl rfl hl.1 rfl (lv_room (Nat.le_of_ble_eq_true rfl)) dX8_drift_32 ⟨Nat.zero_le _, Nat.zero_le _⟩ (fun H locs w => ?_)
    have hres := Option.some.inj hf
    subst hres
    exact ret_i C hr hlocks w rfl dX8_drift_35
  · have hf := ite_t hf hq6
    refine lv_iconst (v := (-1 : Int32)) C.1 C.2.1 dX8_drift_12 (by decide) ?_
    have hres := Option.some.inj hf
    subst hres
    exact ret_i C hr hlocks w rfl dX8_drift_13

set_option maxRecDepth 100000 in
theorem inX8_undo_X8 : ∀ w ∈ u_ws RX8 TX8 22, w ∈ wsX8_undo := by decide +kernel
set_option maxRecDepth 100000 in
theorem lkX8_undo_102 : Cond.fieldLink RX8 102 "CleanNetsModel" "acts" "I" ∈ wsX8_undo := by decide +kernel
set_option maxRecDepth 100000 in
theorem lkX8_undo_13 : Cond.fieldLink RX8 13 "CleanNetsModel" "past" "[I" ∈ wsX8_undo := by decide +kernel
set_option maxRecDepth 100000 in
theorem lkX8_undo_7 : Cond.fieldLink RX8 7 "CleanNetsModel" "st" "[I" ∈ wsX8_undo := by decide +kernel
abbrev wX8_undo (cI cL cS cH : ClassId) (a_this : Nat) (a_this_st : Nat) (a_this_past : Nat) (a_this_image : Nat) (a_this_imagePast : Nat) (a_this_tape : Nat) (a_this_laneOf : Nat) (a_this_sizeOf : Nat) (a_this_items : Nat) (a_this_code : Nat) (a_this_from : Nat) (a_this_by : Nat) (a_this_far : Nat) (a_this_met : Nat) (a_this_told : Nat) (q_acts : Int32) (q_imageActs : Int32) (q_tapeMany : Int32) (q_many : Int32) (q_round : Int32) (q_readAt : Int32) (q_isFault : Int32) (q_toldMany : Int32) (q_past : Nat → Int32) (q_st : Nat → Int32) : va_W := [(a_this, .inr (8, [.ref a_this_st, .ref a_this_past, .int q_acts, .ref a_this_image, .ref a_this_imagePast, .int q_imageActs, .ref a_this_tape, .int q_tapeMany, .ref a_this_laneOf, .ref a_this_sizeOf, .ref a_this_items, .ref a_this_code, .ref a_this_from, .ref a_this_by, .ref a_this_far, .int q_many, .ref a_this_met, .int q_round, .int q_readAt, .int q_isFault, .int q_toldMany, .ref a_this_told])),
  (a_this_past, .inl (cI, 78, .inl q_past)),
  (a_this_st, .inl (cI, 13, .inl q_st))]
def fX8_undo (q_acts : Int32) (q_past : Nat → Int32) (q_st : Nat → Int32)  : Option (Int32 × Int32 × (Nat → Int32)) := (if q_acts = 0 then some ((-4 : Int32), q_acts, q_st) else Option.bind (fX8_bring 78 13 q_past q_st ((13 : Int32) * (q_acts - (1 : Int32))) (0 : Int32) (13 : Int32)) (fun r2 => some ((q_acts - (1 : Int32)), (q_acts - (1 : Int32)), r2)))
set_option maxHeartbeats 4000000 in
set_option maxRecDepth 100000 in
theorem mX8_undo (l : Launch) (D : vg) (cI cL cS cH : ClassId) (sz : Nat) (a_this : Nat) (a_this_st : Nat) (a_this_past : Nat) (a_this_image : Nat) (a_this_imagePast : Nat) (a_this_tape : Nat) (a_this_laneOf : Nat) (a_this_sizeOf : Nat) (a_this_items : Nat) (a_this_code : Nat) (a_this_from : Nat) (a_this_by : Nat) (a_this_far : Nat) (a_this_met : Nat) (a_this_told : Nat) (q_acts : Int32) (q_imageActs : Int32) (q_tapeMany : Int32) (q_many : Int32) (q_round : Int32) (q_readAt : Int32) (q_isFault : Int32) (q_toldMany : Int32) (q_past : Nat → Int32) (q_st : Nat → Int32) {res : Int32 × Int32 × (Nat → Int32)} (hf : fX8_undo q_acts q_past q_st = some res) : cti l yX8_undo wsX8_undo ({ frames := 1, cells := 0, slots := 0, locals := 25 }) D (ty4 cI cL cS cH) sz [.ref a_this] (wX8_undo cI cL cS cH a_this a_this_st a_this_past a_this_image a_this_imagePast a_this_tape a_this_laneOf a_this_sizeOf a_this_items a_this_code a_this_from a_this_by a_this_far a_this_met a_this_told q_acts q_imageActs q_tapeMany q_many q_round q_readAt q_isFault q_toldMany q_past q_st) (wX8_undo cI cL cS cH a_this a_this_st a_this_past a_this_image a_this_imagePast a_this_tape a_this_laneOf a_this_sizeOf a_this_items a_this_code a_this_from a_this_by a_this_far a_this_met a_this_told res.2.1 q_imageActs q_tapeMany q_many q_round q_readAt q_isFault q_toldMany q_past res.2.2) res.1 := by
  refine Met.ofW (cc := cX8_undo) (maxL := 1) (ret := (some .int)) (by decide) rfl ?_
  intro p e s m args below meth c s₁ B hml hv
  obtain ⟨rfl, hpre⟩ := hv
  obtain rfl := hpre.1
  have C : CallFix p m c cX8_undo 1 s _ wsX8_undo RX8 := ⟨B.exec, B.bytes, hml, findClass_of_methodNamed B.named, atoms_spec (ws := wsX8_undo) B.pre⟩
  have hr := B.returns
  have hlocks := B.notSynchronized
  have w := wd_start hpre
  clear hpre B
  have hl := lv_entry ([.ref a_this]) (n := 1) (Nat.le_of_ble_eq_true rfl)
  rw [lg_entry_eq]
  generalize (lg_sl ([.ref a_this]) ++ List.replicate (1 - (lg_sl ([.ref a_this])).length) Slot.unset).toArray = ls at hl ⊢
  have hl : lv_has ls 1 [(0, .ref a_this)] := hl
  unfold fX8_undo at hf
  refine lv_aload_n C.1 C.2.1 dX8_undo_0 rfl (lv_at hl 0 rfl) ?_
  refine r_get C w inX8_undo_X8 0 rfl rfl 2 (by decide) lkX8_undo_102 rfl dX8_undo_1 ?_
  refine lv_if_ne (tgt := 10) C.1 C.2.1 dX8_undo_4 (by decide) (fun hq1 => ?_) (fun hq1 => ?_)
  · have hf := ite_f hf hq1
    refine lv_aload_n C.1 C.2.1 dX8_undo_10 rfl (lv_at hl 0 rfl) ?_
    refine lv_dup C.1 C.2.1 dX8_undo_11 rfl ?_
    refine r_get C w inX8_undo_X8 0 rfl rfl 2 (by decide) lkX8_undo_102 rfl dX8_undo_12 ?_
    refine lv_iconst (v := (1 : Int32)) C.1 C.2.1 dX8_undo_15 (by decide) ?_
    refine lv_isub C.1 C.2.1 dX8_undo_16 ?_
    refine r_put (ws' := (wX8_undo cI cL cS cH a_this a_this_st a_this_past a_this_image a_this_imagePast a_this_tape a_this_laneOf a_this_sizeOf a_this_items a_this_code a_this_from a_this_by a_this_far a_this_met a_this_told (q_acts - (1 : Int32)) q_imageActs q_tapeMany q_many q_round q_readAt q_isFault q_toldMany q_past q_st)) C w inX8_undo_X8 tyX8 tyX8_ok nmX8 0 rfl rfl 2 (by decide) lkX8_undo_102 rfl rfl rfl (Nat.le_of_ble_eq_true rfl) rfl dX8_undo_17 (fun H locs w => ?_)
    refine lv_aload_n C.1 C.2.1 dX8_undo_20 rfl (lv_at hl 0 rfl) ?_
    refine r_get C w inX8_undo_X8 0 rfl rfl 1 (by decide) lkX8_undo_13 rfl dX8_undo_21 ?_
    refine lv_bipush (v := (13 : Int32)) C.1 C.2.1 dX8_undo_24 (by decide) ?_
    refine lv_aload_n C.1 C.2.1 dX8_undo_26 rfl (lv_at hl 0 rfl) ?_
    refine r_get C w inX8_undo_X8 0 rfl rfl 2 (by decide) lkX8_undo_102 rfl dX8_undo_27 ?_
    refine lv_imul C.1 C.2.1 dX8_undo_30 ?_
    refine lv_aload_n C.1 C.2.1 dX8_undo_31 rfl (lv_at hl 0 rfl) ?_
    refine r_get C w inX8_undo_X8 0 rfl rfl 0 (by decide) lkX8_undo_7 rfl dX8_undo_32 ?_
    refine lv_iconst (v := (0 : Int32)) C.1 C.2.1 dX8_undo_35 (by decide) ?_
    refine lv_bipush (v := (13 : Int32)) C.1 C.2.1 dX8_undo_36 (by decide) ?_
    obtain ⟨r2, hc3, hf⟩ := bd hf
    refine call_Sv (ws' := (wX8_undo cI cL cS cH a_this a_this_st a_this_past a_this_image a_this_imagePast a_this_tape a_this_laneOf a_this_sizeOf a_this_items a_this_code a_this_from a_this_by a_this_far a_this_met a_this_told (q_acts - (1 : Int32)) q_imageActs q_tapeMany q_many q_round q_readAt q_isFault q_toldMany q_past r2)) (rest := []) C w (mX8_bring l D cI cL cS cH _ 78 13 a_this_past a_this_st q_past q_st ((13 : Int32) * (q_acts - (1 : Int32))) (0 : Int32) (13 : Int32) hc3) (va_cwS 5 C.2.2.2.2 gX8_undo_X8_bring rfl rfl rfl (by decide +kernel) ⟨Nat.le_of_ble_eq_true rfl, Nat.le_of_ble_eq_true rfl⟩) [1, 2] [0] 3 ⟨rfl, rfl, trivial⟩ ⟨rfl, rfl, trivial⟩ ⟨⟨_, rfl, rfl⟩, trivial⟩ rfl (by decide) (by decide) rfl hl.1 rfl (lv_room (Nat.le_of_ble_eq_true rfl)) dX8_undo_38 ⟨Nat.zero_le _, Nat.zero_le _⟩ (fun H locs w => ?_)
    refine lv_aload_n C.1 C.2.1 dX8_undo_41 rfl (lv_at hl 0 rfl) ?_
    refine r_get C w inX8_undo_X8 0 rfl rfl 2 (by decide) lkX8_undo_102 rfl dX8_undo_42 ?_
    have hres := Option.some.inj hf
    subst hres
    exact ret_i C hr hlocks w rfl dX8_undo_45
  · have hf := ite_t hf hq1
    refine lv_bipush (v := (-4 : Int32)) C.1 C.2.1 dX8_undo_7 (by decide) ?_
    have hres := Option.some.inj hf
    subst hres
    exact ret_i C hr hlocks w rfl dX8_undo_9

set_option maxRecDepth 100000 in
theorem inX8_seed_X8 : ∀ w ∈ u_ws RX8 TX8 22, w ∈ wsX8_seed := by decide +kernel
set_option maxRecDepth 100000 in
theorem lkX8_seed_7 : Cond.fieldLink RX8 7 "CleanNetsModel" "st" "[I" ∈ wsX8_seed := by decide +kernel
abbrev wX8_seed (cI cL cS cH : ClassId) (a_this : Nat) (a_this_st : Nat) (a_this_past : Nat) (a_this_image : Nat) (a_this_imagePast : Nat) (a_this_tape : Nat) (a_this_laneOf : Nat) (a_this_sizeOf : Nat) (a_this_items : Nat) (a_this_code : Nat) (a_this_from : Nat) (a_this_by : Nat) (a_this_far : Nat) (a_this_met : Nat) (a_this_told : Nat) (q_acts : Int32) (q_imageActs : Int32) (q_tapeMany : Int32) (q_many : Int32) (q_round : Int32) (q_readAt : Int32) (q_isFault : Int32) (q_toldMany : Int32) (q_st : Nat → Int32) : va_W := [(a_this, .inr (8, [.ref a_this_st, .ref a_this_past, .int q_acts, .ref a_this_image, .ref a_this_imagePast, .int q_imageActs, .ref a_this_tape, .int q_tapeMany, .ref a_this_laneOf, .ref a_this_sizeOf, .ref a_this_items, .ref a_this_code, .ref a_this_from, .ref a_this_by, .ref a_this_far, .int q_many, .ref a_this_met, .int q_round, .int q_readAt, .int q_isFault, .int q_toldMany, .ref a_this_told])),
  (a_this_st, .inl (cI, 13, .inl q_st))]
def fX8_seed (q_st : Nat → Int32) (x1 : Int32) : Option (Int32 × (Nat → Int32)) := (if 0 ≤ x1 then Option.bind (rd q_st 13 (12 : Int32)) (fun y2 => Option.bind (wi q_st 13 (12 : Int32) x1) (fun g4 => some (y2, g4))) else some ((-1 : Int32), q_st))
set_option maxHeartbeats 4000000 in
set_option maxRecDepth 100000 in
theorem mX8_seed (l : Launch) (D : vg) (cI cL cS cH : ClassId) (sz : Nat) (a_this : Nat) (a_this_st : Nat) (a_this_past : Nat) (a_this_image : Nat) (a_this_imagePast : Nat) (a_this_tape : Nat) (a_this_laneOf : Nat) (a_this_sizeOf : Nat) (a_this_items : Nat) (a_this_code : Nat) (a_this_from : Nat) (a_this_by : Nat) (a_this_far : Nat) (a_this_met : Nat) (a_this_told : Nat) (q_acts : Int32) (q_imageActs : Int32) (q_tapeMany : Int32) (q_many : Int32) (q_round : Int32) (q_readAt : Int32) (q_isFault : Int32) (q_toldMany : Int32) (q_st : Nat → Int32) (x1 : Int32) {res : Int32 × (Nat → Int32)} (hf : fX8_seed q_st x1 = some res) : cti l yX8_seed wsX8_seed ({ frames := 0, cells := 0, slots := 0, locals := 0 }) D (ty4 cI cL cS cH) sz [.ref a_this, .int x1] (wX8_seed cI cL cS cH a_this a_this_st a_this_past a_this_image a_this_imagePast a_this_tape a_this_laneOf a_this_sizeOf a_this_items a_this_code a_this_from a_this_by a_this_far a_this_met a_this_told q_acts q_imageActs q_tapeMany q_many q_round q_readAt q_isFault q_toldMany q_st) (wX8_seed cI cL cS cH a_this a_this_st a_this_past a_this_image a_this_imagePast a_this_tape a_this_laneOf a_this_sizeOf a_this_items a_this_code a_this_from a_this_by a_this_far a_this_met a_this_told q_acts q_imageActs q_tapeMany q_many q_round q_readAt q_isFault q_toldMany res.2) res.1 := by
  refine Met.ofW (cc := cX8_seed) (maxL := 3) (ret := (some .int)) (by decide) rfl ?_
  intro p e s m args below meth c s₁ B hml hv
  obtain ⟨rfl, hpre⟩ := hv
  obtain rfl := hpre.1
  have C : CallFix p m c cX8_seed 3 s _ wsX8_seed RX8 := ⟨B.exec, B.bytes, hml, findClass_of_methodNamed B.named, atoms_spec (ws := wsX8_seed) B.pre⟩
  have hr := B.returns
  have hlocks := B.notSynchronized
  have w := wd_start hpre
  clear hpre B
  have hl := lv_entry ([.ref a_this, .int x1]) (n := 3) (Nat.le_of_ble_eq_true rfl)
  rw [lg_entry_eq]
  generalize (lg_sl ([.ref a_this, .int x1]) ++ List.replicate (3 - (lg_sl ([.ref a_this, .int x1])).length) Slot.unset).toArray = ls at hl ⊢
  have hl : lv_has ls 3 [(0, .ref a_this), (1, .int x1)] := hl
  unfold fX8_seed at hf
  refine lv_iload_n C.1 C.2.1 dX8_seed_0 rfl (lv_at hl 1 rfl) ?_
  refine lv_if_ge (tgt := 6) C.1 C.2.1 dX8_seed_1 (by decide) (fun hq1 => ?_) (fun hq1 => ?_)
  · have hf := ite_t hf hq1
    refine lv_aload_n C.1 C.2.1 dX8_seed_6 rfl (lv_at hl 0 rfl) ?_
    refine r_get C w inX8_seed_X8 0 rfl rfl 0 (by decide) lkX8_seed_7 rfl dX8_seed_7 ?_
    refine lv_bipush (v := (12 : Int32)) C.1 C.2.1 dX8_seed_10 (by decide) ?_
    obtain ⟨y2, hy3, hf⟩ := bd hf
    refine r_iald C w 1 0 rfl rfl (rd_in hy3) dX8_seed_12 ?_
    refine lv_istore_n (lv' := [(2, .int y2), (0, .ref a_this), (1, .int x1)]) C.1 C.2.1 dX8_seed_13 rfl hl (by decide) rfl (fun ls hl => ?_)
    refine lv_aload_n C.1 C.2.1 dX8_seed_14 rfl (lv_at hl 1 rfl) ?_
    refine r_get C w inX8_seed_X8 0 rfl rfl 0 (by decide) lkX8_seed_7 rfl dX8_seed_15 ?_
    refine lv_bipush (v := (12 : Int32)) C.1 C.2.1 dX8_seed_18 (by decide) ?_
    refine lv_iload_n C.1 C.2.1 dX8_seed_20 rfl (lv_at hl 2 rfl) ?_
    obtain ⟨g4, hg5, hf⟩ := bd hf
    refine r_iast (ws' := (wX8_seed cI cL cS cH a_this a_this_st a_this_past a_this_image a_this_imagePast a_this_tape a_this_laneOf a_this_sizeOf a_this_items a_this_code a_this_from a_this_by a_this_far a_this_met a_this_told q_acts q_imageActs q_tapeMany q_many q_round q_readAt q_isFault q_toldMany g4)) C w 1 0 rfl rfl (wi_in hg5) rfl dX8_seed_21 (fun H locs w => ?_)
    refine lv_iload_n C.1 C.2.1 dX8_seed_22 rfl (lv_at hl 0 rfl) ?_
    have hres := Option.some.inj hf
    subst hres
    exact ret_i C hr hlocks w rfl dX8_seed_23
  · have hf := ite_f hf hq1
    refine lv_iconst (v := (-1 : Int32)) C.1 C.2.1 dX8_seed_4 (by decide) ?_
    have hres := Option.some.inj hf
    subst hres
    exact ret_i C hr hlocks w rfl dX8_seed_5

set_option maxRecDepth 100000 in
theorem inX8_image_X8 : ∀ w ∈ u_ws RX8 TX8 22, w ∈ wsX8_image := by decide +kernel
set_option maxRecDepth 100000 in
theorem lkX8_image_7 : Cond.fieldLink RX8 7 "CleanNetsModel" "st" "[I" ∈ wsX8_image := by decide +kernel
set_option maxRecDepth 100000 in
theorem lkX8_image_16 : Cond.fieldLink RX8 16 "CleanNetsModel" "image" "[I" ∈ wsX8_image := by decide +kernel
set_option maxRecDepth 100000 in
theorem lkX8_image_13 : Cond.fieldLink RX8 13 "CleanNetsModel" "past" "[I" ∈ wsX8_image := by decide +kernel
set_option maxRecDepth 100000 in
theorem lkX8_image_19 : Cond.fieldLink RX8 19 "CleanNetsModel" "imagePast" "[I" ∈ wsX8_image := by decide +kernel
set_option maxRecDepth 100000 in
theorem lkX8_image_102 : Cond.fieldLink RX8 102 "CleanNetsModel" "acts" "I" ∈ wsX8_image := by decide +kernel
set_option maxRecDepth 100000 in
theorem lkX8_image_22 : Cond.fieldLink RX8 22 "CleanNetsModel" "imageActs" "I" ∈ wsX8_image := by decide +kernel
abbrev wX8_image (cI cL cS cH : ClassId) (a_this : Nat) (a_this_st : Nat) (a_this_past : Nat) (a_this_image : Nat) (a_this_imagePast : Nat) (a_this_tape : Nat) (a_this_laneOf : Nat) (a_this_sizeOf : Nat) (a_this_items : Nat) (a_this_code : Nat) (a_this_from : Nat) (a_this_by : Nat) (a_this_far : Nat) (a_this_met : Nat) (a_this_told : Nat) (q_acts : Int32) (q_imageActs : Int32) (q_tapeMany : Int32) (q_many : Int32) (q_round : Int32) (q_readAt : Int32) (q_isFault : Int32) (q_toldMany : Int32) (q_image : Nat → Int32) (q_imagePast : Nat → Int32) (q_past : Nat → Int32) (q_st : Nat → Int32) : va_W := [(a_this, .inr (8, [.ref a_this_st, .ref a_this_past, .int q_acts, .ref a_this_image, .ref a_this_imagePast, .int q_imageActs, .ref a_this_tape, .int q_tapeMany, .ref a_this_laneOf, .ref a_this_sizeOf, .ref a_this_items, .ref a_this_code, .ref a_this_from, .ref a_this_by, .ref a_this_far, .int q_many, .ref a_this_met, .int q_round, .int q_readAt, .int q_isFault, .int q_toldMany, .ref a_this_told])),
  (a_this_image, .inl (cI, 13, .inl q_image)),
  (a_this_imagePast, .inl (cI, 78, .inl q_imagePast)),
  (a_this_past, .inl (cI, 78, .inl q_past)),
  (a_this_st, .inl (cI, 13, .inl q_st))]
def fX8_image (q_acts : Int32) (q_imageActs : Int32) (q_image : Nat → Int32) (q_imagePast : Nat → Int32) (q_past : Nat → Int32) (q_st : Nat → Int32)  : Option (Int32 × Int32 × (Nat → Int32) × (Nat → Int32)) := Option.bind (fX8_bring 13 13 q_st q_image (0 : Int32) (0 : Int32) (13 : Int32)) (fun r1 => Option.bind (fX8_bring 78 78 q_past q_imagePast (0 : Int32) (0 : Int32) (78 : Int32)) (fun r3 => some ((1 : Int32), q_acts, r1, r3)))
set_option maxHeartbeats 4000000 in
set_option maxRecDepth 100000 in
theorem mX8_image (l : Launch) (D : vg) (cI cL cS cH : ClassId) (sz : Nat) (a_this : Nat) (a_this_st : Nat) (a_this_past : Nat) (a_this_image : Nat) (a_this_imagePast : Nat) (a_this_tape : Nat) (a_this_laneOf : Nat) (a_this_sizeOf : Nat) (a_this_items : Nat) (a_this_code : Nat) (a_this_from : Nat) (a_this_by : Nat) (a_this_far : Nat) (a_this_met : Nat) (a_this_told : Nat) (q_acts : Int32) (q_imageActs : Int32) (q_tapeMany : Int32) (q_many : Int32) (q_round : Int32) (q_readAt : Int32) (q_isFault : Int32) (q_toldMany : Int32) (q_image : Nat → Int32) (q_imagePast : Nat → Int32) (q_past : Nat → Int32) (q_st : Nat → Int32) {res : Int32 × Int32 × (Nat → Int32) × (Nat → Int32)} (hf : fX8_image q_acts q_imageActs q_image q_imagePast q_past q_st = some res) : cti l yX8_image wsX8_image ({ frames := 1, cells := 0, slots := 0, locals := 25 }) D (ty4 cI cL cS cH) sz [.ref a_this] (wX8_image cI cL cS cH a_this a_this_st a_this_past a_this_image a_this_imagePast a_this_tape a_this_laneOf a_this_sizeOf a_this_items a_this_code a_this_from a_this_by a_this_far a_this_met a_this_told q_acts q_imageActs q_tapeMany q_many q_round q_readAt q_isFault q_toldMany q_image q_imagePast q_past q_st) (wX8_image cI cL cS cH a_this a_this_st a_this_past a_this_image a_this_imagePast a_this_tape a_this_laneOf a_this_sizeOf a_this_items a_this_code a_this_from a_this_by a_this_far a_this_met a_this_told q_acts res.2.1 q_tapeMany q_many q_round q_readAt q_isFault q_toldMany res.2.2.1 res.2.2.2 q_past q_st) res.1 := by
  refine Met.ofW (cc := cX8_image) (maxL := 1) (ret := (some .int)) (by decide) rfl ?_
  intro p e s m args below meth c s₁ B hml hv
  obtain ⟨rfl, hpre⟩ := hv
  obtain rfl := hpre.1
  have C : CallFix p m c cX8_image 1 s _ wsX8_image RX8 := ⟨B.exec, B.bytes, hml, findClass_of_methodNamed B.named, atoms_spec (ws := wsX8_image) B.pre⟩
  have hr := B.returns
  have hlocks := B.notSynchronized
  have w := wd_start hpre
  clear hpre B
  have hl := lv_entry ([.ref a_this]) (n := 1) (Nat.le_of_ble_eq_true rfl)
  rw [lg_entry_eq]
  generalize (lg_sl ([.ref a_this]) ++ List.replicate (1 - (lg_sl ([.ref a_this])).length) Slot.unset).toArray = ls at hl ⊢
  have hl : lv_has ls 1 [(0, .ref a_this)] := hl
  unfold fX8_image at hf
  refine lv_aload_n C.1 C.2.1 dX8_image_0 rfl (lv_at hl 0 rfl) ?_
  refine r_get C w inX8_image_X8 0 rfl rfl 0 (by decide) lkX8_image_7 rfl dX8_image_1 ?_
  refine lv_iconst (v := (0 : Int32)) C.1 C.2.1 dX8_image_4 (by decide) ?_
  refine lv_aload_n C.1 C.2.1 dX8_image_5 rfl (lv_at hl 0 rfl) ?_
  refine r_get C w inX8_image_X8 0 rfl rfl 3 (by decide) lkX8_image_16 rfl dX8_image_6 ?_
  refine lv_iconst (v := (0 : Int32)) C.1 C.2.1 dX8_image_9 (by decide) ?_
  refine lv_bipush (v := (13 : Int32)) C.1 C.2.1 dX8_image_10 (by decide) ?_
  obtain ⟨r1, hc2, hf⟩ := bd hf
  refine call_Sv (ws' := (wX8_image cI cL cS cH a_this a_this_st a_this_past a_this_image a_this_imagePast a_this_tape a_this_laneOf a_this_sizeOf a_this_items a_this_code a_this_from a_this_by a_this_far a_this_met a_this_told q_acts q_imageActs q_tapeMany q_many q_round q_readAt q_isFault q_toldMany r1 q_imagePast q_past q_st)) (rest := []) C w (mX8_bring l D cI cL cS cH _ 13 13 a_this_st a_this_image q_st q_image (0 : Int32) (0 : Int32) (13 : Int32) hc2) (va_cwS 5 C.2.2.2.2 gX8_image_X8_bring rfl rfl rfl (by decide +kernel) ⟨Nat.le_of_ble_eq_true rfl, Nat.le_of_ble_eq_true rfl⟩) [4, 1] [0, 2, 3] 5 ⟨rfl, rfl, trivial⟩ ⟨rfl, rfl, trivial⟩ ⟨⟨_, rfl, rfl⟩, ⟨_, rfl, rfl⟩, ⟨_, rfl, rfl⟩, trivial⟩ rfl (by decide) (by decide) rfl hl.1 rfl (lv_room (Nat.le_of_ble_eq_true rfl)) dX8_image_12 ⟨Nat.zero_le _, Nat.zero_le _⟩ (fun H locs w => ?_)
  refine lv_aload_n C.1 C.2.1 dX8_image_15 rfl (lv_at hl 0 rfl) ?_
  refine r_get C w inX8_image_X8 0 rfl rfl 1 (by decide) lkX8_image_13 rfl dX8_image_16 ?_
  refine lv_iconst (v := (0 : Int32)) C.1 C.2.1 dX8_image_19 (by decide) ?_
  refine lv_aload_n C.1 C.2.1 dX8_image_20 rfl (lv_at hl 0 rfl) ?_
  refine r_get C w inX8_image_X8 0 rfl rfl 4 (by decide) lkX8_image_19 rfl dX8_image_21 ?_
  refine lv_iconst (v := (0 : Int32)) C.1 C.2.1 dX8_image_24 (by decide) ?_
  refine lv_bipush (v := (78 : Int32)) C.1 C.2.1 dX8_image_25 (by decide) ?_
  obtain ⟨r3, hc4, hf⟩ := bd hf
  refine call_Sv (ws' := (wX8_image cI cL cS cH a_this a_this_st a_this_past a_this_image a_this_imagePast a_this_tape a_this_laneOf a_this_sizeOf a_this_items a_this_code a_this_from a_this_by a_this_far a_this_met a_this_told q_acts q_imageActs q_tapeMany q_many q_round q_readAt q_isFault q_toldMany r1 r3 q_past q_st)) (rest := []) C w (mX8_bring l D cI cL cS cH _ 78 78 a_this_past a_this_imagePast q_past q_imagePast (0 : Int32) (0 : Int32) (78 : Int32) hc4) (va_cwS 5 C.2.2.2.2 gX8_image_X8_bring rfl rfl rfl (by decide +kernel) ⟨Nat.le_of_ble_eq_true rfl, Nat.le_of_ble_eq_true rfl⟩) [3, 2] [0, 1, 4] 5 ⟨rfl, rfl, trivial⟩ ⟨rfl, rfl, trivial⟩ ⟨⟨_, rfl, rfl⟩, ⟨_, rfl, rfl⟩, ⟨_, rfl, rfl⟩, trivial⟩ rfl (by decide) (by decide) rfl hl.1 rfl (lv_room (Nat.le_of_ble_eq_true rfl)) dX8_image_27 ⟨Nat.zero_le _, Nat.zero_le _⟩ (fun H locs w => ?_)
  refine lv_aload_n C.1 C.2.1 dX8_image_30 rfl (lv_at hl 0 rfl) ?_
  refine lv_aload_n C.1 C.2.1 dX8_image_31 rfl (lv_at hl 0 rfl) ?_
  refine r_get C w inX8_image_X8 0 rfl rfl 2 (by decide) lkX8_image_102 rfl dX8_image_32 ?_
  refine r_put (ws' := (wX8_image cI cL cS cH a_this a_this_st a_this_past a_this_image a_this_imagePast a_this_tape a_this_laneOf a_this_sizeOf a_this_items a_this_code a_this_from a_this_by a_this_far a_this_met a_this_told q_acts q_acts q_tapeMany q_many q_round q_readAt q_isFault q_toldMany r1 r3 q_past q_st)) C w inX8_image_X8 tyX8 tyX8_ok nmX8 0 rfl rfl 5 (by decide) lkX8_image_22 rfl rfl rfl (Nat.le_of_ble_eq_true rfl) rfl dX8_image_35 (fun H locs w => ?_)
  refine lv_iconst (v := (1 : Int32)) C.1 C.2.1 dX8_image_38 (by decide) ?_
  have hres := Option.some.inj hf
  subst hres
  exact ret_i C hr hlocks w rfl dX8_image_39
