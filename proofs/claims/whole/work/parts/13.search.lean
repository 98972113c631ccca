set_option maxRecDepth 100000 in
theorem inX3_find_X3 : ∀ w ∈ u_ws RX3 TX3 7, w ∈ wsX3_find := by decide +kernel
set_option maxRecDepth 100000 in
theorem lkX3_find_29 : Cond.fieldLink RX3 29 "CleanNets$Search" "found" "I" ∈ wsX3_find := by decide +kernel
set_option maxRecDepth 100000 in
theorem lkX3_find_25 : Cond.fieldLink RX3 25 "CleanNets$Search" "seen" "[J" ∈ wsX3_find := by decide +kernel
set_option maxRecDepth 100000 in
theorem lkX3_find_18 : Cond.fieldLink RX3 18 "CleanNets$Search" "states" "[I" ∈ wsX3_find := by decide +kernel
set_option maxRecDepth 100000 in
theorem lkX3_find_22 : Cond.fieldLink RX3 22 "CleanNets$Search" "steps" "[I" ∈ wsX3_find := by decide +kernel
set_option maxRecDepth 100000 in
theorem lkX3_find_33 : Cond.fieldLink RX3 33 "CleanNets$Search" "goal" "I" ∈ wsX3_find := by decide +kernel
set_option maxRecDepth 100000 in
theorem lkX3_find_12 : Cond.fieldLink RX3 12 "CleanNets$Search" "net" "LCleanNets$Net;" ∈ wsX3_find := by decide +kernel
set_option maxRecDepth 100000 in
theorem inX3_find_X0 : ∀ w ∈ u_ws RX0 TX0 5, w ∈ wsX3_find := by decide +kernel
set_option maxRecDepth 100000 in
theorem lkX3_find_77 : Cond.fieldLink RX3 77 "CleanNets$Net" "all" "I" ∈ wsX3_find := by decide +kernel
abbrev wX3_find (cI cL cS cH : ClassId) (a_this : Nat) (a_this_net : Nat) (a_this_states : Nat) (a_this_steps : Nat) (a_this_seen : Nat) (a_this_net_near : Nat) (a_this_net_beside : Nat) (q_found : Int32) (q_goal : Int32) (q_isSteady : Int32) (q_net_nodes : Int32) (q_net_all : Int32) (q_net_edition : Int32) (q_seen : Nat → Int64) (q_states : Nat → Int32) (q_steps : Nat → Int32) : va_W := [(a_this, .inr (3, [.ref a_this_net, .ref a_this_states, .ref a_this_steps, .ref a_this_seen, .int q_found, .int q_goal, .int q_isSteady])),
  (a_this_net, .inr (0, [.int q_net_nodes, .int q_net_all, .int q_net_edition, .ref a_this_net_near, .ref a_this_net_beside])),
  (a_this_seen, .inl (cL, 256, .inr (.inl q_seen))),
  (a_this_states, .inl (cI, 2187, .inl q_states)),
  (a_this_steps, .inl (cI, 2187, .inl q_steps))]
def jX3_find_110 (q_net_all : Int32) (k110_q_found : Int32) (k110_q_goal : Int32) (k110_q_seen : Nat → Int64) (k110_q_states : Nat → Int32) (k110_q_steps : Nat → Int32) : Option (Int32 × Int32 × (Nat → Int64) × (Nat → Int32) × (Nat → Int32)) := some ((k110_q_found + (1 : Int32)), k110_q_goal, k110_q_seen, k110_q_states, k110_q_steps)
def fX3_find (q_found : Int32) (q_goal : Int32) (q_net_all : Int32) (q_seen : Nat → Int64) (q_states : Nat → Int32) (q_steps : Nat → Int32) (x1 : Int32) (x2 : Int32) (x3 : Int32) : Option (Int32 × Int32 × (Nat → Int64) × (Nat → Int32) × (Nat → Int32)) := bnd ((x1 * (128 : Int32)) + x2) (fun y1 => bnd ((1 : Int64) <<< (((y1 &&& (63 : Int32))).toInt64 &&& 63)) (fun y3 => (if (2187 : Int32) ≤ q_found then some (q_found, q_goal, q_seen, q_states, q_steps) else Option.bind (rd q_seen 256 (y1 >>> ((6 : Int32) &&& 31))) (fun y6 => (if (lg_cmp (y6 &&& y3) (0 : Int64)) = 0 then Option.bind (rd q_seen 256 (y1 >>> ((6 : Int32) &&& 31))) (fun y9 => Option.bind (wl q_seen 256 (y1 >>> ((6 : Int32) &&& 31)) (y9 ||| y3)) (fun g11 => Option.bind (wi q_states 2187 q_found y1) (fun g13 => Option.bind (wi q_steps 2187 q_found x3) (fun g15 => (if q_goal = (-1 : Int32) then (if x1 = q_net_all then jX3_find_110 q_net_all q_found q_found g11 g13 g15 else jX3_find_110 q_net_all q_found q_goal g11 g13 g15) else jX3_find_110 q_net_all q_found q_goal g11 g13 g15))))) else some (q_found, q_goal, q_seen, q_states, q_steps))))))
abbrev gX3_find (p : Program) (l : Launch) (e : Env) (s : State) (m : MethodId) (below : List Frame) (meth : Method) (c : Code) (D : vg) (cI cL cS cH : ClassId) (a_this : Nat) (a_this_net : Nat) (a_this_states : Nat) (a_this_steps : Nat) (a_this_seen : Nat) (a_this_net_near : Nat) (a_this_net_beside : Nat) (q_found : Int32) (q_goal : Int32) (q_isSteady : Int32) (q_net_nodes : Int32) (q_net_all : Int32) (q_net_edition : Int32) (q_seen : Nat → Int64) (q_states : Nat → Int32) (q_steps : Nat → Int32) (x1 : Int32) (x2 : Int32) (x3 : Int32) (res : Int32 × Int32 × (Nat → Int64) × (Nat → Int32) × (Nat → Int32)) (H : Heap) (locs : List Loc) (g : JFrame) : Prop := W p l e (headSpec wsX3_find ({ frames := 0, cells := 0, slots := 0, locals := 0 })).room s m ([.ref a_this, .int x1, .int x2, .int x3] : List Value).toArray below meth c H locs 0 0 (MQ below (va_Qv (fun (_ : Unit) => True) (fun _ t => pos1 D s.heap.size (wX3_find cI cL cS cH a_this a_this_net a_this_states a_this_steps a_this_seen a_this_net_near a_this_net_beside q_found q_goal q_isSteady q_net_nodes q_net_all q_net_edition q_seen q_states q_steps) (wX3_find cI cL cS cH a_this a_this_net a_this_states a_this_steps a_this_seen a_this_net_near a_this_net_beside res.1 res.2.1 q_isSteady q_net_nodes q_net_all q_net_edition res.2.2.1 res.2.2.2.1 res.2.2.2.2) t) (va_A (wX3_find cI cL cS cH a_this a_this_net a_this_states a_this_steps a_this_seen a_this_net_near a_this_net_beside q_found q_goal q_isSteady q_net_nodes q_net_all q_net_edition q_seen q_states q_steps) s.heap.size)) ([.ref a_this, .int x1, .int x2, .int x3] : List Value).toArray s 0 0 (va_A (wX3_find cI cL cS cH a_this a_this_net a_this_states a_this_steps a_this_seen a_this_net_near a_this_net_beside q_found q_goal q_isSteady q_net_nodes q_net_all q_net_edition q_seen q_states q_steps) s.heap.size)) g
set_option maxHeartbeats 4000000 in
set_option maxRecDepth 100000 in
theorem mX3_find (l : Launch) (D : vg) (cI cL cS cH : ClassId) (sz : Nat) (a_this : Nat) (a_this_net : Nat) (a_this_states : Nat) (a_this_steps : Nat) (a_this_seen : Nat) (a_this_net_near : Nat) (a_this_net_beside : Nat) (q_found : Int32) (q_goal : Int32) (q_isSteady : Int32) (q_net_nodes : Int32) (q_net_all : Int32) (q_net_edition : Int32) (q_seen : Nat → Int64) (q_states : Nat → Int32) (q_steps : Nat → Int32) (x1 : Int32) (x2 : Int32) (x3 : Int32) {res : Int32 × Int32 × (Nat → Int64) × (Nat → Int32) × (Nat → Int32)} (hf : fX3_find q_found q_goal q_net_all q_seen q_states q_steps x1 x2 x3 = some res) : ctv l yX3_find wsX3_find ({ frames := 0, cells := 0, slots := 0, locals := 0 }) D (ty4 cI cL cS cH) sz [.ref a_this, .int x1, .int x2, .int x3] (wX3_find cI cL cS cH a_this a_this_net a_this_states a_this_steps a_this_seen a_this_net_near a_this_net_beside q_found q_goal q_isSteady q_net_nodes q_net_all q_net_edition q_seen q_states q_steps) (wX3_find cI cL cS cH a_this a_this_net a_this_states a_this_steps a_this_seen a_this_net_near a_this_net_beside res.1 res.2.1 q_isSteady q_net_nodes q_net_all q_net_edition res.2.2.1 res.2.2.2.1 res.2.2.2.2) := by
  refine Met.ofW (cc := cX3_find) (maxL := 7) (ret := none) (by decide) rfl ?_
  intro p e s m args below meth c s₁ B hml hv
  obtain ⟨rfl, hpre⟩ := hv
  obtain rfl := hpre.1
  have C : CallFix p m c cX3_find 7 s _ wsX3_find RX3 := ⟨B.exec, B.bytes, hml, findClass_of_methodNamed B.named, atoms_spec (ws := wsX3_find) B.pre⟩
  have hr := B.returns
  have hlocks := B.notSynchronized
  have w := wd_start hpre
  clear hpre B
  have hl := lv_entry ([.ref a_this, .int x1, .int x2, .int x3]) (n := 7) (Nat.le_of_ble_eq_true rfl)
  rw [lg_entry_eq]
  generalize (lg_sl ([.ref a_this, .int x1, .int x2, .int x3]) ++ List.replicate (7 - (lg_sl ([.ref a_this, .int x1, .int x2, .int x3])).length) Slot.unset).toArray = ls at hl ⊢
  have hl : lv_has ls 7 [(0, .ref a_this), (1, .int x1), (2, .int x2), (3, .int x3)] := hl
  unfold fX3_find at hf
  have hj110 : ∀ (k110_q_found : Int32) (k110_q_goal : Int32) (k110_q_seen : Nat → Int64) (k110_q_states : Nat → Int32) (k110_q_steps : Nat → Int32) (H : Heap) (locs : List Loc) (ls : Array Slot), wd D (ty4 cI cL cS cH) s (va_A (wX3_find cI cL cS cH a_this a_this_net a_this_states a_this_steps a_this_seen a_this_net_near a_this_net_beside q_found q_goal q_isSteady q_net_nodes q_net_all q_net_edition q_seen q_states q_steps) s.heap.size) s.heap H locs (wX3_find cI cL cS cH a_this a_this_net a_this_states a_this_steps a_this_seen a_this_net_near a_this_net_beside k110_q_found k110_q_goal q_isSteady q_net_nodes q_net_all q_net_edition k110_q_seen k110_q_states k110_q_steps) → lv_has ls 7 [(0, .ref a_this)] → jX3_find_110 q_net_all k110_q_found k110_q_goal k110_q_seen k110_q_states k110_q_steps = some res → gX3_find p l e s m below meth c D cI cL cS cH a_this a_this_net a_this_states a_this_steps a_this_seen a_this_net_near a_this_net_beside q_found q_goal q_isSteady q_net_nodes q_net_all q_net_edition q_seen q_states q_steps x1 x2 x3 res H locs (F0 m 110 ls []) := by
    intro k110_q_found k110_q_goal k110_q_seen k110_q_states k110_q_steps H locs ls w hl hf
    unfold jX3_find_110 at hf
    refine lv_aload_n C.1 C.2.1 dX3_find_110 rfl (lv_at hl 0 rfl) ?_
    refine lv_dup C.1 C.2.1 dX3_find_111 rfl ?_
    refine r_get C w inX3_find_X3 0 rfl rfl 4 (by decide) lkX3_find_29 rfl dX3_find_112 ?_
    refine lv_iconst (v := (1 : Int32)) C.1 C.2.1 dX3_find_115 (by decide) ?_
    refine lv_iadd C.1 C.2.1 dX3_find_116 ?_
    refine r_put (ws' := (wX3_find cI cL cS cH a_this a_this_net a_this_states a_this_steps a_this_seen a_this_net_near a_this_net_beside (k110_q_found + (1 : Int32)) k110_q_goal q_isSteady q_net_nodes q_net_all q_net_edition k110_q_seen k110_q_states k110_q_steps)) C w inX3_find_X3 tyX3 tyX3_ok nmX3 0 rfl rfl 4 (by decide) lkX3_find_29 rfl rfl rfl (Nat.le_of_ble_eq_true rfl) rfl dX3_find_117 (fun H locs w => ?_)
    have hres := Option.some.inj hf
    subst hres
    exact ret_v C hr hlocks w dX3_find_120
  refine lv_iload_n C.1 C.2.1 dX3_find_0 rfl (lv_at hl 1 rfl) ?_
  refine lv_sipush (v := (128 : Int32)) C.1 C.2.1 dX3_find_1 (by decide) ?_
  refine lv_imul C.1 C.2.1 dX3_find_4 ?_
  refine lv_iload_n C.1 C.2.1 dX3_find_5 rfl (lv_at hl 2 rfl) ?_
  refine lv_iadd C.1 C.2.1 dX3_find_6 ?_
  obtain ⟨y1, hy2, hf⟩ := bnd_e hf
  refine lt_topi hy2 ?_
  refine lv_istore (lv' := [(4, .int y1), (0, .ref a_this), (1, .int x1), (2, .int x2), (3, .int x3)]) C.1 C.2.1 dX3_find_7 hl (by decide) rfl (fun ls hl => ?_)
  refine lv_lconst (v := (1 : Int64)) C.1 C.2.1 dX3_find_9 (by decide) ?_
  refine lv_iload C.1 C.2.1 dX3_find_10 (lv_at hl 0 rfl) ?_
  refine lv_bipush (v := (63 : Int32)) C.1 C.2.1 dX3_find_12 (by decide) ?_
  refine lv_iand C.1 C.2.1 dX3_find_14 ?_
  refine lv_lshl C.1 C.2.1 dX3_find_15 rfl ?_
  obtain ⟨y3, hy4, hf⟩ := bnd_e hf
  refine lt_topl hy4 ?_
  refine lv_lstore (lv' := [(5, .long y3), (4, .int y1), (0, .ref a_this), (1, .int x1), (2, .int x2), (3, .int x3)]) C.1 C.2.1 dX3_find_16 hl (by decide) rfl (fun ls hl => ?_)
  refine lv_aload_n C.1 C.2.1 dX3_find_18 rfl (lv_at hl 2 rfl) ?_
  refine r_get C w inX3_find_X3 0 rfl rfl 4 (by decide) lkX3_find_29 rfl dX3_find_19 ?_
  refine lv_sipush (v := (2187 : Int32)) C.1 C.2.1 dX3_find_22 (by decide) ?_
  refine lv_icmp_ge (tgt := 46) C.1 C.2.1 dX3_find_25 (by decide) (fun hq5 => ?_) (fun hq5 => ?_)
  · have hf := ite_t hf hq5
    have hres := Option.some.inj hf
    subst hres
    exact ret_v C hr hlocks w dX3_find_46
  · have hf := ite_f hf hq5
    refine lv_aload_n C.1 C.2.1 dX3_find_28 rfl (lv_at hl 2 rfl) ?_
    refine r_get C w inX3_find_X3 0 rfl rfl 3 (by decide) lkX3_find_25 rfl dX3_find_29 ?_
    refine lv_iload C.1 C.2.1 dX3_find_32 (lv_at hl 1 rfl) ?_
    refine lv_bipush (v := (6 : Int32)) C.1 C.2.1 dX3_find_34 (by decide) ?_
    refine lv_ishr C.1 C.2.1 dX3_find_36 ?_
    obtain ⟨y6, hy7, hf⟩ := bd hf
    refine r_lald C w 2 1 rfl rfl (rd_in hy7) dX3_find_37 ?_
    refine lv_lload C.1 C.2.1 dX3_find_38 (lv_at hl 0 rfl) ?_
    refine lv_land C.1 C.2.1 dX3_find_40 ?_
    refine lv_lconst (v := (0 : Int64)) C.1 C.2.1 dX3_find_41 (by decide) ?_
    refine W.lcmp C.1 C.2.1 dX3_find_42 ?_
    refine lv_if_eq (tgt := 47) C.1 C.2.1 dX3_find_43 (by decide) (fun hq8 => ?_) (fun hq8 => ?_)
    · have hf := ite_t hf hq8
      refine lv_aload_n C.1 C.2.1 dX3_find_47 rfl (lv_at hl 2 rfl) ?_
      refine r_get C w inX3_find_X3 0 rfl rfl 3 (by decide) lkX3_find_25 rfl dX3_find_48 ?_
      refine lv_iload C.1 C.2.1 dX3_find_51 (lv_at hl 1 rfl) ?_
      refine lv_bipush (v := (6 : Int32)) C.1 C.2.1 dX3_find_53 (by decide) ?_
      refine lv_ishr C.1 C.2.1 dX3_find_55 ?_
      refine lv_dup2_11 C.1 C.2.1 dX3_find_56 rfl rfl ?_
      obtain ⟨y9, hy10, hf⟩ := bd hf
      refine r_lald C w 2 1 rfl rfl (rd_in hy10) dX3_find_57 ?_
      refine lv_lload C.1 C.2.1 dX3_find_58 (lv_at hl 0 rfl) ?_
      refine lv_lor C.1 C.2.1 dX3_find_60 ?_
      obtain ⟨g11, hg12, hf⟩ := bd hf
      refine r_last (ws' := (wX3_find cI cL cS cH a_this a_this_net a_this_states a_this_steps a_this_seen a_this_net_near a_this_net_beside q_found q_goal q_isSteady q_net_nodes q_net_all q_net_edition g11 q_states q_steps)) C w 2 1 rfl rfl (wl_in hg12) rfl dX3_find_61 (fun H locs w => ?_)
      refine lv_aload_n C.1 C.2.1 dX3_find_62 rfl (lv_at hl 2 rfl) ?_
      refine r_get C w inX3_find_X3 0 rfl rfl 1 (by decide) lkX3_find_18 rfl dX3_find_63 ?_
      refine lv_aload_n C.1 C.2.1 dX3_find_66 rfl (lv_at hl 2 rfl) ?_
      refine r_get C w inX3_find_X3 0 rfl rfl 4 (by decide) lkX3_find_29 rfl dX3_find_67 ?_
      refine lv_iload C.1 C.2.1 dX3_find_70 (lv_at hl 1 rfl) ?_
      obtain ⟨g13, hg14, hf⟩ := bd hf
      refine r_iast (ws' := (wX3_find cI cL cS cH a_this a_this_net a_this_states a_this_steps a_this_seen a_this_net_near a_this_net_beside q_found q_goal q_isSteady q_net_nodes q_net_all q_net_edition g11 g13 q_steps)) C w 3 0 rfl rfl (wi_in hg14) rfl dX3_find_72 (fun H locs w => ?_)
      refine lv_aload_n C.1 C.2.1 dX3_find_73 rfl (lv_at hl 2 rfl) ?_
      refine r_get C w inX3_find_X3 0 rfl rfl 2 (by decide) lkX3_find_22 rfl dX3_find_74 ?_
      refine lv_aload_n C.1 C.2.1 dX3_find_77 rfl (lv_at hl 2 rfl) ?_
      refine r_get C w inX3_find_X3 0 rfl rfl 4 (by decide) lkX3_find_29 rfl dX3_find_78 ?_
      refine lv_iload_n C.1 C.2.1 dX3_find_81 rfl (lv_at hl 5 rfl) ?_
      obtain ⟨g15, hg16, hf⟩ := bd hf
      refine r_iast (ws' := (wX3_find cI cL cS cH a_this a_this_net a_this_states a_this_steps a_this_seen a_this_net_near a_this_net_beside q_found q_goal q_isSteady q_net_nodes q_net_all q_net_edition g11 g13 g15)) C w 4 0 rfl rfl (wi_in hg16) rfl dX3_find_82 (fun H locs w => ?_)
      refine lv_aload_n C.1 C.2.1 dX3_find_83 rfl (lv_at hl 2 rfl) ?_
      refine r_get C w inX3_find_X3 0 rfl rfl 5 (by decide) lkX3_find_33 rfl dX3_find_84 ?_
      refine lv_iconst (v := (-1 : Int32)) C.1 C.2.1 dX3_find_87 (by decide) ?_
      refine lv_icmp_ne (tgt := 110) C.1 C.2.1 dX3_find_88 (by decide) (fun hq17 => ?_) (fun hq17 => ?_)
      · have hf := ite_f hf hq17
        exact hj110 q_found q_goal g11 g13 g15 _ _ _ w (lv_sub hl [2] rfl) hf
      · have hf := ite_t hf hq17
        refine lv_iload_n C.1 C.2.1 dX3_find_91 rfl (lv_at hl 3 rfl) ?_
        refine lv_aload_n C.1 C.2.1 dX3_find_92 rfl (lv_at hl 2 rfl) ?_
        refine r_get C w inX3_find_X3 0 rfl rfl 0 (by decide) lkX3_find_12 rfl dX3_find_93 ?_
        refine r_get C w inX3_find_X0 1 rfl rfl 1 (by decide) lkX3_find_77 rfl dX3_find_96 ?_
        refine lv_icmp_ne (tgt := 110) C.1 C.2.1 dX3_find_99 (by decide) (fun hq18 => ?_) (fun hq18 => ?_)
        · have hf := ite_f hf hq18
          exact hj110 q_found q_goal g11 g13 g15 _ _ _ w (lv_sub hl [2] rfl) hf
        · have hf := ite_t hf hq18
          refine lv_aload_n C.1 C.2.1 dX3_find_102 rfl (lv_at hl 2 rfl) ?_
          refine lv_aload_n C.1 C.2.1 dX3_find_103 rfl (lv_at hl 2 rfl) ?_
          refine r_get C w inX3_find_X3 0 rfl rfl 4 (by decide) lkX3_find_29 rfl dX3_find_104 ?_
          refine r_put (ws' := (wX3_find cI cL cS cH a_this a_this_net a_this_states a_this_steps a_this_seen a_this_net_near a_this_net_beside q_found q_found q_isSteady q_net_nodes q_net_all q_net_edition g11 g13 g15)) C w inX3_find_X3 tyX3 tyX3_ok nmX3 0 rfl rfl 5 (by decide) lkX3_find_33 rfl rfl rfl (Nat.le_of_ble_eq_true rfl) rfl dX3_find_107 (fun H locs w => ?_)
          exact hj110 q_found q_found g11 g13 g15 _ _ _ w (lv_sub hl [2] rfl) hf
    · have hf := ite_f hf hq8
      have hres := Option.some.inj hf
      subst hres
      exact ret_v C hr hlocks w dX3_find_46

set_option maxRecDepth 100000 in
theorem inX3_doEach_X3 : ∀ w ∈ u_ws RX3 TX3 7, w ∈ wsX3_doEach := by decide +kernel
set_option maxRecDepth 100000 in
theorem lkX3_doEach_12 : Cond.fieldLink RX3 12 "CleanNets$Search" "net" "LCleanNets$Net;" ∈ wsX3_doEach := by decide +kernel
set_option maxRecDepth 100000 in
theorem lkX3_doEach_36 : Cond.fieldLink RX3 36 "CleanNets$Search" "isSteady" "Z" ∈ wsX3_doEach := by decide +kernel
set_option maxRecDepth 100000 in
theorem lkX3_doEach_18 : Cond.fieldLink RX3 18 "CleanNets$Search" "states" "[I" ∈ wsX3_doEach := by decide +kernel
abbrev wX3_doEach (cI cL cS cH : ClassId) (a_this : Nat) (a_this_net : Nat) (a_this_states : Nat) (a_this_steps : Nat) (a_this_seen : Nat) (a_this_net_near : Nat) (a_this_net_beside : Nat) (q_found : Int32) (q_goal : Int32) (q_isSteady : Int32) (q_net_nodes : Int32) (q_net_all : Int32) (q_net_edition : Int32) (q_net_beside : Nat → Int32) (q_seen : Nat → Int64) (q_states : Nat → Int32) (q_steps : Nat → Int32) : va_W := [(a_this, .inr (3, [.ref a_this_net, .ref a_this_states, .ref a_this_steps, .ref a_this_seen, .int q_found, .int q_goal, .int q_isSteady])),
  (a_this_net, .inr (0, [.int q_net_nodes, .int q_net_all, .int q_net_edition, .ref a_this_net_near, .ref a_this_net_beside])),
  (a_this_net_beside, .inl (cI, 128, .inl q_net_beside)),
  (a_this_seen, .inl (cL, 256, .inr (.inl q_seen))),
  (a_this_states, .inl (cI, 2187, .inl q_states)),
  (a_this_steps, .inl (cI, 2187, .inl q_steps))]
def jX3_doEach_111 (q_isSteady : Int32) (q_net_all : Int32) (q_net_beside : Nat → Int32) (y27_1 : Int32) (y27_2 : Int32) (y27_3 : Int32) (y27_4 : Int32) (y27_5 : Int32) (y111_6 : Int32) (k111_q_found : Int32) (k111_q_goal : Int32) (k111_q_seen : Nat → Int64) (k111_q_states : Nat → Int32) (k111_q_steps : Nat → Int32) : Option ((Int32 × Int32 × Int32 × (Nat → Int64) × (Nat → Int32) × (Nat → Int32)) ⊕ (Int32 × Int32 × Int32 × (Nat → Int64) × (Nat → Int32) × (Nat → Int32))) := some (.inl ((y111_6 + (1 : Int32)), k111_q_found, k111_q_goal, k111_q_seen, k111_q_states, k111_q_steps))
def jX3_doEach_94 (q_isSteady : Int32) (q_net_all : Int32) (q_net_beside : Nat → Int32) (y27_1 : Int32) (y27_2 : Int32) (y27_3 : Int32) (y27_4 : Int32) (y27_5 : Int32) (y94_6 : Int32) (y94_7 : Int32) (y94_8 : Int32) (k94_q_found : Int32) (k94_q_goal : Int32) (k94_q_seen : Nat → Int64) (k94_q_states : Nat → Int32) (k94_q_steps : Nat → Int32) : Option ((Int32 × Int32 × Int32 × (Nat → Int64) × (Nat → Int32) × (Nat → Int32)) ⊕ (Int32 × Int32 × Int32 × (Nat → Int64) × (Nat → Int32) × (Nat → Int32))) := Option.bind (fX3_find k94_q_found k94_q_goal q_net_all k94_q_seen k94_q_states k94_q_steps y94_8 y94_7 ((y27_1 <<< ((8 : Int32) &&& 31)) ||| (y27_2 + y94_6))) (fun r1 => jX3_doEach_111 q_isSteady q_net_all q_net_beside y27_1 y27_2 y27_3 y27_4 y27_5 y94_6 r1.1 r1.2.1 r1.2.2.1 r1.2.2.2.1 r1.2.2.2.2)
def bX3_doEach_27 (q_isSteady : Int32) (q_net_all : Int32) (q_net_beside : Nat → Int32) (y27_1 : Int32) (y27_2 : Int32) (y27_3 : Int32) (y27_4 : Int32) (y27_5 : Int32) (v27 : Int32 × Int32 × Int32 × (Nat → Int64) × (Nat → Int32) × (Nat → Int32)) : Option ((Int32 × Int32 × Int32 × (Nat → Int64) × (Nat → Int32) × (Nat → Int32)) ⊕ (Int32 × Int32 × Int32 × (Nat → Int64) × (Nat → Int32) × (Nat → Int32))) := (if (y27_3 >>> (v27.1 &&& 31)) = 0 then some (.inr (v27.1, v27.2.1, v27.2.2.1, v27.2.2.2.1, v27.2.2.2.2.1, v27.2.2.2.2.2)) else (if (7 : Int32) ≤ v27.1 then some (.inr (v27.1, v27.2.1, v27.2.2.1, v27.2.2.2.1, v27.2.2.2.2.1, v27.2.2.2.2.2)) else Option.bind (fX7_has y27_3 v27.1) (fun r5 => (if r5 = 0 then jX3_doEach_111 q_isSteady q_net_all q_net_beside y27_1 y27_2 y27_3 y27_4 y27_5 v27.1 v27.2.1 v27.2.2.1 v27.2.2.2.1 v27.2.2.2.2.1 v27.2.2.2.2.2 else Option.bind (fX0_guardsAfter (y27_2 + v27.1) y27_5) (fun r8 => Option.bind (fX0_settled q_net_all q_net_beside (y27_4 ||| r8) r8) (fun r10 => (if q_isSteady = 0 then jX3_doEach_94 q_isSteady q_net_all q_net_beside y27_1 y27_2 y27_3 y27_4 y27_5 v27.1 r8 r10 v27.2.1 v27.2.2.1 v27.2.2.2.1 v27.2.2.2.2.1 v27.2.2.2.2.2 else (if (y27_4 &&& (r10 ^^^ (-1 : Int32))) = 0 then jX3_doEach_94 q_isSteady q_net_all q_net_beside y27_1 y27_2 y27_3 y27_4 y27_5 v27.1 r8 r10 v27.2.1 v27.2.2.1 v27.2.2.2.1 v27.2.2.2.2.1 v27.2.2.2.2.2 else jX3_doEach_111 q_isSteady q_net_all q_net_beside y27_1 y27_2 y27_3 y27_4 y27_5 v27.1 v27.2.1 v27.2.2.1 v27.2.2.2.1 v27.2.2.2.2.1 v27.2.2.2.2.2))))))))
def fX3_doEach (q_found : Int32) (q_goal : Int32) (q_isSteady : Int32) (q_net_all : Int32) (q_net_beside : Nat → Int32) (q_seen : Nat → Int64) (q_states : Nat → Int32) (q_steps : Nat → Int32) (x1 : Int32) (x2 : Int32) (x3 : Int32) : Option (Int32 × Int32 × (Nat → Int64) × (Nat → Int32) × (Nat → Int32)) := Option.bind (rd q_states 2187 x1) (fun y14 => Option.bind (rd q_states 2187 x1) (fun y16 => bnd (y16 - y16 / (128 : Int32) * (128 : Int32)) (fun y18 => Option.bind (itL (bX3_doEach_27 q_isSteady q_net_all q_net_beside x1 x2 x3 (y14 / (128 : Int32)) y18) fu ((0 : Int32), q_found, q_goal, q_seen, q_states, q_steps)) (fun ex20 => some (ex20.2.1, ex20.2.2.1, ex20.2.2.2.1, ex20.2.2.2.2.1, ex20.2.2.2.2.2)))))
abbrev gX3_doEach (p : Program) (l : Launch) (e : Env) (s : State) (m : MethodId) (below : List Frame) (meth : Method) (c : Code) (D : vg) (cI cL cS cH : ClassId) (a_this : Nat) (a_this_net : Nat) (a_this_states : Nat) (a_this_steps : Nat) (a_this_seen : Nat) (a_this_net_near : Nat) (a_this_net_beside : Nat) (q_found : Int32) (q_goal : Int32) (q_isSteady : Int32) (q_net_nodes : Int32) (q_net_all : Int32) (q_net_edition : Int32) (q_net_beside : Nat → Int32) (q_seen : Nat → Int64) (q_states : Nat → Int32) (q_steps : Nat → Int32) (x1 : Int32) (x2 : Int32) (x3 : Int32) (res : Int32 × Int32 × (Nat → Int64) × (Nat → Int32) × (Nat → Int32)) (H : Heap) (locs : List Loc) (g : JFrame) : Prop := W p l e (headSpec wsX3_doEach ({ frames := 1, cells := 0, slots := 0, locals := 26 })).room s m ([.ref a_this, .int x1, .int x2, .int x3] : List Value).toArray below meth c H locs 0 0 (MQ below (va_Qv (fun (_ : Unit) => True) (fun _ t => pos1 D s.heap.size (wX3_doEach cI cL cS cH a_this a_this_net a_this_states a_this_steps a_this_seen a_this_net_near a_this_net_beside q_found q_goal q_isSteady q_net_nodes q_net_all q_net_edition q_net_beside q_seen q_states q_steps) (wX3_doEach cI cL cS cH a_this a_this_net a_this_states a_this_steps a_this_seen a_this_net_near a_this_net_beside res.1 res.2.1 q_isSteady q_net_nodes q_net_all q_net_edition q_net_beside res.2.2.1 res.2.2.2.1 res.2.2.2.2) t) (va_A (wX3_doEach cI cL cS cH a_this a_this_net a_this_states a_this_steps a_this_seen a_this_net_near a_this_net_beside q_found q_goal q_isSteady q_net_nodes q_net_all q_net_edition q_net_beside q_seen q_states q_steps) s.heap.size)) ([.ref a_this, .int x1, .int x2, .int x3] : List Value).toArray s 0 0 (va_A (wX3_doEach cI cL cS cH a_this a_this_net a_this_states a_this_steps a_this_seen a_this_net_near a_this_net_beside q_found q_goal q_isSteady q_net_nodes q_net_all q_net_edition q_net_beside q_seen q_states q_steps) s.heap.size)) g
set_option maxHeartbeats 4000000 in
set_option maxRecDepth 100000 in
theorem mX3_doEach (l : Launch) (D : vg) (cI cL cS cH : ClassId) (sz : Nat) (a_this : Nat) (a_this_net : Nat) (a_this_states : Nat) (a_this_steps : Nat) (a_this_seen : Nat) (a_this_net_near : Nat) (a_this_net_beside : Nat) (q_found : Int32) (q_goal : Int32) (q_isSteady : Int32) (q_net_nodes : Int32) (q_net_all : Int32) (q_net_edition : Int32) (q_net_beside : Nat → Int32) (q_seen : Nat → Int64) (q_states : Nat → Int32) (q_steps : Nat → Int32) (x1 : Int32) (x2 : Int32) (x3 : Int32) {res : Int32 × Int32 × (Nat → Int64) × (Nat → Int32) × (Nat → Int32)} (hf : fX3_doEach q_found q_goal q_isSteady q_net_all q_net_beside q_seen q_states q_steps x1 x2 x3 = some res) : ctv l yX3_doEach wsX3_doEach ({ frames := 1, cells := 0, slots := 0, locals := 26 }) D (ty4 cI cL cS cH) sz [.ref a_this, .int x1, .int x2, .int x3] (wX3_doEach cI cL cS cH a_this a_this_net a_this_states a_this_steps a_this_seen a_this_net_near a_this_net_beside q_found q_goal q_isSteady q_net_nodes q_net_all q_net_edition q_net_beside q_seen q_states q_steps) (wX3_doEach cI cL cS cH a_this a_this_net a_this_states a_this_steps a_this_seen a_this_net_near a_this_net_beside res.1 res.2.1 q_isSteady q_net_nodes q_net_all q_net_edition q_net_beside res.2.2.1 res.2.2.2.1 res.2.2.2.2) := by
  refine Met.ofW (cc := cX3_doEach) (maxL := 9) (ret := none) (by decide) rfl ?_
  intro p e s m args below meth c s₁ B hml hv
  obtain ⟨rfl, hpre⟩ := hv
  obtain rfl := hpre.1
  have C : CallFix p m c cX3_doEach 9 s _ wsX3_doEach RX3 := ⟨B.exec, B.bytes, hml, findClass_of_methodNamed B.named, atoms_spec (ws := wsX3_doEach) B.pre⟩
  have hr := B.returns
  have hlocks := B.notSynchronized
  have w := wd_start hpre
  clear hpre B
  have hl := lv_entry ([.ref a_this, .int x1, .int x2, .int x3]) (n := 9) (Nat.le_of_ble_eq_true rfl)
  rw [lg_entry_eq]
  generalize (lg_sl ([.ref a_this, .int x1, .int x2, .int x3]) ++ List.replicate (9 - (lg_sl ([.ref a_this, .int x1, .int x2, .int x3])).length) Slot.unset).toArray = ls at hl ⊢
  have hl : lv_has ls 9 [(0, .ref a_this), (1, .int x1), (2, .int x2), (3, .int x3)] := hl
  unfold fX3_doEach at hf
  have hlp27 : ∀ (y27_1 : Int32) (y27_2 : Int32) (y27_3 : Int32) (y27_4 : Int32) (y27_5 : Int32) (ex27 : Int32 × Int32 × Int32 × (Nat → Int64) × (Nat → Int32) × (Nat → Int32)) (hk : (∀ (H : Heap) (locs : List Loc) (ls : Array Slot), wd D (ty4 cI cL cS cH) s (va_A (wX3_doEach cI cL cS cH a_this a_this_net a_this_states a_this_steps a_this_seen a_this_net_near a_this_net_beside q_found q_goal q_isSteady q_net_nodes q_net_all q_net_edition q_net_beside q_seen q_states q_steps) s.heap.size) s.heap H locs (wX3_doEach cI cL cS cH a_this a_this_net a_this_states a_this_steps a_this_seen a_this_net_near a_this_net_beside ex27.2.1 ex27.2.2.1 q_isSteady q_net_nodes q_net_all q_net_edition q_net_beside ex27.2.2.2.1 ex27.2.2.2.2.1 ex27.2.2.2.2.2) → lv_has ls 9 [] → gX3_doEach p l e s m below meth c D cI cL cS cH a_this a_this_net a_this_states a_this_steps a_this_seen a_this_net_near a_this_net_beside q_found q_goal q_isSteady q_net_nodes q_net_all q_net_edition q_net_beside q_seen q_states q_steps x1 x2 x3 res H locs (F0 m 117 ls []))) (n : Nat) (v27 : Int32 × Int32 × Int32 × (Nat → Int64) × (Nat → Int32) × (Nat → Int32)) (H : Heap) (locs : List Loc) (ls : Array Slot), itL (bX3_doEach_27 q_isSteady q_net_all q_net_beside y27_1 y27_2 y27_3 y27_4 y27_5) n v27 = some ex27 → wd D (ty4 cI cL cS cH) s (va_A (wX3_doEach cI cL cS cH a_this a_this_net a_this_states a_this_steps a_this_seen a_this_net_near a_this_net_beside q_found q_goal q_isSteady q_net_nodes q_net_all q_net_edition q_net_beside q_seen q_states q_steps) s.heap.size) s.heap H locs (wX3_doEach cI cL cS cH a_this a_this_net a_this_states a_this_steps a_this_seen a_this_net_near a_this_net_beside v27.2.1 v27.2.2.1 q_isSteady q_net_nodes q_net_all q_net_edition q_net_beside v27.2.2.2.1 v27.2.2.2.2.1 v27.2.2.2.2.2) → lv_has ls 9 [(0, .ref a_this), (1, .int y27_1), (2, .int y27_2), (3, .int y27_3), (4, .int y27_4), (5, .int y27_5), (6, .int v27.1)] → gX3_doEach p l e s m below meth c D cI cL cS cH a_this a_this_net a_this_states a_this_steps a_this_seen a_this_net_near a_this_net_beside q_found q_goal q_isSteady q_net_nodes q_net_all q_net_edition q_net_beside q_seen q_states q_steps x1 x2 x3 res H locs (F0 m 27 ls []) := by
    intro y27_1 y27_2 y27_3 y27_4 y27_5 ex27 hk n
    induction n with
    | zero => intro v27 H locs ls hi w hl; exact (itL_zero hi).elim
    | succ n ih =>
      intro v27 H locs ls hi w hl
      obtain ⟨o, hf, hn⟩ := itL_succ hi
      unfold bX3_doEach_27 at hf
      have hj111 : ∀ (y111_6 : Int32) (k111_q_found : Int32) (k111_q_goal : Int32) (k111_q_seen : Nat → Int64) (k111_q_states : Nat → Int32) (k111_q_steps : Nat → Int32) (H : Heap) (locs : List Loc) (ls : Array Slot), wd D (ty4 cI cL cS cH) s (va_A (wX3_doEach cI cL cS cH a_this a_this_net a_this_states a_this_steps a_this_seen a_this_net_near a_this_net_beside q_found q_goal q_isSteady q_net_nodes q_net_all q_net_edition q_net_beside q_seen q_states q_steps) s.heap.size) s.heap H locs (wX3_doEach cI cL cS cH a_this a_this_net a_this_states a_this_steps a_this_seen a_this_net_near a_this_net_beside k111_q_found k111_q_goal q_isSteady q_net_nodes q_net_all q_net_edition q_net_beside k111_q_seen k111_q_states k111_q_steps) → lv_has ls 9 [(0, .ref a_this), (1, .int y27_1), (2, .int y27_2), (3, .int y27_3), (4, .int y27_4), (5, .int y27_5), (6, .int y111_6)] → jX3_doEach_111 q_isSteady q_net_all q_net_beside y27_1 y27_2 y27_3 y27_4 y27_5 y111_6 k111_q_found k111_q_goal k111_q_seen k111_q_states k111_q_steps = some o → gX3_doEach p l e s m below meth c D cI cL cS cH a_this a_this_net a_this_states a_this_steps a_this_seen a_this_net_near a_this_net_beside q_found q_goal q_isSteady q_net_nodes q_net_all q_net_edition q_net_beside q_seen q_states q_steps x1 x2 x3 res H locs (F0 m 111 ls []) := by
        intro y111_6 k111_q_found k111_q_goal k111_q_seen k111_q_states k111_q_steps H locs ls w hl hf
        unfold jX3_doEach_111 at hf
        refine lv_iinc (v := (y111_6 + (1 : Int32))) (lv' := [(6, .int (y111_6 + (1 : Int32))), (0, .ref a_this), (1, .int y27_1), (2, .int y27_2), (3, .int y27_3), (4, .int y27_4), (5, .int y27_5)]) C.1 C.2.1 dX3_doEach_111 hl (k := 6) rfl rfl (by decide) rfl (fun ls hl => ?_)
        refine lv_goto (tgt := 27) C.1 C.2.1 dX3_doEach_114 (by decide) ?_
        obtain rfl := Option.some.inj hf
        exact ih ((y111_6 + (1 : Int32)), k111_q_found, k111_q_goal, k111_q_seen, k111_q_states, k111_q_steps) _ _ _ hn w (lv_sub hl [1, 2, 3, 4, 5, 6, 0] rfl)
      have hj94 : ∀ (y94_6 : Int32) (y94_7 : Int32) (y94_8 : Int32) (k94_q_found : Int32) (k94_q_goal : Int32) (k94_q_seen : Nat → Int64) (k94_q_states : Nat → Int32) (k94_q_steps : Nat → Int32) (H : Heap) (locs : List Loc) (ls : Array Slot), wd D (ty4 cI cL cS cH) s (va_A (wX3_doEach cI cL cS cH a_this a_this_net a_this_states a_this_steps a_this_seen a_this_net_near a_this_net_beside q_found q_goal q_isSteady q_net_nodes q_net_all q_net_edition q_net_beside q_seen q_states q_steps) s.heap.size) s.heap H locs (wX3_doEach cI cL cS cH a_this a_this_net a_this_states a_this_steps a_this_seen a_this_net_near a_this_net_beside k94_q_found k94_q_goal q_isSteady q_net_nodes q_net_all q_net_edition q_net_beside k94_q_seen k94_q_states k94_q_steps) → lv_has ls 9 [(0, .ref a_this), (1, .int y27_1), (2, .int y27_2), (3, .int y27_3), (4, .int y27_4), (5, .int y27_5), (6, .int y94_6), (7, .int y94_7), (8, .int y94_8)] → jX3_doEach_94 q_isSteady q_net_all q_net_beside y27_1 y27_2 y27_3 y27_4 y27_5 y94_6 y94_7 y94_8 k94_q_found k94_q_goal k94_q_seen k94_q_states k94_q_steps = some o → gX3_doEach p l e s m below meth c D cI cL cS cH a_this a_this_net a_this_states a_this_steps a_this_seen a_this_net_near a_this_net_beside q_found q_goal q_isSteady q_net_nodes q_net_all q_net_edition q_net_beside q_seen q_states q_steps x1 x2 x3 res H locs (F0 m 94 ls []) := by
        intro y94_6 y94_7 y94_8 k94_q_found k94_q_goal k94_q_seen k94_q_states k94_q_steps H locs ls w hl hf
        unfold jX3_doEach_94 at hf
        refine lv_aload_n C.1 C.2.1 dX3_doEach_94 rfl (lv_at hl 0 rfl) ?_
        refine lv_iload C.1 C.2.1 dX3_doEach_95 (lv_at hl 8 rfl) ?_
        refine lv_iload C.1 C.2.1 dX3_doEach_97 (lv_at hl 7 rfl) ?_
        refine lv_iload_n C.1 C.2.1 dX3_doEach_99 rfl (lv_at hl 1 rfl) ?_
        refine lv_bipush (v := (8 : Int32)) C.1 C.2.1 dX3_doEach_100 (by decide) ?_
        refine lv_ishl C.1 C.2.1 dX3_doEach_102 ?_
        refine lv_iload_n C.1 C.2.1 dX3_doEach_103 rfl (lv_at hl 2 rfl) ?_
        refine lv_iload C.1 C.2.1 dX3_doEach_104 (lv_at hl 6 rfl) ?_
        refine lv_iadd C.1 C.2.1 dX3_doEach_106 ?_
        refine lv_ior C.1 C.2.1 dX3_doEach_107 ?_
        obtain ⟨r1, hc2, hf⟩ := bd hf
        refine call_Vv (ws' := (wX3_doEach cI cL cS cH a_this a_this_net a_this_states a_this_steps a_this_seen a_this_net_near a_this_net_beside r1.1 r1.2.1 q_isSteady q_net_nodes q_net_all q_net_edition q_net_beside r1.2.2.1 r1.2.2.2.1 r1.2.2.2.2)) (rest := []) C w (mX3_find l D cI cL cS cH _ a_this a_this_net a_this_states a_this_steps a_this_seen a_this_net_near a_this_net_beside k94_q_found k94_q_goal q_isSteady q_net_nodes q_net_all q_net_edition k94_q_seen k94_q_states k94_q_steps y94_8 y94_7 ((y27_1 <<< ((8 : Int32) &&& 31)) ||| (y27_2 + y94_6)) hc2) (cwV 3 C.2.2.2.2 gX3_doEach_X3_find rfl rfl rfl (by decide +kernel) ⟨Nat.le_of_ble_eq_true rfl, Nat.le_of_ble_eq_true rfl⟩) [0, 1, 3, 4, 5] [2] 6 ⟨rfl, rfl, rfl, rfl, rfl, trivial⟩ ⟨rfl, rfl, rfl, rfl, rfl, trivial⟩ ⟨⟨_, rfl, rfl⟩, trivial⟩ rfl (by decide) (by decide) (ci := 3) (q0 := 0) rfl rfl rfl hl.1 rfl (lv_room (Nat.le_of_ble_eq_true rfl)) dX3_doEach_108 ⟨Nat.zero_le _, Nat.zero_le _⟩ (fun H locs w => ?_)
        exact hj111 y94_6 r1.1 r1.2.1 r1.2.2.1 r1.2.2.2.1 r1.2.2.2.2 _ _ _ w (lv_sub hl [0, 1, 2, 3, 4, 5, 6] rfl) hf
      refine lv_iload_n C.1 C.2.1 dX3_doEach_27 rfl (lv_at hl 3 rfl) ?_
      refine lv_iload C.1 C.2.1 dX3_doEach_28 (lv_at hl 6 rfl) ?_
      refine lv_ishr C.1 C.2.1 dX3_doEach_30 ?_
      refine lv_if_eq (tgt := 117) C.1 C.2.1 dX3_doEach_31 (by decide) (fun hq3 => ?_) (fun hq3 => ?_)
      · have hf := ite_t hf hq3
        obtain rfl := Option.some.inj hf
        obtain rfl := hn
        exact hk _ _ _ w (lv_sub hl [] rfl)
      · have hf := ite_f hf hq3
        refine lv_iload C.1 C.2.1 dX3_doEach_34 (lv_at hl 6 rfl) ?_
        refine lv_bipush (v := (7 : Int32)) C.1 C.2.1 dX3_doEach_36 (by decide) ?_
        refine lv_icmp_ge (tgt := 117) C.1 C.2.1 dX3_doEach_38 (by decide) (fun hq4 => ?_) (fun hq4 => ?_)
        · have hf := ite_t hf hq4
          obtain rfl := Option.some.inj hf
          obtain rfl := hn
          exact hk _ _ _ w (lv_sub hl [] rfl)
        · have hf := ite_f hf hq4
          refine lv_iload_n C.1 C.2.1 dX3_doEach_41 rfl (lv_at hl 3 rfl) ?_
          refine lv_iload C.1 C.2.1 dX3_doEach_42 (lv_at hl 6 rfl) ?_
          obtain ⟨r5, hc6, hf⟩ := bd hf
          refine call_Ni (ws' := (wX3_doEach cI cL cS cH a_this a_this_net a_this_states a_this_steps a_this_seen a_this_net_near a_this_net_beside v27.2.1 v27.2.2.1 q_isSteady q_net_nodes q_net_all q_net_edition q_net_beside v27.2.2.2.1 v27.2.2.2.2.1 v27.2.2.2.2.2)) (rest := []) C w (mX7_has l D cI cL cS cH _ y27_3 v27.1 hc6) ⟨va_cnB 2 C.2.2.2.2 gX3_doEach_X7_has_n68 rfl rfl rfl (w.1.2.1 (RX3, 68, yX7_has) (by decide +kernel)) (C.2.2.2.2 (.initialized RX7) (by decide +kernel)) (by decide +kernel) ⟨Nat.le_of_ble_eq_true rfl, Nat.le_of_ble_eq_true rfl⟩, C.2.2.2.2 (.static yX7_has) (by decide +kernel), trivial⟩ [] [0, 1, 2, 3, 4, 5] 6 trivial trivial ⟨⟨_, rfl, rfl⟩, ⟨_, rfl, rfl⟩, ⟨_, rfl, rfl⟩, ⟨_, rfl, rfl⟩, ⟨_, rfl, rfl⟩, ⟨_, rfl, rfl⟩, trivial⟩ rfl (by decide) (by decide) rfl hl.1 rfl (lv_room (Nat.le_of_ble_eq_true rfl)) dX3_doEach_44 ⟨Nat.zero_le _, Nat.zero_le _⟩ (fun H locs w => ?_)
          refine lv_if_eq (tgt := 111) C.1 C.2.1 dX3_doEach_47 (by decide) (fun hq7 => ?_) (fun hq7 => ?_)
          · have hf := ite_t hf hq7
            exact hj111 v27.1 v27.2.1 v27.2.2.1 v27.2.2.2.1 v27.2.2.2.2.1 v27.2.2.2.2.2 _ _ _ w (lv_sub hl [0, 1, 2, 3, 4, 5, 6] rfl) hf
          · have hf := ite_f hf hq7
            refine lv_iload_n C.1 C.2.1 dX3_doEach_50 rfl (lv_at hl 2 rfl) ?_
            refine lv_iload C.1 C.2.1 dX3_doEach_51 (lv_at hl 6 rfl) ?_
            refine lv_iadd C.1 C.2.1 dX3_doEach_53 ?_
            refine lv_iload C.1 C.2.1 dX3_doEach_54 (lv_at hl 5 rfl) ?_
            obtain ⟨r8, hc9, hf⟩ := bd hf
            refine call_Si (ws' := (wX3_doEach cI cL cS cH a_this a_this_net a_this_states a_this_steps a_this_seen a_this_net_near a_this_net_beside v27.2.1 v27.2.2.1 q_isSteady q_net_nodes q_net_all q_net_edition q_net_beside v27.2.2.2.1 v27.2.2.2.2.1 v27.2.2.2.2.2)) (rest := []) C w (mX0_guardsAfter l D cI cL cS cH _ (y27_2 + v27.1) y27_5 hc9) (va_cwS 2 C.2.2.2.2 gX3_doEach_X0_guardsAfter rfl rfl rfl (by decide +kernel) ⟨Nat.le_of_ble_eq_true rfl, Nat.le_of_ble_eq_true rfl⟩) [] [0, 1, 2, 3, 4, 5] 6 trivial trivial ⟨⟨_, rfl, rfl⟩, ⟨_, rfl, rfl⟩, ⟨_, rfl, rfl⟩, ⟨_, rfl, rfl⟩, ⟨_, rfl, rfl⟩, ⟨_, rfl, rfl⟩, trivial⟩ rfl (by decide) (by decide) rfl hl.1 rfl (lv_room (Nat.le_of_ble_eq_true rfl)) dX3_doEach_56 ⟨Nat.zero_le _, Nat.zero_le _⟩ (fun H locs w => ?_)
            refine lv_istore (lv' := [(7, .int r8), (0, .ref a_this), (1, .int y27_1), (2, .int y27_2), (3, .int y27_3), (4, .int y27_4), (5, .int y27_5), (6, .int v27.1)]) C.1 C.2.1 dX3_doEach_59 hl (by decide) rfl (fun ls hl => ?_)
            refine lv_aload_n C.1 C.2.1 dX3_doEach_61 rfl (lv_at hl 1 rfl) ?_
            refine r_get C w inX3_doEach_X3 0 rfl rfl 0 (by decide) lkX3_doEach_12 rfl dX3_doEach_62 ?_
            refine lv_iload C.1 C.2.1 dX3_doEach_65 (lv_at hl 5 rfl) ?_
            refine lv_iload C.1 C.2.1 dX3_doEach_67 (lv_at hl 0 rfl) ?_
            refine lv_ior C.1 C.2.1 dX3_doEach_69 ?_
            refine lv_iload C.1 C.2.1 dX3_doEach_70 (lv_at hl 0 rfl) ?_
            obtain ⟨r10, hc11, hf⟩ := bd hf
            refine call_Vi (ws' := (wX3_doEach cI cL cS cH a_this a_this_net a_this_states a_this_steps a_this_seen a_this_net_near a_this_net_beside v27.2.1 v27.2.2.1 q_isSteady q_net_nodes q_net_all q_net_edition q_net_beside v27.2.2.2.1 v27.2.2.2.2.1 v27.2.2.2.2.2)) (rest := []) C w (mX0_settled l D cI cL cS cH _ a_this_net a_this_net_near a_this_net_beside q_net_nodes q_net_all q_net_edition q_net_beside (y27_4 ||| r8) r8 hc11) (cwV 2 C.2.2.2.2 gX3_doEach_X0_settled rfl rfl rfl (by decide +kernel) ⟨Nat.le_of_ble_eq_true rfl, Nat.le_of_ble_eq_true rfl⟩) [1, 2] [0, 3, 4, 5] 6 ⟨rfl, rfl, trivial⟩ ⟨rfl, rfl, trivial⟩ ⟨⟨_, rfl, rfl⟩, ⟨_, rfl, rfl⟩, ⟨_, rfl, rfl⟩, ⟨_, rfl, rfl⟩, trivial⟩ rfl (by decide) (by decide) (ci := 0) (q0 := 1) rfl rfl rfl hl.1 rfl (lv_room (Nat.le_of_ble_eq_true rfl)) dX3_doEach_72 ⟨Nat.zero_le _, Nat.zero_le _⟩ (fun H locs w => ?_)
            refine lv_istore (lv' := [(8, .int r10), (7, .int r8), (0, .ref a_this), (1, .int y27_1), (2, .int y27_2), (3, .int y27_3), (4, .int y27_4), (5, .int y27_5), (6, .int v27.1)]) C.1 C.2.1 dX3_doEach_75 hl (by decide) rfl (fun ls hl => ?_)
            refine lv_aload_n C.1 C.2.1 dX3_doEach_77 rfl (lv_at hl 2 rfl) ?_
            refine r_get C w inX3_doEach_X3 0 rfl rfl 6 (by decide) lkX3_doEach_36 rfl dX3_doEach_78 ?_
            refine lv_if_eq (tgt := 94) C.1 C.2.1 dX3_doEach_81 (by decide) (fun hq12 => ?_) (fun hq12 => ?_)
            · have hf := ite_t hf hq12
              exact hj94 v27.1 r8 r10 v27.2.1 v27.2.2.1 v27.2.2.2.1 v27.2.2.2.2.1 v27.2.2.2.2.2 _ _ _ w (lv_sub hl [2, 3, 4, 5, 6, 7, 8, 1, 0] rfl) hf
            · have hf := ite_f hf hq12
              refine lv_iload C.1 C.2.1 dX3_doEach_84 (lv_at hl 6 rfl) ?_
              refine lv_iload C.1 C.2.1 dX3_doEach_86 (lv_at hl 0 rfl) ?_
              refine lv_iconst (v := (-1 : Int32)) C.1 C.2.1 dX3_doEach_88 (by decide) ?_
              refine lv_ixor C.1 C.2.1 dX3_doEach_89 ?_
              refine lv_iand C.1 C.2.1 dX3_doEach_90 ?_
              refine lv_if_ne (tgt := 111) C.1 C.2.1 dX3_doEach_91 (by decide) (fun hq13 => ?_) (fun hq13 => ?_)
              · have hf := ite_f hf hq13
                exact hj111 v27.1 v27.2.1 v27.2.2.1 v27.2.2.2.1 v27.2.2.2.2.1 v27.2.2.2.2.2 _ _ _ w (lv_sub hl [2, 3, 4, 5, 6, 7, 8] rfl) hf
              · have hf := ite_t hf hq13
                exact hj94 v27.1 r8 r10 v27.2.1 v27.2.2.1 v27.2.2.2.1 v27.2.2.2.2.1 v27.2.2.2.2.2 _ _ _ w (lv_sub hl [2, 3, 4, 5, 6, 7, 8, 1, 0] rfl) hf
  refine lv_aload_n C.1 C.2.1 dX3_doEach_0 rfl (lv_at hl 0 rfl) ?_
  refine r_get C w inX3_doEach_X3 0 rfl rfl 1 (by decide) lkX3_doEach_18 rfl dX3_doEach_1 ?_
  refine lv_iload_n C.1 C.2.1 dX3_doEach_4 rfl (lv_at hl 1 rfl) ?_
  obtain ⟨y14, hy15, hf⟩ := bd hf
  refine r_iald C w 4 0 rfl rfl (rd_in hy15) dX3_doEach_5 ?_
  refine lv_sipush (v := (128 : Int32)) C.1 C.2.1 dX3_doEach_6 (by decide) ?_
  refine lv_idiv C.1 C.2.1 dX3_doEach_9 (by decide) ?_
  refine lv_istore (lv' := [(4, .int (y14 / (128 : Int32))), (0, .ref a_this), (1, .int x1), (2, .int x2), (3, .int x3)]) C.1 C.2.1 dX3_doEach_10 hl (by decide) rfl (fun ls hl => ?_)
  refine lv_aload_n C.1 C.2.1 dX3_doEach_12 rfl (lv_at hl 1 rfl) ?_
  refine r_get C w inX3_doEach_X3 0 rfl rfl 1 (by decide) lkX3_doEach_18 rfl dX3_doEach_13 ?_
  refine lv_iload_n C.1 C.2.1 dX3_doEach_16 rfl (lv_at hl 2 rfl) ?_
  obtain ⟨y16, hy17, hf⟩ := bd hf
  refine r_iald C w 4 0 rfl rfl (rd_in hy17) dX3_doEach_17 ?_
  refine lv_sipush (v := (128 : Int32)) C.1 C.2.1 dX3_doEach_18 (by decide) ?_
  refine lv_irem C.1 C.2.1 dX3_doEach_21 (by decide) ?_
  obtain ⟨y18, hy19, hf⟩ := bnd_e hf
  refine lt_topi hy19 ?_
  refine lv_istore (lv' := [(5, .int y18), (4, .int (y14 / (128 : Int32))), (0, .ref a_this), (1, .int x1), (2, .int x2), (3, .int x3)]) C.1 C.2.1 dX3_doEach_22 hl (by decide) rfl (fun ls hl => ?_)
  refine lv_iconst (v := (0 : Int32)) C.1 C.2.1 dX3_doEach_24 (by decide) ?_
  refine lv_istore (lv' := [(6, .int (0 : Int32)), (5, .int y18), (4, .int (y14 / (128 : Int32))), (0, .ref a_this), (1, .int x1), (2, .int x2), (3, .int x3)]) C.1 C.2.1 dX3_doEach_25 hl (by decide) rfl (fun ls hl => ?_)
  obtain ⟨ex20, hx21, hf⟩ := bd hf
  refine hlp27 x1 x2 x3 (y14 / (128 : Int32)) y18 ex20 ?_ fu ((0 : Int32), q_found, q_goal, q_seen, q_states, q_steps) _ _ _ hx21 w (lv_sub hl [3, 4, 5, 6, 2, 1, 0] rfl)
  intro H locs ls w hl
  have hres := Option.some.inj hf
  subst hres
  exact ret_v C hr hlocks w dX3_doEach_117

set_option maxRecDepth 100000 in
theorem inX3_leave_X3 : ∀ w ∈ u_ws RX3 TX3 7, w ∈ wsX3_leave := by decide +kernel
set_option maxRecDepth 100000 in
theorem lkX3_leave_12 : Cond.fieldLink RX3 12 "CleanNets$Search" "net" "LCleanNets$Net;" ∈ wsX3_leave := by decide +kernel
set_option maxRecDepth 100000 in
theorem inX3_leave_X0 : ∀ w ∈ u_ws RX0 TX0 5, w ∈ wsX3_leave := by decide +kernel
set_option maxRecDepth 100000 in
theorem lkX3_leave_61 : Cond.fieldLink RX3 61 "CleanNets$Net" "nodes" "I" ∈ wsX3_leave := by decide +kernel
set_option maxRecDepth 100000 in
theorem lkX3_leave_18 : Cond.fieldLink RX3 18 "CleanNets$Search" "states" "[I" ∈ wsX3_leave := by decide +kernel
abbrev wX3_leave (cI cL cS cH : ClassId) (a_this : Nat) (a_this_net : Nat) (a_this_states : Nat) (a_this_steps : Nat) (a_this_seen : Nat) (a_this_net_near : Nat) (a_this_net_beside : Nat) (q_found : Int32) (q_goal : Int32) (q_isSteady : Int32) (q_net_nodes : Int32) (q_net_all : Int32) (q_net_edition : Int32) (q_net_beside : Nat → Int32) (q_net_near : Nat → Int32) (q_seen : Nat → Int64) (q_states : Nat → Int32) (q_steps : Nat → Int32) : va_W := [(a_this, .inr (3, [.ref a_this_net, .ref a_this_states, .ref a_this_steps, .ref a_this_seen, .int q_found, .int q_goal, .int q_isSteady])),
  (a_this_net, .inr (0, [.int q_net_nodes, .int q_net_all, .int q_net_edition, .ref a_this_net_near, .ref a_this_net_beside])),
  (a_this_net_beside, .inl (cI, 128, .inl q_net_beside)),
  (a_this_net_near, .inl (cI, 7, .inl q_net_near)),
  (a_this_seen, .inl (cL, 256, .inr (.inl q_seen))),
  (a_this_states, .inl (cI, 2187, .inl q_states)),
  (a_this_steps, .inl (cI, 2187, .inl q_steps))]
def bX3_leave_53 (q_isSteady : Int32) (q_net_nodes : Int32) (q_net_all : Int32) (q_net_beside : Nat → Int32) (q_net_near : Nat → Int32) (y53_1 : Int32) (y53_2 : Int32) (y53_4 : Int32) (v53 : Int32 × Int32 × Int32 × (Nat → Int64) × (Nat → Int32) × (Nat → Int32)) : Option ((Int32 × Int32 × Int32 × (Nat → Int64) × (Nat → Int32) × (Nat → Int32)) ⊕ (Int32 × Int32 × Int32 × (Nat → Int64) × (Nat → Int32) × (Nat → Int32))) := (if q_net_nodes ≤ v53.1 then some (.inr (v53.1, v53.2.1, v53.2.2.1, v53.2.2.2.1, v53.2.2.2.2.1, v53.2.2.2.2.2)) else (if y53_2 = (1 : Int32) then Option.bind (fX0_moves q_net_nodes q_net_near v53.1 y53_4 y53_2) (fun r3 => Option.bind (fX3_doEach v53.2.1 v53.2.2.1 q_isSteady q_net_all q_net_beside v53.2.2.2.1 v53.2.2.2.2.1 v53.2.2.2.2.2 y53_1 ((100 : Int32) + ((10 : Int32) * v53.1)) r3) (fun r5 => some (.inl ((v53.1 + (1 : Int32)), r5.1, r5.2.1, r5.2.2.1, r5.2.2.2.1, r5.2.2.2.2)))) else some (.inr (v53.1, v53.2.1, v53.2.2.1, v53.2.2.2.1, v53.2.2.2.2.1, v53.2.2.2.2.2))))
def jX3_leave_37 (q_isSteady : Int32) (q_net_nodes : Int32) (q_net_all : Int32) (q_net_beside : Nat → Int32) (q_net_near : Nat → Int32) (x1 : Int32) (x2 : Int32) (y37_4 : Int32) (k37_q_found : Int32) (k37_q_goal : Int32) (k37_q_seen : Nat → Int64) (k37_q_states : Nat → Int32) (k37_q_steps : Nat → Int32) : Option (Int32 × Int32 × (Nat → Int64) × (Nat → Int32) × (Nat → Int32)) := Option.bind (fX0_takes y37_4 x2) (fun r7 => Option.bind (fX3_doEach k37_q_found k37_q_goal q_isSteady q_net_all q_net_beside k37_q_seen k37_q_states k37_q_steps x1 (10 : Int32) r7) (fun r9 => Option.bind (itL (bX3_leave_53 q_isSteady q_net_nodes q_net_all q_net_beside q_net_near x1 x2 y37_4) fu ((0 : Int32), r9.1, r9.2.1, r9.2.2.1, r9.2.2.2.1, r9.2.2.2.2)) (fun ex11 => some (ex11.2.1, ex11.2.2.1, ex11.2.2.2.1, ex11.2.2.2.2.1, ex11.2.2.2.2.2))))
def fX3_leave (q_found : Int32) (q_goal : Int32) (q_isSteady : Int32) (q_net_nodes : Int32) (q_net_all : Int32) (q_net_beside : Nat → Int32) (q_net_near : Nat → Int32) (q_seen : Nat → Int64) (q_states : Nat → Int32) (q_steps : Nat → Int32) (x1 : Int32) (x2 : Int32) (x3 : Int32) : Option (Int32 × Int32 × (Nat → Int64) × (Nat → Int32) × (Nat → Int32)) := Option.bind (rd q_states 2187 x1) (fun y13 => bnd (y13 - y13 / (128 : Int32) * (128 : Int32)) (fun y15 => Option.bind (fX0_isFull y15 x3) (fun r17 => (if r17 = 0 then Option.bind (fX0_puts q_net_all q_net_beside y15 x2) (fun r20 => Option.bind (fX3_doEach q_found q_goal q_isSteady q_net_all q_net_beside q_seen q_states q_steps x1 (0 : Int32) r20) (fun r22 => jX3_leave_37 q_isSteady q_net_nodes q_net_all q_net_beside q_net_near x1 x2 y15 r22.1 r22.2.1 r22.2.2.1 r22.2.2.2.1 r22.2.2.2.2)) else jX3_leave_37 q_isSteady q_net_nodes q_net_all q_net_beside q_net_near x1 x2 y15 q_found q_goal q_seen q_states q_steps))))
abbrev gX3_leave (p : Program) (l : Launch) (e : Env) (s : State) (m : MethodId) (below : List Frame) (meth : Method) (c : Code) (D : vg) (cI cL cS cH : ClassId) (a_this : Nat) (a_this_net : Nat) (a_this_states : Nat) (a_this_steps : Nat) (a_this_seen : Nat) (a_this_net_near : Nat) (a_this_net_beside : Nat) (q_found : Int32) (q_goal : Int32) (q_isSteady : Int32) (q_net_nodes : Int32) (q_net_all : Int32) (q_net_edition : Int32) (q_net_beside : Nat → Int32) (q_net_near : Nat → Int32) (q_seen : Nat → Int64) (q_states : Nat → Int32) (q_steps : Nat → Int32) (x1 : Int32) (x2 : Int32) (x3 : Int32) (res : Int32 × Int32 × (Nat → Int64) × (Nat → Int32) × (Nat → Int32)) (H : Heap) (locs : List Loc) (g : JFrame) : Prop := W p l e (headSpec wsX3_leave ({ frames := 2, cells := 0, slots := 0, locals := 54 })).room s m ([.ref a_this, .int x1, .int x2, .int x3] : List Value).toArray below meth c H locs 0 0 (MQ below (va_Qv (fun (_ : Unit) => True) (fun _ t => pos1 D s.heap.size (wX3_leave cI cL cS cH a_this a_this_net a_this_states a_this_steps a_this_seen a_this_net_near a_this_net_beside q_found q_goal q_isSteady q_net_nodes q_net_all q_net_edition q_net_beside q_net_near q_seen q_states q_steps) (wX3_leave cI cL cS cH a_this a_this_net a_this_states a_this_steps a_this_seen a_this_net_near a_this_net_beside res.1 res.2.1 q_isSteady q_net_nodes q_net_all q_net_edition q_net_beside q_net_near res.2.2.1 res.2.2.2.1 res.2.2.2.2) t) (va_A (wX3_leave cI cL cS cH a_this a_this_net a_this_states a_this_steps a_this_seen a_this_net_near a_this_net_beside q_found q_goal q_isSteady q_net_nodes q_net_all q_net_edition q_net_beside q_net_near q_seen q_states q_steps) s.heap.size)) ([.ref a_this, .int x1, .int x2, .int x3] : List Value).toArray s 0 0 (va_A (wX3_leave cI cL cS cH a_this a_this_net a_this_states a_this_steps a_this_seen a_this_net_near a_this_net_beside q_found q_goal q_isSteady q_net_nodes q_net_all q_net_edition q_net_beside q_net_near q_seen q_states q_steps) s.heap.size)) g
set_option maxHeartbeats 4000000 in
set_option maxRecDepth 100000 in
theorem mX3_leave (l : Launch) (D : vg) (cI cL cS cH : ClassId) (sz : Nat) (a_this : Nat) (a_this_net : Nat) (a_this_states : Nat) (a_this_steps : Nat) (a_this_seen : Nat) (a_this_net_near : Nat) (a_this_net_beside : Nat) (q_found : Int32) (q_goal : Int32) (q_isSteady : Int32) (q_net_nodes : Int32) (q_net_all : Int32) (q_net_edition : Int32) (q_net_beside : Nat → Int32) (q_net_near : Nat → Int32) (q_seen : Nat → Int64) (q_states : Nat → Int32) (q_steps : Nat → Int32) (x1 : Int32) (x2 : Int32) (x3 : Int32) {res : Int32 × Int32 × (Nat → Int64) × (Nat → Int32) × (Nat → Int32)} (hf : fX3_leave q_found q_goal q_isSteady q_net_nodes q_net_all q_net_beside q_net_near q_seen q_states q_steps x1 x2 x3 = some res) : ctv l yX3_leave wsX3_leave ({ frames := 2, cells := 0, slots := 0, locals := 54 }) D (ty4 cI cL cS cH) sz [.ref a_this, .int x1, .int x2, .int x3] (wX3_leave cI cL cS cH a_this a_this_net a_this_states a_this_steps a_this_seen a_this_net_near a_this_net_beside q_found q_goal q_isSteady q_net_nodes q_net_all q_net_edition q_net_beside q_net_near q_seen q_states q_steps) (wX3_leave cI cL cS cH a_this a_this_net a_this_states a_this_steps a_this_seen a_this_net_near a_this_net_beside res.1 res.2.1 q_isSteady q_net_nodes q_net_all q_net_edition q_net_beside q_net_near res.2.2.1 res.2.2.2.1 res.2.2.2.2) := by
  refine Met.ofW (cc := cX3_leave) (maxL := 6) (ret := none) (by decide) rfl ?_
  intro p e s m args below meth c s₁ B hml hv
  obtain ⟨rfl, hpre⟩ := hv
  obtain rfl := hpre.1
  have C : CallFix p m c cX3_leave 6 s _ wsX3_leave RX3 := ⟨B.exec, B.bytes, hml, findClass_of_methodNamed B.named, atoms_spec (ws := wsX3_leave) B.pre⟩
  have hr := B.returns
  have hlocks := B.notSynchronized
  have w := wd_start hpre
  clear hpre B
  have hl := lv_entry ([.ref a_this, .int x1, .int x2, .int x3]) (n := 6) (Nat.le_of_ble_eq_true rfl)
  rw [lg_entry_eq]
  generalize (lg_sl ([.ref a_this, .int x1, .int x2, .int x3]) ++ List.replicate (6 - (lg_sl ([.ref a_this, .int x1, .int x2, .int x3])).length) Slot.unset).toArray = ls at hl ⊢
  have hl : lv_has ls 6 [(0, .ref a_this), (1, .int x1), (2, .int x2), (3, .int x3)] := hl
  unfold fX3_leave at hf
  have hlp53 : ∀ (y53_1 : Int32) (y53_2 : Int32) (y53_4 : Int32) (ex53 : Int32 × Int32 × Int32 × (Nat → Int64) × (Nat → Int32) × (Nat → Int32)) (hk : (∀ (H : Heap) (locs : List Loc) (ls : Array Slot), wd D (ty4 cI cL cS cH) s (va_A (wX3_leave cI cL cS cH a_this a_this_net a_this_states a_this_steps a_this_seen a_this_net_near a_this_net_beside q_found q_goal q_isSteady q_net_nodes q_net_all q_net_edition q_net_beside q_net_near q_seen q_states q_steps) s.heap.size) s.heap H locs (wX3_leave cI cL cS cH a_this a_this_net a_this_states a_this_steps a_this_seen a_this_net_near a_this_net_beside ex53.2.1 ex53.2.2.1 q_isSteady q_net_nodes q_net_all q_net_edition q_net_beside q_net_near ex53.2.2.2.1 ex53.2.2.2.2.1 ex53.2.2.2.2.2) → lv_has ls 6 [] → gX3_leave p l e s m below meth c D cI cL cS cH a_this a_this_net a_this_states a_this_steps a_this_seen a_this_net_near a_this_net_beside q_found q_goal q_isSteady q_net_nodes q_net_all q_net_edition q_net_beside q_net_near q_seen q_states q_steps x1 x2 x3 res H locs (F0 m 101 ls []))) (n : Nat) (v53 : Int32 × Int32 × Int32 × (Nat → Int64) × (Nat → Int32) × (Nat → Int32)) (H : Heap) (locs : List Loc) (ls : Array Slot), itL (bX3_leave_53 q_isSteady q_net_nodes q_net_all q_net_beside q_net_near y53_1 y53_2 y53_4) n v53 = some ex53 → wd D (ty4 cI cL cS cH) s (va_A (wX3_leave cI cL cS cH a_this a_this_net a_this_states a_this_steps a_this_seen a_this_net_near a_this_net_beside q_found q_goal q_isSteady q_net_nodes q_net_all q_net_edition q_net_beside q_net_near q_seen q_states q_steps) s.heap.size) s.heap H locs (wX3_leave cI cL cS cH a_this a_this_net a_this_states a_this_steps a_this_seen a_this_net_near a_this_net_beside v53.2.1 v53.2.2.1 q_isSteady q_net_nodes q_net_all q_net_edition q_net_beside q_net_near v53.2.2.2.1 v53.2.2.2.2.1 v53.2.2.2.2.2) → lv_has ls 6 [(0, .ref a_this), (1, .int y53_1), (2, .int y53_2), (4, .int y53_4), (5, .int v53.1)] → gX3_leave p l e s m below meth c D cI cL cS cH a_this a_this_net a_this_states a_this_steps a_this_seen a_this_net_near a_this_net_beside q_found q_goal q_isSteady q_net_nodes q_net_all q_net_edition q_net_beside q_net_near q_seen q_states q_steps x1 x2 x3 res H locs (F0 m 53 ls []) := by
    intro y53_1 y53_2 y53_4 ex53 hk n
    induction n with
    | zero => intro v53 H locs ls hi w hl; exact (itL_zero hi).elim
    | succ n ih =>
      intro v53 H locs ls hi w hl
      obtain ⟨o, hf, hn⟩ := itL_succ hi
      unfold bX3_leave_53 at hf
      refine lv_iload C.1 C.2.1 dX3_leave_53 (lv_at hl 4 rfl) ?_
      refine lv_aload_n C.1 C.2.1 dX3_leave_55 rfl (lv_at hl 0 rfl) ?_
      refine r_get C w inX3_leave_X3 0 rfl rfl 0 (by decide) lkX3_leave_12 rfl dX3_leave_56 ?_
      refine r_get C w inX3_leave_X0 1 rfl rfl 0 (by decide) lkX3_leave_61 rfl dX3_leave_59 ?_
      refine lv_icmp_ge (tgt := 101) C.1 C.2.1 dX3_leave_62 (by decide) (fun hq1 => ?_) (fun hq1 => ?_)
      · have hf := ite_t hf hq1
        obtain rfl := Option.some.inj hf
        obtain rfl := hn
        exact hk _ _ _ w (lv_sub hl [] rfl)
      · have hf := ite_f hf hq1
        refine lv_iload_n C.1 C.2.1 dX3_leave_65 rfl (lv_at hl 2 rfl) ?_
        refine lv_iconst (v := (1 : Int32)) C.1 C.2.1 dX3_leave_66 (by decide) ?_
        refine lv_icmp_ne (tgt := 101) C.1 C.2.1 dX3_leave_67 (by decide) (fun hq2 => ?_) (fun hq2 => ?_)
        · have hf := ite_f hf hq2
          obtain rfl := Option.some.inj hf
          obtain rfl := hn
          exact hk _ _ _ w (lv_sub hl [] rfl)
        · have hf := ite_t hf hq2
          refine lv_aload_n C.1 C.2.1 dX3_leave_70 rfl (lv_at hl 0 rfl) ?_
          refine lv_iload_n C.1 C.2.1 dX3_leave_71 rfl (lv_at hl 1 rfl) ?_
          refine lv_bipush (v := (100 : Int32)) C.1 C.2.1 dX3_leave_72 (by decide) ?_
          refine lv_bipush (v := (10 : Int32)) C.1 C.2.1 dX3_leave_74 (by decide) ?_
          refine lv_iload C.1 C.2.1 dX3_leave_76 (lv_at hl 4 rfl) ?_
          refine lv_imul C.1 C.2.1 dX3_leave_78 ?_
          refine lv_iadd C.1 C.2.1 dX3_leave_79 ?_
          refine lv_aload_n C.1 C.2.1 dX3_leave_80 rfl (lv_at hl 0 rfl) ?_
          refine r_get C w inX3_leave_X3 0 rfl rfl 0 (by decide) lkX3_leave_12 rfl dX3_leave_81 ?_
          refine lv_iload C.1 C.2.1 dX3_leave_84 (lv_at hl 4 rfl) ?_
          refine lv_iload C.1 C.2.1 dX3_leave_86 (lv_at hl 3 rfl) ?_
          refine lv_iload_n C.1 C.2.1 dX3_leave_88 rfl (lv_at hl 2 rfl) ?_
          obtain ⟨r3, hc4, hf⟩ := bd hf
          refine call_Vi (ws' := (wX3_leave cI cL cS cH a_this a_this_net a_this_states a_this_steps a_this_seen a_this_net_near a_this_net_beside v53.2.1 v53.2.2.1 q_isSteady q_net_nodes q_net_all q_net_edition q_net_beside q_net_near v53.2.2.2.1 v53.2.2.2.2.1 v53.2.2.2.2.2)) (rest := [.int ((100 : Int32) + ((10 : Int32) * v53.1)), .int y53_1, .ref a_this]) C w (mX0_moves l D cI cL cS cH _ a_this_net a_this_net_near a_this_net_beside q_net_nodes q_net_all q_net_edition q_net_near v53.1 y53_4 y53_2 hc4) (cwV 3 C.2.2.2.2 gX3_leave_X0_moves rfl rfl rfl (by decide +kernel) ⟨Nat.le_of_ble_eq_true rfl, Nat.le_of_ble_eq_true rfl⟩) [1, 3] [0, 2, 4, 5, 6] 7 ⟨rfl, rfl, trivial⟩ ⟨rfl, rfl, trivial⟩ ⟨⟨_, rfl, rfl⟩, ⟨_, rfl, rfl⟩, ⟨_, rfl, rfl⟩, ⟨_, rfl, rfl⟩, ⟨_, rfl, rfl⟩, trivial⟩ rfl (by decide) (by decide) (ci := 0) (q0 := 1) rfl rfl rfl hl.1 rfl (lv_room (Nat.le_of_ble_eq_true rfl)) dX3_leave_89 ⟨Nat.zero_le _, Nat.zero_le _⟩ (fun H locs w => ?_)
          obtain ⟨r5, hc6, hf⟩ := bd hf
          refine call_Vv (ws' := (wX3_leave cI cL cS cH a_this a_this_net a_this_states a_this_steps a_this_seen a_this_net_near a_this_net_beside r5.1 r5.2.1 q_isSteady q_net_nodes q_net_all q_net_edition q_net_beside q_net_near r5.2.2.1 r5.2.2.2.1 r5.2.2.2.2)) (rest := []) C w (mX3_doEach l D cI cL cS cH _ a_this a_this_net a_this_states a_this_steps a_this_seen a_this_net_near a_this_net_beside v53.2.1 v53.2.2.1 q_isSteady q_net_nodes q_net_all q_net_edition q_net_beside v53.2.2.2.1 v53.2.2.2.2.1 v53.2.2.2.2.2 y53_1 ((100 : Int32) + ((10 : Int32) * v53.1)) r3 hc6) (cwV 3 C.2.2.2.2 gX3_leave_X3_doEach rfl rfl rfl (by decide +kernel) ⟨Nat.le_of_ble_eq_true rfl, Nat.le_of_ble_eq_true rfl⟩) [0, 1, 2, 4, 5, 6] [3] 7 ⟨rfl, rfl, rfl, rfl, rfl, rfl, trivial⟩ ⟨rfl, rfl, rfl, rfl, rfl, rfl, trivial⟩ ⟨⟨_, rfl, rfl⟩, trivial⟩ rfl (by decide) (by decide) (ci := 3) (q0 := 0) rfl rfl rfl hl.1 rfl (lv_room (Nat.le_of_ble_eq_true rfl)) dX3_leave_92 ⟨Nat.zero_le _, Nat.zero_le _⟩ (fun H locs w => ?_)
          refine lv_iinc (v := (v53.1 + (1 : Int32))) (lv' := [(5, .int (v53.1 + (1 : Int32))), (0, .ref a_this), (1, .int y53_1), (2, .int y53_2), (4, .int y53_4)]) C.1 C.2.1 dX3_leave_95 hl (k := 4) rfl rfl (by decide) rfl (fun ls hl => ?_)
          refine lv_goto (tgt := 53) C.1 C.2.1 dX3_leave_98 (by decide) ?_
          obtain rfl := Option.some.inj hf
          exact ih ((v53.1 + (1 : Int32)), r5.1, r5.2.1, r5.2.2.1, r5.2.2.2.1, r5.2.2.2.2) _ _ _ hn w (lv_sub hl [1, 2, 3, 4, 0] rfl)
  have hj37 : ∀ (y37_4 : Int32) (k37_q_found : Int32) (k37_q_goal : Int32) (k37_q_seen : Nat → Int64) (k37_q_states : Nat → Int32) (k37_q_steps : Nat → Int32) (H : Heap) (locs : List Loc) (ls : Array Slot), wd D (ty4 cI cL cS cH) s (va_A (wX3_leave cI cL cS cH a_this a_this_net a_this_states a_this_steps a_this_seen a_this_net_near a_this_net_beside q_found q_goal q_isSteady q_net_nodes q_net_all q_net_edition q_net_beside q_net_near q_seen q_states q_steps) s.heap.size) s.heap H locs (wX3_leave cI cL cS cH a_this a_this_net a_this_states a_this_steps a_this_seen a_this_net_near a_this_net_beside k37_q_found k37_q_goal q_isSteady q_net_nodes q_net_all q_net_edition q_net_beside q_net_near k37_q_seen k37_q_states k37_q_steps) → lv_has ls 6 [(0, .ref a_this), (1, .int x1), (2, .int x2), (4, .int y37_4)] → jX3_leave_37 q_isSteady q_net_nodes q_net_all q_net_beside q_net_near x1 x2 y37_4 k37_q_found k37_q_goal k37_q_seen k37_q_states k37_q_steps = some res → gX3_leave p l e s m below meth c D cI cL cS cH a_this a_this_net a_this_states a_this_steps a_this_seen a_this_net_near a_this_net_beside q_found q_goal q_isSteady q_net_nodes q_net_all q_net_edition q_net_beside q_net_near q_seen q_states q_steps x1 x2 x3 res H locs (F0 m 37 ls []) := by
    intro y37_4 k37_q_found k37_q_goal k37_q_seen k37_q_states k37_q_steps H locs ls w hl hf
    unfold jX3_leave_37 at hf
    refine lv_aload_n C.1 C.2.1 dX3_leave_37 rfl (lv_at hl 0 rfl) ?_
    refine lv_iload_n C.1 C.2.1 dX3_leave_38 rfl (lv_at hl 1 rfl) ?_
    refine lv_bipush (v := (10 : Int32)) C.1 C.2.1 dX3_leave_39 (by decide) ?_
    refine lv_iload C.1 C.2.1 dX3_leave_41 (lv_at hl 3 rfl) ?_
    refine lv_iload_n C.1 C.2.1 dX3_leave_43 rfl (lv_at hl 2 rfl) ?_
    obtain ⟨r7, hc8, hf⟩ := bd hf
    refine call_Si (ws' := (wX3_leave cI cL cS cH a_this a_this_net a_this_states a_this_steps a_this_seen a_this_net_near a_this_net_beside k37_q_found k37_q_goal q_isSteady q_net_nodes q_net_all q_net_edition q_net_beside q_net_near k37_q_seen k37_q_states k37_q_steps)) (rest := [.int (10 : Int32), .int x1, .ref a_this]) C w (mX0_takes l D cI cL cS cH _ y37_4 x2 hc8) (va_cwS 2 C.2.2.2.2 gX3_leave_X0_takes rfl rfl rfl (by decide +kernel) ⟨Nat.le_of_ble_eq_true rfl, Nat.le_of_ble_eq_true rfl⟩) [] [0, 1, 2, 3, 4, 5, 6] 7 trivial trivial ⟨⟨_, rfl, rfl⟩, ⟨_, rfl, rfl⟩, ⟨_, rfl, rfl⟩, ⟨_, rfl, rfl⟩, ⟨_, rfl, rfl⟩, ⟨_, rfl, rfl⟩, ⟨_, rfl, rfl⟩, trivial⟩ rfl (by decide) (by decide) rfl hl.1 rfl (lv_room (Nat.le_of_ble_eq_true rfl)) dX3_leave_44 ⟨Nat.zero_le _, Nat.zero_le _⟩ (fun H locs w => ?_)
    obtain ⟨r9, hc10, hf⟩ := bd hf
    refine call_Vv (ws' := (wX3_leave cI cL cS cH a_this a_this_net a_this_states a_this_steps a_this_seen a_this_net_near a_this_net_beside r9.1 r9.2.1 q_isSteady q_net_nodes q_net_all q_net_edition q_net_beside q_net_near r9.2.2.1 r9.2.2.2.1 r9.2.2.2.2)) (rest := []) C w (mX3_doEach l D cI cL cS cH _ a_this a_this_net a_this_states a_this_steps a_this_seen a_this_net_near a_this_net_beside k37_q_found k37_q_goal q_isSteady q_net_nodes q_net_all q_net_edition q_net_beside k37_q_seen k37_q_states k37_q_steps x1 (10 : Int32) r7 hc10) (cwV 3 C.2.2.2.2 gX3_leave_X3_doEach rfl rfl rfl (by decide +kernel) ⟨Nat.le_of_ble_eq_true rfl, Nat.le_of_ble_eq_true rfl⟩) [0, 1, 2, 4, 5, 6] [3] 7 ⟨rfl, rfl, rfl, rfl, rfl, rfl, trivial⟩ ⟨rfl, rfl, rfl, rfl, rfl, rfl, trivial⟩ ⟨⟨_, rfl, rfl⟩, trivial⟩ rfl (by decide) (by decide) (ci := 3) (q0 := 0) rfl rfl rfl hl.1 rfl (lv_room (Nat.le_of_ble_eq_true rfl)) dX3_leave_47 ⟨Nat.zero_le _, Nat.zero_le _⟩ (fun H locs w => ?_)
    refine lv_iconst (v := (0 : Int32)) C.1 C.2.1 dX3_leave_50 (by decide) ?_
    refine lv_istore (lv' := [(5, .int (0 : Int32)), (0, .ref a_this), (1, .int x1), (2, .int x2), (4, .int y37_4)]) C.1 C.2.1 dX3_leave_51 hl (by decide) rfl (fun ls hl => ?_)
    obtain ⟨ex11, hx12, hf⟩ := bd hf
    refine hlp53 x1 x2 y37_4 ex11 ?_ fu ((0 : Int32), r9.1, r9.2.1, r9.2.2.1, r9.2.2.2.1, r9.2.2.2.2) _ _ _ hx12 w (lv_sub hl [1, 2, 3, 4, 0] rfl)
    intro H locs ls w hl
    have hres := Option.some.inj hf
    subst hres
    exact ret_v C hr hlocks w dX3_leave_101
  refine lv_aload_n C.1 C.2.1 dX3_leave_0 rfl (lv_at hl 0 rfl) ?_
  refine r_get C w inX3_leave_X3 0 rfl rfl 1 (by decide) lkX3_leave_18 rfl dX3_leave_1 ?_
  refine lv_iload_n C.1 C.2.1 dX3_leave_4 rfl (lv_at hl 1 rfl) ?_
  obtain ⟨y13, hy14, hf⟩ := bd hf
  refine r_iald C w 5 0 rfl rfl (rd_in hy14) dX3_leave_5 ?_
  refine lv_sipush (v := (128 : Int32)) C.1 C.2.1 dX3_leave_6 (by decide) ?_
  refine lv_irem C.1 C.2.1 dX3_leave_9 (by decide) ?_
  obtain ⟨y15, hy16, hf⟩ := bnd_e hf
  refine lt_topi hy16 ?_
  refine lv_istore (lv' := [(4, .int y15), (0, .ref a_this), (1, .int x1), (2, .int x2), (3, .int x3)]) C.1 C.2.1 dX3_leave_10 hl (by decide) rfl (fun ls hl => ?_)
  refine lv_iload C.1 C.2.1 dX3_leave_12 (lv_at hl 0 rfl) ?_
  refine lv_iload_n C.1 C.2.1 dX3_leave_14 rfl (lv_at hl 4 rfl) ?_
  obtain ⟨r17, hc18, hf⟩ := bd hf
  refine call_Si (ws' := (wX3_leave cI cL cS cH a_this a_this_net a_this_states a_this_steps a_this_seen a_this_net_near a_this_net_beside q_found q_goal q_isSteady q_net_nodes q_net_all q_net_edition q_net_beside q_net_near q_seen q_states q_steps)) (rest := []) C w (mX0_isFull l D cI cL cS cH _ y15 x3 hc18) (va_cwS 2 C.2.2.2.2 gX3_leave_X0_isFull rfl rfl rfl (by decide +kernel) ⟨Nat.le_of_ble_eq_true rfl, Nat.le_of_ble_eq_true rfl⟩) [] [0, 1, 2, 3, 4, 5, 6] 7 trivial trivial ⟨⟨_, rfl, rfl⟩, ⟨_, rfl, rfl⟩, ⟨_, rfl, rfl⟩, ⟨_, rfl, rfl⟩, ⟨_, rfl, rfl⟩, ⟨_, rfl, rfl⟩, ⟨_, rfl, rfl⟩, trivial⟩ rfl (by decide) (by decide) rfl hl.1 rfl (lv_room (Nat.le_of_ble_eq_true rfl)) dX3_leave_15 ⟨Nat.zero_le _, Nat.zero_le _⟩ (fun H locs w => ?_)
  refine lv_if_ne (tgt := 37) C.1 C.2.1 dX3_leave_18 (by decide) (fun hq19 => ?_) (fun hq19 => ?_)
  · have hf := ite_f hf hq19
    exact hj37 y15 q_found q_goal q_seen q_states q_steps _ _ _ w (lv_sub hl [1, 2, 3, 0] rfl) hf
  · have hf := ite_t hf hq19
    refine lv_aload_n C.1 C.2.1 dX3_leave_21 rfl (lv_at hl 1 rfl) ?_
    refine lv_iload_n C.1 C.2.1 dX3_leave_22 rfl (lv_at hl 2 rfl) ?_
    refine lv_iconst (v := (0 : Int32)) C.1 C.2.1 dX3_leave_23 (by decide) ?_
    refine lv_aload_n C.1 C.2.1 dX3_leave_24 rfl (lv_at hl 1 rfl) ?_
    refine r_get C w inX3_leave_X3 0 rfl rfl 0 (by decide) lkX3_leave_12 rfl dX3_leave_25 ?_
    refine lv_iload C.1 C.2.1 dX3_leave_28 (lv_at hl 0 rfl) ?_
    refine lv_iload_n C.1 C.2.1 dX3_leave_30 rfl (lv_at hl 3 rfl) ?_
    obtain ⟨r20, hc21, hf⟩ := bd hf
    refine call_Vi (ws' := (wX3_leave cI cL cS cH a_this a_this_net a_this_states a_this_steps a_this_seen a_this_net_near a_this_net_beside q_found q_goal q_isSteady q_net_nodes q_net_all q_net_edition q_net_beside q_net_near q_seen q_states q_steps)) (rest := [.int (0 : Int32), .int x1, .ref a_this]) C w (mX0_puts l D cI cL cS cH _ a_this_net a_this_net_near a_this_net_beside q_net_nodes q_net_all q_net_edition q_net_beside y15 x2 hc21) (cwV 2 C.2.2.2.2 gX3_leave_X0_puts rfl rfl rfl (by decide +kernel) ⟨Nat.le_of_ble_eq_true rfl, Nat.le_of_ble_eq_true rfl⟩) [1, 2] [0, 3, 4, 5, 6] 7 ⟨rfl, rfl, trivial⟩ ⟨rfl, rfl, trivial⟩ ⟨⟨_, rfl, rfl⟩, ⟨_, rfl, rfl⟩, ⟨_, rfl, rfl⟩, ⟨_, rfl, rfl⟩, ⟨_, rfl, rfl⟩, trivial⟩ rfl (by decide) (by decide) (ci := 0) (q0 := 1) rfl rfl rfl hl.1 rfl (lv_room (Nat.le_of_ble_eq_true rfl)) dX3_leave_31 ⟨Nat.zero_le _, Nat.zero_le _⟩ (fun H locs w => ?_)
    obtain ⟨r22, hc23, hf⟩ := bd hf
    refine call_Vv (ws' := (wX3_leave cI cL cS cH a_this a_this_net a_this_states a_this_steps a_this_seen a_this_net_near a_this_net_beside r22.1 r22.2.1 q_isSteady q_net_nodes q_net_all q_net_edition q_net_beside q_net_near r22.2.2.1 r22.2.2.2.1 r22.2.2.2.2)) (rest := []) C w (mX3_doEach l D cI cL cS cH _ a_this a_this_net a_this_states a_this_steps a_this_seen a_this_net_near a_this_net_beside q_found q_goal q_isSteady q_net_nodes q_net_all q_net_edition q_net_beside q_seen q_states q_steps x1 (0 : Int32) r20 hc23) (cwV 3 C.2.2.2.2 gX3_leave_X3_doEach rfl rfl rfl (by decide +kernel) ⟨Nat.le_of_ble_eq_true rfl, Nat.le_of_ble_eq_true rfl⟩) [0, 1, 2, 4, 5, 6] [3] 7 ⟨rfl, rfl, rfl, rfl, rfl, rfl, trivial⟩ ⟨rfl, rfl, rfl, rfl, rfl, rfl, trivial⟩ ⟨⟨_, rfl, rfl⟩, trivial⟩ rfl (by decide) (by decide) (ci := 3) (q0 := 0) rfl rfl rfl hl.1 rfl (lv_room (Nat.le_of_ble_eq_true rfl)) dX3_leave_34 ⟨Nat.zero_le _, Nat.zero_le _⟩ (fun H locs w => ?_)
    exact hj37 y15 r22.1 r22.2.1 r22.2.2.1 r22.2.2.2.1 r22.2.2.2.2 _ _ _ w (lv_sub hl [1, 2, 3, 0] rfl) hf

set_option maxRecDepth 100000 in
theorem inX3_run_X3 : ∀ w ∈ u_ws RX3 TX3 7, w ∈ wsX3_run := by decide +kernel
set_option maxRecDepth 100000 in
theorem lkX3_run_29 : Cond.fieldLink RX3 29 "CleanNets$Search" "found" "I" ∈ wsX3_run := by decide +kernel
set_option maxRecDepth 100000 in
theorem lkX3_run_33 : Cond.fieldLink RX3 33 "CleanNets$Search" "goal" "I" ∈ wsX3_run := by decide +kernel
set_option maxRecDepth 100000 in
theorem lkX3_run_25 : Cond.fieldLink RX3 25 "CleanNets$Search" "seen" "[J" ∈ wsX3_run := by decide +kernel
set_option maxRecDepth 100000 in
theorem lkX3_run_36 : Cond.fieldLink RX3 36 "CleanNets$Search" "isSteady" "Z" ∈ wsX3_run := by decide +kernel
abbrev wX3_run (cI cL cS cH : ClassId) (a_this : Nat) (a_this_net : Nat) (a_this_states : Nat) (a_this_steps : Nat) (a_this_seen : Nat) (a_this_net_near : Nat) (a_this_net_beside : Nat) (q_found : Int32) (q_goal : Int32) (q_isSteady : Int32) (q_net_nodes : Int32) (q_net_all : Int32) (q_net_edition : Int32) (q_net_beside : Nat → Int32) (q_net_near : Nat → Int32) (q_seen : Nat → Int64) (q_states : Nat → Int32) (q_steps : Nat → Int32) : va_W := [(a_this, .inr (3, [.ref a_this_net, .ref a_this_states, .ref a_this_steps, .ref a_this_seen, .int q_found, .int q_goal, .int q_isSteady])),
  (a_this_net, .inr (0, [.int q_net_nodes, .int q_net_all, .int q_net_edition, .ref a_this_net_near, .ref a_this_net_beside])),
  (a_this_net_beside, .inl (cI, 128, .inl q_net_beside)),
  (a_this_net_near, .inl (cI, 7, .inl q_net_near)),
  (a_this_seen, .inl (cL, 256, .inr (.inl q_seen))),
  (a_this_states, .inl (cI, 2187, .inl q_states)),
  (a_this_steps, .inl (cI, 2187, .inl q_steps))]
def bX3_run_51 (q_net_nodes : Int32) (q_net_all : Int32) (q_net_beside : Nat → Int32) (q_net_near : Nat → Int32) (y51_3 : Int32) (y51_4 : Int32) (k51_q_isSteady : Int32) (v51 : Int32 × Int32 × Int32 × (Nat → Int64) × (Nat → Int32) × (Nat → Int32)) : Option ((Int32 × Int32 × Int32 × (Nat → Int64) × (Nat → Int32) × (Nat → Int32)) ⊕ (Int32 × Int32 × Int32 × (Nat → Int64) × (Nat → Int32) × (Nat → Int32))) := (if v51.2.1 ≤ v51.1 then some (.inr (v51.1, v51.2.1, v51.2.2.1, v51.2.2.2.1, v51.2.2.2.2.1, v51.2.2.2.2.2)) else (if (2187 : Int32) ≤ v51.1 then some (.inr (v51.1, v51.2.1, v51.2.2.1, v51.2.2.2.1, v51.2.2.2.2.1, v51.2.2.2.2.2)) else (if v51.2.2.1 = (-1 : Int32) then Option.bind (fX3_leave v51.2.1 v51.2.2.1 k51_q_isSteady q_net_nodes q_net_all q_net_beside q_net_near v51.2.2.2.1 v51.2.2.2.2.1 v51.2.2.2.2.2 v51.1 y51_3 y51_4) (fun r4 => some (.inl ((v51.1 + (1 : Int32)), r4.1, r4.2.1, r4.2.2.1, r4.2.2.2.1, r4.2.2.2.2))) else some (.inr (v51.1, v51.2.1, v51.2.2.1, v51.2.2.2.1, v51.2.2.2.2.1, v51.2.2.2.2.2)))))
def bX3_run_3 (q_net_nodes : Int32) (q_net_all : Int32) (q_net_beside : Nat → Int32) (q_net_near : Nat → Int32) (y3_1 : Int32) (y3_2 : Int32) (y3_3 : Int32) (y3_4 : Int32) (y3_5 : Int32) (k3_q_found : Int32) (k3_q_goal : Int32) (k3_q_isSteady : Int32) (k3_q_states : Nat → Int32) (k3_q_steps : Nat → Int32) (v3 : Int32 × (Nat → Int64)) : Option ((Int32 × (Nat → Int64)) ⊕ (Int32 × (Nat → Int64))) := (if (256 : Int32) ≤ v3.1 then some (.inr (v3.1, v3.2)) else Option.bind (wl v3.2 256 v3.1 (0 : Int64)) (fun g7 => some (.inl ((v3.1 + (1 : Int32)), g7))))
def fX3_run (q_found : Int32) (q_goal : Int32) (q_isSteady : Int32) (q_net_nodes : Int32) (q_net_all : Int32) (q_net_beside : Nat → Int32) (q_net_near : Nat → Int32) (q_seen : Nat → Int64) (q_states : Nat → Int32) (q_steps : Nat → Int32) (x1 : Int32) (x2 : Int32) (x3 : Int32) (x4 : Int32) (x5 : Int32) : Option (Int32 × Int32 × Int32 × (Nat → Int64) × (Nat → Int32) × (Nat → Int32)) := Option.bind (itL (bX3_run_3 q_net_nodes q_net_all q_net_beside q_net_near x1 x2 x3 x4 x5 q_found q_goal q_isSteady q_states q_steps) fu ((0 : Int32), q_seen)) (fun ex9 => Option.bind (bz x5) (fun _ => Option.bind (fX3_find (0 : Int32) (-1 : Int32) q_net_all ex9.2 q_states q_steps x1 x2 (0 : Int32)) (fun r12 => Option.bind (itL (bX3_run_51 q_net_nodes q_net_all q_net_beside q_net_near x3 x4 x5) fu ((0 : Int32), r12.1, r12.2.1, r12.2.2.1, r12.2.2.2.1, r12.2.2.2.2)) (fun ex14 => some (ex14.2.1, ex14.2.2.1, x5, ex14.2.2.2.1, ex14.2.2.2.2.1, ex14.2.2.2.2.2)))))
abbrev gX3_run (p : Program) (l : Launch) (e : Env) (s : State) (m : MethodId) (below : List Frame) (meth : Method) (c : Code) (D : vg) (cI cL cS cH : ClassId) (a_this : Nat) (a_this_net : Nat) (a_this_states : Nat) (a_this_steps : Nat) (a_this_seen : Nat) (a_this_net_near : Nat) (a_this_net_beside : Nat) (q_found : Int32) (q_goal : Int32) (q_isSteady : Int32) (q_net_nodes : Int32) (q_net_all : Int32) (q_net_edition : Int32) (q_net_beside : Nat → Int32) (q_net_near : Nat → Int32) (q_seen : Nat → Int64) (q_states : Nat → Int32) (q_steps : Nat → Int32) (x1 : Int32) (x2 : Int32) (x3 : Int32) (x4 : Int32) (x5 : Int32) (res : Int32 × Int32 × Int32 × (Nat → Int64) × (Nat → Int32) × (Nat → Int32)) (H : Heap) (locs : List Loc) (g : JFrame) : Prop := W p l e (headSpec wsX3_run ({ frames := 3, cells := 0, slots := 0, locals := 79 })).room s m ([.ref a_this, .int x1, .int x2, .int x3, .int x4, .int x5] : List Value).toArray below meth c H locs 0 0 (MQ below (va_Qv (fun (_ : Unit) => True) (fun _ t => pos1 D s.heap.size (wX3_run cI cL cS cH a_this a_this_net a_this_states a_this_steps a_this_seen a_this_net_near a_this_net_beside q_found q_goal q_isSteady q_net_nodes q_net_all q_net_edition q_net_beside q_net_near q_seen q_states q_steps) (wX3_run cI cL cS cH a_this a_this_net a_this_states a_this_steps a_this_seen a_this_net_near a_this_net_beside res.1 res.2.1 res.2.2.1 q_net_nodes q_net_all q_net_edition q_net_beside q_net_near res.2.2.2.1 res.2.2.2.2.1 res.2.2.2.2.2) t) (va_A (wX3_run cI cL cS cH a_this a_this_net a_this_states a_this_steps a_this_seen a_this_net_near a_this_net_beside q_found q_goal q_isSteady q_net_nodes q_net_all q_net_edition q_net_beside q_net_near q_seen q_states q_steps) s.heap.size)) ([.ref a_this, .int x1, .int x2, .int x3, .int x4, .int x5] : List Value).toArray s 0 0 (va_A (wX3_run cI cL cS cH a_this a_this_net a_this_states a_this_steps a_this_seen a_this_net_near a_this_net_beside q_found q_goal q_isSteady q_net_nodes q_net_all q_net_edition q_net_beside q_net_near q_seen q_states q_steps) s.heap.size)) g
set_option maxHeartbeats 4000000 in
set_option maxRecDepth 100000 in
theorem mX3_run (l : Launch) (D : vg) (cI cL cS cH : ClassId) (sz : Nat) (a_this : Nat) (a_this_net : Nat) (a_this_states : Nat) (a_this_steps : Nat) (a_this_seen : Nat) (a_this_net_near : Nat) (a_this_net_beside : Nat) (q_found : Int32) (q_goal : Int32) (q_isSteady : Int32) (q_net_nodes : Int32) (q_net_all : Int32) (q_net_edition : Int32) (q_net_beside : Nat → Int32) (q_net_near : Nat → Int32) (q_seen : Nat → Int64) (q_states : Nat → Int32) (q_steps : Nat → Int32) (x1 : Int32) (x2 : Int32) (x3 : Int32) (x4 : Int32) (x5 : Int32) {res : Int32 × Int32 × Int32 × (Nat → Int64) × (Nat → Int32) × (Nat → Int32)} (hf : fX3_run q_found q_goal q_isSteady q_net_nodes q_net_all q_net_beside q_net_near q_seen q_states q_steps x1 x2 x3 x4 x5 = some res) : ctv l yX3_run wsX3_run ({ frames := 3, cells := 0, slots := 0, locals := 79 }) D (ty4 cI cL cS cH) sz [.ref a_this, .int x1, .int x2, .int x3, .int x4, .int x5] (wX3_run cI cL cS cH a_this a_this_net a_this_states a_this_steps a_this_seen a_this_net_near a_this_net_beside q_found q_goal q_isSteady q_net_nodes q_net_all q_net_edition q_net_beside q_net_near q_seen q_states q_steps) (wX3_run cI cL cS cH a_this a_this_net a_this_states a_this_steps a_this_seen a_this_net_near a_this_net_beside res.1 res.2.1 res.2.2.1 q_net_nodes q_net_all q_net_edition q_net_beside q_net_near res.2.2.2.1 res.2.2.2.2.1 res.2.2.2.2.2) := by
  refine Met.ofW (cc := cX3_run) (maxL := 7) (ret := none) (by decide) rfl ?_
  intro p e s m args below meth c s₁ B hml hv
  obtain ⟨rfl, hpre⟩ := hv
  obtain rfl := hpre.1
  have C : CallFix p m c cX3_run 7 s _ wsX3_run RX3 := ⟨B.exec, B.bytes, hml, findClass_of_methodNamed B.named, atoms_spec (ws := wsX3_run) B.pre⟩
  have hr := B.returns
  have hlocks := B.notSynchronized
  have w := wd_start hpre
  clear hpre B
  have hl := lv_entry ([.ref a_this, .int x1, .int x2, .int x3, .int x4, .int x5]) (n := 7) (Nat.le_of_ble_eq_true rfl)
  rw [lg_entry_eq]
  generalize (lg_sl ([.ref a_this, .int x1, .int x2, .int x3, .int x4, .int x5]) ++ List.replicate (7 - (lg_sl ([.ref a_this, .int x1, .int x2, .int x3, .int x4, .int x5])).length) Slot.unset).toArray = ls at hl ⊢
  have hl : lv_has ls 7 [(0, .ref a_this), (1, .int x1), (2, .int x2), (3, .int x3), (4, .int x4), (5, .int x5)] := hl
  unfold fX3_run at hf
  have hlp51 : ∀ (y51_3 : Int32) (y51_4 : Int32) (k51_q_isSteady : Int32) (ex51 : Int32 × Int32 × Int32 × (Nat → Int64) × (Nat → Int32) × (Nat → Int32)) (hk : (∀ (H : Heap) (locs : List Loc) (ls : Array Slot), wd D (ty4 cI cL cS cH) s (va_A (wX3_run cI cL cS cH a_this a_this_net a_this_states a_this_steps a_this_seen a_this_net_near a_this_net_beside q_found q_goal q_isSteady q_net_nodes q_net_all q_net_edition q_net_beside q_net_near q_seen q_states q_steps) s.heap.size) s.heap H locs (wX3_run cI cL cS cH a_this a_this_net a_this_states a_this_steps a_this_seen a_this_net_near a_this_net_beside ex51.2.1 ex51.2.2.1 k51_q_isSteady q_net_nodes q_net_all q_net_edition q_net_beside q_net_near ex51.2.2.2.1 ex51.2.2.2.2.1 ex51.2.2.2.2.2) → lv_has ls 7 [] → gX3_run p l e s m below meth c D cI cL cS cH a_this a_this_net a_this_states a_this_steps a_this_seen a_this_net_near a_this_net_beside q_found q_goal q_isSteady q_net_nodes q_net_all q_net_edition q_net_beside q_net_near q_seen q_states q_steps x1 x2 x3 x4 x5 res H locs (F0 m 91 ls []))) (n : Nat) (v51 : Int32 × Int32 × Int32 × (Nat → Int64) × (Nat → Int32) × (Nat → Int32)) (H : Heap) (locs : List Loc) (ls : Array Slot), itL (bX3_run_51 q_net_nodes q_net_all q_net_beside q_net_near y51_3 y51_4 k51_q_isSteady) n v51 = some ex51 → wd D (ty4 cI cL cS cH) s (va_A (wX3_run cI cL cS cH a_this a_this_net a_this_states a_this_steps a_this_seen a_this_net_near a_this_net_beside q_found q_goal q_isSteady q_net_nodes q_net_all q_net_edition q_net_beside q_net_near q_seen q_states q_steps) s.heap.size) s.heap H locs (wX3_run cI cL cS cH a_this a_this_net a_this_states a_this_steps a_this_seen a_this_net_near a_this_net_beside v51.2.1 v51.2.2.1 k51_q_isSteady q_net_nodes q_net_all q_net_edition q_net_beside q_net_near v51.2.2.2.1 v51.2.2.2.2.1 v51.2.2.2.2.2) → lv_has ls 7 [(0, .ref a_this), (3, .int y51_3), (4, .int y51_4), (6, .int v51.1)] → gX3_run p l e s m below meth c D cI cL cS cH a_this a_this_net a_this_states a_this_steps a_this_seen a_this_net_near a_this_net_beside q_found q_goal q_isSteady q_net_nodes q_net_all q_net_edition q_net_beside q_net_near q_seen q_states q_steps x1 x2 x3 x4 x5 res H locs (F0 m 51 ls []) := by
    intro y51_3 y51_4 k51_q_isSteady ex51 hk n
    induction n with
    | zero => intro v51 H locs ls hi w hl; exact (itL_zero hi).elim
    | succ n ih =>
      intro v51 H locs ls hi w hl
      obtain ⟨o, hf, hn⟩ := itL_succ hi
      unfold bX3_run_51 at hf
      refine lv_iload C.1 C.2.1 dX3_run_51 (lv_at hl 3 rfl) ?_
      refine lv_aload_n C.1 C.2.1 dX3_run_53 rfl (lv_at hl 0 rfl) ?_
      refine r_get C w inX3_run_X3 0 rfl rfl 4 (by decide) lkX3_run_29 rfl dX3_run_54 ?_
      refine lv_icmp_ge (tgt := 91) C.1 C.2.1 dX3_run_57 (by decide) (fun hq1 => ?_) (fun hq1 => ?_)
      · have hf := ite_t hf hq1
        obtain rfl := Option.some.inj hf
        obtain rfl := hn
        exact hk _ _ _ w (lv_sub hl [] rfl)
      · have hf := ite_f hf hq1
        refine lv_iload C.1 C.2.1 dX3_run_60 (lv_at hl 3 rfl) ?_
        refine lv_sipush (v := (2187 : Int32)) C.1 C.2.1 dX3_run_62 (by decide) ?_
        refine lv_icmp_ge (tgt := 91) C.1 C.2.1 dX3_run_65 (by decide) (fun hq2 => ?_) (fun hq2 => ?_)
        · have hf := ite_t hf hq2
          obtain rfl := Option.some.inj hf
          obtain rfl := hn
          exact hk _ _ _ w (lv_sub hl [] rfl)
        · have hf := ite_f hf hq2
          refine lv_aload_n C.1 C.2.1 dX3_run_68 rfl (lv_at hl 0 rfl) ?_
          refine r_get C w inX3_run_X3 0 rfl rfl 5 (by decide) lkX3_run_33 rfl dX3_run_69 ?_
          refine lv_iconst (v := (-1 : Int32)) C.1 C.2.1 dX3_run_72 (by decide) ?_
          refine lv_icmp_ne (tgt := 91) C.1 C.2.1 dX3_run_73 (by decide) (fun hq3 => ?_) (fun hq3 => ?_)
          · have hf := ite_f hf hq3
            obtain rfl := Option.some.inj hf
            obtain rfl := hn
            exact hk _ _ _ w (lv_sub hl [] rfl)
          · have hf := ite_t hf hq3
            refine lv_aload_n C.1 C.2.1 dX3_run_76 rfl (lv_at hl 0 rfl) ?_
            refine lv_iload C.1 C.2.1 dX3_run_77 (lv_at hl 3 rfl) ?_
            refine lv_iload_n C.1 C.2.1 dX3_run_79 rfl (lv_at hl 1 rfl) ?_
            refine lv_iload C.1 C.2.1 dX3_run_80 (lv_at hl 2 rfl) ?_
            obtain ⟨r4, hc5, hf⟩ := bd hf
            refine call_Vv (ws' := (wX3_run cI cL cS cH a_this a_this_net a_this_states a_this_steps a_this_seen a_this_net_near a_this_net_beside r4.1 r4.2.1 k51_q_isSteady q_net_nodes q_net_all q_net_edition q_net_beside q_net_near r4.2.2.1 r4.2.2.2.1 r4.2.2.2.2)) (rest := []) C w (mX3_leave l D cI cL cS cH _ a_this a_this_net a_this_states a_this_steps a_this_seen a_this_net_near a_this_net_beside v51.2.1 v51.2.2.1 k51_q_isSteady q_net_nodes q_net_all q_net_edition q_net_beside q_net_near v51.2.2.2.1 v51.2.2.2.2.1 v51.2.2.2.2.2 v51.1 y51_3 y51_4 hc5) (cwV 3 C.2.2.2.2 gX3_run_X3_leave rfl rfl rfl (by decide +kernel) ⟨Nat.le_of_ble_eq_true rfl, Nat.le_of_ble_eq_true rfl⟩) [0, 1, 2, 3, 4, 5, 6] [] 7 ⟨rfl, rfl, rfl, rfl, rfl, rfl, rfl, trivial⟩ ⟨rfl, rfl, rfl, rfl, rfl, rfl, rfl, trivial⟩ trivial rfl (by decide) (by decide) (ci := 3) (q0 := 0) rfl rfl rfl hl.1 rfl (lv_room (Nat.le_of_ble_eq_true rfl)) dX3_run_82 ⟨Nat.zero_le _, Nat.zero_le _⟩ (fun H locs w => ?_)
            refine lv_iinc (v := (v51.1 + (1 : Int32))) (lv' := [(6, .int (v51.1 + (1 : Int32))), (0, .ref a_this), (3, .int y51_3), (4, .int y51_4)]) C.1 C.2.1 dX3_run_85 hl (k := 3) rfl rfl (by decide) rfl (fun ls hl => ?_)
            refine lv_goto (tgt := 51) C.1 C.2.1 dX3_run_88 (by decide) ?_
            obtain rfl := Option.some.inj hf
            exact ih ((v51.1 + (1 : Int32)), r4.1, r4.2.1, r4.2.2.1, r4.2.2.2.1, r4.2.2.2.2) _ _ _ hn w (lv_sub hl [1, 2, 3, 0] rfl)
  have hlp3 : ∀ (y3_1 : Int32) (y3_2 : Int32) (y3_3 : Int32) (y3_4 : Int32) (y3_5 : Int32) (k3_q_found : Int32) (k3_q_goal : Int32) (k3_q_isSteady : Int32) (k3_q_states : Nat → Int32) (k3_q_steps : Nat → Int32) (ex3 : Int32 × (Nat → Int64)) (hk : (∀ (H : Heap) (locs : List Loc) (ls : Array Slot), wd D (ty4 cI cL cS cH) s (va_A (wX3_run cI cL cS cH a_this a_this_net a_this_states a_this_steps a_this_seen a_this_net_near a_this_net_beside q_found q_goal q_isSteady q_net_nodes q_net_all q_net_edition q_net_beside q_net_near q_seen q_states q_steps) s.heap.size) s.heap H locs (wX3_run cI cL cS cH a_this a_this_net a_this_states a_this_steps a_this_seen a_this_net_near a_this_net_beside k3_q_found k3_q_goal k3_q_isSteady q_net_nodes q_net_all q_net_edition q_net_beside q_net_near ex3.2 k3_q_states k3_q_steps) → lv_has ls 7 [(0, .ref a_this), (1, .int y3_1), (2, .int y3_2), (3, .int y3_3), (4, .int y3_4), (5, .int y3_5)] → gX3_run p l e s m below meth c D cI cL cS cH a_this a_this_net a_this_states a_this_steps a_this_seen a_this_net_near a_this_net_beside q_found q_goal q_isSteady q_net_nodes q_net_all q_net_edition q_net_beside q_net_near q_seen q_states q_steps x1 x2 x3 x4 x5 res H locs (F0 m 25 ls []))) (n : Nat) (v3 : Int32 × (Nat → Int64)) (H : Heap) (locs : List Loc) (ls : Array Slot), itL (bX3_run_3 q_net_nodes q_net_all q_net_beside q_net_near y3_1 y3_2 y3_3 y3_4 y3_5 k3_q_found k3_q_goal k3_q_isSteady k3_q_states k3_q_steps) n v3 = some ex3 → wd D (ty4 cI cL cS cH) s (va_A (wX3_run cI cL cS cH a_this a_this_net a_this_states a_this_steps a_this_seen a_this_net_near a_this_net_beside q_found q_goal q_isSteady q_net_nodes q_net_all q_net_edition q_net_beside q_net_near q_seen q_states q_steps) s.heap.size) s.heap H locs (wX3_run cI cL cS cH a_this a_this_net a_this_states a_this_steps a_this_seen a_this_net_near a_this_net_beside k3_q_found k3_q_goal k3_q_isSteady q_net_nodes q_net_all q_net_edition q_net_beside q_net_near v3.2 k3_q_states k3_q_steps) → lv_has ls 7 [(0, .ref a_this), (1, .int y3_1), (2, .int y3_2), (3, .int y3_3), (4, .int y3_4), (5, .int y3_5), (6, .int v3.1)] → gX3_run p l e s m below meth c D cI cL cS cH a_this a_this_net a_this_states a_this_steps a_this_seen a_this_net_near a_this_net_beside q_found q_goal q_isSteady q_net_nodes q_net_all q_net_edition q_net_beside q_net_near q_seen q_states q_steps x1 x2 x3 x4 x5 res H locs (F0 m 3 ls []) := by
    intro y3_1 y3_2 y3_3 y3_4 y3_5 k3_q_found k3_q_goal k3_q_isSteady k3_q_states k3_q_steps ex3 hk n
    induction n with
    | zero => intro v3 H locs ls hi w hl; exact (itL_zero hi).elim
    | succ n ih =>
      intro v3 H locs ls hi w hl
      obtain ⟨o, hf, hn⟩ := itL_succ hi
      unfold bX3_run_3 at hf
      refine lv_iload C.1 C.2.1 dX3_run_3 (lv_at hl 6 rfl) ?_
      refine lv_sipush (v := (256 : Int32)) C.1 C.2.1 dX3_run_5 (by decide) ?_
      refine lv_icmp_ge (tgt := 25) C.1 C.2.1 dX3_run_8 (by decide) (fun hq6 => ?_) (fun hq6 => ?_)
      · have hf := ite_t hf hq6
        obtain rfl := Option.some.inj hf
        obtain rfl := hn
        exact hk _ _ _ w (lv_sub hl [0, 1, 2, 3, 4, 5] rfl)
      · have hf := ite_f hf hq6
        refine lv_aload_n C.1 C.2.1 dX3_run_11 rfl (lv_at hl 0 rfl) ?_
        refine r_get C w inX3_run_X3 0 rfl rfl 3 (by decide) lkX3_run_25 rfl dX3_run_12 ?_
        refine lv_iload C.1 C.2.1 dX3_run_15 (lv_at hl 6 rfl) ?_
        refine lv_lconst (v := (0 : Int64)) C.1 C.2.1 dX3_run_17 (by decide) ?_
        obtain ⟨g7, hg8, hf⟩ := bd hf
        refine r_last (ws' := (wX3_run cI cL cS cH a_this a_this_net a_this_states a_this_steps a_this_seen a_this_net_near a_this_net_beside k3_q_found k3_q_goal k3_q_isSteady q_net_nodes q_net_all q_net_edition q_net_beside q_net_near g7 k3_q_states k3_q_steps)) C w 4 1 rfl rfl (wl_in hg8) rfl dX3_run_18 (fun H locs w => ?_)
        refine lv_iinc (v := (v3.1 + (1 : Int32))) (lv' := [(6, .int (v3.1 + (1 : Int32))), (0, .ref a_this), (1, .int y3_1), (2, .int y3_2), (3, .int y3_3), (4, .int y3_4), (5, .int y3_5)]) C.1 C.2.1 dX3_run_19 hl (k := 6) rfl rfl (by decide) rfl (fun ls hl => ?_)
        refine lv_goto (tgt := 3) C.1 C.2.1 dX3_run_22 (by decide) ?_
        obtain rfl := Option.some.inj hf
        exact ih ((v3.1 + (1 : Int32)), g7) _ _ _ hn w (lv_sub hl [1, 2, 3, 4, 5, 6, 0] rfl)
  refine lv_iconst (v := (0 : Int32)) C.1 C.2.1 dX3_run_0 (by decide) ?_
  refine lv_istore (lv' := [(6, .int (0 : Int32)), (0, .ref a_this), (1, .int x1), (2, .int x2), (3, .int x3), (4, .int x4), (5, .int x5)]) C.1 C.2.1 dX3_run_1 hl (by decide) rfl (fun ls hl => ?_)
  obtain ⟨ex9, hx10, hf⟩ := bd hf
  refine hlp3 x1 x2 x3 x4 x5 q_found q_goal q_isSteady q_states q_steps ex9 ?_ fu ((0 : Int32), q_seen) _ _ _ hx10 w (lv_sub hl [1, 2, 3, 4, 5, 6, 0] rfl)
  intro H locs ls w hl
  refine lv_aload_n C.1 C.2.1 dX3_run_25 rfl (lv_at hl 0 rfl) ?_
  refine lv_iconst (v := (0 : Int32)) C.1 C.2.1 dX3_run_26 (by decide) ?_
  refine r_put (ws' := (wX3_run cI cL cS cH a_this a_this_net a_this_states a_this_steps a_this_seen a_this_net_near a_this_net_beside (0 : Int32) q_goal q_isSteady q_net_nodes q_net_all q_net_edition q_net_beside q_net_near ex9.2 q_states q_steps)) C w inX3_run_X3 tyX3 tyX3_ok nmX3 0 rfl rfl 4 (by decide) lkX3_run_29 rfl rfl rfl (Nat.le_of_ble_eq_true rfl) rfl dX3_run_27 (fun H locs w => ?_)
  refine lv_aload_n C.1 C.2.1 dX3_run_30 rfl (lv_at hl 0 rfl) ?_
  refine lv_iconst (v := (-1 : Int32)) C.1 C.2.1 dX3_run_31 (by decide) ?_
  refine r_put (ws' := (wX3_run cI cL cS cH a_this a_this_net a_this_states a_this_steps a_this_seen a_this_net_near a_this_net_beside (0 : Int32) (-1 : Int32) q_isSteady q_net_nodes q_net_all q_net_edition q_net_beside q_net_near ex9.2 q_states q_steps)) C w inX3_run_X3 tyX3 tyX3_ok nmX3 0 rfl rfl 5 (by decide) lkX3_run_33 rfl rfl rfl (Nat.le_of_ble_eq_true rfl) rfl dX3_run_32 (fun H locs w => ?_)
  refine lv_aload_n C.1 C.2.1 dX3_run_35 rfl (lv_at hl 0 rfl) ?_
  refine lv_iload C.1 C.2.1 dX3_run_36 (lv_at hl 5 rfl) ?_
  obtain ⟨_, hb11, hf⟩ := bd hf
  refine r_put (ws' := (wX3_run cI cL cS cH a_this a_this_net a_this_states a_this_steps a_this_seen a_this_net_near a_this_net_beside (0 : Int32) (-1 : Int32) x5 q_net_nodes q_net_all q_net_edition q_net_beside q_net_near ex9.2 q_states q_steps)) C w inX3_run_X3 tyX3 tyX3_ok nmX3 0 rfl rfl 6 (by decide) lkX3_run_36 rfl (bz_in hb11).1 (bz_in hb11).2 (Nat.le_of_ble_eq_true rfl) rfl dX3_run_38 (fun H locs w => ?_)
  refine lv_aload_n C.1 C.2.1 dX3_run_41 rfl (lv_at hl 0 rfl) ?_
  refine lv_iload_n C.1 C.2.1 dX3_run_42 rfl (lv_at hl 1 rfl) ?_
  refine lv_iload_n C.1 C.2.1 dX3_run_43 rfl (lv_at hl 2 rfl) ?_
  refine lv_iconst (v := (0 : Int32)) C.1 C.2.1 dX3_run_44 (by decide) ?_
  obtain ⟨r12, hc13, hf⟩ := bd hf
  refine call_Vv (ws' := (wX3_run cI cL cS cH a_this a_this_net a_this_states a_this_steps a_this_seen a_this_net_near a_this_net_beside r12.1 r12.2.1 x5 q_net_nodes q_net_all q_net_edition q_net_beside q_net_near r12.2.2.1 r12.2.2.2.1 r12.2.2.2.2)) (rest := []) C w (mX3_find l D cI cL cS cH _ a_this a_this_net a_this_states a_this_steps a_this_seen a_this_net_near a_this_net_beside (0 : Int32) (-1 : Int32) x5 q_net_nodes q_net_all q_net_edition ex9.2 q_states q_steps x1 x2 (0 : Int32) hc13) (cwV 3 C.2.2.2.2 gX3_run_X3_find rfl rfl rfl (by decide +kernel) ⟨Nat.le_of_ble_eq_true rfl, Nat.le_of_ble_eq_true rfl⟩) [0, 1, 4, 5, 6] [2, 3] 7 ⟨rfl, rfl, rfl, rfl, rfl, trivial⟩ ⟨rfl, rfl, rfl, rfl, rfl, trivial⟩ ⟨⟨_, rfl, rfl⟩, ⟨_, rfl, rfl⟩, trivial⟩ rfl (by decide) (by decide) (ci := 3) (q0 := 0) rfl rfl rfl hl.1 rfl (lv_room (Nat.le_of_ble_eq_true rfl)) dX3_run_45 ⟨Nat.zero_le _, Nat.zero_le _⟩ (fun H locs w => ?_)
  refine lv_iconst (v := (0 : Int32)) C.1 C.2.1 dX3_run_48 (by decide) ?_
  refine lv_istore (lv' := [(6, .int (0 : Int32)), (0, .ref a_this), (1, .int x1), (2, .int x2), (3, .int x3), (4, .int x4), (5, .int x5)]) C.1 C.2.1 dX3_run_49 hl (by decide) rfl (fun ls hl => ?_)
  obtain ⟨ex14, hx15, hf⟩ := bd hf
  refine hlp51 x3 x4 x5 ex14 ?_ fu ((0 : Int32), r12.1, r12.2.1, r12.2.2.1, r12.2.2.2.1, r12.2.2.2.2) _ _ _ hx15 w (lv_sub hl [1, 4, 5, 0] rfl)
  intro H locs ls w hl
  have hres := Option.some.inj hf
  subst hres
  exact ret_v C hr hlocks w dX3_run_91

set_option maxRecDepth 100000 in
theorem inX3_acts_X3 : ∀ w ∈ u_ws RX3 TX3 7, w ∈ wsX3_acts := by decide +kernel
set_option maxRecDepth 100000 in
theorem lkX3_acts_22 : Cond.fieldLink RX3 22 "CleanNets$Search" "steps" "[I" ∈ wsX3_acts := by decide +kernel
set_option maxRecDepth 100000 in
theorem lkX3_acts_33 : Cond.fieldLink RX3 33 "CleanNets$Search" "goal" "I" ∈ wsX3_acts := by decide +kernel
abbrev wX3_acts (cI cL cS cH : ClassId) (a_this : Nat) (a_this_net : Nat) (a_this_states : Nat) (a_this_steps : Nat) (a_this_seen : Nat) (q_found : Int32) (q_goal : Int32) (q_isSteady : Int32) (q_steps : Nat → Int32) : va_W := [(a_this, .inr (3, [.ref a_this_net, .ref a_this_states, .ref a_this_steps, .ref a_this_seen, .int q_found, .int q_goal, .int q_isSteady])),
  (a_this_steps, .inl (cI, 2187, .inl q_steps))]
def bX3_acts_18 (q_goal : Int32) (q_steps : Nat → Int32)  (v18 : Int32 × Int32) : Option ((Int32 × Int32) ⊕ (Int32 × Int32)) := (if v18.2 ≤ 0 then some (.inr (v18.1, v18.2)) else (if (2187 : Int32) ≤ v18.1 then some (.inr (v18.1, v18.2)) else Option.bind (rd q_steps 2187 v18.2) (fun y3 => bnd (y3 >>> ((8 : Int32) &&& 31)) (fun y5 => some (.inl ((v18.1 + (1 : Int32)), y5))))))
def fX3_acts (q_goal : Int32) (q_steps : Nat → Int32)  : Option (Int32) := (if q_goal = (-1 : Int32) then some (-4 : Int32) else Option.bind (itL (bX3_acts_18 q_goal q_steps) fu ((0 : Int32), q_goal)) (fun ex8 => some ex8.1))
abbrev gX3_acts (p : Program) (l : Launch) (e : Env) (s : State) (m : MethodId) (below : List Frame) (meth : Method) (c : Code) (D : vg) (cI cL cS cH : ClassId) (a_this : Nat) (a_this_net : Nat) (a_this_states : Nat) (a_this_steps : Nat) (a_this_seen : Nat) (q_found : Int32) (q_goal : Int32) (q_isSteady : Int32) (q_steps : Nat → Int32) (res : Int32) (H : Heap) (locs : List Loc) (g : JFrame) : Prop := W p l e (headSpec wsX3_acts ({ frames := 0, cells := 0, slots := 0, locals := 0 })).room s m ([.ref a_this] : List Value).toArray below meth c H locs 0 0 (MQ below (va_Qi (fun r' (_ : Unit) => r' = res) (fun _ t => pos1 D s.heap.size (wX3_acts cI cL cS cH a_this a_this_net a_this_states a_this_steps a_this_seen q_found q_goal q_isSteady q_steps) (wX3_acts cI cL cS cH a_this a_this_net a_this_states a_this_steps a_this_seen q_found q_goal q_isSteady q_steps) t) (va_A (wX3_acts cI cL cS cH a_this a_this_net a_this_states a_this_steps a_this_seen q_found q_goal q_isSteady q_steps) s.heap.size)) ([.ref a_this] : List Value).toArray s 0 0 (va_A (wX3_acts cI cL cS cH a_this a_this_net a_this_states a_this_steps a_this_seen q_found q_goal q_isSteady q_steps) s.heap.size)) g
set_option maxHeartbeats 4000000 in
set_option maxRecDepth 100000 in
theorem mX3_acts (l : Launch) (D : vg) (cI cL cS cH : ClassId) (sz : Nat) (a_this : Nat) (a_this_net : Nat) (a_this_states : Nat) (a_this_steps : Nat) (a_this_seen : Nat) (q_found : Int32) (q_goal : Int32) (q_isSteady : Int32) (q_steps : Nat → Int32) {res : Int32} (hf : fX3_acts q_goal q_steps = some res) : cti l yX3_acts wsX3_acts ({ frames := 0, cells := 0, slots := 0, locals := 0 }) D (ty4 cI cL cS cH) sz [.ref a_this] (wX3_acts cI cL cS cH a_this a_this_net a_this_states a_this_steps a_this_seen q_found q_goal q_isSteady q_steps) (wX3_acts cI cL cS cH a_this a_this_net a_this_states a_this_steps a_this_seen q_found q_goal q_isSteady q_steps) res := by
  refine Met.ofW (cc := cX3_acts) (maxL := 3) (ret := (some .int)) (by decide) rfl ?_
  intro p e s m args below meth c s₁ B hml hv
  obtain ⟨rfl, hpre⟩ := hv
  obtain rfl := hpre.1
  have C : CallFix p m c cX3_acts 3 s _ wsX3_acts RX3 := ⟨B.exec, B.bytes, hml, findClass_of_methodNamed B.named, atoms_spec (ws := wsX3_acts) B.pre⟩
  have hr := B.returns
  have hlocks := B.notSynchronized
  have w := wd_start hpre
  clear hpre B
  have hl := lv_entry ([.ref a_this]) (n := 3) (Nat.le_of_ble_eq_true rfl)
  rw [lg_entry_eq]
  generalize (lg_sl ([.ref a_this]) ++ List.replicate (3 - (lg_sl ([.ref a_this])).length) Slot.unset).toArray = ls at hl ⊢
  have hl : lv_has ls 3 [(0, .ref a_this)] := hl
  unfold fX3_acts at hf
  have hlp18 : ∀  (ex18 : Int32 × Int32) (hk : (∀ (H : Heap) (locs : List Loc) (ls : Array Slot), wd D (ty4 cI cL cS cH) s (va_A (wX3_acts cI cL cS cH a_this a_this_net a_this_states a_this_steps a_this_seen q_found q_goal q_isSteady q_steps) s.heap.size) s.heap H locs (wX3_acts cI cL cS cH a_this a_this_net a_this_states a_this_steps a_this_seen q_found q_goal q_isSteady q_steps) → lv_has ls 3 [(1, .int ex18.1)] → gX3_acts p l e s m below meth c D cI cL cS cH a_this a_this_net a_this_states a_this_steps a_this_seen q_found q_goal q_isSteady q_steps res H locs (F0 m 45 ls []))) (n : Nat) (v18 : Int32 × Int32) (H : Heap) (locs : List Loc) (ls : Array Slot), itL (bX3_acts_18 q_goal q_steps) n v18 = some ex18 → wd D (ty4 cI cL cS cH) s (va_A (wX3_acts cI cL cS cH a_this a_this_net a_this_states a_this_steps a_this_seen q_found q_goal q_isSteady q_steps) s.heap.size) s.heap H locs (wX3_acts cI cL cS cH a_this a_this_net a_this_states a_this_steps a_this_seen q_found q_goal q_isSteady q_steps) → lv_has ls 3 [(0, .ref a_this), (1, .int v18.1), (2, .int v18.2)] → gX3_acts p l e s m below meth c D cI cL cS cH a_this a_this_net a_this_states a_this_steps a_this_seen q_found q_goal q_isSteady q_steps res H locs (F0 m 18 ls []) := by
    intro  ex18 hk n
    induction n with
    | zero => intro v18 H locs ls hi w hl; exact (itL_zero hi).elim
    | succ n ih =>
      intro v18 H locs ls hi w hl
      obtain ⟨o, hf, hn⟩ := itL_succ hi
      unfold bX3_acts_18 at hf
      refine lv_iload_n C.1 C.2.1 dX3_acts_18 rfl (lv_at hl 2 rfl) ?_
      refine lv_if_le (tgt := 45) C.1 C.2.1 dX3_acts_19 (by decide) (fun hq1 => ?_) (fun hq1 => ?_)
      · have hf := ite_t hf hq1
        obtain rfl := Option.some.inj hf
        obtain rfl := hn
        exact hk _ _ _ w (lv_sub hl [1] rfl)
      · have hf := ite_f hf hq1
        refine lv_iload_n C.1 C.2.1 dX3_acts_22 rfl (lv_at hl 1 rfl) ?_
        refine lv_sipush (v := (2187 : Int32)) C.1 C.2.1 dX3_acts_23 (by decide) ?_
        refine lv_icmp_ge (tgt := 45) C.1 C.2.1 dX3_acts_26 (by decide) (fun hq2 => ?_) (fun hq2 => ?_)
        · have hf := ite_t hf hq2
          obtain rfl := Option.some.inj hf
          obtain rfl := hn
          exact hk _ _ _ w (lv_sub hl [1] rfl)
        · have hf := ite_f hf hq2
          refine lv_iinc (v := (v18.1 + (1 : Int32))) (lv' := [(1, .int (v18.1 + (1 : Int32))), (0, .ref a_this), (2, .int v18.2)]) C.1 C.2.1 dX3_acts_29 hl (k := 1) rfl rfl (by decide) rfl (fun ls hl => ?_)
          refine lv_aload_n C.1 C.2.1 dX3_acts_32 rfl (lv_at hl 1 rfl) ?_
          refine r_get C w inX3_acts_X3 0 rfl rfl 2 (by decide) lkX3_acts_22 rfl dX3_acts_33 ?_
          refine lv_iload_n C.1 C.2.1 dX3_acts_36 rfl (lv_at hl 2 rfl) ?_
          obtain ⟨y3, hy4, hf⟩ := bd hf
          refine r_iald C w 1 0 rfl rfl (rd_in hy4) dX3_acts_37 ?_
          refine lv_bipush (v := (8 : Int32)) C.1 C.2.1 dX3_acts_38 (by decide) ?_
          refine lv_ishr C.1 C.2.1 dX3_acts_40 ?_
          obtain ⟨y5, hy6, hf⟩ := bnd_e hf
          refine lt_topi hy6 ?_
          refine lv_istore_n (lv' := [(2, .int y5), (1, .int (v18.1 + (1 : Int32))), (0, .ref a_this)]) C.1 C.2.1 dX3_acts_41 rfl hl (by decide) rfl (fun ls hl => ?_)
          refine lv_goto (tgt := 18) C.1 C.2.1 dX3_acts_42 (by decide) ?_
          obtain rfl := Option.some.inj hf
          exact ih ((v18.1 + (1 : Int32)), y5) _ _ _ hn w (lv_sub hl [2, 1, 0] rfl)
  refine lv_aload_n C.1 C.2.1 dX3_acts_0 rfl (lv_at hl 0 rfl) ?_
  refine r_get C w inX3_acts_X3 0 rfl rfl 5 (by decide) lkX3_acts_33 rfl dX3_acts_1 ?_
  refine lv_iconst (v := (-1 : Int32)) C.1 C.2.1 dX3_acts_4 (by decide) ?_
  refine lv_icmp_ne (tgt := 11) C.1 C.2.1 dX3_acts_5 (by decide) (fun hq7 => ?_) (fun hq7 => ?_)
  · have hf := ite_f hf hq7
    refine lv_iconst (v := (0 : Int32)) C.1 C.2.1 dX3_acts_11 (by decide) ?_
    refine lv_istore_n (lv' := [(1, .int (0 : Int32)), (0, .ref a_this)]) C.1 C.2.1 dX3_acts_12 rfl hl (by decide) rfl (fun ls hl => ?_)
    refine lv_aload_n C.1 C.2.1 dX3_acts_13 rfl (lv_at hl 1 rfl) ?_
    refine r_get C w inX3_acts_X3 0 rfl rfl 5 (by decide) lkX3_acts_33 rfl dX3_acts_14 ?_
    refine lv_istore_n (lv' := [(2, .int q_goal), (1, .int (0 : Int32)), (0, .ref a_this)]) C.1 C.2.1 dX3_acts_17 rfl hl (by decide) rfl (fun ls hl => ?_)
    obtain ⟨ex8, hx9, hf⟩ := bd hf
    refine hlp18  ex8 ?_ fu ((0 : Int32), q_goal) _ _ _ hx9 w (lv_sub hl [2, 1, 0] rfl)
    intro H locs ls w hl
    refine lv_iload_n C.1 C.2.1 dX3_acts_45 rfl (lv_at hl 0 rfl) ?_
    have hres := Option.some.inj hf
    subst hres
    exact ret_i C hr hlocks w rfl dX3_acts_46
  · have hf := ite_t hf hq7
    refine lv_bipush (v := (-4 : Int32)) C.1 C.2.1 dX3_acts_8 (by decide) ?_
    have hres := Option.some.inj hf
    subst hres
    exact ret_i C hr hlocks w rfl dX3_acts_10

set_option maxRecDepth 100000 in
theorem inX3_actAt_X3 : ∀ w ∈ u_ws RX3 TX3 7, w ∈ wsX3_actAt := by decide +kernel
set_option maxRecDepth 100000 in
theorem lkX3_actAt_22 : Cond.fieldLink RX3 22 "CleanNets$Search" "steps" "[I" ∈ wsX3_actAt := by decide +kernel
set_option maxRecDepth 100000 in
theorem lkX3_actAt_33 : Cond.fieldLink RX3 33 "CleanNets$Search" "goal" "I" ∈ wsX3_actAt := by decide +kernel
abbrev wX3_actAt (cI cL cS cH : ClassId) (a_this : Nat) (a_this_net : Nat) (a_this_states : Nat) (a_this_steps : Nat) (a_this_seen : Nat) (q_found : Int32) (q_goal : Int32) (q_isSteady : Int32) (q_steps : Nat → Int32) : va_W := [(a_this, .inr (3, [.ref a_this_net, .ref a_this_states, .ref a_this_steps, .ref a_this_seen, .int q_found, .int q_goal, .int q_isSteady])),
  (a_this_steps, .inl (cI, 2187, .inl q_steps))]
def bX3_actAt_27 (q_goal : Int32) (q_steps : Nat → Int32) (y27_1 : Int32) (v27 : Int32 × Int32) : Option ((Int32 × Int32) ⊕ (Int32 × Int32)) := (if v27.2 ≤ y27_1 then some (.inr (v27.1, v27.2)) else Option.bind (rd q_steps 2187 v27.1) (fun y2 => bnd (y2 >>> ((8 : Int32) &&& 31)) (fun y4 => some (.inl (y4, (v27.2 + (-1 : Int32)))))))
def fX3_actAt (q_goal : Int32) (q_steps : Nat → Int32) (x1 : Int32) : Option (Int32) := Option.bind (fX3_acts q_goal q_steps) (fun r6 => (if x1 < 0 then some (-4 : Int32) else (if x1 < r6 then Option.bind (itL (bX3_actAt_27 q_goal q_steps x1) fu (q_goal, (r6 - (1 : Int32)))) (fun ex10 => Option.bind (rd q_steps 2187 ex10.1) (fun y12 => some (y12 &&& (255 : Int32)))) else some (-4 : Int32))))
abbrev gX3_actAt (p : Program) (l : Launch) (e : Env) (s : State) (m : MethodId) (below : List Frame) (meth : Method) (c : Code) (D : vg) (cI cL cS cH : ClassId) (a_this : Nat) (a_this_net : Nat) (a_this_states : Nat) (a_this_steps : Nat) (a_this_seen : Nat) (q_found : Int32) (q_goal : Int32) (q_isSteady : Int32) (q_steps : Nat → Int32) (x1 : Int32) (res : Int32) (H : Heap) (locs : List Loc) (g : JFrame) : Prop := W p l e (headSpec wsX3_actAt ({ frames := 1, cells := 0, slots := 0, locals := 22 })).room s m ([.ref a_this, .int x1] : List Value).toArray below meth c H locs 0 0 (MQ below (va_Qi (fun r' (_ : Unit) => r' = res) (fun _ t => pos1 D s.heap.size (wX3_actAt cI cL cS cH a_this a_this_net a_this_states a_this_steps a_this_seen q_found q_goal q_isSteady q_steps) (wX3_actAt cI cL cS cH a_this a_this_net a_this_states a_this_steps a_this_seen q_found q_goal q_isSteady q_steps) t) (va_A (wX3_actAt cI cL cS cH a_this a_this_net a_this_states a_this_steps a_this_seen q_found q_goal q_isSteady q_steps) s.heap.size)) ([.ref a_this, .int x1] : List Value).toArray s 0 0 (va_A (wX3_actAt cI cL cS cH a_this a_this_net a_this_states a_this_steps a_this_seen q_found q_goal q_isSteady q_steps) s.heap.size)) g
set_option maxHeartbeats 4000000 in
set_option maxRecDepth 100000 in
theorem mX3_actAt (l : Launch) (D : vg) (cI cL cS cH : ClassId) (sz : Nat) (a_this : Nat) (a_this_net : Nat) (a_this_states : Nat) (a_this_steps : Nat) (a_this_seen : Nat) (q_found : Int32) (q_goal : Int32) (q_isSteady : Int32) (q_steps : Nat → Int32) (x1 : Int32) {res : Int32} (hf : fX3_actAt q_goal q_steps x1 = some res) : cti l yX3_actAt wsX3_actAt ({ frames := 1, cells := 0, slots := 0, locals := 22 }) D (ty4 cI cL cS cH) sz [.ref a_this, .int x1] (wX3_actAt cI cL cS cH a_this a_this_net a_this_states a_this_steps a_this_seen q_found q_goal q_isSteady q_steps) (wX3_actAt cI cL cS cH a_this a_this_net a_this_states a_this_steps a_this_seen q_found q_goal q_isSteady q_steps) res := by
  refine Met.ofW (cc := cX3_actAt) (maxL := 5) (ret := (some .int)) (by decide) rfl ?_
  intro p e s m args below meth c s₁ B hml hv
  obtain ⟨rfl, hpre⟩ := hv
  obtain rfl := hpre.1
  have C : CallFix p m c cX3_actAt 5 s _ wsX3_actAt RX3 := ⟨B.exec, B.bytes, hml, findClass_of_methodNamed B.named, atoms_spec (ws := wsX3_actAt) B.pre⟩
  have hr := B.returns
  have hlocks := B.notSynchronized
  have w := wd_start hpre
  clear hpre B
  have hl := lv_entry ([.ref a_this, .int x1]) (n := 5) (Nat.le_of_ble_eq_true rfl)
  rw [lg_entry_eq]
  generalize (lg_sl ([.ref a_this, .int x1]) ++ List.replicate (5 - (lg_sl ([.ref a_this, .int x1])).length) Slot.unset).toArray = ls at hl ⊢
  have hl : lv_has ls 5 [(0, .ref a_this), (1, .int x1)] := hl
  unfold fX3_actAt at hf
  have hlp27 : ∀ (y27_1 : Int32) (ex27 : Int32 × Int32) (hk : (∀ (H : Heap) (locs : List Loc) (ls : Array Slot), wd D (ty4 cI cL cS cH) s (va_A (wX3_actAt cI cL cS cH a_this a_this_net a_this_states a_this_steps a_this_seen q_found q_goal q_isSteady q_steps) s.heap.size) s.heap H locs (wX3_actAt cI cL cS cH a_this a_this_net a_this_states a_this_steps a_this_seen q_found q_goal q_isSteady q_steps) → lv_has ls 5 [(0, .ref a_this), (3, .int ex27.1)] → gX3_actAt p l e s m below meth c D cI cL cS cH a_this a_this_net a_this_states a_this_steps a_this_seen q_found q_goal q_isSteady q_steps x1 res H locs (F0 m 49 ls []))) (n : Nat) (v27 : Int32 × Int32) (H : Heap) (locs : List Loc) (ls : Array Slot), itL (bX3_actAt_27 q_goal q_steps y27_1) n v27 = some ex27 → wd D (ty4 cI cL cS cH) s (va_A (wX3_actAt cI cL cS cH a_this a_this_net a_this_states a_this_steps a_this_seen q_found q_goal q_isSteady q_steps) s.heap.size) s.heap H locs (wX3_actAt cI cL cS cH a_this a_this_net a_this_states a_this_steps a_this_seen q_found q_goal q_isSteady q_steps) → lv_has ls 5 [(0, .ref a_this), (1, .int y27_1), (3, .int v27.1), (4, .int v27.2)] → gX3_actAt p l e s m below meth c D cI cL cS cH a_this a_this_net a_this_states a_this_steps a_this_seen q_found q_goal q_isSteady q_steps x1 res H locs (F0 m 27 ls []) := by
    intro y27_1 ex27 hk n
    induction n with
    | zero => intro v27 H locs ls hi w hl; exact (itL_zero hi).elim
    | succ n ih =>
      intro v27 H locs ls hi w hl
      obtain ⟨o, hf, hn⟩ := itL_succ hi
      unfold bX3_actAt_27 at hf
      refine lv_iload C.1 C.2.1 dX3_actAt_27 (lv_at hl 3 rfl) ?_
      refine lv_iload_n C.1 C.2.1 dX3_actAt_29 rfl (lv_at hl 1 rfl) ?_
      refine lv_icmp_le (tgt := 49) C.1 C.2.1 dX3_actAt_30 (by decide) (fun hq1 => ?_) (fun hq1 => ?_)
      · have hf := ite_t hf hq1
        obtain rfl := Option.some.inj hf
        obtain rfl := hn
        exact hk _ _ _ w (lv_sub hl [0, 2] rfl)
      · have hf := ite_f hf hq1
        refine lv_aload_n C.1 C.2.1 dX3_actAt_33 rfl (lv_at hl 0 rfl) ?_
        refine r_get C w inX3_actAt_X3 0 rfl rfl 2 (by decide) lkX3_actAt_22 rfl dX3_actAt_34 ?_
        refine lv_iload_n C.1 C.2.1 dX3_actAt_37 rfl (lv_at hl 2 rfl) ?_
        obtain ⟨y2, hy3, hf⟩ := bd hf
        refine r_iald C w 1 0 rfl rfl (rd_in hy3) dX3_actAt_38 ?_
        refine lv_bipush (v := (8 : Int32)) C.1 C.2.1 dX3_actAt_39 (by decide) ?_
        refine lv_ishr C.1 C.2.1 dX3_actAt_41 ?_
        obtain ⟨y4, hy5, hf⟩ := bnd_e hf
        refine lt_topi hy5 ?_
        refine lv_istore_n (lv' := [(3, .int y4), (0, .ref a_this), (1, .int y27_1), (4, .int v27.2)]) C.1 C.2.1 dX3_actAt_42 rfl hl (by decide) rfl (fun ls hl => ?_)
        refine lv_iinc (v := (v27.2 + (-1 : Int32))) (lv' := [(4, .int (v27.2 + (-1 : Int32))), (3, .int y4), (0, .ref a_this), (1, .int y27_1)]) C.1 C.2.1 dX3_actAt_43 hl (k := 3) rfl rfl (by decide) rfl (fun ls hl => ?_)
        refine lv_goto (tgt := 27) C.1 C.2.1 dX3_actAt_46 (by decide) ?_
        obtain rfl := Option.some.inj hf
        exact ih (y4, (v27.2 + (-1 : Int32))) _ _ _ hn w (lv_sub hl [2, 3, 1, 0] rfl)
  refine lv_aload_n C.1 C.2.1 dX3_actAt_0 rfl (lv_at hl 0 rfl) ?_
  obtain ⟨r6, hc7, hf⟩ := bd hf
  refine call_Vi (ws' := (wX3_actAt cI cL cS cH a_this a_this_net a_this_states a_this_steps a_this_seen q_found q_goal q_isSteady q_steps)) (rest := []) C w (mX3_acts l D cI cL cS cH _ a_this a_this_net a_this_states a_this_steps a_this_seen q_found q_goal q_isSteady q_steps hc7) (cwV 0 C.2.2.2.2 gX3_actAt_X3_acts rfl rfl rfl (by decide +kernel) ⟨Nat.le_of_ble_eq_true rfl, Nat.le_of_ble_eq_true rfl⟩) [0, 1] [] 2 ⟨rfl, rfl, trivial⟩ ⟨rfl, rfl, trivial⟩ trivial rfl (by decide) (by decide) (ci := 3) (q0 := 0) rfl rfl rfl hl.1 rfl (lv_room (Nat.le_of_ble_eq_true rfl)) dX3_actAt_1 ⟨Nat.zero_le _, Nat.zero_le _⟩ (fun H locs w => ?_)
  refine lv_istore_n (lv' := [(2, .int r6), (0, .ref a_this), (1, .int x1)]) C.1 C.2.1 dX3_actAt_4 rfl hl (by decide) rfl (fun ls hl => ?_)
  refine lv_iload_n C.1 C.2.1 dX3_actAt_5 rfl (lv_at hl 2 rfl) ?_
  refine lv_if_lt (tgt := 14) C.1 C.2.1 dX3_actAt_6 (by decide) (fun hq8 => ?_) (fun hq8 => ?_)
  · have hf := ite_t hf hq8
    refine lv_bipush (v := (-4 : Int32)) C.1 C.2.1 dX3_actAt_14 (by decide) ?_
    have hres := Option.some.inj hf
    subst hres
    exact ret_i C hr hlocks w rfl dX3_actAt_16
  · have hf := ite_f hf hq8
    refine lv_iload_n C.1 C.2.1 dX3_actAt_9 rfl (lv_at hl 2 rfl) ?_
    refine lv_iload_n C.1 C.2.1 dX3_actAt_10 rfl (lv_at hl 0 rfl) ?_
    refine lv_icmp_lt (tgt := 17) C.1 C.2.1 dX3_actAt_11 (by decide) (fun hq9 => ?_) (fun hq9 => ?_)
    · have hf := ite_t hf hq9
      refine lv_aload_n C.1 C.2.1 dX3_actAt_17 rfl (lv_at hl 1 rfl) ?_
      refine r_get C w inX3_actAt_X3 0 rfl rfl 5 (by decide) lkX3_actAt_33 rfl dX3_actAt_18 ?_
      refine lv_istore_n (lv' := [(3, .int q_goal), (2, .int r6), (0, .ref a_this), (1, .int x1)]) C.1 C.2.1 dX3_actAt_21 rfl hl (by decide) rfl (fun ls hl => ?_)
      refine lv_iload_n C.1 C.2.1 dX3_actAt_22 rfl (lv_at hl 1 rfl) ?_
      refine lv_iconst (v := (1 : Int32)) C.1 C.2.1 dX3_actAt_23 (by decide) ?_
      refine lv_isub C.1 C.2.1 dX3_actAt_24 ?_
      refine lv_istore (lv' := [(4, .int (r6 - (1 : Int32))), (3, .int q_goal), (2, .int r6), (0, .ref a_this), (1, .int x1)]) C.1 C.2.1 dX3_actAt_25 hl (by decide) rfl (fun ls hl => ?_)
      obtain ⟨ex10, hx11, hf⟩ := bd hf
      refine hlp27 x1 ex10 ?_ fu (q_goal, (r6 - (1 : Int32))) _ _ _ hx11 w (lv_sub hl [3, 4, 1, 0] rfl)
      intro H locs ls w hl
      refine lv_aload_n C.1 C.2.1 dX3_actAt_49 rfl (lv_at hl 0 rfl) ?_
      refine r_get C w inX3_actAt_X3 0 rfl rfl 2 (by decide) lkX3_actAt_22 rfl dX3_actAt_50 ?_
      refine lv_iload_n C.1 C.2.1 dX3_actAt_53 rfl (lv_at hl 1 rfl) ?_
      obtain ⟨y12, hy13, hf⟩ := bd hf
      refine r_iald C w 1 0 rfl rfl (rd_in hy13) dX3_actAt_54 ?_
      refine lv_sipush (v := (255 : Int32)) C.1 C.2.1 dX3_actAt_55 (by decide) ?_
      refine lv_iand C.1 C.2.1 dX3_actAt_58 ?_
      have hres := Option.some.inj hf
      subst hres
      exact ret_i C hr hlocks w rfl dX3_actAt_59
    · have hf := ite_f hf hq9
      refine lv_bipush (v := (-4 : Int32)) C.1 C.2.1 dX3_actAt_14 (by decide) ?_
      have hres := Option.some.inj hf
      subst hres
      exact ret_i C hr hlocks w rfl dX3_actAt_16
