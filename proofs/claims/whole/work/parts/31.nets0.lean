set_option maxRecDepth 100000 in
theorem inX7_isNode_X7 : ∀ w ∈ u_ws RX7 TX7 9, w ∈ wsX7_isNode := by decide +kernel
set_option maxRecDepth 100000 in
theorem lkX7_isNode_12 : Cond.fieldLink RX7 12 "CleanNets" "now" "LCleanNets$Standing;" ∈ wsX7_isNode := by decide +kernel
set_option maxRecDepth 100000 in
theorem inX7_isNode_X5 : ∀ w ∈ u_ws RX5 TX5 7, w ∈ wsX7_isNode := by decide +kernel
set_option maxRecDepth 100000 in
theorem lkX7_isNode_80 : Cond.fieldLink RX7 80 "CleanNets$Standing" "nodes" "I" ∈ wsX7_isNode := by decide +kernel
abbrev wX7_isNode (cI cL cS cH : ClassId) (a_this : Nat) (a_this_now : Nat) (a_this_past : Nat) (a_this_kept : Nat) (a_this_keptPast : Nat) (a_this_plans : Nat) (a_this_plans_search_net : Nat) (a_this_tape : Nat) (a_this_sheets : Nat) (a_this_now_near : Nat) (q_hasImage : Int32) (q_now_nodes : Int32) (q_now_clean : Int32) (q_now_guards : Int32) (q_now_kind : Int32) (q_now_team : Int32) (q_now_draw : Int32) : va_W := [(a_this, .inr (7, [.ref a_this_now, .ref a_this_past, .ref a_this_kept, .ref a_this_keptPast, .int q_hasImage, .ref a_this_plans, .ref a_this_plans_search_net, .ref a_this_tape, .ref a_this_sheets])),
  (a_this_now, .inr (5, [.int q_now_nodes, .ref a_this_now_near, .int q_now_clean, .int q_now_guards, .int q_now_kind, .int q_now_team, .int q_now_draw]))]
def fX7_isNode (q_now_nodes : Int32) (x1 : Int32) : Option (Int32) := (if x1 < 0 then some (0 : Int32) else (if q_now_nodes ≤ x1 then some (0 : Int32) else some (1 : Int32)))
set_option maxHeartbeats 4000000 in
set_option maxRecDepth 100000 in
theorem mX7_isNode (l : Launch) (D : vg) (cI cL cS cH : ClassId) (sz : Nat) (a_this : Nat) (a_this_now : Nat) (a_this_past : Nat) (a_this_kept : Nat) (a_this_keptPast : Nat) (a_this_plans : Nat) (a_this_plans_search_net : Nat) (a_this_tape : Nat) (a_this_sheets : Nat) (a_this_now_near : Nat) (q_hasImage : Int32) (q_now_nodes : Int32) (q_now_clean : Int32) (q_now_guards : Int32) (q_now_kind : Int32) (q_now_team : Int32) (q_now_draw : Int32) (x1 : Int32) {res : Int32} (hf : fX7_isNode q_now_nodes x1 = some res) : cti l yX7_isNode wsX7_isNode ({ frames := 0, cells := 0, slots := 0, locals := 0 }) D (ty4 cI cL cS cH) sz [.ref a_this, .int x1] (wX7_isNode cI cL cS cH a_this a_this_now a_this_past a_this_kept a_this_keptPast a_this_plans a_this_plans_search_net a_this_tape a_this_sheets a_this_now_near q_hasImage q_now_nodes q_now_clean q_now_guards q_now_kind q_now_team q_now_draw) (wX7_isNode cI cL cS cH a_this a_this_now a_this_past a_this_kept a_this_keptPast a_this_plans a_this_plans_search_net a_this_tape a_this_sheets a_this_now_near q_hasImage q_now_nodes q_now_clean q_now_guards q_now_kind q_now_team q_now_draw) res := by
  refine Met.ofW (cc := cX7_isNode) (maxL := 2) (ret := (some .boolean)) (by decide) rfl ?_
  intro p e s m args below meth c s₁ B hml hv
  obtain ⟨rfl, hpre⟩ := hv
  obtain rfl := hpre.1
  have C : CallFix p m c cX7_isNode 2 s _ wsX7_isNode RX7 := ⟨B.exec, B.bytes, hml, findClass_of_methodNamed B.named, atoms_spec (ws := wsX7_isNode) B.pre⟩
  have hr := B.returns
  have hlocks := B.notSynchronized
  have w := wd_start hpre
  clear hpre B
  have hl := lv_entry ([.ref a_this, .int x1]) (n := 2) (Nat.le_of_ble_eq_true rfl)
  rw [lg_entry_eq]
  generalize (lg_sl ([.ref a_this, .int x1]) ++ List.replicate (2 - (lg_sl ([.ref a_this, .int x1])).length) Slot.unset).toArray = ls at hl ⊢
  have hl : lv_has ls 2 [(0, .ref a_this), (1, .int x1)] := hl
  unfold fX7_isNode at hf
  refine lv_iload_n C.1 C.2.1 dX7_isNode_0 rfl (lv_at hl 1 rfl) ?_
  refine lv_if_lt (tgt := 19) C.1 C.2.1 dX7_isNode_1 (by decide) (fun hq1 => ?_) (fun hq1 => ?_)
  · have hf := ite_t hf hq1
    refine lv_iconst (v := (0 : Int32)) C.1 C.2.1 dX7_isNode_19 (by decide) ?_
    have hres := Option.some.inj hf
    subst hres
    exact ret_z C hr hlocks w (by decide) rfl dX7_isNode_20
  · have hf := ite_f hf hq1
    refine lv_iload_n C.1 C.2.1 dX7_isNode_4 rfl (lv_at hl 1 rfl) ?_
    refine lv_aload_n C.1 C.2.1 dX7_isNode_5 rfl (lv_at hl 0 rfl) ?_
    refine r_get C w inX7_isNode_X7 0 rfl rfl 0 (by decide) lkX7_isNode_12 rfl dX7_isNode_6 ?_
    refine r_get C w inX7_isNode_X5 1 rfl rfl 0 (by decide) lkX7_isNode_80 rfl dX7_isNode_9 ?_
    refine lv_icmp_ge (tgt := 19) C.1 C.2.1 dX7_isNode_12 (by decide) (fun hq2 => ?_) (fun hq2 => ?_)
    · have hf := ite_t hf hq2
      refine lv_iconst (v := (0 : Int32)) C.1 C.2.1 dX7_isNode_19 (by decide) ?_
      have hres := Option.some.inj hf
      subst hres
      exact ret_z C hr hlocks w (by decide) rfl dX7_isNode_20
    · have hf := ite_f hf hq2
      refine lv_iconst (v := (1 : Int32)) C.1 C.2.1 dX7_isNode_15 (by decide) ?_
      refine lv_goto (tgt := 20) C.1 C.2.1 dX7_isNode_16 (by decide) ?_
      have hres := Option.some.inj hf
      subst hres
      exact ret_z C hr hlocks w (by decide) rfl dX7_isNode_20

set_option maxRecDepth 100000 in
theorem inX7_currentNet_X7 : ∀ w ∈ u_ws RX7 TX7 9, w ∈ wsX7_currentNet := by decide +kernel
set_option maxRecDepth 100000 in
theorem lkX7_currentNet_44 : Cond.fieldLink RX7 44 "CleanNets" "net" "LCleanNets$Net;" ∈ wsX7_currentNet := by decide +kernel
set_option maxRecDepth 100000 in
theorem lkX7_currentNet_12 : Cond.fieldLink RX7 12 "CleanNets" "now" "LCleanNets$Standing;" ∈ wsX7_currentNet := by decide +kernel
abbrev wX7_currentNet (cI cL cS cH : ClassId) (a_this : Nat) (a_this_now : Nat) (a_this_past : Nat) (a_this_kept : Nat) (a_this_keptPast : Nat) (a_this_plans : Nat) (a_this_plans_search_net : Nat) (a_this_tape : Nat) (a_this_sheets : Nat) (a_this_now_near : Nat) (a_this_plans_search_net_near : Nat) (a_this_plans_search_net_beside : Nat) (q_hasImage : Int32) (q_now_nodes : Int32) (q_now_clean : Int32) (q_now_guards : Int32) (q_now_kind : Int32) (q_now_team : Int32) (q_now_draw : Int32) (q_now_near : Nat → Int32) (q_plans_search_net_nodes : Int32) (q_plans_search_net_all : Int32) (q_plans_search_net_edition : Int32) (q_plans_search_net_beside : Nat → Int32) (q_plans_search_net_near : Nat → Int32) : va_W := [(a_this, .inr (7, [.ref a_this_now, .ref a_this_past, .ref a_this_kept, .ref a_this_keptPast, .int q_hasImage, .ref a_this_plans, .ref a_this_plans_search_net, .ref a_this_tape, .ref a_this_sheets])),
  (a_this_now, .inr (5, [.int q_now_nodes, .ref a_this_now_near, .int q_now_clean, .int q_now_guards, .int q_now_kind, .int q_now_team, .int q_now_draw])),
  (a_this_now_near, .inl (cI, 7, .inl q_now_near)),
  (a_this_plans_search_net, .inr (0, [.int q_plans_search_net_nodes, .int q_plans_search_net_all, .int q_plans_search_net_edition, .ref a_this_plans_search_net_near, .ref a_this_plans_search_net_beside])),
  (a_this_plans_search_net_beside, .inl (cI, 128, .inl q_plans_search_net_beside)),
  (a_this_plans_search_net_near, .inl (cI, 7, .inl q_plans_search_net_near))]
def fX7_currentNet (q_now_nodes : Int32) (q_now_near : Nat → Int32) (q_plans_search_net_nodes : Int32) (q_plans_search_net_all : Int32) (q_plans_search_net_edition : Int32) (q_plans_search_net_beside : Nat → Int32) (q_plans_search_net_near : Nat → Int32)  : Option (Int32 × Int32 × Int32 × (Nat → Int32) × (Nat → Int32)) := Option.bind (fX0_follow q_now_nodes q_now_near q_plans_search_net_nodes q_plans_search_net_all q_plans_search_net_edition q_plans_search_net_beside q_plans_search_net_near) (fun r1 => some (r1.1, r1.2.1, r1.2.2.1, r1.2.2.2.1, r1.2.2.2.2))
set_option maxHeartbeats 4000000 in
set_option maxRecDepth 100000 in
theorem mX7_currentNet (l : Launch) (D : vg) (cI cL cS cH : ClassId) (sz : Nat) (a_this : Nat) (a_this_now : Nat) (a_this_past : Nat) (a_this_kept : Nat) (a_this_keptPast : Nat) (a_this_plans : Nat) (a_this_plans_search_net : Nat) (a_this_tape : Nat) (a_this_sheets : Nat) (a_this_now_near : Nat) (a_this_plans_search_net_near : Nat) (a_this_plans_search_net_beside : Nat) (q_hasImage : Int32) (q_now_nodes : Int32) (q_now_clean : Int32) (q_now_guards : Int32) (q_now_kind : Int32) (q_now_team : Int32) (q_now_draw : Int32) (q_now_near : Nat → Int32) (q_plans_search_net_nodes : Int32) (q_plans_search_net_all : Int32) (q_plans_search_net_edition : Int32) (q_plans_search_net_beside : Nat → Int32) (q_plans_search_net_near : Nat → Int32) {res : Int32 × Int32 × Int32 × (Nat → Int32) × (Nat → Int32)} (hf : fX7_currentNet q_now_nodes q_now_near q_plans_search_net_nodes q_plans_search_net_all q_plans_search_net_edition q_plans_search_net_beside q_plans_search_net_near = some res) : ctr l yX7_currentNet wsX7_currentNet ({ frames := 2, cells := 0, slots := 0, locals := 45 }) D (ty4 cI cL cS cH) sz [.ref a_this] (wX7_currentNet cI cL cS cH a_this a_this_now a_this_past a_this_kept a_this_keptPast a_this_plans a_this_plans_search_net a_this_tape a_this_sheets a_this_now_near a_this_plans_search_net_near a_this_plans_search_net_beside q_hasImage q_now_nodes q_now_clean q_now_guards q_now_kind q_now_team q_now_draw q_now_near q_plans_search_net_nodes q_plans_search_net_all q_plans_search_net_edition q_plans_search_net_beside q_plans_search_net_near) (wX7_currentNet cI cL cS cH a_this a_this_now a_this_past a_this_kept a_this_keptPast a_this_plans a_this_plans_search_net a_this_tape a_this_sheets a_this_now_near a_this_plans_search_net_near a_this_plans_search_net_beside q_hasImage q_now_nodes q_now_clean q_now_guards q_now_kind q_now_team q_now_draw q_now_near res.1 res.2.1 res.2.2.1 res.2.2.2.1 res.2.2.2.2) a_this_plans_search_net := by
  refine Met.ofW (cc := cX7_currentNet) (maxL := 1) (ret := (some (.object "CleanNets$Net"))) (by decide) rfl ?_
  intro p e s m args below meth c s₁ B hml hv
  obtain ⟨rfl, hpre⟩ := hv
  obtain rfl := hpre.1
  have C : CallFix p m c cX7_currentNet 1 s _ wsX7_currentNet RX7 := ⟨B.exec, B.bytes, hml, findClass_of_methodNamed B.named, atoms_spec (ws := wsX7_currentNet) B.pre⟩
  have hr := B.returns
  have hlocks := B.notSynchronized
  have w := wd_start hpre
  clear hpre B
  have hl := lv_entry ([.ref a_this]) (n := 1) (Nat.le_of_ble_eq_true rfl)
  rw [lg_entry_eq]
  generalize (lg_sl ([.ref a_this]) ++ List.replicate (1 - (lg_sl ([.ref a_this])).length) Slot.unset).toArray = ls at hl ⊢
  have hl : lv_has ls 1 [(0, .ref a_this)] := hl
  unfold fX7_currentNet at hf
  refine lv_aload_n C.1 C.2.1 dX7_currentNet_0 rfl (lv_at hl 0 rfl) ?_
  refine r_get C w inX7_currentNet_X7 0 rfl rfl 6 (by decide) lkX7_currentNet_44 rfl dX7_currentNet_1 ?_
  refine lv_aload_n C.1 C.2.1 dX7_currentNet_4 rfl (lv_at hl 0 rfl) ?_
  refine r_get C w inX7_currentNet_X7 0 rfl rfl 0 (by decide) lkX7_currentNet_12 rfl dX7_currentNet_5 ?_
  obtain ⟨r1, hc2, hf⟩ := bd hf
  refine call_Vv (ws' := (wX7_currentNet cI cL cS cH a_this a_this_now a_this_past a_this_kept a_this_keptPast a_this_plans a_this_plans_search_net a_this_tape a_this_sheets a_this_now_near a_this_plans_search_net_near a_this_plans_search_net_beside q_hasImage q_now_nodes q_now_clean q_now_guards q_now_kind q_now_team q_now_draw q_now_near r1.1 r1.2.1 r1.2.2.1 r1.2.2.2.1 r1.2.2.2.2)) (rest := []) C w (mX0_follow l D cI cL cS cH _ a_this_now a_this_now_near a_this_plans_search_net a_this_plans_search_net_near a_this_plans_search_net_beside q_now_nodes q_now_clean q_now_guards q_now_kind q_now_team q_now_draw q_now_near q_plans_search_net_nodes q_plans_search_net_all q_plans_search_net_edition q_plans_search_net_beside q_plans_search_net_near hc2) (cwV 1 C.2.2.2.2 gX7_currentNet_X0_follow rfl rfl rfl (by decide +kernel) ⟨Nat.le_of_ble_eq_true rfl, Nat.le_of_ble_eq_true rfl⟩) [1, 2, 3, 4, 5] [0] 6 ⟨rfl, rfl, rfl, rfl, rfl, trivial⟩ ⟨rfl, rfl, rfl, rfl, rfl, trivial⟩ ⟨⟨_, rfl, rfl⟩, trivial⟩ rfl (by decide) (by decide) (ci := 0) (q0 := 3) rfl rfl rfl hl.1 rfl (lv_room (Nat.le_of_ble_eq_true rfl)) dX7_currentNet_8 ⟨Nat.zero_le _, Nat.zero_le _⟩ (fun H locs w => ?_)
  refine lv_aload_n C.1 C.2.1 dX7_currentNet_11 rfl (lv_at hl 0 rfl) ?_
  refine r_get C w inX7_currentNet_X7 0 rfl rfl 6 (by decide) lkX7_currentNet_44 rfl dX7_currentNet_12 ?_
  have hres := Option.some.inj hf
  subst hres
  exact ret_r C hr hlocks w (Or.inl ⟨_, rfl⟩) dX7_currentNet_15

set_option maxRecDepth 100000 in
theorem inX7_node_X7 : ∀ w ∈ u_ws RX7 TX7 9, w ∈ wsX7_node := by decide +kernel
set_option maxRecDepth 100000 in
theorem lkX7_node_12 : Cond.fieldLink RX7 12 "CleanNets" "now" "LCleanNets$Standing;" ∈ wsX7_node := by decide +kernel
set_option maxRecDepth 100000 in
theorem inX7_node_X5 : ∀ w ∈ u_ws RX5 TX5 7, w ∈ wsX7_node := by decide +kernel
set_option maxRecDepth 100000 in
theorem lkX7_node_67 : Cond.fieldLink RX7 67 "CleanNets$Standing" "near" "[I" ∈ wsX7_node := by decide +kernel
abbrev wX7_node (cI cL cS cH : ClassId) (a_this : Nat) (a_this_now : Nat) (a_this_past : Nat) (a_this_kept : Nat) (a_this_keptPast : Nat) (a_this_plans : Nat) (a_this_plans_search_net : Nat) (a_this_tape : Nat) (a_this_sheets : Nat) (a_this_now_near : Nat) (a_this_plans_search_net_near : Nat) (a_this_plans_search_net_beside : Nat) (q_hasImage : Int32) (q_now_nodes : Int32) (q_now_clean : Int32) (q_now_guards : Int32) (q_now_kind : Int32) (q_now_team : Int32) (q_now_draw : Int32) (q_now_near : Nat → Int32) (q_plans_search_net_nodes : Int32) (q_plans_search_net_all : Int32) (q_plans_search_net_edition : Int32) (q_plans_search_net_beside : Nat → Int32) (q_plans_search_net_near : Nat → Int32) : va_W := [(a_this, .inr (7, [.ref a_this_now, .ref a_this_past, .ref a_this_kept, .ref a_this_keptPast, .int q_hasImage, .ref a_this_plans, .ref a_this_plans_search_net, .ref a_this_tape, .ref a_this_sheets])),
  (a_this_now, .inr (5, [.int q_now_nodes, .ref a_this_now_near, .int q_now_clean, .int q_now_guards, .int q_now_kind, .int q_now_team, .int q_now_draw])),
  (a_this_now_near, .inl (cI, 7, .inl q_now_near)),
  (a_this_plans_search_net, .inr (0, [.int q_plans_search_net_nodes, .int q_plans_search_net_all, .int q_plans_search_net_edition, .ref a_this_plans_search_net_near, .ref a_this_plans_search_net_beside])),
  (a_this_plans_search_net_beside, .inl (cI, 128, .inl q_plans_search_net_beside)),
  (a_this_plans_search_net_near, .inl (cI, 7, .inl q_plans_search_net_near))]
def fX7_node (q_now_nodes : Int32) (q_now_clean : Int32) (q_now_guards : Int32) (q_now_near : Nat → Int32) (q_plans_search_net_nodes : Int32) (q_plans_search_net_all : Int32) (q_plans_search_net_edition : Int32) (q_plans_search_net_beside : Nat → Int32) (q_plans_search_net_near : Nat → Int32) (x1 : Int32) (x2 : Int32) : Option (Int32 × Int32 × Int32 × Int32 × (Nat → Int32) × (Nat → Int32)) := Option.bind (fX7_isNode q_now_nodes x1) (fun r1 => (if r1 = 0 then some ((-1 : Int32), q_plans_search_net_nodes, q_plans_search_net_all, q_plans_search_net_edition, q_plans_search_net_beside, q_plans_search_net_near) else (if x2 = (0 : Int32) then Option.bind (fX5_look q_now_clean q_now_guards x1) (fun r5 => some (r5, q_plans_search_net_nodes, q_plans_search_net_all, q_plans_search_net_edition, q_plans_search_net_beside, q_plans_search_net_near)) else (if x2 = (1 : Int32) then Option.bind (rd q_now_near 7 x1) (fun y8 => some (y8, q_plans_search_net_nodes, q_plans_search_net_all, q_plans_search_net_edition, q_plans_search_net_beside, q_plans_search_net_near)) else (if x2 = (2 : Int32) then Option.bind (fX7_currentNet q_now_nodes q_now_near q_plans_search_net_nodes q_plans_search_net_all q_plans_search_net_edition q_plans_search_net_beside q_plans_search_net_near) (fun r11 => Option.bind (fX0_partOf r11.2.1 r11.2.2.2.1 x1) (fun r13 => some (r13, r11.1, r11.2.1, r11.2.2.1, r11.2.2.2.1, r11.2.2.2.2))) else some ((-1 : Int32), q_plans_search_net_nodes, q_plans_search_net_all, q_plans_search_net_edition, q_plans_search_net_beside, q_plans_search_net_near))))))
set_option maxHeartbeats 4000000 in
set_option maxRecDepth 100000 in
theorem mX7_node (l : Launch) (D : vg) (cI cL cS cH : ClassId) (sz : Nat) (a_this : Nat) (a_this_now : Nat) (a_this_past : Nat) (a_this_kept : Nat) (a_this_keptPast : Nat) (a_this_plans : Nat) (a_this_plans_search_net : Nat) (a_this_tape : Nat) (a_this_sheets : Nat) (a_this_now_near : Nat) (a_this_plans_search_net_near : Nat) (a_this_plans_search_net_beside : Nat) (q_hasImage : Int32) (q_now_nodes : Int32) (q_now_clean : Int32) (q_now_guards : Int32) (q_now_kind : Int32) (q_now_team : Int32) (q_now_draw : Int32) (q_now_near : Nat → Int32) (q_plans_search_net_nodes : Int32) (q_plans_search_net_all : Int32) (q_plans_search_net_edition : Int32) (q_plans_search_net_beside : Nat → Int32) (q_plans_search_net_near : Nat → Int32) (x1 : Int32) (x2 : Int32) {res : Int32 × Int32 × Int32 × Int32 × (Nat → Int32) × (Nat → Int32)} (hf : fX7_node q_now_nodes q_now_clean q_now_guards q_now_near q_plans_search_net_nodes q_plans_search_net_all q_plans_search_net_edition q_plans_search_net_beside q_plans_search_net_near x1 x2 = some res) : cti l yX7_node wsX7_node ({ frames := 4, cells := 0, slots := 0, locals := 88 }) D (ty4 cI cL cS cH) sz [.ref a_this, .int x1, .int x2] (wX7_node cI cL cS cH a_this a_this_now a_this_past a_this_kept a_this_keptPast a_this_plans a_this_plans_search_net a_this_tape a_this_sheets a_this_now_near a_this_plans_search_net_near a_this_plans_search_net_beside q_hasImage q_now_nodes q_now_clean q_now_guards q_now_kind q_now_team q_now_draw q_now_near q_plans_search_net_nodes q_plans_search_net_all q_plans_search_net_edition q_plans_search_net_beside q_plans_search_net_near) (wX7_node cI cL cS cH a_this a_this_now a_this_past a_this_kept a_this_keptPast a_this_plans a_this_plans_search_net a_this_tape a_this_sheets a_this_now_near a_this_plans_search_net_near a_this_plans_search_net_beside q_hasImage q_now_nodes q_now_clean q_now_guards q_now_kind q_now_team q_now_draw q_now_near res.2.1 res.2.2.1 res.2.2.2.1 res.2.2.2.2.1 res.2.2.2.2.2) res.1 := by
  refine Met.ofW (cc := cX7_node) (maxL := 3) (ret := (some .int)) (by decide) rfl ?_
  intro p e s m args below meth c s₁ B hml hv
  obtain ⟨rfl, hpre⟩ := hv
  obtain rfl := hpre.1
  have C : CallFix p m c cX7_node 3 s _ wsX7_node RX7 := ⟨B.exec, B.bytes, hml, findClass_of_methodNamed B.named, atoms_spec (ws := wsX7_node) B.pre⟩
  have hr := B.returns
  have hlocks := B.notSynchronized
  have w := wd_start hpre
  clear hpre B
  have hl := lv_entry ([.ref a_this, .int x1, .int x2]) (n := 3) (Nat.le_of_ble_eq_true rfl)
  rw [lg_entry_eq]
  generalize (lg_sl ([.ref a_this, .int x1, .int x2]) ++ List.replicate (3 - (lg_sl ([.ref a_this, .int x1, .int x2])).length) Slot.unset).toArray = ls at hl ⊢
  have hl : lv_has ls 3 [(0, .ref a_this), (1, .int x1), (2, .int x2)] := hl
  unfold fX7_node at hf
  refine lv_aload_n C.1 C.2.1 dX7_node_0 rfl (lv_at hl 0 rfl) ?_
  refine lv_iload_n C.1 C.2.1 dX7_node_1 rfl (lv_at hl 1 rfl) ?_
  obtain ⟨r1, hc2, hf⟩ := bd hf
  refine call_Vi (ws' := (wX7_node cI cL cS cH a_this a_this_now a_this_past a_this_kept a_this_keptPast a_this_plans a_this_plans_search_net a_this_tape a_this_sheets a_this_now_near a_this_plans_search_net_near a_this_plans_search_net_beside q_hasImage q_now_nodes q_now_clean q_now_guards q_now_kind q_now_team q_now_draw q_now_near q_plans_search_net_nodes q_plans_search_net_all q_plans_search_net_edition q_plans_search_net_beside q_plans_search_net_near)) (rest := []) C w (mX7_isNode l D cI cL cS cH _ a_this a_this_now a_this_past a_this_kept a_this_keptPast a_this_plans a_this_plans_search_net a_this_tape a_this_sheets a_this_now_near q_hasImage q_now_nodes q_now_clean q_now_guards q_now_kind q_now_team q_now_draw x1 hc2) (cwV 1 C.2.2.2.2 gX7_node_X7_isNode rfl rfl rfl (by decide +kernel) ⟨Nat.le_of_ble_eq_true rfl, Nat.le_of_ble_eq_true rfl⟩) [0, 1] [2, 3, 4, 5] 6 ⟨rfl, rfl, trivial⟩ ⟨rfl, rfl, trivial⟩ ⟨⟨_, rfl, rfl⟩, ⟨_, rfl, rfl⟩, ⟨_, rfl, rfl⟩, ⟨_, rfl, rfl⟩, trivial⟩ rfl (by decide) (by decide) (ci := 7) (q0 := 0) rfl rfl rfl hl.1 rfl (lv_room (Nat.le_of_ble_eq_true rfl)) dX7_node_2 ⟨Nat.zero_le _, Nat.zero_le _⟩ (fun H locs w => ?_)
  refine lv_if_ne (tgt := 10) C.1 C.2.1 dX7_node_5 (by decide) (fun hq3 => ?_) (fun hq3 => ?_)
  · have hf := ite_f hf hq3
    refine lv_iload_n C.1 C.2.1 dX7_node_10 rfl (lv_at hl 2 rfl) ?_
    by_cases hs4 : x2 = (0 : Int32)
    · have hf := ite_t hf hs4
      refine lv_tableIn (tgt := 36) (off := 25) C.1 C.2.1 dX7_node_11 (by rw [hs4]; decide) (by rw [hs4]; decide) (by rw [hs4]; rfl) (by decide) ?_
      refine lv_aload_n C.1 C.2.1 dX7_node_36 rfl (lv_at hl 0 rfl) ?_
      refine r_get C w inX7_node_X7 0 rfl rfl 0 (by decide) lkX7_node_12 rfl dX7_node_37 ?_
      refine lv_iload_n C.1 C.2.1 dX7_node_40 rfl (lv_at hl 1 rfl) ?_
      obtain ⟨r5, hc6, hf⟩ := bd hf
      refine call_Vi (ws' := (wX7_node cI cL cS cH a_this a_this_now a_this_past a_this_kept a_this_keptPast a_this_plans a_this_plans_search_net a_this_tape a_this_sheets a_this_now_near a_this_plans_search_net_near a_this_plans_search_net_beside q_hasImage q_now_nodes q_now_clean q_now_guards q_now_kind q_now_team q_now_draw q_now_near q_plans_search_net_nodes q_plans_search_net_all q_plans_search_net_edition q_plans_search_net_beside q_plans_search_net_near)) (rest := []) C w (mX5_look l D cI cL cS cH _ a_this_now a_this_now_near q_now_nodes q_now_clean q_now_guards q_now_kind q_now_team q_now_draw x1 hc6) (cwV 1 C.2.2.2.2 gX7_node_X5_look rfl rfl rfl (by decide +kernel) ⟨Nat.le_of_ble_eq_true rfl, Nat.le_of_ble_eq_true rfl⟩) [1] [0, 2, 3, 4, 5] 6 ⟨rfl, trivial⟩ ⟨rfl, trivial⟩ ⟨⟨_, rfl, rfl⟩, ⟨_, rfl, rfl⟩, ⟨_, rfl, rfl⟩, ⟨_, rfl, rfl⟩, ⟨_, rfl, rfl⟩, trivial⟩ rfl (by decide) (by decide) (ci := 5) (q0 := 1) rfl rfl rfl hl.1 rfl (lv_room (Nat.le_of_ble_eq_true rfl)) dX7_node_41 ⟨Nat.zero_le _, Nat.zero_le _⟩ (fun H locs w => ?_)
      have hres := Option.some.inj hf
      subst hres
      exact ret_i C hr hlocks w rfl dX7_node_44
    have hf := ite_f hf hs4
    by_cases hs7 : x2 = (1 : Int32)
    · have hf := ite_t hf hs7
      refine lv_tableIn (tgt := 45) (off := 34) C.1 C.2.1 dX7_node_11 (by rw [hs7]; decide) (by rw [hs7]; decide) (by rw [hs7]; rfl) (by decide) ?_
      refine lv_aload_n C.1 C.2.1 dX7_node_45 rfl (lv_at hl 0 rfl) ?_
      refine r_get C w inX7_node_X7 0 rfl rfl 0 (by decide) lkX7_node_12 rfl dX7_node_46 ?_
      refine r_get C w inX7_node_X5 1 rfl rfl 1 (by decide) lkX7_node_67 rfl dX7_node_49 ?_
      refine lv_iload_n C.1 C.2.1 dX7_node_52 rfl (lv_at hl 1 rfl) ?_
      obtain ⟨y8, hy9, hf⟩ := bd hf
      refine r_iald C w 2 0 rfl rfl (rd_in hy9) dX7_node_53 ?_
      have hres := Option.some.inj hf
      subst hres
      exact ret_i C hr hlocks w rfl dX7_node_54
    have hf := ite_f hf hs7
    by_cases hs10 : x2 = (2 : Int32)
    · have hf := ite_t hf hs10
      refine lv_tableIn (tgt := 55) (off := 44) C.1 C.2.1 dX7_node_11 (by rw [hs10]; decide) (by rw [hs10]; decide) (by rw [hs10]; rfl) (by decide) ?_
      refine lv_aload_n C.1 C.2.1 dX7_node_55 rfl (lv_at hl 0 rfl) ?_
      obtain ⟨r11, hc12, hf⟩ := bd hf
      refine call_Vr (ws' := (wX7_node cI cL cS cH a_this a_this_now a_this_past a_this_kept a_this_keptPast a_this_plans a_this_plans_search_net a_this_tape a_this_sheets a_this_now_near a_this_plans_search_net_near a_this_plans_search_net_beside q_hasImage q_now_nodes q_now_clean q_now_guards q_now_kind q_now_team q_now_draw q_now_near r11.1 r11.2.1 r11.2.2.1 r11.2.2.2.1 r11.2.2.2.2)) (rest := []) C w (mX7_currentNet l D cI cL cS cH _ a_this a_this_now a_this_past a_this_kept a_this_keptPast a_this_plans a_this_plans_search_net a_this_tape a_this_sheets a_this_now_near a_this_plans_search_net_near a_this_plans_search_net_beside q_hasImage q_now_nodes q_now_clean q_now_guards q_now_kind q_now_team q_now_draw q_now_near q_plans_search_net_nodes q_plans_search_net_all q_plans_search_net_edition q_plans_search_net_beside q_plans_search_net_near hc12) (cwV 0 C.2.2.2.2 gX7_node_X7_currentNet rfl rfl rfl (by decide +kernel) ⟨Nat.le_of_ble_eq_true rfl, Nat.le_of_ble_eq_true rfl⟩) [0, 1, 2, 3, 4, 5] [] 6 ⟨rfl, rfl, rfl, rfl, rfl, rfl, trivial⟩ ⟨rfl, rfl, rfl, rfl, rfl, rfl, trivial⟩ trivial rfl (by decide) (by decide) (ci := 7) (q0 := 0) rfl rfl rfl hl.1 rfl (lv_room (Nat.le_of_ble_eq_true rfl)) dX7_node_56 ⟨Nat.zero_le _, Nat.zero_le _⟩ (fun H locs w => ?_)
      refine lv_iload_n C.1 C.2.1 dX7_node_59 rfl (lv_at hl 1 rfl) ?_
      obtain ⟨r13, hc14, hf⟩ := bd hf
      refine call_Vi (ws' := (wX7_node cI cL cS cH a_this a_this_now a_this_past a_this_kept a_this_keptPast a_this_plans a_this_plans_search_net a_this_tape a_this_sheets a_this_now_near a_this_plans_search_net_near a_this_plans_search_net_beside q_hasImage q_now_nodes q_now_clean q_now_guards q_now_kind q_now_team q_now_draw q_now_near r11.1 r11.2.1 r11.2.2.1 r11.2.2.2.1 r11.2.2.2.2)) (rest := []) C w (mX0_partOf l D cI cL cS cH _ a_this_plans_search_net a_this_plans_search_net_near a_this_plans_search_net_beside r11.1 r11.2.1 r11.2.2.1 r11.2.2.2.1 x1 hc14) (cwV 1 C.2.2.2.2 gX7_node_X0_partOf rfl rfl rfl (by decide +kernel) ⟨Nat.le_of_ble_eq_true rfl, Nat.le_of_ble_eq_true rfl⟩) [3, 4] [0, 1, 2, 5] 6 ⟨rfl, rfl, trivial⟩ ⟨rfl, rfl, trivial⟩ ⟨⟨_, rfl, rfl⟩, ⟨_, rfl, rfl⟩, ⟨_, rfl, rfl⟩, ⟨_, rfl, rfl⟩, trivial⟩ rfl (by decide) (by decide) (ci := 0) (q0 := 3) rfl rfl rfl hl.1 rfl (lv_room (Nat.le_of_ble_eq_true rfl)) dX7_node_60 ⟨Nat.zero_le _, Nat.zero_le _⟩ (fun H locs w => ?_)
      have hres := Option.some.inj hf
      subst hres
      exact ret_i C hr hlocks w rfl dX7_node_63
    have hf := ite_f hf hs10
    refine lv_tableOut (tgt := 64) C.1 C.2.1 dX7_node_11 (sw_out0_2 hs4 hs7 hs10) (by decide) ?_
    refine lv_iconst (v := (-1 : Int32)) C.1 C.2.1 dX7_node_64 (by decide) ?_
    have hres := Option.some.inj hf
    subst hres
    exact ret_i C hr hlocks w rfl dX7_node_65
  · have hf := ite_t hf hq3
    refine lv_iconst (v := (-1 : Int32)) C.1 C.2.1 dX7_node_8 (by decide) ?_
    have hres := Option.some.inj hf
    subst hres
    exact ret_i C hr hlocks w rfl dX7_node_9

set_option maxRecDepth 100000 in
theorem inX7_count_X7 : ∀ w ∈ u_ws RX7 TX7 9, w ∈ wsX7_count := by decide +kernel
set_option maxRecDepth 100000 in
theorem lkX7_count_12 : Cond.fieldLink RX7 12 "CleanNets" "now" "LCleanNets$Standing;" ∈ wsX7_count := by decide +kernel
set_option maxRecDepth 100000 in
theorem inX7_count_X5 : ∀ w ∈ u_ws RX5 TX5 7, w ∈ wsX7_count := by decide +kernel
set_option maxRecDepth 100000 in
theorem lkX7_count_80 : Cond.fieldLink RX7 80 "CleanNets$Standing" "nodes" "I" ∈ wsX7_count := by decide +kernel
set_option maxRecDepth 100000 in
theorem lkX7_count_91 : Cond.fieldLink RX7 91 "CleanNets$Standing" "clean" "I" ∈ wsX7_count := by decide +kernel
set_option maxRecDepth 100000 in
theorem lkX7_count_94 : Cond.fieldLink RX7 94 "CleanNets$Standing" "guards" "I" ∈ wsX7_count := by decide +kernel
set_option maxRecDepth 100000 in
theorem lkX7_count_97 : Cond.fieldLink RX7 97 "CleanNets$Standing" "kind" "I" ∈ wsX7_count := by decide +kernel
set_option maxRecDepth 100000 in
theorem lkX7_count_100 : Cond.fieldLink RX7 100 "CleanNets$Standing" "team" "I" ∈ wsX7_count := by decide +kernel
set_option maxRecDepth 100000 in
theorem lkX7_count_19 : Cond.fieldLink RX7 19 "CleanNets" "past" "LCleanNets$Past;" ∈ wsX7_count := by decide +kernel
set_option maxRecDepth 100000 in
theorem inX7_count_X1 : ∀ w ∈ u_ws RX1 TX1 2, w ∈ wsX7_count := by decide +kernel
set_option maxRecDepth 100000 in
theorem lkX7_count_103 : Cond.fieldLink RX7 103 "CleanNets$Past" "known" "I" ∈ wsX7_count := by decide +kernel
abbrev wX7_count (cI cL cS cH : ClassId) (a_this : Nat) (a_this_now : Nat) (a_this_past : Nat) (a_this_kept : Nat) (a_this_keptPast : Nat) (a_this_plans : Nat) (a_this_plans_search_net : Nat) (a_this_tape : Nat) (a_this_sheets : Nat) (a_this_now_near : Nat) (a_this_past_rows : Nat) (a_this_plans_search_net_near : Nat) (a_this_plans_search_net_beside : Nat) (q_hasImage : Int32) (q_now_nodes : Int32) (q_now_clean : Int32) (q_now_guards : Int32) (q_now_kind : Int32) (q_now_team : Int32) (q_now_draw : Int32) (q_now_near : Nat → Int32) (q_past_known : Int32) (q_plans_search_net_nodes : Int32) (q_plans_search_net_all : Int32) (q_plans_search_net_edition : Int32) (q_plans_search_net_beside : Nat → Int32) (q_plans_search_net_near : Nat → Int32) : va_W := [(a_this, .inr (7, [.ref a_this_now, .ref a_this_past, .ref a_this_kept, .ref a_this_keptPast, .int q_hasImage, .ref a_this_plans, .ref a_this_plans_search_net, .ref a_this_tape, .ref a_this_sheets])),
  (a_this_now, .inr (5, [.int q_now_nodes, .ref a_this_now_near, .int q_now_clean, .int q_now_guards, .int q_now_kind, .int q_now_team, .int q_now_draw])),
  (a_this_now_near, .inl (cI, 7, .inl q_now_near)),
  (a_this_past, .inr (1, [.int q_past_known, .ref a_this_past_rows])),
  (a_this_plans_search_net, .inr (0, [.int q_plans_search_net_nodes, .int q_plans_search_net_all, .int q_plans_search_net_edition, .ref a_this_plans_search_net_near, .ref a_this_plans_search_net_beside])),
  (a_this_plans_search_net_beside, .inl (cI, 128, .inl q_plans_search_net_beside)),
  (a_this_plans_search_net_near, .inl (cI, 7, .inl q_plans_search_net_near))]
def fX7_count (q_now_nodes : Int32) (q_now_clean : Int32) (q_now_guards : Int32) (q_now_kind : Int32) (q_now_team : Int32) (q_now_near : Nat → Int32) (q_past_known : Int32) (q_plans_search_net_nodes : Int32) (q_plans_search_net_all : Int32) (q_plans_search_net_edition : Int32) (q_plans_search_net_beside : Nat → Int32) (q_plans_search_net_near : Nat → Int32) (x1 : Int32) : Option (Int32 × Int32 × Int32 × Int32 × (Nat → Int32) × (Nat → Int32)) := (if x1 = (0 : Int32) then some (q_now_nodes, q_plans_search_net_nodes, q_plans_search_net_all, q_plans_search_net_edition, q_plans_search_net_beside, q_plans_search_net_near) else (if x1 = (1 : Int32) then Option.bind (fX5_links q_now_nodes q_now_near) (fun r3 => some (r3, q_plans_search_net_nodes, q_plans_search_net_all, q_plans_search_net_edition, q_plans_search_net_beside, q_plans_search_net_near)) else (if x1 = (2 : Int32) then Option.bind (fX7_currentNet q_now_nodes q_now_near q_plans_search_net_nodes q_plans_search_net_all q_plans_search_net_edition q_plans_search_net_beside q_plans_search_net_near) (fun r6 => Option.bind (fX0_parts r6.1 r6.2.1 r6.2.2.2.1) (fun r8 => some (r8, r6.1, r6.2.1, r6.2.2.1, r6.2.2.2.1, r6.2.2.2.2))) else (if x1 = (3 : Int32) then some (q_now_clean, q_plans_search_net_nodes, q_plans_search_net_all, q_plans_search_net_edition, q_plans_search_net_beside, q_plans_search_net_near) else (if x1 = (4 : Int32) then some (q_now_guards, q_plans_search_net_nodes, q_plans_search_net_all, q_plans_search_net_edition, q_plans_search_net_beside, q_plans_search_net_near) else (if x1 = (5 : Int32) then some (q_now_kind, q_plans_search_net_nodes, q_plans_search_net_all, q_plans_search_net_edition, q_plans_search_net_beside, q_plans_search_net_near) else (if x1 = (6 : Int32) then some (q_now_team, q_plans_search_net_nodes, q_plans_search_net_all, q_plans_search_net_edition, q_plans_search_net_beside, q_plans_search_net_near) else (if x1 = (7 : Int32) then some (q_past_known, q_plans_search_net_nodes, q_plans_search_net_all, q_plans_search_net_edition, q_plans_search_net_beside, q_plans_search_net_near) else some ((-1 : Int32), q_plans_search_net_nodes, q_plans_search_net_all, q_plans_search_net_edition, q_plans_search_net_beside, q_plans_search_net_near)))))))))
set_option maxHeartbeats 4000000 in
set_option maxRecDepth 100000 in
theorem mX7_count (l : Launch) (D : vg) (cI cL cS cH : ClassId) (sz : Nat) (a_this : Nat) (a_this_now : Nat) (a_this_past : Nat) (a_this_kept : Nat) (a_this_keptPast : Nat) (a_this_plans : Nat) (a_this_plans_search_net : Nat) (a_this_tape : Nat) (a_this_sheets : Nat) (a_this_now_near : Nat) (a_this_past_rows : Nat) (a_this_plans_search_net_near : Nat) (a_this_plans_search_net_beside : Nat) (q_hasImage : Int32) (q_now_nodes : Int32) (q_now_clean : Int32) (q_now_guards : Int32) (q_now_kind : Int32) (q_now_team : Int32) (q_now_draw : Int32) (q_now_near : Nat → Int32) (q_past_known : Int32) (q_plans_search_net_nodes : Int32) (q_plans_search_net_all : Int32) (q_plans_search_net_edition : Int32) (q_plans_search_net_beside : Nat → Int32) (q_plans_search_net_near : Nat → Int32) (x1 : Int32) {res : Int32 × Int32 × Int32 × Int32 × (Nat → Int32) × (Nat → Int32)} (hf : fX7_count q_now_nodes q_now_clean q_now_guards q_now_kind q_now_team q_now_near q_past_known q_plans_search_net_nodes q_plans_search_net_all q_plans_search_net_edition q_plans_search_net_beside q_plans_search_net_near x1 = some res) : cti l yX7_count wsX7_count ({ frames := 4, cells := 0, slots := 0, locals := 87 }) D (ty4 cI cL cS cH) sz [.ref a_this, .int x1] (wX7_count cI cL cS cH a_this a_this_now a_this_past a_this_kept a_this_keptPast a_this_plans a_this_plans_search_net a_this_tape a_this_sheets a_this_now_near a_this_past_rows a_this_plans_search_net_near a_this_plans_search_net_beside q_hasImage q_now_nodes q_now_clean q_now_guards q_now_kind q_now_team q_now_draw q_now_near q_past_known q_plans_search_net_nodes q_plans_search_net_all q_plans_search_net_edition q_plans_search_net_beside q_plans_search_net_near) (wX7_count cI cL cS cH a_this a_this_now a_this_past a_this_kept a_this_keptPast a_this_plans a_this_plans_search_net a_this_tape a_this_sheets a_this_now_near a_this_past_rows a_this_plans_search_net_near a_this_plans_search_net_beside q_hasImage q_now_nodes q_now_clean q_now_guards q_now_kind q_now_team q_now_draw q_now_near q_past_known res.2.1 res.2.2.1 res.2.2.2.1 res.2.2.2.2.1 res.2.2.2.2.2) res.1 := by
  refine Met.ofW (cc := cX7_count) (maxL := 2) (ret := (some .int)) (by decide) rfl ?_
  intro p e s m args below meth c s₁ B hml hv
  obtain ⟨rfl, hpre⟩ := hv
  obtain rfl := hpre.1
  have C : CallFix p m c cX7_count 2 s _ wsX7_count RX7 := ⟨B.exec, B.bytes, hml, findClass_of_methodNamed B.named, atoms_spec (ws := wsX7_count) B.pre⟩
  have hr := B.returns
  have hlocks := B.notSynchronized
  have w := wd_start hpre
  clear hpre B
  have hl := lv_entry ([.ref a_this, .int x1]) (n := 2) (Nat.le_of_ble_eq_true rfl)
  rw [lg_entry_eq]
  generalize (lg_sl ([.ref a_this, .int x1]) ++ List.replicate (2 - (lg_sl ([.ref a_this, .int x1])).length) Slot.unset).toArray = ls at hl ⊢
  have hl : lv_has ls 2 [(0, .ref a_this), (1, .int x1)] := hl
  unfold fX7_count at hf
  refine lv_iload_n C.1 C.2.1 dX7_count_0 rfl (lv_at hl 1 rfl) ?_
  by_cases hs1 : x1 = (0 : Int32)
  · have hf := ite_t hf hs1
    refine lv_tableIn (tgt := 48) (off := 47) C.1 C.2.1 dX7_count_1 (by rw [hs1]; decide) (by rw [hs1]; decide) (by rw [hs1]; rfl) (by decide) ?_
    refine lv_aload_n C.1 C.2.1 dX7_count_48 rfl (lv_at hl 0 rfl) ?_
    refine r_get C w inX7_count_X7 0 rfl rfl 0 (by decide) lkX7_count_12 rfl dX7_count_49 ?_
    refine r_get C w inX7_count_X5 1 rfl rfl 0 (by decide) lkX7_count_80 rfl dX7_count_52 ?_
    have hres := Option.some.inj hf
    subst hres
    exact ret_i C hr hlocks w rfl dX7_count_55
  have hf := ite_f hf hs1
  by_cases hs2 : x1 = (1 : Int32)
  · have hf := ite_t hf hs2
    refine lv_tableIn (tgt := 56) (off := 55) C.1 C.2.1 dX7_count_1 (by rw [hs2]; decide) (by rw [hs2]; decide) (by rw [hs2]; rfl) (by decide) ?_
    refine lv_aload_n C.1 C.2.1 dX7_count_56 rfl (lv_at hl 0 rfl) ?_
    refine r_get C w inX7_count_X7 0 rfl rfl 0 (by decide) lkX7_count_12 rfl dX7_count_57 ?_
    obtain ⟨r3, hc4, hf⟩ := bd hf
    refine call_Vi (ws' := (wX7_count cI cL cS cH a_this a_this_now a_this_past a_this_kept a_this_keptPast a_this_plans a_this_plans_search_net a_this_tape a_this_sheets a_this_now_near a_this_past_rows a_this_plans_search_net_near a_this_plans_search_net_beside q_hasImage q_now_nodes q_now_clean q_now_guards q_now_kind q_now_team q_now_draw q_now_near q_past_known q_plans_search_net_nodes q_plans_search_net_all q_plans_search_net_edition q_plans_search_net_beside q_plans_search_net_near)) (rest := []) C w (mX5_links l D cI cL cS cH _ a_this_now a_this_now_near q_now_nodes q_now_clean q_now_guards q_now_kind q_now_team q_now_draw q_now_near hc4) (cwV 0 C.2.2.2.2 gX7_count_X5_links rfl rfl rfl (by decide +kernel) ⟨Nat.le_of_ble_eq_true rfl, Nat.le_of_ble_eq_true rfl⟩) [1, 2] [0, 3, 4, 5, 6] 7 ⟨rfl, rfl, trivial⟩ ⟨rfl, rfl, trivial⟩ ⟨⟨_, rfl, rfl⟩, ⟨_, rfl, rfl⟩, ⟨_, rfl, rfl⟩, ⟨_, rfl, rfl⟩, ⟨_, rfl, rfl⟩, trivial⟩ rfl (by decide) (by decide) (ci := 5) (q0 := 1) rfl rfl rfl hl.1 rfl (lv_room (Nat.le_of_ble_eq_true rfl)) dX7_count_60 ⟨Nat.zero_le _, Nat.zero_le _⟩ (fun H locs w => ?_)
    have hres := Option.some.inj hf
    subst hres
    exact ret_i C hr hlocks w rfl dX7_count_63
  have hf := ite_f hf hs2
  by_cases hs5 : x1 = (2 : Int32)
  · have hf := ite_t hf hs5
    refine lv_tableIn (tgt := 64) (off := 63) C.1 C.2.1 dX7_count_1 (by rw [hs5]; decide) (by rw [hs5]; decide) (by rw [hs5]; rfl) (by decide) ?_
    refine lv_aload_n C.1 C.2.1 dX7_count_64 rfl (lv_at hl 0 rfl) ?_
    obtain ⟨r6, hc7, hf⟩ := bd hf
    refine call_Vr (ws' := (wX7_count cI cL cS cH a_this a_this_now a_this_past a_this_kept a_this_keptPast a_this_plans a_this_plans_search_net a_this_tape a_this_sheets a_this_now_near a_this_past_rows a_this_plans_search_net_near a_this_plans_search_net_beside q_hasImage q_now_nodes q_now_clean q_now_guards q_now_kind q_now_team q_now_draw q_now_near q_past_known r6.1 r6.2.1 r6.2.2.1 r6.2.2.2.1 r6.2.2.2.2)) (rest := []) C w (mX7_currentNet l D cI cL cS cH _ a_this a_this_now a_this_past a_this_kept a_this_keptPast a_this_plans a_this_plans_search_net a_this_tape a_this_sheets a_this_now_near a_this_plans_search_net_near a_this_plans_search_net_beside q_hasImage q_now_nodes q_now_clean q_now_guards q_now_kind q_now_team q_now_draw q_now_near q_plans_search_net_nodes q_plans_search_net_all q_plans_search_net_edition q_plans_search_net_beside q_plans_search_net_near hc7) (cwV 0 C.2.2.2.2 gX7_count_X7_currentNet rfl rfl rfl (by decide +kernel) ⟨Nat.le_of_ble_eq_true rfl, Nat.le_of_ble_eq_true rfl⟩) [0, 1, 2, 4, 5, 6] [3] 7 ⟨rfl, rfl, rfl, rfl, rfl, rfl, trivial⟩ ⟨rfl, rfl, rfl, rfl, rfl, rfl, trivial⟩ ⟨⟨_, rfl, rfl⟩, trivial⟩ rfl (by decide) (by decide) (ci := 7) (q0 := 0) rfl rfl rfl hl.1 rfl (lv_room (Nat.le_of_ble_eq_true rfl)) dX7_count_65 ⟨Nat.zero_le _, Nat.zero_le _⟩ (fun H locs w => ?_)
    obtain ⟨r8, hc9, hf⟩ := bd hf
    refine call_Vi (ws' := (wX7_count cI cL cS cH a_this a_this_now a_this_past a_this_kept a_this_keptPast a_this_plans a_this_plans_search_net a_this_tape a_this_sheets a_this_now_near a_this_past_rows a_this_plans_search_net_near a_this_plans_search_net_beside q_hasImage q_now_nodes q_now_clean q_now_guards q_now_kind q_now_team q_now_draw q_now_near q_past_known r6.1 r6.2.1 r6.2.2.1 r6.2.2.2.1 r6.2.2.2.2)) (rest := []) C w (mX0_parts l D cI cL cS cH _ a_this_plans_search_net a_this_plans_search_net_near a_this_plans_search_net_beside r6.1 r6.2.1 r6.2.2.1 r6.2.2.2.1 hc9) (cwV 0 C.2.2.2.2 gX7_count_X0_parts rfl rfl rfl (by decide +kernel) ⟨Nat.le_of_ble_eq_true rfl, Nat.le_of_ble_eq_true rfl⟩) [4, 5] [0, 1, 2, 3, 6] 7 ⟨rfl, rfl, trivial⟩ ⟨rfl, rfl, trivial⟩ ⟨⟨_, rfl, rfl⟩, ⟨_, rfl, rfl⟩, ⟨_, rfl, rfl⟩, ⟨_, rfl, rfl⟩, ⟨_, rfl, rfl⟩, trivial⟩ rfl (by decide) (by decide) (ci := 0) (q0 := 4) rfl rfl rfl hl.1 rfl (lv_room (Nat.le_of_ble_eq_true rfl)) dX7_count_68 ⟨Nat.zero_le _, Nat.zero_le _⟩ (fun H locs w => ?_)
    have hres := Option.some.inj hf
    subst hres
    exact ret_i C hr hlocks w rfl dX7_count_71
  have hf := ite_f hf hs5
  by_cases hs10 : x1 = (3 : Int32)
  · have hf := ite_t hf hs10
    refine lv_tableIn (tgt := 72) (off := 71) C.1 C.2.1 dX7_count_1 (by rw [hs10]; decide) (by rw [hs10]; decide) (by rw [hs10]; rfl) (by decide) ?_
    refine lv_aload_n C.1 C.2.1 dX7_count_72 rfl (lv_at hl 0 rfl) ?_
    refine r_get C w inX7_count_X7 0 rfl rfl 0 (by decide) lkX7_count_12 rfl dX7_count_73 ?_
    refine r_get C w inX7_count_X5 1 rfl rfl 2 (by decide) lkX7_count_91 rfl dX7_count_76 ?_
    have hres := Option.some.inj hf
    subst hres
    exact ret_i C hr hlocks w rfl dX7_count_79
  have hf := ite_f hf hs10
  by_cases hs11 : x1 = (4 : Int32)
  · have hf := ite_t hf hs11
    refine lv_tableIn (tgt := 80) (off := 79) C.1 C.2.1 dX7_count_1 (by rw [hs11]; decide) (by rw [hs11]; decide) (by rw [hs11]; rfl) (by decide) ?_
    refine lv_aload_n C.1 C.2.1 dX7_count_80 rfl (lv_at hl 0 rfl) ?_
    refine r_get C w inX7_count_X7 0 rfl rfl 0 (by decide) lkX7_count_12 rfl dX7_count_81 ?_
    refine r_get C w inX7_count_X5 1 rfl rfl 3 (by decide) lkX7_count_94 rfl dX7_count_84 ?_
    have hres := Option.some.inj hf
    subst hres
    exact ret_i C hr hlocks w rfl dX7_count_87
  have hf := ite_f hf hs11
  by_cases hs12 : x1 = (5 : Int32)
  · have hf := ite_t hf hs12
    refine lv_tableIn (tgt := 88) (off := 87) C.1 C.2.1 dX7_count_1 (by rw [hs12]; decide) (by rw [hs12]; decide) (by rw [hs12]; rfl) (by decide) ?_
    refine lv_aload_n C.1 C.2.1 dX7_count_88 rfl (lv_at hl 0 rfl) ?_
    refine r_get C w inX7_count_X7 0 rfl rfl 0 (by decide) lkX7_count_12 rfl dX7_count_89 ?_
    refine r_get C w inX7_count_X5 1 rfl rfl 4 (by decide) lkX7_count_97 rfl dX7_count_92 ?_
    have hres := Option.some.inj hf
    subst hres
    exact ret_i C hr hlocks w rfl dX7_count_95
  have hf := ite_f hf hs12
  by_cases hs13 : x1 = (6 : Int32)
  · have hf := ite_t hf hs13
    refine lv_tableIn (tgt := 96) (off := 95) C.1 C.2.1 dX7_count_1 (by rw [hs13]; decide) (by rw [hs13]; decide) (by rw [hs13]; rfl) (by decide) ?_
    refine lv_aload_n C.1 C.2.1 dX7_count_96 rfl (lv_at hl 0 rfl) ?_
    refine r_get C w inX7_count_X7 0 rfl rfl 0 (by decide) lkX7_count_12 rfl dX7_count_97 ?_
    refine r_get C w inX7_count_X5 1 rfl rfl 5 (by decide) lkX7_count_100 rfl dX7_count_100 ?_
    have hres := Option.some.inj hf
    subst hres
    exact ret_i C hr hlocks w rfl dX7_count_103
  have hf := ite_f hf hs13
  by_cases hs14 : x1 = (7 : Int32)
  · have hf := ite_t hf hs14
    refine lv_tableIn (tgt := 104) (off := 103) C.1 C.2.1 dX7_count_1 (by rw [hs14]; decide) (by rw [hs14]; decide) (by rw [hs14]; rfl) (by decide) ?_
    refine lv_aload_n C.1 C.2.1 dX7_count_104 rfl (lv_at hl 0 rfl) ?_
    refine r_get C w inX7_count_X7 0 rfl rfl 1 (by decide) lkX7_count_19 rfl dX7_count_105 ?_
    refine r_get C w inX7_count_X1 3 rfl rfl 0 (by decide) lkX7_count_103 rfl dX7_count_108 ?_
    have hres := Option.some.inj hf
    subst hres
    exact ret_i C hr hlocks w rfl dX7_count_111
  have hf := ite_f hf hs14
  refine lv_tableOut (tgt := 112) C.1 C.2.1 dX7_count_1 (sw_out0_7 hs1 hs2 hs5 hs10 hs11 hs12 hs13 hs14) (by decide) ?_
  refine lv_iconst (v := (-1 : Int32)) C.1 C.2.1 dX7_count_112 (by decide) ?_
  have hres := Option.some.inj hf
  subst hres
  exact ret_i C hr hlocks w rfl dX7_count_113

set_option maxRecDepth 100000 in
theorem inX7_rulingNow_X7 : ∀ w ∈ u_ws RX7 TX7 9, w ∈ wsX7_rulingNow := by decide +kernel
set_option maxRecDepth 100000 in
theorem lkX7_rulingNow_44 : Cond.fieldLink RX7 44 "CleanNets" "net" "LCleanNets$Net;" ∈ wsX7_rulingNow := by decide +kernel
set_option maxRecDepth 100000 in
theorem lkX7_rulingNow_12 : Cond.fieldLink RX7 12 "CleanNets" "now" "LCleanNets$Standing;" ∈ wsX7_rulingNow := by decide +kernel
set_option maxRecDepth 100000 in
theorem inX7_rulingNow_X5 : ∀ w ∈ u_ws RX5 TX5 7, w ∈ wsX7_rulingNow := by decide +kernel
set_option maxRecDepth 100000 in
theorem lkX7_rulingNow_94 : Cond.fieldLink RX7 94 "CleanNets$Standing" "guards" "I" ∈ wsX7_rulingNow := by decide +kernel
set_option maxRecDepth 100000 in
theorem lkX7_rulingNow_97 : Cond.fieldLink RX7 97 "CleanNets$Standing" "kind" "I" ∈ wsX7_rulingNow := by decide +kernel
set_option maxRecDepth 100000 in
theorem lkX7_rulingNow_100 : Cond.fieldLink RX7 100 "CleanNets$Standing" "team" "I" ∈ wsX7_rulingNow := by decide +kernel
abbrev wX7_rulingNow (cI cL cS cH : ClassId) (a_this : Nat) (a_this_now : Nat) (a_this_past : Nat) (a_this_kept : Nat) (a_this_keptPast : Nat) (a_this_plans : Nat) (a_this_plans_search_net : Nat) (a_this_tape : Nat) (a_this_sheets : Nat) (a_this_now_near : Nat) (a_this_plans_search_net_near : Nat) (a_this_plans_search_net_beside : Nat) (q_hasImage : Int32) (q_now_nodes : Int32) (q_now_clean : Int32) (q_now_guards : Int32) (q_now_kind : Int32) (q_now_team : Int32) (q_now_draw : Int32) (q_now_near : Nat → Int32) (q_plans_search_net_nodes : Int32) (q_plans_search_net_all : Int32) (q_plans_search_net_edition : Int32) (q_plans_search_net_beside : Nat → Int32) (q_plans_search_net_near : Nat → Int32) : va_W := [(a_this, .inr (7, [.ref a_this_now, .ref a_this_past, .ref a_this_kept, .ref a_this_keptPast, .int q_hasImage, .ref a_this_plans, .ref a_this_plans_search_net, .ref a_this_tape, .ref a_this_sheets])),
  (a_this_now, .inr (5, [.int q_now_nodes, .ref a_this_now_near, .int q_now_clean, .int q_now_guards, .int q_now_kind, .int q_now_team, .int q_now_draw])),
  (a_this_now_near, .inl (cI, 7, .inl q_now_near)),
  (a_this_plans_search_net, .inr (0, [.int q_plans_search_net_nodes, .int q_plans_search_net_all, .int q_plans_search_net_edition, .ref a_this_plans_search_net_near, .ref a_this_plans_search_net_beside])),
  (a_this_plans_search_net_beside, .inl (cI, 128, .inl q_plans_search_net_beside)),
  (a_this_plans_search_net_near, .inl (cI, 7, .inl q_plans_search_net_near))]
def fX7_rulingNow (q_now_nodes : Int32) (q_now_guards : Int32) (q_now_kind : Int32) (q_now_team : Int32) (q_now_near : Nat → Int32) (q_plans_search_net_nodes : Int32) (q_plans_search_net_all : Int32) (q_plans_search_net_edition : Int32) (q_plans_search_net_beside : Nat → Int32) (q_plans_search_net_near : Nat → Int32) (x1 : Int32) : Option (Int32 × Int32 × Int32 × Int32 × (Nat → Int32) × (Nat → Int32)) := Option.bind (fX7_currentNet q_now_nodes q_now_near q_plans_search_net_nodes q_plans_search_net_all q_plans_search_net_edition q_plans_search_net_beside q_plans_search_net_near) (fun r1 => Option.bind (fX0_isAct r1.1 ((x1).toInt64)) (fun r3 => (if r3 = 0 then some ((-1 : Int32), r1.1, r1.2.1, r1.2.2.1, r1.2.2.2.1, r1.2.2.2.2) else Option.bind (fX0_ruling r1.1 r1.2.1 r1.2.2.2.1 r1.2.2.2.2 x1 q_now_guards q_now_kind q_now_team) (fun r6 => some (r6, r1.1, r1.2.1, r1.2.2.1, r1.2.2.2.1, r1.2.2.2.2)))))
set_option maxHeartbeats 4000000 in
set_option maxRecDepth 100000 in
theorem mX7_rulingNow (l : Launch) (D : vg) (cI cL cS cH : ClassId) (sz : Nat) (a_this : Nat) (a_this_now : Nat) (a_this_past : Nat) (a_this_kept : Nat) (a_this_keptPast : Nat) (a_this_plans : Nat) (a_this_plans_search_net : Nat) (a_this_tape : Nat) (a_this_sheets : Nat) (a_this_now_near : Nat) (a_this_plans_search_net_near : Nat) (a_this_plans_search_net_beside : Nat) (q_hasImage : Int32) (q_now_nodes : Int32) (q_now_clean : Int32) (q_now_guards : Int32) (q_now_kind : Int32) (q_now_team : Int32) (q_now_draw : Int32) (q_now_near : Nat → Int32) (q_plans_search_net_nodes : Int32) (q_plans_search_net_all : Int32) (q_plans_search_net_edition : Int32) (q_plans_search_net_beside : Nat → Int32) (q_plans_search_net_near : Nat → Int32) (x1 : Int32) {res : Int32 × Int32 × Int32 × Int32 × (Nat → Int32) × (Nat → Int32)} (hf : fX7_rulingNow q_now_nodes q_now_guards q_now_kind q_now_team q_now_near q_plans_search_net_nodes q_plans_search_net_all q_plans_search_net_edition q_plans_search_net_beside q_plans_search_net_near x1 = some res) : cti l yX7_rulingNow wsX7_rulingNow ({ frames := 3, cells := 0, slots := 0, locals := 69 }) D (ty4 cI cL cS cH) sz [.ref a_this, .int x1] (wX7_rulingNow cI cL cS cH a_this a_this_now a_this_past a_this_kept a_this_keptPast a_this_plans a_this_plans_search_net a_this_tape a_this_sheets a_this_now_near a_this_plans_search_net_near a_this_plans_search_net_beside q_hasImage q_now_nodes q_now_clean q_now_guards q_now_kind q_now_team q_now_draw q_now_near q_plans_search_net_nodes q_plans_search_net_all q_plans_search_net_edition q_plans_search_net_beside q_plans_search_net_near) (wX7_rulingNow cI cL cS cH a_this a_this_now a_this_past a_this_kept a_this_keptPast a_this_plans a_this_plans_search_net a_this_tape a_this_sheets a_this_now_near a_this_plans_search_net_near a_this_plans_search_net_beside q_hasImage q_now_nodes q_now_clean q_now_guards q_now_kind q_now_team q_now_draw q_now_near res.2.1 res.2.2.1 res.2.2.2.1 res.2.2.2.2.1 res.2.2.2.2.2) res.1 := by
  refine Met.ofW (cc := cX7_rulingNow) (maxL := 2) (ret := (some .int)) (by decide) rfl ?_
  intro p e s m args below meth c s₁ B hml hv
  obtain ⟨rfl, hpre⟩ := hv
  obtain rfl := hpre.1
  have C : CallFix p m c cX7_rulingNow 2 s _ wsX7_rulingNow RX7 := ⟨B.exec, B.bytes, hml, findClass_of_methodNamed B.named, atoms_spec (ws := wsX7_rulingNow) B.pre⟩
  have hr := B.returns
  have hlocks := B.notSynchronized
  have w := wd_start hpre
  clear hpre B
  have hl := lv_entry ([.ref a_this, .int x1]) (n := 2) (Nat.le_of_ble_eq_true rfl)
  rw [lg_entry_eq]
  generalize (lg_sl ([.ref a_this, .int x1]) ++ List.replicate (2 - (lg_sl ([.ref a_this, .int x1])).length) Slot.unset).toArray = ls at hl ⊢
  have hl : lv_has ls 2 [(0, .ref a_this), (1, .int x1)] := hl
  unfold fX7_rulingNow at hf
  refine lv_aload_n C.1 C.2.1 dX7_rulingNow_0 rfl (lv_at hl 0 rfl) ?_
  obtain ⟨r1, hc2, hf⟩ := bd hf
  refine call_Vr (ws' := (wX7_rulingNow cI cL cS cH a_this a_this_now a_this_past a_this_kept a_this_keptPast a_this_plans a_this_plans_search_net a_this_tape a_this_sheets a_this_now_near a_this_plans_search_net_near a_this_plans_search_net_beside q_hasImage q_now_nodes q_now_clean q_now_guards q_now_kind q_now_team q_now_draw q_now_near r1.1 r1.2.1 r1.2.2.1 r1.2.2.2.1 r1.2.2.2.2)) (rest := []) C w (mX7_currentNet l D cI cL cS cH _ a_this a_this_now a_this_past a_this_kept a_this_keptPast a_this_plans a_this_plans_search_net a_this_tape a_this_sheets a_this_now_near a_this_plans_search_net_near a_this_plans_search_net_beside q_hasImage q_now_nodes q_now_clean q_now_guards q_now_kind q_now_team q_now_draw q_now_near q_plans_search_net_nodes q_plans_search_net_all q_plans_search_net_edition q_plans_search_net_beside q_plans_search_net_near hc2) (cwV 0 C.2.2.2.2 gX7_rulingNow_X7_currentNet rfl rfl rfl (by decide +kernel) ⟨Nat.le_of_ble_eq_true rfl, Nat.le_of_ble_eq_true rfl⟩) [0, 1, 2, 3, 4, 5] [] 6 ⟨rfl, rfl, rfl, rfl, rfl, rfl, trivial⟩ ⟨rfl, rfl, rfl, rfl, rfl, rfl, trivial⟩ trivial rfl (by decide) (by decide) (ci := 7) (q0 := 0) rfl rfl rfl hl.1 rfl (lv_room (Nat.le_of_ble_eq_true rfl)) dX7_rulingNow_1 ⟨Nat.zero_le _, Nat.zero_le _⟩ (fun H locs w => ?_)
  refine lv_pop C.1 C.2.1 dX7_rulingNow_4 rfl ?_
  refine lv_aload_n C.1 C.2.1 dX7_rulingNow_5 rfl (lv_at hl 0 rfl) ?_
  refine r_get C w inX7_rulingNow_X7 0 rfl rfl 6 (by decide) lkX7_rulingNow_44 rfl dX7_rulingNow_6 ?_
  refine lv_iload_n C.1 C.2.1 dX7_rulingNow_9 rfl (lv_at hl 1 rfl) ?_
  refine lv_i2l C.1 C.2.1 dX7_rulingNow_10 rfl ?_
  obtain ⟨r3, hc4, hf⟩ := bd hf
  refine call_Vi (ws' := (wX7_rulingNow cI cL cS cH a_this a_this_now a_this_past a_this_kept a_this_keptPast a_this_plans a_this_plans_search_net a_this_tape a_this_sheets a_this_now_near a_this_plans_search_net_near a_this_plans_search_net_beside q_hasImage q_now_nodes q_now_clean q_now_guards q_now_kind q_now_team q_now_draw q_now_near r1.1 r1.2.1 r1.2.2.1 r1.2.2.2.1 r1.2.2.2.2)) (rest := []) C w (mX0_isAct l D cI cL cS cH _ a_this_plans_search_net a_this_plans_search_net_near a_this_plans_search_net_beside r1.1 r1.2.1 r1.2.2.1 ((x1).toInt64) hc4) (cwV 1 C.2.2.2.2 gX7_rulingNow_X0_isAct rfl rfl rfl (by decide +kernel) ⟨Nat.le_of_ble_eq_true rfl, Nat.le_of_ble_eq_true rfl⟩) [3] [0, 1, 2, 4, 5] 6 ⟨rfl, trivial⟩ ⟨rfl, trivial⟩ ⟨⟨_, rfl, rfl⟩, ⟨_, rfl, rfl⟩, ⟨_, rfl, rfl⟩, ⟨_, rfl, rfl⟩, ⟨_, rfl, rfl⟩, trivial⟩ rfl (by decide) (by decide) (ci := 0) (q0 := 3) rfl rfl rfl hl.1 rfl (lv_room (Nat.le_of_ble_eq_true rfl)) dX7_rulingNow_11 ⟨Nat.zero_le _, Nat.zero_le _⟩ (fun H locs w => ?_)
  refine lv_if_eq (tgt := 49) C.1 C.2.1 dX7_rulingNow_14 (by decide) (fun hq5 => ?_) (fun hq5 => ?_)
  · have hf := ite_t hf hq5
    refine lv_iconst (v := (-1 : Int32)) C.1 C.2.1 dX7_rulingNow_49 (by decide) ?_
    have hres := Option.some.inj hf
    subst hres
    exact ret_i C hr hlocks w rfl dX7_rulingNow_50
  · have hf := ite_f hf hq5
    refine lv_aload_n C.1 C.2.1 dX7_rulingNow_17 rfl (lv_at hl 0 rfl) ?_
    refine r_get C w inX7_rulingNow_X7 0 rfl rfl 6 (by decide) lkX7_rulingNow_44 rfl dX7_rulingNow_18 ?_
    refine lv_iload_n C.1 C.2.1 dX7_rulingNow_21 rfl (lv_at hl 1 rfl) ?_
    refine lv_aload_n C.1 C.2.1 dX7_rulingNow_22 rfl (lv_at hl 0 rfl) ?_
    refine r_get C w inX7_rulingNow_X7 0 rfl rfl 0 (by decide) lkX7_rulingNow_12 rfl dX7_rulingNow_23 ?_
    refine r_get C w inX7_rulingNow_X5 1 rfl rfl 3 (by decide) lkX7_rulingNow_94 rfl dX7_rulingNow_26 ?_
    refine lv_aload_n C.1 C.2.1 dX7_rulingNow_29 rfl (lv_at hl 0 rfl) ?_
    refine r_get C w inX7_rulingNow_X7 0 rfl rfl 0 (by decide) lkX7_rulingNow_12 rfl dX7_rulingNow_30 ?_
    refine r_get C w inX7_rulingNow_X5 1 rfl rfl 4 (by decide) lkX7_rulingNow_97 rfl dX7_rulingNow_33 ?_
    refine lv_aload_n C.1 C.2.1 dX7_rulingNow_36 rfl (lv_at hl 0 rfl) ?_
    refine r_get C w inX7_rulingNow_X7 0 rfl rfl 0 (by decide) lkX7_rulingNow_12 rfl dX7_rulingNow_37 ?_
    refine r_get C w inX7_rulingNow_X5 1 rfl rfl 5 (by decide) lkX7_rulingNow_100 rfl dX7_rulingNow_40 ?_
    obtain ⟨r6, hc7, hf⟩ := bd hf
    refine call_Vi (ws' := (wX7_rulingNow cI cL cS cH a_this a_this_now a_this_past a_this_kept a_this_keptPast a_this_plans a_this_plans_search_net a_this_tape a_this_sheets a_this_now_near a_this_plans_search_net_near a_this_plans_search_net_beside q_hasImage q_now_nodes q_now_clean q_now_guards q_now_kind q_now_team q_now_draw q_now_near r1.1 r1.2.1 r1.2.2.1 r1.2.2.2.1 r1.2.2.2.2)) (rest := []) C w (mX0_ruling l D cI cL cS cH _ a_this_plans_search_net a_this_plans_search_net_near a_this_plans_search_net_beside r1.1 r1.2.1 r1.2.2.1 r1.2.2.2.1 r1.2.2.2.2 x1 q_now_guards q_now_kind q_now_team hc7) (cwV 4 C.2.2.2.2 gX7_rulingNow_X0_ruling rfl rfl rfl (by decide +kernel) ⟨Nat.le_of_ble_eq_true rfl, Nat.le_of_ble_eq_true rfl⟩) [3, 4, 5] [0, 1, 2] 6 ⟨rfl, rfl, rfl, trivial⟩ ⟨rfl, rfl, rfl, trivial⟩ ⟨⟨_, rfl, rfl⟩, ⟨_, rfl, rfl⟩, ⟨_, rfl, rfl⟩, trivial⟩ rfl (by decide) (by decide) (ci := 0) (q0 := 3) rfl rfl rfl hl.1 rfl (lv_room (Nat.le_of_ble_eq_true rfl)) dX7_rulingNow_43 ⟨Nat.zero_le _, Nat.zero_le _⟩ (fun H locs w => ?_)
    refine lv_goto (tgt := 50) C.1 C.2.1 dX7_rulingNow_46 (by decide) ?_
    have hres := Option.some.inj hf
    subst hres
    exact ret_i C hr hlocks w rfl dX7_rulingNow_50

set_option maxRecDepth 100000 in
theorem inX7_would_X7 : ∀ w ∈ u_ws RX7 TX7 9, w ∈ wsX7_would := by decide +kernel
set_option maxRecDepth 100000 in
theorem lkX7_would_12 : Cond.fieldLink RX7 12 "CleanNets" "now" "LCleanNets$Standing;" ∈ wsX7_would := by decide +kernel
set_option maxRecDepth 100000 in
theorem inX7_would_X5 : ∀ w ∈ u_ws RX5 TX5 7, w ∈ wsX7_would := by decide +kernel
set_option maxRecDepth 100000 in
theorem lkX7_would_94 : Cond.fieldLink RX7 94 "CleanNets$Standing" "guards" "I" ∈ wsX7_would := by decide +kernel
set_option maxRecDepth 100000 in
theorem lkX7_would_91 : Cond.fieldLink RX7 91 "CleanNets$Standing" "clean" "I" ∈ wsX7_would := by decide +kernel
set_option maxRecDepth 100000 in
theorem lkX7_would_44 : Cond.fieldLink RX7 44 "CleanNets" "net" "LCleanNets$Net;" ∈ wsX7_would := by decide +kernel
abbrev wX7_would (cI cL cS cH : ClassId) (a_this : Nat) (a_this_now : Nat) (a_this_past : Nat) (a_this_kept : Nat) (a_this_keptPast : Nat) (a_this_plans : Nat) (a_this_plans_search_net : Nat) (a_this_tape : Nat) (a_this_sheets : Nat) (a_this_now_near : Nat) (a_this_plans_search_net_near : Nat) (a_this_plans_search_net_beside : Nat) (q_hasImage : Int32) (q_now_nodes : Int32) (q_now_clean : Int32) (q_now_guards : Int32) (q_now_kind : Int32) (q_now_team : Int32) (q_now_draw : Int32) (q_now_near : Nat → Int32) (q_plans_search_net_nodes : Int32) (q_plans_search_net_all : Int32) (q_plans_search_net_edition : Int32) (q_plans_search_net_beside : Nat → Int32) (q_plans_search_net_near : Nat → Int32) : va_W := [(a_this, .inr (7, [.ref a_this_now, .ref a_this_past, .ref a_this_kept, .ref a_this_keptPast, .int q_hasImage, .ref a_this_plans, .ref a_this_plans_search_net, .ref a_this_tape, .ref a_this_sheets])),
  (a_this_now, .inr (5, [.int q_now_nodes, .ref a_this_now_near, .int q_now_clean, .int q_now_guards, .int q_now_kind, .int q_now_team, .int q_now_draw])),
  (a_this_now_near, .inl (cI, 7, .inl q_now_near)),
  (a_this_plans_search_net, .inr (0, [.int q_plans_search_net_nodes, .int q_plans_search_net_all, .int q_plans_search_net_edition, .ref a_this_plans_search_net_near, .ref a_this_plans_search_net_beside])),
  (a_this_plans_search_net_beside, .inl (cI, 128, .inl q_plans_search_net_beside)),
  (a_this_plans_search_net_near, .inl (cI, 7, .inl q_plans_search_net_near))]
def fX7_would (q_now_nodes : Int32) (q_now_clean : Int32) (q_now_guards : Int32) (q_now_kind : Int32) (q_now_team : Int32) (q_now_near : Nat → Int32) (q_plans_search_net_nodes : Int32) (q_plans_search_net_all : Int32) (q_plans_search_net_edition : Int32) (q_plans_search_net_beside : Nat → Int32) (q_plans_search_net_near : Nat → Int32) (x1 : Int32) : Option (Int32 × Int32 × Int32 × Int32 × (Nat → Int32) × (Nat → Int32)) := Option.bind (fX7_rulingNow q_now_nodes q_now_guards q_now_kind q_now_team q_now_near q_plans_search_net_nodes q_plans_search_net_all q_plans_search_net_edition q_plans_search_net_beside q_plans_search_net_near x1) (fun r1 => (if r1.1 = 0 then Option.bind (fX0_guardsAfter x1 q_now_guards) (fun r4 => Option.bind (fX0_settled r1.2.2.1 r1.2.2.2.2.1 (q_now_clean ||| r4) r4) (fun r6 => Option.bind (fJ6_bitCount_0f7a4 (q_now_clean &&& (r6 ^^^ (-1 : Int32)))) (fun r8 => some (r8, r1.2.1, r1.2.2.1, r1.2.2.2.1, r1.2.2.2.2.1, r1.2.2.2.2.2)))) else some (r1.1, r1.2.1, r1.2.2.1, r1.2.2.2.1, r1.2.2.2.2.1, r1.2.2.2.2.2)))
set_option maxHeartbeats 4000000 in
set_option maxRecDepth 100000 in
theorem mX7_would (l : Launch) (D : vg) (cI cL cS cH : ClassId) (sz : Nat) (a_this : Nat) (a_this_now : Nat) (a_this_past : Nat) (a_this_kept : Nat) (a_this_keptPast : Nat) (a_this_plans : Nat) (a_this_plans_search_net : Nat) (a_this_tape : Nat) (a_this_sheets : Nat) (a_this_now_near : Nat) (a_this_plans_search_net_near : Nat) (a_this_plans_search_net_beside : Nat) (q_hasImage : Int32) (q_now_nodes : Int32) (q_now_clean : Int32) (q_now_guards : Int32) (q_now_kind : Int32) (q_now_team : Int32) (q_now_draw : Int32) (q_now_near : Nat → Int32) (q_plans_search_net_nodes : Int32) (q_plans_search_net_all : Int32) (q_plans_search_net_edition : Int32) (q_plans_search_net_beside : Nat → Int32) (q_plans_search_net_near : Nat → Int32) (x1 : Int32) {res : Int32 × Int32 × Int32 × Int32 × (Nat → Int32) × (Nat → Int32)} (hf : fX7_would q_now_nodes q_now_clean q_now_guards q_now_kind q_now_team q_now_near q_plans_search_net_nodes q_plans_search_net_all q_plans_search_net_edition q_plans_search_net_beside q_plans_search_net_near x1 = some res) : cti l yX7_would wsX7_would ({ frames := 4, cells := 0, slots := 0, locals := 90 }) D (ty4 cI cL cS cH) sz [.ref a_this, .int x1] (wX7_would cI cL cS cH a_this a_this_now a_this_past a_this_kept a_this_keptPast a_this_plans a_this_plans_search_net a_this_tape a_this_sheets a_this_now_near a_this_plans_search_net_near a_this_plans_search_net_beside q_hasImage q_now_nodes q_now_clean q_now_guards q_now_kind q_now_team q_now_draw q_now_near q_plans_search_net_nodes q_plans_search_net_all q_plans_search_net_edition q_plans_search_net_beside q_plans_search_net_near) (wX7_would cI cL cS cH a_this a_this_now a_this_past a_this_kept a_this_keptPast a_this_plans a_this_plans_search_net a_this_tape a_this_sheets a_this_now_near a_this_plans_search_net_near a_this_plans_search_net_beside q_hasImage q_now_nodes q_now_clean q_now_guards q_now_kind q_now_team q_now_draw q_now_near res.2.1 res.2.2.1 res.2.2.2.1 res.2.2.2.2.1 res.2.2.2.2.2) res.1 := by
  refine Met.ofW (cc := cX7_would) (maxL := 4) (ret := (some .int)) (by decide) rfl ?_
  intro p e s m args below meth c s₁ B hml hv
  obtain ⟨rfl, hpre⟩ := hv
  obtain rfl := hpre.1
  have C : CallFix p m c cX7_would 4 s _ wsX7_would RX7 := ⟨B.exec, B.bytes, hml, findClass_of_methodNamed B.named, atoms_spec (ws := wsX7_would) B.pre⟩
  have hr := B.returns
  have hlocks := B.notSynchronized
  have w := wd_start hpre
  clear hpre B
  have hl := lv_entry ([.ref a_this, .int x1]) (n := 4) (Nat.le_of_ble_eq_true rfl)
  rw [lg_entry_eq]
  generalize (lg_sl ([.ref a_this, .int x1]) ++ List.replicate (4 - (lg_sl ([.ref a_this, .int x1])).length) Slot.unset).toArray = ls at hl ⊢
  have hl : lv_has ls 4 [(0, .ref a_this), (1, .int x1)] := hl
  unfold fX7_would at hf
  refine lv_aload_n C.1 C.2.1 dX7_would_0 rfl (lv_at hl 0 rfl) ?_
  refine lv_iload_n C.1 C.2.1 dX7_would_1 rfl (lv_at hl 1 rfl) ?_
  obtain ⟨r1, hc2, hf⟩ := bd hf
  refine call_Vi (ws' := (wX7_would cI cL cS cH a_this a_this_now a_this_past a_this_kept a_this_keptPast a_this_plans a_this_plans_search_net a_this_tape a_this_sheets a_this_now_near a_this_plans_search_net_near a_this_plans_search_net_beside q_hasImage q_now_nodes q_now_clean q_now_guards q_now_kind q_now_team q_now_draw q_now_near r1.2.1 r1.2.2.1 r1.2.2.2.1 r1.2.2.2.2.1 r1.2.2.2.2.2)) (rest := []) C w (mX7_rulingNow l D cI cL cS cH _ a_this a_this_now a_this_past a_this_kept a_this_keptPast a_this_plans a_this_plans_search_net a_this_tape a_this_sheets a_this_now_near a_this_plans_search_net_near a_this_plans_search_net_beside q_hasImage q_now_nodes q_now_clean q_now_guards q_now_kind q_now_team q_now_draw q_now_near q_plans_search_net_nodes q_plans_search_net_all q_plans_search_net_edition q_plans_search_net_beside q_plans_search_net_near x1 hc2) (cwV 1 C.2.2.2.2 gX7_would_X7_rulingNow rfl rfl rfl (by decide +kernel) ⟨Nat.le_of_ble_eq_true rfl, Nat.le_of_ble_eq_true rfl⟩) [0, 1, 2, 3, 4, 5] [] 6 ⟨rfl, rfl, rfl, rfl, rfl, rfl, trivial⟩ ⟨rfl, rfl, rfl, rfl, rfl, rfl, trivial⟩ trivial rfl (by decide) (by decide) (ci := 7) (q0 := 0) rfl rfl rfl hl.1 rfl (lv_room (Nat.le_of_ble_eq_true rfl)) dX7_would_2 ⟨Nat.zero_le _, Nat.zero_le _⟩ (fun H locs w => ?_)
  refine lv_istore_n (lv' := [(2, .int r1.1), (0, .ref a_this), (1, .int x1)]) C.1 C.2.1 dX7_would_5 rfl hl (by decide) rfl (fun ls hl => ?_)
  refine lv_iload_n C.1 C.2.1 dX7_would_6 rfl (lv_at hl 0 rfl) ?_
  refine lv_if_eq (tgt := 12) C.1 C.2.1 dX7_would_7 (by decide) (fun hq3 => ?_) (fun hq3 => ?_)
  · have hf := ite_t hf hq3
    refine lv_iload_n C.1 C.2.1 dX7_would_12 rfl (lv_at hl 2 rfl) ?_
    refine lv_aload_n C.1 C.2.1 dX7_would_13 rfl (lv_at hl 1 rfl) ?_
    refine r_get C w inX7_would_X7 0 rfl rfl 0 (by decide) lkX7_would_12 rfl dX7_would_14 ?_
    refine r_get C w inX7_would_X5 1 rfl rfl 3 (by decide) lkX7_would_94 rfl dX7_would_17 ?_
    obtain ⟨r4, hc5, hf⟩ := bd hf
    refine call_Si (ws' := (wX7_would cI cL cS cH a_this a_this_now a_this_past a_this_kept a_this_keptPast a_this_plans a_this_plans_search_net a_this_tape a_this_sheets a_this_now_near a_this_plans_search_net_near a_this_plans_search_net_beside q_hasImage q_now_nodes q_now_clean q_now_guards q_now_kind q_now_team q_now_draw q_now_near r1.2.1 r1.2.2.1 r1.2.2.2.1 r1.2.2.2.2.1 r1.2.2.2.2.2)) (rest := []) C w (mX0_guardsAfter l D cI cL cS cH _ x1 q_now_guards hc5) (va_cwS 2 C.2.2.2.2 gX7_would_X0_guardsAfter rfl rfl rfl (by decide +kernel) ⟨Nat.le_of_ble_eq_true rfl, Nat.le_of_ble_eq_true rfl⟩) [] [0, 1, 2, 3, 4, 5] 6 trivial trivial ⟨⟨_, rfl, rfl⟩, ⟨_, rfl, rfl⟩, ⟨_, rfl, rfl⟩, ⟨_, rfl, rfl⟩, ⟨_, rfl, rfl⟩, ⟨_, rfl, rfl⟩, trivial⟩ rfl (by decide) (by decide) rfl hl.1 rfl (lv_room (Nat.le_of_ble_eq_true rfl)) dX7_would_20 ⟨Nat.zero_le _, Nat.zero_le _⟩ (fun H locs w => ?_)
    refine lv_istore_n (lv' := [(3, .int r4), (2, .int r1.1), (0, .ref a_this), (1, .int x1)]) C.1 C.2.1 dX7_would_23 rfl hl (by decide) rfl (fun ls hl => ?_)
    refine lv_aload_n C.1 C.2.1 dX7_would_24 rfl (lv_at hl 2 rfl) ?_
    refine r_get C w inX7_would_X7 0 rfl rfl 0 (by decide) lkX7_would_12 rfl dX7_would_25 ?_
    refine r_get C w inX7_would_X5 1 rfl rfl 2 (by decide) lkX7_would_91 rfl dX7_would_28 ?_
    refine lv_aload_n C.1 C.2.1 dX7_would_31 rfl (lv_at hl 2 rfl) ?_
    refine r_get C w inX7_would_X7 0 rfl rfl 6 (by decide) lkX7_would_44 rfl dX7_would_32 ?_
    refine lv_aload_n C.1 C.2.1 dX7_would_35 rfl (lv_at hl 2 rfl) ?_
    refine r_get C w inX7_would_X7 0 rfl rfl 0 (by decide) lkX7_would_12 rfl dX7_would_36 ?_
    refine r_get C w inX7_would_X5 1 rfl rfl 2 (by decide) lkX7_would_91 rfl dX7_would_39 ?_
    refine lv_iload_n C.1 C.2.1 dX7_would_42 rfl (lv_at hl 0 rfl) ?_
    refine lv_ior C.1 C.2.1 dX7_would_43 ?_
    refine lv_iload_n C.1 C.2.1 dX7_would_44 rfl (lv_at hl 0 rfl) ?_
    obtain ⟨r6, hc7, hf⟩ := bd hf
    refine call_Vi (ws' := (wX7_would cI cL cS cH a_this a_this_now a_this_past a_this_kept a_this_keptPast a_this_plans a_this_plans_search_net a_this_tape a_this_sheets a_this_now_near a_this_plans_search_net_near a_this_plans_search_net_beside q_hasImage q_now_nodes q_now_clean q_now_guards q_now_kind q_now_team q_now_draw q_now_near r1.2.1 r1.2.2.1 r1.2.2.2.1 r1.2.2.2.2.1 r1.2.2.2.2.2)) (rest := [.int q_now_clean]) C w (mX0_settled l D cI cL cS cH _ a_this_plans_search_net a_this_plans_search_net_near a_this_plans_search_net_beside r1.2.1 r1.2.2.1 r1.2.2.2.1 r1.2.2.2.2.1 (q_now_clean ||| r4) r4 hc7) (cwV 2 C.2.2.2.2 gX7_would_X0_settled rfl rfl rfl (by decide +kernel) ⟨Nat.le_of_ble_eq_true rfl, Nat.le_of_ble_eq_true rfl⟩) [3, 4] [0, 1, 2, 5] 6 ⟨rfl, rfl, trivial⟩ ⟨rfl, rfl, trivial⟩ ⟨⟨_, rfl, rfl⟩, ⟨_, rfl, rfl⟩, ⟨_, rfl, rfl⟩, ⟨_, rfl, rfl⟩, trivial⟩ rfl (by decide) (by decide) (ci := 0) (q0 := 3) rfl rfl rfl hl.1 rfl (lv_room (Nat.le_of_ble_eq_true rfl)) dX7_would_45 ⟨Nat.zero_le _, Nat.zero_le _⟩ (fun H locs w => ?_)
    refine lv_iconst (v := (-1 : Int32)) C.1 C.2.1 dX7_would_48 (by decide) ?_
    refine lv_ixor C.1 C.2.1 dX7_would_49 ?_
    refine lv_iand C.1 C.2.1 dX7_would_50 ?_
    obtain ⟨r8, hc9, hf⟩ := bd hf
    refine call_Si (ws' := (wX7_would cI cL cS cH a_this a_this_now a_this_past a_this_kept a_this_keptPast a_this_plans a_this_plans_search_net a_this_tape a_this_sheets a_this_now_near a_this_plans_search_net_near a_this_plans_search_net_beside q_hasImage q_now_nodes q_now_clean q_now_guards q_now_kind q_now_team q_now_draw q_now_near r1.2.1 r1.2.2.1 r1.2.2.2.1 r1.2.2.2.2.1 r1.2.2.2.2.2)) (rest := []) C w (mJ6_bitCount_0f7a4 l D cI cL cS cH _ (q_now_clean &&& (r6 ^^^ (-1 : Int32))) hc9) (va_cwS 1 C.2.2.2.2 gX7_would_J6_bitCount_0f7a4 rfl rfl rfl (by decide +kernel) ⟨Nat.le_of_ble_eq_true rfl, Nat.le_of_ble_eq_true rfl⟩) [] [0, 1, 2, 3, 4, 5] 6 trivial trivial ⟨⟨_, rfl, rfl⟩, ⟨_, rfl, rfl⟩, ⟨_, rfl, rfl⟩, ⟨_, rfl, rfl⟩, ⟨_, rfl, rfl⟩, ⟨_, rfl, rfl⟩, trivial⟩ rfl (by decide) (by decide) rfl hl.1 rfl (lv_room (Nat.le_of_ble_eq_true rfl)) dX7_would_51 ⟨Nat.zero_le _, Nat.zero_le _⟩ (fun H locs w => ?_)
    have hres := Option.some.inj hf
    subst hres
    exact ret_i C hr hlocks w rfl dX7_would_54
  · have hf := ite_f hf hq3
    refine lv_iload_n C.1 C.2.1 dX7_would_10 rfl (lv_at hl 0 rfl) ?_
    have hres := Option.some.inj hf
    subst hres
    exact ret_i C hr hlocks w rfl dX7_would_11

set_option maxRecDepth 100000 in
theorem inX7_team_X7 : ∀ w ∈ u_ws RX7 TX7 9, w ∈ wsX7_team := by decide +kernel
set_option maxRecDepth 100000 in
theorem lkX7_team_36 : Cond.fieldLink RX7 36 "CleanNets" "plans" "LCleanNets$Plans;" ∈ wsX7_team := by decide +kernel
abbrev wX7_team (cI cL cS cH : ClassId) (a_this : Nat) (a_this_now : Nat) (a_this_past : Nat) (a_this_kept : Nat) (a_this_keptPast : Nat) (a_this_plans : Nat) (a_this_plans_search_net : Nat) (a_this_tape : Nat) (a_this_sheets : Nat) (a_this_now_near : Nat) (a_this_plans_search : Nat) (a_this_plans_lengths : Nat) (a_this_plans_search_states : Nat) (a_this_plans_search_steps : Nat) (a_this_plans_search_seen : Nat) (a_this_plans_search_net_near : Nat) (a_this_plans_search_net_beside : Nat) (q_hasImage : Int32) (q_now_nodes : Int32) (q_now_clean : Int32) (q_now_guards : Int32) (q_now_kind : Int32) (q_now_team : Int32) (q_now_draw : Int32) (q_now_near : Nat → Int32) (q_plans_edition : Int32) (q_plans_held : Int32) (q_plans_lengths : Nat → Int32) (q_plans_search_found : Int32) (q_plans_search_goal : Int32) (q_plans_search_isSteady : Int32) (q_plans_search_net_nodes : Int32) (q_plans_search_net_all : Int32) (q_plans_search_net_edition : Int32) (q_plans_search_net_beside : Nat → Int32) (q_plans_search_net_near : Nat → Int32) (q_plans_search_seen : Nat → Int64) (q_plans_search_states : Nat → Int32) (q_plans_search_steps : Nat → Int32) : va_W := [(a_this, .inr (7, [.ref a_this_now, .ref a_this_past, .ref a_this_kept, .ref a_this_keptPast, .int q_hasImage, .ref a_this_plans, .ref a_this_plans_search_net, .ref a_this_tape, .ref a_this_sheets])),
  (a_this_now, .inr (5, [.int q_now_nodes, .ref a_this_now_near, .int q_now_clean, .int q_now_guards, .int q_now_kind, .int q_now_team, .int q_now_draw])),
  (a_this_now_near, .inl (cI, 7, .inl q_now_near)),
  (a_this_plans, .inr (2, [.ref a_this_plans_search, .ref a_this_plans_search_net, .ref a_this_plans_lengths, .int q_plans_edition, .int q_plans_held])),
  (a_this_plans_lengths, .inl (cI, 42, .inl q_plans_lengths)),
  (a_this_plans_search, .inr (3, [.ref a_this_plans_search_net, .ref a_this_plans_search_states, .ref a_this_plans_search_steps, .ref a_this_plans_search_seen, .int q_plans_search_found, .int q_plans_search_goal, .int q_plans_search_isSteady])),
  (a_this_plans_search_net, .inr (0, [.int q_plans_search_net_nodes, .int q_plans_search_net_all, .int q_plans_search_net_edition, .ref a_this_plans_search_net_near, .ref a_this_plans_search_net_beside])),
  (a_this_plans_search_net_beside, .inl (cI, 128, .inl q_plans_search_net_beside)),
  (a_this_plans_search_net_near, .inl (cI, 7, .inl q_plans_search_net_near)),
  (a_this_plans_search_seen, .inl (cL, 256, .inr (.inl q_plans_search_seen))),
  (a_this_plans_search_states, .inl (cI, 2187, .inl q_plans_search_states)),
  (a_this_plans_search_steps, .inl (cI, 2187, .inl q_plans_search_steps))]
def fX7_team (q_now_nodes : Int32) (q_now_near : Nat → Int32) (q_plans_edition : Int32) (q_plans_held : Int32) (q_plans_lengths : Nat → Int32) (q_plans_search_found : Int32) (q_plans_search_goal : Int32) (q_plans_search_isSteady : Int32) (q_plans_search_net_nodes : Int32) (q_plans_search_net_all : Int32) (q_plans_search_net_edition : Int32) (q_plans_search_net_beside : Nat → Int32) (q_plans_search_net_near : Nat → Int32) (q_plans_search_seen : Nat → Int64) (q_plans_search_states : Nat → Int32) (q_plans_search_steps : Nat → Int32) (x1 : Int32) (x2 : Int32) : Option (Int32 × Int32 × Int32 × (Nat → Int32) × Int32 × Int32 × Int32 × Int32 × Int32 × Int32 × (Nat → Int32) × (Nat → Int32) × (Nat → Int64) × (Nat → Int32) × (Nat → Int32)) := Option.bind (fX7_isKind x1) (fun r1 => (if r1 = 0 then some ((-1 : Int32), q_plans_edition, q_plans_held, q_plans_lengths, q_plans_search_found, q_plans_search_goal, q_plans_search_isSteady, q_plans_search_net_nodes, q_plans_search_net_all, q_plans_search_net_edition, q_plans_search_net_beside, q_plans_search_net_near, q_plans_search_seen, q_plans_search_states, q_plans_search_steps) else Option.bind (fX7_isOneOfTwo x2) (fun r4 => (if r4 = 0 then some ((-1 : Int32), q_plans_edition, q_plans_held, q_plans_lengths, q_plans_search_found, q_plans_search_goal, q_plans_search_isSteady, q_plans_search_net_nodes, q_plans_search_net_all, q_plans_search_net_edition, q_plans_search_net_beside, q_plans_search_net_near, q_plans_search_seen, q_plans_search_states, q_plans_search_steps) else Option.bind (fX7_currentNet q_now_nodes q_now_near q_plans_search_net_nodes q_plans_search_net_all q_plans_search_net_edition q_plans_search_net_beside q_plans_search_net_near) (fun r7 => Option.bind (fX2_leastTeam q_plans_edition q_plans_held q_plans_lengths q_plans_search_found q_plans_search_goal q_plans_search_isSteady r7.1 r7.2.1 r7.2.2.1 r7.2.2.2.1 r7.2.2.2.2 q_plans_search_seen q_plans_search_states q_plans_search_steps x1 x2) (fun r9 => some (r9.1, r9.2.1, r9.2.2.1, r9.2.2.2.1, r9.2.2.2.2.1, r9.2.2.2.2.2.1, r9.2.2.2.2.2.2.1, r7.1, r7.2.1, r7.2.2.1, r7.2.2.2.1, r7.2.2.2.2, r9.2.2.2.2.2.2.2.1, r9.2.2.2.2.2.2.2.2.1, r9.2.2.2.2.2.2.2.2.2)))))))
set_option maxHeartbeats 4000000 in
set_option maxRecDepth 100000 in
theorem mX7_team (l : Launch) (D : vg) (cI cL cS cH : ClassId) (sz : Nat) (a_this : Nat) (a_this_now : Nat) (a_this_past : Nat) (a_this_kept : Nat) (a_this_keptPast : Nat) (a_this_plans : Nat) (a_this_plans_search_net : Nat) (a_this_tape : Nat) (a_this_sheets : Nat) (a_this_now_near : Nat) (a_this_plans_search : Nat) (a_this_plans_lengths : Nat) (a_this_plans_search_states : Nat) (a_this_plans_search_steps : Nat) (a_this_plans_search_seen : Nat) (a_this_plans_search_net_near : Nat) (a_this_plans_search_net_beside : Nat) (q_hasImage : Int32) (q_now_nodes : Int32) (q_now_clean : Int32) (q_now_guards : Int32) (q_now_kind : Int32) (q_now_team : Int32) (q_now_draw : Int32) (q_now_near : Nat → Int32) (q_plans_edition : Int32) (q_plans_held : Int32) (q_plans_lengths : Nat → Int32) (q_plans_search_found : Int32) (q_plans_search_goal : Int32) (q_plans_search_isSteady : Int32) (q_plans_search_net_nodes : Int32) (q_plans_search_net_all : Int32) (q_plans_search_net_edition : Int32) (q_plans_search_net_beside : Nat → Int32) (q_plans_search_net_near : Nat → Int32) (q_plans_search_seen : Nat → Int64) (q_plans_search_states : Nat → Int32) (q_plans_search_steps : Nat → Int32) (x1 : Int32) (x2 : Int32) {res : Int32 × Int32 × Int32 × (Nat → Int32) × Int32 × Int32 × Int32 × Int32 × Int32 × Int32 × (Nat → Int32) × (Nat → Int32) × (Nat → Int64) × (Nat → Int32) × (Nat → Int32)} (hf : fX7_team q_now_nodes q_now_near q_plans_edition q_plans_held q_plans_lengths q_plans_search_found q_plans_search_goal q_plans_search_isSteady q_plans_search_net_nodes q_plans_search_net_all q_plans_search_net_edition q_plans_search_net_beside q_plans_search_net_near q_plans_search_seen q_plans_search_states q_plans_search_steps x1 x2 = some res) : cti l yX7_team wsX7_team ({ frames := 6, cells := 0, slots := 0, locals := 152 }) D (ty4 cI cL cS cH) sz [.ref a_this, .int x1, .int x2] (wX7_team cI cL cS cH a_this a_this_now a_this_past a_this_kept a_this_keptPast a_this_plans a_this_plans_search_net a_this_tape a_this_sheets a_this_now_near a_this_plans_search a_this_plans_lengths a_this_plans_search_states a_this_plans_search_steps a_this_plans_search_seen a_this_plans_search_net_near a_this_plans_search_net_beside q_hasImage q_now_nodes q_now_clean q_now_guards q_now_kind q_now_team q_now_draw q_now_near q_plans_edition q_plans_held q_plans_lengths q_plans_search_found q_plans_search_goal q_plans_search_isSteady q_plans_search_net_nodes q_plans_search_net_all q_plans_search_net_edition q_plans_search_net_beside q_plans_search_net_near q_plans_search_seen q_plans_search_states q_plans_search_steps) (wX7_team cI cL cS cH a_this a_this_now a_this_past a_this_kept a_this_keptPast a_this_plans a_this_plans_search_net a_this_tape a_this_sheets a_this_now_near a_this_plans_search a_this_plans_lengths a_this_plans_search_states a_this_plans_search_steps a_this_plans_search_seen a_this_plans_search_net_near a_this_plans_search_net_beside q_hasImage q_now_nodes q_now_clean q_now_guards q_now_kind q_now_team q_now_draw q_now_near res.2.1 res.2.2.1 res.2.2.2.1 res.2.2.2.2.1 res.2.2.2.2.2.1 res.2.2.2.2.2.2.1 res.2.2.2.2.2.2.2.1 res.2.2.2.2.2.2.2.2.1 res.2.2.2.2.2.2.2.2.2.1 res.2.2.2.2.2.2.2.2.2.2.1 res.2.2.2.2.2.2.2.2.2.2.2.1 res.2.2.2.2.2.2.2.2.2.2.2.2.1 res.2.2.2.2.2.2.2.2.2.2.2.2.2.1 res.2.2.2.2.2.2.2.2.2.2.2.2.2.2) res.1 := by
  refine Met.ofW (cc := cX7_team) (maxL := 3) (ret := (some .int)) (by decide) rfl ?_
  intro p e s m args below meth c s₁ B hml hv
  obtain ⟨rfl, hpre⟩ := hv
  obtain rfl := hpre.1
  have C : CallFix p m c cX7_team 3 s _ wsX7_team RX7 := ⟨B.exec, B.bytes, hml, findClass_of_methodNamed B.named, atoms_spec (ws := wsX7_team) B.pre⟩
  have hr := B.returns
  have hlocks := B.notSynchronized
  have w := wd_start hpre
  clear hpre B
  have hl := lv_entry ([.ref a_this, .int x1, .int x2]) (n := 3) (Nat.le_of_ble_eq_true rfl)
  rw [lg_entry_eq]
  generalize (lg_sl ([.ref a_this, .int x1, .int x2]) ++ List.replicate (3 - (lg_sl ([.ref a_this, .int x1, .int x2])).length) Slot.unset).toArray = ls at hl ⊢
  have hl : lv_has ls 3 [(0, .ref a_this), (1, .int x1), (2, .int x2)] := hl
  unfold fX7_team at hf
  refine lv_iload_n C.1 C.2.1 dX7_team_0 rfl (lv_at hl 1 rfl) ?_
  obtain ⟨r1, hc2, hf⟩ := bd hf
  refine call_Si (ws' := (wX7_team cI cL cS cH a_this a_this_now a_this_past a_this_kept a_this_keptPast a_this_plans a_this_plans_search_net a_this_tape a_this_sheets a_this_now_near a_this_plans_search a_this_plans_lengths a_this_plans_search_states a_this_plans_search_steps a_this_plans_search_seen a_this_plans_search_net_near a_this_plans_search_net_beside q_hasImage q_now_nodes q_now_clean q_now_guards q_now_kind q_now_team q_now_draw q_now_near q_plans_edition q_plans_held q_plans_lengths q_plans_search_found q_plans_search_goal q_plans_search_isSteady q_plans_search_net_nodes q_plans_search_net_all q_plans_search_net_edition q_plans_search_net_beside q_plans_search_net_near q_plans_search_seen q_plans_search_states q_plans_search_steps)) (rest := []) C w (mX7_isKind l D cI cL cS cH _ x1 hc2) (va_cwS 1 C.2.2.2.2 gX7_team_X7_isKind rfl rfl rfl (by decide +kernel) ⟨Nat.le_of_ble_eq_true rfl, Nat.le_of_ble_eq_true rfl⟩) [] [0, 1, 2, 3, 4, 5, 6, 7, 8, 9, 10, 11] 12 trivial trivial ⟨⟨_, rfl, rfl⟩, ⟨_, rfl, rfl⟩, ⟨_, rfl, rfl⟩, ⟨_, rfl, rfl⟩, ⟨_, rfl, rfl⟩, ⟨_, rfl, rfl⟩, ⟨_, rfl, rfl⟩, ⟨_, rfl, rfl⟩, ⟨_, rfl, rfl⟩, ⟨_, rfl, rfl⟩, ⟨_, rfl, rfl⟩, ⟨_, rfl, rfl⟩, trivial⟩ rfl (by decide) (by decide) rfl hl.1 rfl (lv_room (Nat.le_of_ble_eq_true rfl)) dX7_team_1 ⟨Nat.zero_le _, Nat.zero_le _⟩ (fun H locs w => ?_)
  refine lv_if_eq (tgt := 14) C.1 C.2.1 dX7_team_4 (by decide) (fun hq3 => ?_) (fun hq3 => ?_)
  · have hf := ite_t hf hq3
    refine lv_iconst (v := (-1 : Int32)) C.1 C.2.1 dX7_team_14 (by decide) ?_
    have hres := Option.some.inj hf
    subst hres
    exact ret_i C hr hlocks w rfl dX7_team_15
  · have hf := ite_f hf hq3
    refine lv_iload_n C.1 C.2.1 dX7_team_7 rfl (lv_at hl 2 rfl) ?_
    obtain ⟨r4, hc5, hf⟩ := bd hf
    refine call_Si (ws' := (wX7_team cI cL cS cH a_this a_this_now a_this_past a_this_kept a_this_keptPast a_this_plans a_this_plans_search_net a_this_tape a_this_sheets a_this_now_near a_this_plans_search a_this_plans_lengths a_this_plans_search_states a_this_plans_search_steps a_this_plans_search_seen a_this_plans_search_net_near a_this_plans_search_net_beside q_hasImage q_now_nodes q_now_clean q_now_guards q_now_kind q_now_team q_now_draw q_now_near q_plans_edition q_plans_held q_plans_lengths q_plans_search_found q_plans_search_goal q_plans_search_isSteady q_plans_search_net_nodes q_plans_search_net_all q_plans_search_net_edition q_plans_search_net_beside q_plans_search_net_near q_plans_search_seen q_plans_search_states q_plans_search_steps)) (rest := []) C w (mX7_isOneOfTwo l D cI cL cS cH _ x2 hc5) (va_cwS 1 C.2.2.2.2 gX7_team_X7_isOneOfTwo rfl rfl rfl (by decide +kernel) ⟨Nat.le_of_ble_eq_true rfl, Nat.le_of_ble_eq_true rfl⟩) [] [0, 1, 2, 3, 4, 5, 6, 7, 8, 9, 10, 11] 12 trivial trivial ⟨⟨_, rfl, rfl⟩, ⟨_, rfl, rfl⟩, ⟨_, rfl, rfl⟩, ⟨_, rfl, rfl⟩, ⟨_, rfl, rfl⟩, ⟨_, rfl, rfl⟩, ⟨_, rfl, rfl⟩, ⟨_, rfl, rfl⟩, ⟨_, rfl, rfl⟩, ⟨_, rfl, rfl⟩, ⟨_, rfl, rfl⟩, ⟨_, rfl, rfl⟩, trivial⟩ rfl (by decide) (by decide) rfl hl.1 rfl (lv_room (Nat.le_of_ble_eq_true rfl)) dX7_team_8 ⟨Nat.zero_le _, Nat.zero_le _⟩ (fun H locs w => ?_)
    refine lv_if_ne (tgt := 16) C.1 C.2.1 dX7_team_11 (by decide) (fun hq6 => ?_) (fun hq6 => ?_)
    · have hf := ite_f hf hq6
      refine lv_aload_n C.1 C.2.1 dX7_team_16 rfl (lv_at hl 0 rfl) ?_
      obtain ⟨r7, hc8, hf⟩ := bd hf
      refine call_Vr (ws' := (wX7_team cI cL cS cH a_this a_this_now a_this_past a_this_kept a_this_keptPast a_this_plans a_this_plans_search_net a_this_tape a_this_sheets a_this_now_near a_this_plans_search a_this_plans_lengths a_this_plans_search_states a_this_plans_search_steps a_this_plans_search_seen a_this_plans_search_net_near a_this_plans_search_net_beside q_hasImage q_now_nodes q_now_clean q_now_guards q_now_kind q_now_team q_now_draw q_now_near q_plans_edition q_plans_held q_plans_lengths q_plans_search_found q_plans_search_goal q_plans_search_isSteady r7.1 r7.2.1 r7.2.2.1 r7.2.2.2.1 r7.2.2.2.2 q_plans_search_seen q_plans_search_states q_plans_search_steps)) (rest := []) C w (mX7_currentNet l D cI cL cS cH _ a_this a_this_now a_this_past a_this_kept a_this_keptPast a_this_plans a_this_plans_search_net a_this_tape a_this_sheets a_this_now_near a_this_plans_search_net_near a_this_plans_search_net_beside q_hasImage q_now_nodes q_now_clean q_now_guards q_now_kind q_now_team q_now_draw q_now_near q_plans_search_net_nodes q_plans_search_net_all q_plans_search_net_edition q_plans_search_net_beside q_plans_search_net_near hc8) (cwV 0 C.2.2.2.2 gX7_team_X7_currentNet rfl rfl rfl (by decide +kernel) ⟨Nat.le_of_ble_eq_true rfl, Nat.le_of_ble_eq_true rfl⟩) [0, 1, 2, 6, 7, 8] [3, 4, 5, 9, 10, 11] 12 ⟨rfl, rfl, rfl, rfl, rfl, rfl, trivial⟩ ⟨rfl, rfl, rfl, rfl, rfl, rfl, trivial⟩ ⟨⟨_, rfl, rfl⟩, ⟨_, rfl, rfl⟩, ⟨_, rfl, rfl⟩, ⟨_, rfl, rfl⟩, ⟨_, rfl, rfl⟩, ⟨_, rfl, rfl⟩, trivial⟩ rfl (by decide) (by decide) (ci := 7) (q0 := 0) rfl rfl rfl hl.1 rfl (lv_room (Nat.le_of_ble_eq_true rfl)) dX7_team_17 ⟨Nat.zero_le _, Nat.zero_le _⟩ (fun H locs w => ?_)
      refine lv_pop C.1 C.2.1 dX7_team_20 rfl ?_
      refine lv_aload_n C.1 C.2.1 dX7_team_21 rfl (lv_at hl 0 rfl) ?_
      refine r_get C w inX7_team_X7 0 rfl rfl 5 (by decide) lkX7_team_36 rfl dX7_team_22 ?_
      refine lv_iload_n C.1 C.2.1 dX7_team_25 rfl (lv_at hl 1 rfl) ?_
      refine lv_iload_n C.1 C.2.1 dX7_team_26 rfl (lv_at hl 2 rfl) ?_
      obtain ⟨r9, hc10, hf⟩ := bd hf
      refine call_Vi (ws' := (wX7_team cI cL cS cH a_this a_this_now a_this_past a_this_kept a_this_keptPast a_this_plans a_this_plans_search_net a_this_tape a_this_sheets a_this_now_near a_this_plans_search a_this_plans_lengths a_this_plans_search_states a_this_plans_search_steps a_this_plans_search_seen a_this_plans_search_net_near a_this_plans_search_net_beside q_hasImage q_now_nodes q_now_clean q_now_guards q_now_kind q_now_team q_now_draw q_now_near r9.2.1 r9.2.2.1 r9.2.2.2.1 r9.2.2.2.2.1 r9.2.2.2.2.2.1 r9.2.2.2.2.2.2.1 r7.1 r7.2.1 r7.2.2.1 r7.2.2.2.1 r7.2.2.2.2 r9.2.2.2.2.2.2.2.1 r9.2.2.2.2.2.2.2.2.1 r9.2.2.2.2.2.2.2.2.2)) (rest := []) C w (mX2_leastTeam l D cI cL cS cH _ a_this_plans a_this_plans_search a_this_plans_search_net a_this_plans_lengths a_this_plans_search_states a_this_plans_search_steps a_this_plans_search_seen a_this_plans_search_net_near a_this_plans_search_net_beside q_plans_edition q_plans_held q_plans_lengths q_plans_search_found q_plans_search_goal q_plans_search_isSteady r7.1 r7.2.1 r7.2.2.1 r7.2.2.2.1 r7.2.2.2.2 q_plans_search_seen q_plans_search_states q_plans_search_steps x1 x2 hc10) (cwV 2 C.2.2.2.2 gX7_team_X2_leastTeam rfl rfl rfl (by decide +kernel) ⟨Nat.le_of_ble_eq_true rfl, Nat.le_of_ble_eq_true rfl⟩) [3, 4, 5, 6, 7, 8, 9, 10, 11] [0, 1, 2] 12 ⟨rfl, rfl, rfl, rfl, rfl, rfl, rfl, rfl, rfl, trivial⟩ ⟨rfl, rfl, rfl, rfl, rfl, rfl, rfl, rfl, rfl, trivial⟩ ⟨⟨_, rfl, rfl⟩, ⟨_, rfl, rfl⟩, ⟨_, rfl, rfl⟩, trivial⟩ rfl (by decide) (by decide) (ci := 2) (q0 := 3) rfl rfl rfl hl.1 rfl (lv_room (Nat.le_of_ble_eq_true rfl)) dX7_team_27 ⟨Nat.zero_le _, Nat.zero_le _⟩ (fun H locs w => ?_)
      have hres := Option.some.inj hf
      subst hres
      exact ret_i C hr hlocks w rfl dX7_team_30
    · have hf := ite_t hf hq6
      refine lv_iconst (v := (-1 : Int32)) C.1 C.2.1 dX7_team_14 (by decide) ?_
      have hres := Option.some.inj hf
      subst hres
      exact ret_i C hr hlocks w rfl dX7_team_15
