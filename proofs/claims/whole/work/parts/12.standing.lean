set_option maxRecDepth 100000 in
theorem inX5_become_X5 : ∀ w ∈ u_ws RX5 TX5 7, w ∈ wsX5_become := by decide +kernel
set_option maxRecDepth 100000 in
theorem lkX5_become_9 : Cond.fieldLink RX5 9 "CleanNets$Standing" "nodes" "I" ∈ wsX5_become := by decide +kernel
set_option maxRecDepth 100000 in
theorem lkX5_become_15 : Cond.fieldLink RX5 15 "CleanNets$Standing" "near" "[I" ∈ wsX5_become := by decide +kernel
set_option maxRecDepth 100000 in
theorem lkX5_become_19 : Cond.fieldLink RX5 19 "CleanNets$Standing" "clean" "I" ∈ wsX5_become := by decide +kernel
set_option maxRecDepth 100000 in
theorem lkX5_become_22 : Cond.fieldLink RX5 22 "CleanNets$Standing" "guards" "I" ∈ wsX5_become := by decide +kernel
set_option maxRecDepth 100000 in
theorem lkX5_become_25 : Cond.fieldLink RX5 25 "CleanNets$Standing" "kind" "I" ∈ wsX5_become := by decide +kernel
set_option maxRecDepth 100000 in
theorem lkX5_become_28 : Cond.fieldLink RX5 28 "CleanNets$Standing" "team" "I" ∈ wsX5_become := by decide +kernel
set_option maxRecDepth 100000 in
theorem lkX5_become_31 : Cond.fieldLink RX5 31 "CleanNets$Standing" "draw" "I" ∈ wsX5_become := by decide +kernel
abbrev wX5_become (cI cL cS cH : ClassId) (a_p1 : Nat) (a_p1_near : Nat) (a_this : Nat) (a_this_near : Nat) (q_p1_nodes : Int32) (q_p1_clean : Int32) (q_p1_guards : Int32) (q_p1_kind : Int32) (q_p1_team : Int32) (q_p1_draw : Int32) (q_p1_near : Nat → Int32) (q_nodes : Int32) (q_clean : Int32) (q_guards : Int32) (q_kind : Int32) (q_team : Int32) (q_draw : Int32) (q_near : Nat → Int32) : va_W := [(a_p1, .inr (5, [.int q_p1_nodes, .ref a_p1_near, .int q_p1_clean, .int q_p1_guards, .int q_p1_kind, .int q_p1_team, .int q_p1_draw])),
  (a_p1_near, .inl (cI, 7, .inl q_p1_near)),
  (a_this, .inr (5, [.int q_nodes, .ref a_this_near, .int q_clean, .int q_guards, .int q_kind, .int q_team, .int q_draw])),
  (a_this_near, .inl (cI, 7, .inl q_near))]
def fX5_become (q_p1_nodes : Int32) (q_p1_clean : Int32) (q_p1_guards : Int32) (q_p1_kind : Int32) (q_p1_team : Int32) (q_p1_draw : Int32) (q_p1_near : Nat → Int32) (q_nodes : Int32) (q_clean : Int32) (q_guards : Int32) (q_kind : Int32) (q_team : Int32) (q_draw : Int32) (q_near : Nat → Int32)  : Option (Int32 × Int32 × Int32 × Int32 × Int32 × Int32 × (Nat → Int32)) := Option.bind (cpy q_p1_near q_near 7 7 (0 : Int32) (0 : Int32) (7 : Int32)) (fun g1 => some (q_p1_nodes, q_p1_clean, q_p1_guards, q_p1_kind, q_p1_team, q_p1_draw, g1))
set_option maxHeartbeats 4000000 in
set_option maxRecDepth 100000 in
theorem mX5_become (l : Launch) (D : vg) (cI cL cS cH : ClassId) (sz : Nat) (a_p1 : Nat) (a_p1_near : Nat) (a_this : Nat) (a_this_near : Nat) (q_p1_nodes : Int32) (q_p1_clean : Int32) (q_p1_guards : Int32) (q_p1_kind : Int32) (q_p1_team : Int32) (q_p1_draw : Int32) (q_p1_near : Nat → Int32) (q_nodes : Int32) (q_clean : Int32) (q_guards : Int32) (q_kind : Int32) (q_team : Int32) (q_draw : Int32) (q_near : Nat → Int32) {res : Int32 × Int32 × Int32 × Int32 × Int32 × Int32 × (Nat → Int32)} (hf : fX5_become q_p1_nodes q_p1_clean q_p1_guards q_p1_kind q_p1_team q_p1_draw q_p1_near q_nodes q_clean q_guards q_kind q_team q_draw q_near = some res) : ctv l yX5_become wsX5_become ({ frames := 1, cells := 0, slots := 0, locals := 40 }) D (ty4 cI cL cS cH) sz [.ref a_this, .ref a_p1] (wX5_become cI cL cS cH a_p1 a_p1_near a_this a_this_near q_p1_nodes q_p1_clean q_p1_guards q_p1_kind q_p1_team q_p1_draw q_p1_near q_nodes q_clean q_guards q_kind q_team q_draw q_near) (wX5_become cI cL cS cH a_p1 a_p1_near a_this a_this_near q_p1_nodes q_p1_clean q_p1_guards q_p1_kind q_p1_team q_p1_draw q_p1_near res.1 res.2.1 res.2.2.1 res.2.2.2.1 res.2.2.2.2.1 res.2.2.2.2.2.1 res.2.2.2.2.2.2) := by
  refine Met.ofW (cc := cX5_become) (maxL := 2) (ret := none) (by decide) rfl ?_
  intro p e s m args below meth c s₁ B hml hv
  obtain ⟨rfl, hpre⟩ := hv
  obtain rfl := hpre.1
  have C : CallFix p m c cX5_become 2 s _ wsX5_become RX5 := ⟨B.exec, B.bytes, hml, findClass_of_methodNamed B.named, atoms_spec (ws := wsX5_become) B.pre⟩
  have hr := B.returns
  have hlocks := B.notSynchronized
  have w := wd_start hpre
  clear hpre B
  have hl := lv_entry ([.ref a_this, .ref a_p1]) (n := 2) (Nat.le_of_ble_eq_true rfl)
  rw [lg_entry_eq]
  generalize (lg_sl ([.ref a_this, .ref a_p1]) ++ List.replicate (2 - (lg_sl ([.ref a_this, .ref a_p1])).length) Slot.unset).toArray = ls at hl ⊢
  have hl : lv_has ls 2 [(0, .ref a_this), (1, .ref a_p1)] := hl
  unfold fX5_become at hf
  refine lv_aload_n C.1 C.2.1 dX5_become_0 rfl (lv_at hl 0 rfl) ?_
  refine lv_aload_n C.1 C.2.1 dX5_become_1 rfl (lv_at hl 1 rfl) ?_
  refine r_get C w inX5_become_X5 0 rfl rfl 0 (by decide) lkX5_become_9 rfl dX5_become_2 ?_
  refine r_put (ws' := (wX5_become cI cL cS cH a_p1 a_p1_near a_this a_this_near q_p1_nodes q_p1_clean q_p1_guards q_p1_kind q_p1_team q_p1_draw q_p1_near q_p1_nodes q_clean q_guards q_kind q_team q_draw q_near)) C w inX5_become_X5 tyX5 tyX5_ok nmX5 2 rfl rfl 0 (by decide) lkX5_become_9 rfl rfl rfl (Nat.le_of_ble_eq_true rfl) rfl dX5_become_5 (fun H locs w => ?_)
  refine lv_aload_n C.1 C.2.1 dX5_become_8 rfl (lv_at hl 1 rfl) ?_
  refine r_get C w inX5_become_X5 0 rfl rfl 1 (by decide) lkX5_become_15 rfl dX5_become_9 ?_
  refine lv_iconst (v := (0 : Int32)) C.1 C.2.1 dX5_become_12 (by decide) ?_
  refine lv_aload_n C.1 C.2.1 dX5_become_13 rfl (lv_at hl 0 rfl) ?_
  refine r_get C w inX5_become_X5 2 rfl rfl 1 (by decide) lkX5_become_15 rfl dX5_become_14 ?_
  refine lv_iconst (v := (0 : Int32)) C.1 C.2.1 dX5_become_17 (by decide) ?_
  refine lv_bipush (v := (7 : Int32)) C.1 C.2.1 dX5_become_18 (by decide) ?_
  obtain ⟨g1, hg2, hf⟩ := bd hf
  refine r_copyi (ws' := (wX5_become cI cL cS cH a_p1 a_p1_near a_this a_this_near q_p1_nodes q_p1_clean q_p1_guards q_p1_kind q_p1_team q_p1_draw q_p1_near q_p1_nodes q_clean q_guards q_kind q_team q_draw g1)) C w hl.1 (by decide +kernel) (by decide +kernel) (by decide +kernel) (by decide +kernel) 1 3 0 rfl rfl rfl (cpy_in hg2) rfl (Nat.le_of_ble_eq_true rfl) (Nat.le_of_ble_eq_true rfl) dX5_become_20 (fun H locs w => ?_)
  refine lv_aload_n C.1 C.2.1 dX5_become_23 rfl (lv_at hl 0 rfl) ?_
  refine lv_aload_n C.1 C.2.1 dX5_become_24 rfl (lv_at hl 1 rfl) ?_
  refine r_get C w inX5_become_X5 0 rfl rfl 2 (by decide) lkX5_become_19 rfl dX5_become_25 ?_
  refine r_put (ws' := (wX5_become cI cL cS cH a_p1 a_p1_near a_this a_this_near q_p1_nodes q_p1_clean q_p1_guards q_p1_kind q_p1_team q_p1_draw q_p1_near q_p1_nodes q_p1_clean q_guards q_kind q_team q_draw g1)) C w inX5_become_X5 tyX5 tyX5_ok nmX5 2 rfl rfl 2 (by decide) lkX5_become_19 rfl rfl rfl (Nat.le_of_ble_eq_true rfl) rfl dX5_become_28 (fun H locs w => ?_)
  refine lv_aload_n C.1 C.2.1 dX5_become_31 rfl (lv_at hl 0 rfl) ?_
  refine lv_aload_n C.1 C.2.1 dX5_become_32 rfl (lv_at hl 1 rfl) ?_
  refine r_get C w inX5_become_X5 0 rfl rfl 3 (by decide) lkX5_become_22 rfl dX5_become_33 ?_
  refine r_put (ws' := (wX5_become cI cL cS cH a_p1 a_p1_near a_this a_this_near q_p1_nodes q_p1_clean q_p1_guards q_p1_kind q_p1_team q_p1_draw q_p1_near q_p1_nodes q_p1_clean q_p1_guards q_kind q_team q_draw g1)) C w inX5_become_X5 tyX5 tyX5_ok nmX5 2 rfl rfl 3 (by decide) lkX5_become_22 rfl rfl rfl (Nat.le_of_ble_eq_true rfl) rfl dX5_become_36 (fun H locs w => ?_)
  refine lv_aload_n C.1 C.2.1 dX5_become_39 rfl (lv_at hl 0 rfl) ?_
  refine lv_aload_n C.1 C.2.1 dX5_become_40 rfl (lv_at hl 1 rfl) ?_
  refine r_get C w inX5_become_X5 0 rfl rfl 4 (by decide) lkX5_become_25 rfl dX5_become_41 ?_
  refine r_put (ws' := (wX5_become cI cL cS cH a_p1 a_p1_near a_this a_this_near q_p1_nodes q_p1_clean q_p1_guards q_p1_kind q_p1_team q_p1_draw q_p1_near q_p1_nodes q_p1_clean q_p1_guards q_p1_kind q_team q_draw g1)) C w inX5_become_X5 tyX5 tyX5_ok nmX5 2 rfl rfl 4 (by decide) lkX5_become_25 rfl rfl rfl (Nat.le_of_ble_eq_true rfl) rfl dX5_become_44 (fun H locs w => ?_)
  refine lv_aload_n C.1 C.2.1 dX5_become_47 rfl (lv_at hl 0 rfl) ?_
  refine lv_aload_n C.1 C.2.1 dX5_become_48 rfl (lv_at hl 1 rfl) ?_
  refine r_get C w inX5_become_X5 0 rfl rfl 5 (by decide) lkX5_become_28 rfl dX5_become_49 ?_
  refine r_put (ws' := (wX5_become cI cL cS cH a_p1 a_p1_near a_this a_this_near q_p1_nodes q_p1_clean q_p1_guards q_p1_kind q_p1_team q_p1_draw q_p1_near q_p1_nodes q_p1_clean q_p1_guards q_p1_kind q_p1_team q_draw g1)) C w inX5_become_X5 tyX5 tyX5_ok nmX5 2 rfl rfl 5 (by decide) lkX5_become_28 rfl rfl rfl (Nat.le_of_ble_eq_true rfl) rfl dX5_become_52 (fun H locs w => ?_)
  refine lv_aload_n C.1 C.2.1 dX5_become_55 rfl (lv_at hl 0 rfl) ?_
  refine lv_aload_n C.1 C.2.1 dX5_become_56 rfl (lv_at hl 1 rfl) ?_
  refine r_get C w inX5_become_X5 0 rfl rfl 6 (by decide) lkX5_become_31 rfl dX5_become_57 ?_
  refine r_put (ws' := (wX5_become cI cL cS cH a_p1 a_p1_near a_this a_this_near q_p1_nodes q_p1_clean q_p1_guards q_p1_kind q_p1_team q_p1_draw q_p1_near q_p1_nodes q_p1_clean q_p1_guards q_p1_kind q_p1_team q_p1_draw g1)) C w inX5_become_X5 tyX5 tyX5_ok nmX5 2 rfl rfl 6 (by decide) lkX5_become_31 rfl rfl rfl (Nat.le_of_ble_eq_true rfl) rfl dX5_become_60 (fun H locs w => ?_)
  have hres := Option.some.inj hf
  subst hres
  exact ret_v C hr hlocks w dX5_become_63

set_option maxRecDepth 100000 in
theorem inX5_beNewNet_X5 : ∀ w ∈ u_ws RX5 TX5 7, w ∈ wsX5_beNewNet := by decide +kernel
set_option maxRecDepth 100000 in
theorem lkX5_beNewNet_9 : Cond.fieldLink RX5 9 "CleanNets$Standing" "nodes" "I" ∈ wsX5_beNewNet := by decide +kernel
set_option maxRecDepth 100000 in
theorem lkX5_beNewNet_15 : Cond.fieldLink RX5 15 "CleanNets$Standing" "near" "[I" ∈ wsX5_beNewNet := by decide +kernel
set_option maxRecDepth 100000 in
theorem lkX5_beNewNet_19 : Cond.fieldLink RX5 19 "CleanNets$Standing" "clean" "I" ∈ wsX5_beNewNet := by decide +kernel
set_option maxRecDepth 100000 in
theorem lkX5_beNewNet_22 : Cond.fieldLink RX5 22 "CleanNets$Standing" "guards" "I" ∈ wsX5_beNewNet := by decide +kernel
abbrev wX5_beNewNet (cI cL cS cH : ClassId) (a_p2 : Nat) (a_this : Nat) (a_this_near : Nat) (q_p2 : Nat → Int32) (q_nodes : Int32) (q_clean : Int32) (q_guards : Int32) (q_kind : Int32) (q_team : Int32) (q_draw : Int32) (q_near : Nat → Int32) : va_W := [(a_p2, .inl (cI, 7, .inl q_p2)),
  (a_this, .inr (5, [.int q_nodes, .ref a_this_near, .int q_clean, .int q_guards, .int q_kind, .int q_team, .int q_draw])),
  (a_this_near, .inl (cI, 7, .inl q_near))]
def fX5_beNewNet (q_p2 : Nat → Int32) (q_nodes : Int32) (q_clean : Int32) (q_guards : Int32) (q_near : Nat → Int32) (x1 : Int32) : Option (Int32 × Int32 × Int32 × (Nat → Int32)) := Option.bind (cpy q_p2 q_near 7 7 (0 : Int32) (0 : Int32) (7 : Int32)) (fun g1 => some (x1, (0 : Int32), (0 : Int32), g1))
set_option maxHeartbeats 4000000 in
set_option maxRecDepth 100000 in
theorem mX5_beNewNet (l : Launch) (D : vg) (cI cL cS cH : ClassId) (sz : Nat) (a_p2 : Nat) (a_this : Nat) (a_this_near : Nat) (q_p2 : Nat → Int32) (q_nodes : Int32) (q_clean : Int32) (q_guards : Int32) (q_kind : Int32) (q_team : Int32) (q_draw : Int32) (q_near : Nat → Int32) (x1 : Int32) {res : Int32 × Int32 × Int32 × (Nat → Int32)} (hf : fX5_beNewNet q_p2 q_nodes q_clean q_guards q_near x1 = some res) : ctv l yX5_beNewNet wsX5_beNewNet ({ frames := 1, cells := 0, slots := 0, locals := 40 }) D (ty4 cI cL cS cH) sz [.ref a_this, .int x1, .ref a_p2] (wX5_beNewNet cI cL cS cH a_p2 a_this a_this_near q_p2 q_nodes q_clean q_guards q_kind q_team q_draw q_near) (wX5_beNewNet cI cL cS cH a_p2 a_this a_this_near q_p2 res.1 res.2.1 res.2.2.1 q_kind q_team q_draw res.2.2.2) := by
  refine Met.ofW (cc := cX5_beNewNet) (maxL := 3) (ret := none) (by decide) rfl ?_
  intro p e s m args below meth c s₁ B hml hv
  obtain ⟨rfl, hpre⟩ := hv
  obtain rfl := hpre.1
  have C : CallFix p m c cX5_beNewNet 3 s _ wsX5_beNewNet RX5 := ⟨B.exec, B.bytes, hml, findClass_of_methodNamed B.named, atoms_spec (ws := wsX5_beNewNet) B.pre⟩
  have hr := B.returns
  have hlocks := B.notSynchronized
  have w := wd_start hpre
  clear hpre B
  have hl := lv_entry ([.ref a_this, .int x1, .ref a_p2]) (n := 3) (Nat.le_of_ble_eq_true rfl)
  rw [lg_entry_eq]
  generalize (lg_sl ([.ref a_this, .int x1, .ref a_p2]) ++ List.replicate (3 - (lg_sl ([.ref a_this, .int x1, .ref a_p2])).length) Slot.unset).toArray = ls at hl ⊢
  have hl : lv_has ls 3 [(0, .ref a_this), (1, .int x1), (2, .ref a_p2)] := hl
  unfold fX5_beNewNet at hf
  refine lv_aload_n C.1 C.2.1 dX5_beNewNet_0 rfl (lv_at hl 0 rfl) ?_
  refine lv_iload_n C.1 C.2.1 dX5_beNewNet_1 rfl (lv_at hl 1 rfl) ?_
  refine r_put (ws' := (wX5_beNewNet cI cL cS cH a_p2 a_this a_this_near q_p2 x1 q_clean q_guards q_kind q_team q_draw q_near)) C w inX5_beNewNet_X5 tyX5 tyX5_ok nmX5 1 rfl rfl 0 (by decide) lkX5_beNewNet_9 rfl rfl rfl (Nat.le_of_ble_eq_true rfl) rfl dX5_beNewNet_2 (fun H locs w => ?_)
  refine lv_aload_n C.1 C.2.1 dX5_beNewNet_5 rfl (lv_at hl 2 rfl) ?_
  refine lv_iconst (v := (0 : Int32)) C.1 C.2.1 dX5_beNewNet_6 (by decide) ?_
  refine lv_aload_n C.1 C.2.1 dX5_beNewNet_7 rfl (lv_at hl 0 rfl) ?_
  refine r_get C w inX5_beNewNet_X5 1 rfl rfl 1 (by decide) lkX5_beNewNet_15 rfl dX5_beNewNet_8 ?_
  refine lv_iconst (v := (0 : Int32)) C.1 C.2.1 dX5_beNewNet_11 (by decide) ?_
  refine lv_bipush (v := (7 : Int32)) C.1 C.2.1 dX5_beNewNet_12 (by decide) ?_
  obtain ⟨g1, hg2, hf⟩ := bd hf
  refine r_copyi (ws' := (wX5_beNewNet cI cL cS cH a_p2 a_this a_this_near q_p2 x1 q_clean q_guards q_kind q_team q_draw g1)) C w hl.1 (by decide +kernel) (by decide +kernel) (by decide +kernel) (by decide +kernel) 0 2 0 rfl rfl rfl (cpy_in hg2) rfl (Nat.le_of_ble_eq_true rfl) (Nat.le_of_ble_eq_true rfl) dX5_beNewNet_14 (fun H locs w => ?_)
  refine lv_aload_n C.1 C.2.1 dX5_beNewNet_17 rfl (lv_at hl 0 rfl) ?_
  refine lv_iconst (v := (0 : Int32)) C.1 C.2.1 dX5_beNewNet_18 (by decide) ?_
  refine r_put (ws' := (wX5_beNewNet cI cL cS cH a_p2 a_this a_this_near q_p2 x1 (0 : Int32) q_guards q_kind q_team q_draw g1)) C w inX5_beNewNet_X5 tyX5 tyX5_ok nmX5 1 rfl rfl 2 (by decide) lkX5_beNewNet_19 rfl rfl rfl (Nat.le_of_ble_eq_true rfl) rfl dX5_beNewNet_19 (fun H locs w => ?_)
  refine lv_aload_n C.1 C.2.1 dX5_beNewNet_22 rfl (lv_at hl 0 rfl) ?_
  refine lv_iconst (v := (0 : Int32)) C.1 C.2.1 dX5_beNewNet_23 (by decide) ?_
  refine r_put (ws' := (wX5_beNewNet cI cL cS cH a_p2 a_this a_this_near q_p2 x1 (0 : Int32) (0 : Int32) q_kind q_team q_draw g1)) C w inX5_beNewNet_X5 tyX5 tyX5_ok nmX5 1 rfl rfl 3 (by decide) lkX5_beNewNet_22 rfl rfl rfl (Nat.le_of_ble_eq_true rfl) rfl dX5_beNewNet_24 (fun H locs w => ?_)
  have hres := Option.some.inj hf
  subst hres
  exact ret_v C hr hlocks w dX5_beNewNet_27

set_option maxRecDepth 100000 in
theorem inX5_look_X5 : ∀ w ∈ u_ws RX5 TX5 7, w ∈ wsX5_look := by decide +kernel
set_option maxRecDepth 100000 in
theorem lkX5_look_19 : Cond.fieldLink RX5 19 "CleanNets$Standing" "clean" "I" ∈ wsX5_look := by decide +kernel
set_option maxRecDepth 100000 in
theorem lkX5_look_22 : Cond.fieldLink RX5 22 "CleanNets$Standing" "guards" "I" ∈ wsX5_look := by decide +kernel
abbrev wX5_look (cI cL cS cH : ClassId) (a_this : Nat) (a_this_near : Nat) (q_nodes : Int32) (q_clean : Int32) (q_guards : Int32) (q_kind : Int32) (q_team : Int32) (q_draw : Int32) : va_W := [(a_this, .inr (5, [.int q_nodes, .ref a_this_near, .int q_clean, .int q_guards, .int q_kind, .int q_team, .int q_draw]))]
def fX5_look (q_clean : Int32) (q_guards : Int32) (x1 : Int32) : Option (Int32) := some (((q_clean >>> (x1 &&& 31)) &&& (1 : Int32)) + ((q_guards >>> (x1 &&& 31)) &&& (1 : Int32)))
set_option maxHeartbeats 4000000 in
set_option maxRecDepth 100000 in
theorem mX5_look (l : Launch) (D : vg) (cI cL cS cH : ClassId) (sz : Nat) (a_this : Nat) (a_this_near : Nat) (q_nodes : Int32) (q_clean : Int32) (q_guards : Int32) (q_kind : Int32) (q_team : Int32) (q_draw : Int32) (x1 : Int32) {res : Int32} (hf : fX5_look q_clean q_guards x1 = some res) : cti l yX5_look wsX5_look ({ frames := 0, cells := 0, slots := 0, locals := 0 }) D (ty4 cI cL cS cH) sz [.ref a_this, .int x1] (wX5_look cI cL cS cH a_this a_this_near q_nodes q_clean q_guards q_kind q_team q_draw) (wX5_look cI cL cS cH a_this a_this_near q_nodes q_clean q_guards q_kind q_team q_draw) res := by
  refine Met.ofW (cc := cX5_look) (maxL := 2) (ret := (some .int)) (by decide) rfl ?_
  intro p e s m args below meth c s₁ B hml hv
  obtain ⟨rfl, hpre⟩ := hv
  obtain rfl := hpre.1
  have C : CallFix p m c cX5_look 2 s _ wsX5_look RX5 := ⟨B.exec, B.bytes, hml, findClass_of_methodNamed B.named, atoms_spec (ws := wsX5_look) B.pre⟩
  have hr := B.returns
  have hlocks := B.notSynchronized
  have w := wd_start hpre
  clear hpre B
  have hl := lv_entry ([.ref a_this, .int x1]) (n := 2) (Nat.le_of_ble_eq_true rfl)
  rw [lg_entry_eq]
  generalize (lg_sl ([.ref a_this, .int x1]) ++ List.replicate (2 - (lg_sl ([.ref a_this, .int x1])).length) Slot.unset).toArray = ls at hl ⊢
  have hl : lv_has ls 2 [(0, .ref a_this), (1, .int x1)] := hl
  unfold fX5_look at hf
  refine lv_aload_n C.1 C.2.1 dX5_look_0 rfl (lv_at hl 0 rfl) ?_
  refine r_get C w inX5_look_X5 0 rfl rfl 2 (by decide) lkX5_look_19 rfl dX5_look_1 ?_
  refine lv_iload_n C.1 C.2.1 dX5_look_4 rfl (lv_at hl 1 rfl) ?_
  refine lv_ishr C.1 C.2.1 dX5_look_5 ?_
  refine lv_iconst (v := (1 : Int32)) C.1 C.2.1 dX5_look_6 (by decide) ?_
  refine lv_iand C.1 C.2.1 dX5_look_7 ?_
  refine lv_aload_n C.1 C.2.1 dX5_look_8 rfl (lv_at hl 0 rfl) ?_
  refine r_get C w inX5_look_X5 0 rfl rfl 3 (by decide) lkX5_look_22 rfl dX5_look_9 ?_
  refine lv_iload_n C.1 C.2.1 dX5_look_12 rfl (lv_at hl 1 rfl) ?_
  refine lv_ishr C.1 C.2.1 dX5_look_13 ?_
  refine lv_iconst (v := (1 : Int32)) C.1 C.2.1 dX5_look_14 (by decide) ?_
  refine lv_iand C.1 C.2.1 dX5_look_15 ?_
  refine lv_iadd C.1 C.2.1 dX5_look_16 ?_
  have hres := Option.some.inj hf
  subst hres
  exact ret_i C hr hlocks w rfl dX5_look_17

set_option maxRecDepth 100000 in
theorem inX5_links_X5 : ∀ w ∈ u_ws RX5 TX5 7, w ∈ wsX5_links := by decide +kernel
set_option maxRecDepth 100000 in
theorem lkX5_links_9 : Cond.fieldLink RX5 9 "CleanNets$Standing" "nodes" "I" ∈ wsX5_links := by decide +kernel
set_option maxRecDepth 100000 in
theorem lkX5_links_15 : Cond.fieldLink RX5 15 "CleanNets$Standing" "near" "[I" ∈ wsX5_links := by decide +kernel
abbrev wX5_links (cI cL cS cH : ClassId) (a_this : Nat) (a_this_near : Nat) (q_nodes : Int32) (q_clean : Int32) (q_guards : Int32) (q_kind : Int32) (q_team : Int32) (q_draw : Int32) (q_near : Nat → Int32) : va_W := [(a_this, .inr (5, [.int q_nodes, .ref a_this_near, .int q_clean, .int q_guards, .int q_kind, .int q_team, .int q_draw])),
  (a_this_near, .inl (cI, 7, .inl q_near))]
def bX5_links_4 (q_nodes : Int32) (q_near : Nat → Int32)  (v4 : Int32 × Int32) : Option ((Int32 × Int32) ⊕ (Int32 × Int32)) := (if q_nodes ≤ v4.2 then some (.inr (v4.1, v4.2)) else Option.bind (rd q_near 7 v4.2) (fun y2 => Option.bind (fJ6_bitCount_0f7a4 y2) (fun r4 => some (.inl ((v4.1 + r4), (v4.2 + (1 : Int32)))))))
def fX5_links (q_nodes : Int32) (q_near : Nat → Int32)  : Option (Int32) := Option.bind (itL (bX5_links_4 q_nodes q_near) fu ((0 : Int32), (0 : Int32))) (fun ex6 => some (ex6.1 / (2 : Int32)))
abbrev gX5_links (p : Program) (l : Launch) (e : Env) (s : State) (m : MethodId) (below : List Frame) (meth : Method) (c : Code) (D : vg) (cI cL cS cH : ClassId) (a_this : Nat) (a_this_near : Nat) (q_nodes : Int32) (q_clean : Int32) (q_guards : Int32) (q_kind : Int32) (q_team : Int32) (q_draw : Int32) (q_near : Nat → Int32) (res : Int32) (H : Heap) (locs : List Loc) (g : JFrame) : Prop := W p l e (headSpec wsX5_links ({ frames := 1, cells := 0, slots := 0, locals := 20 })).room s m ([.ref a_this] : List Value).toArray below meth c H locs 0 0 (MQ below (va_Qi (fun r' (_ : Unit) => r' = res) (fun _ t => pos1 D s.heap.size (wX5_links cI cL cS cH a_this a_this_near q_nodes q_clean q_guards q_kind q_team q_draw q_near) (wX5_links cI cL cS cH a_this a_this_near q_nodes q_clean q_guards q_kind q_team q_draw q_near) t) (va_A (wX5_links cI cL cS cH a_this a_this_near q_nodes q_clean q_guards q_kind q_team q_draw q_near) s.heap.size)) ([.ref a_this] : List Value).toArray s 0 0 (va_A (wX5_links cI cL cS cH a_this a_this_near q_nodes q_clean q_guards q_kind q_team q_draw q_near) s.heap.size)) g
set_option maxHeartbeats 4000000 in
set_option maxRecDepth 100000 in
theorem mX5_links (l : Launch) (D : vg) (cI cL cS cH : ClassId) (sz : Nat) (a_this : Nat) (a_this_near : Nat) (q_nodes : Int32) (q_clean : Int32) (q_guards : Int32) (q_kind : Int32) (q_team : Int32) (q_draw : Int32) (q_near : Nat → Int32) {res : Int32} (hf : fX5_links q_nodes q_near = some res) : cti l yX5_links wsX5_links ({ frames := 1, cells := 0, slots := 0, locals := 20 }) D (ty4 cI cL cS cH) sz [.ref a_this] (wX5_links cI cL cS cH a_this a_this_near q_nodes q_clean q_guards q_kind q_team q_draw q_near) (wX5_links cI cL cS cH a_this a_this_near q_nodes q_clean q_guards q_kind q_team q_draw q_near) res := by
  refine Met.ofW (cc := cX5_links) (maxL := 3) (ret := (some .int)) (by decide) rfl ?_
  intro p e s m args below meth c s₁ B hml hv
  obtain ⟨rfl, hpre⟩ := hv
  obtain rfl := hpre.1
  have C : CallFix p m c cX5_links 3 s _ wsX5_links RX5 := ⟨B.exec, B.bytes, hml, findClass_of_methodNamed B.named, atoms_spec (ws := wsX5_links) B.pre⟩
  have hr := B.returns
  have hlocks := B.notSynchronized
  have w := wd_start hpre
  clear hpre B
  have hl := lv_entry ([.ref a_this]) (n := 3) (Nat.le_of_ble_eq_true rfl)
  rw [lg_entry_eq]
  generalize (lg_sl ([.ref a_this]) ++ List.replicate (3 - (lg_sl ([.ref a_this])).length) Slot.unset).toArray = ls at hl ⊢
  have hl : lv_has ls 3 [(0, .ref a_this)] := hl
  unfold fX5_links at hf
  have hlp4 : ∀  (ex4 : Int32 × Int32) (hk : (∀ (H : Heap) (locs : List Loc) (ls : Array Slot), wd D (ty4 cI cL cS cH) s (va_A (wX5_links cI cL cS cH a_this a_this_near q_nodes q_clean q_guards q_kind q_team q_draw q_near) s.heap.size) s.heap H locs (wX5_links cI cL cS cH a_this a_this_near q_nodes q_clean q_guards q_kind q_team q_draw q_near) → lv_has ls 3 [(1, .int ex4.1)] → gX5_links p l e s m below meth c D cI cL cS cH a_this a_this_near q_nodes q_clean q_guards q_kind q_team q_draw q_near res H locs (F0 m 30 ls []))) (n : Nat) (v4 : Int32 × Int32) (H : Heap) (locs : List Loc) (ls : Array Slot), itL (bX5_links_4 q_nodes q_near) n v4 = some ex4 → wd D (ty4 cI cL cS cH) s (va_A (wX5_links cI cL cS cH a_this a_this_near q_nodes q_clean q_guards q_kind q_team q_draw q_near) s.heap.size) s.heap H locs (wX5_links cI cL cS cH a_this a_this_near q_nodes q_clean q_guards q_kind q_team q_draw q_near) → lv_has ls 3 [(0, .ref a_this), (1, .int v4.1), (2, .int v4.2)] → gX5_links p l e s m below meth c D cI cL cS cH a_this a_this_near q_nodes q_clean q_guards q_kind q_team q_draw q_near res H locs (F0 m 4 ls []) := by
    intro  ex4 hk n
    induction n with
    | zero => intro v4 H locs ls hi w hl; exact (itL_zero hi).elim
    | succ n ih =>
      intro v4 H locs ls hi w hl
      obtain ⟨o, hf, hn⟩ := itL_succ hi
      unfold bX5_links_4 at hf
      refine lv_iload_n C.1 C.2.1 dX5_links_4 rfl (lv_at hl 2 rfl) ?_
      refine lv_aload_n C.1 C.2.1 dX5_links_5 rfl (lv_at hl 0 rfl) ?_
      refine r_get C w inX5_links_X5 0 rfl rfl 0 (by decide) lkX5_links_9 rfl dX5_links_6 ?_
      refine lv_icmp_ge (tgt := 30) C.1 C.2.1 dX5_links_9 (by decide) (fun hq1 => ?_) (fun hq1 => ?_)
      · have hf := ite_t hf hq1
        obtain rfl := Option.some.inj hf
        obtain rfl := hn
        exact hk _ _ _ w (lv_sub hl [1] rfl)
      · have hf := ite_f hf hq1
        refine lv_iload_n C.1 C.2.1 dX5_links_12 rfl (lv_at hl 1 rfl) ?_
        refine lv_aload_n C.1 C.2.1 dX5_links_13 rfl (lv_at hl 0 rfl) ?_
        refine r_get C w inX5_links_X5 0 rfl rfl 1 (by decide) lkX5_links_15 rfl dX5_links_14 ?_
        refine lv_iload_n C.1 C.2.1 dX5_links_17 rfl (lv_at hl 2 rfl) ?_
        obtain ⟨y2, hy3, hf⟩ := bd hf
        refine r_iald C w 1 0 rfl rfl (rd_in hy3) dX5_links_18 ?_
        obtain ⟨r4, hc5, hf⟩ := bd hf
        refine call_Si (ws' := (wX5_links cI cL cS cH a_this a_this_near q_nodes q_clean q_guards q_kind q_team q_draw q_near)) (rest := [.int v4.1]) C w (mJ6_bitCount_0f7a4 l D cI cL cS cH _ y2 hc5) (va_cwS 1 C.2.2.2.2 gX5_links_J6_bitCount_0f7a4 rfl rfl rfl (by decide +kernel) ⟨Nat.le_of_ble_eq_true rfl, Nat.le_of_ble_eq_true rfl⟩) [] [0, 1] 2 trivial trivial ⟨⟨_, rfl, rfl⟩, ⟨_, rfl, rfl⟩, trivial⟩ rfl (by decide) (by decide) rfl hl.1 rfl (lv_room (Nat.le_of_ble_eq_true rfl)) dX5_links_19 ⟨Nat.zero_le _, Nat.zero_le _⟩ (fun H locs w => ?_)
        refine lv_iadd C.1 C.2.1 dX5_links_22 ?_
        refine lv_istore_n (lv' := [(1, .int (v4.1 + r4)), (0, .ref a_this), (2, .int v4.2)]) C.1 C.2.1 dX5_links_23 rfl hl (by decide) rfl (fun ls hl => ?_)
        refine lv_iinc (v := (v4.2 + (1 : Int32))) (lv' := [(2, .int (v4.2 + (1 : Int32))), (1, .int (v4.1 + r4)), (0, .ref a_this)]) C.1 C.2.1 dX5_links_24 hl (k := 2) rfl rfl (by decide) rfl (fun ls hl => ?_)
        refine lv_goto (tgt := 4) C.1 C.2.1 dX5_links_27 (by decide) ?_
        obtain rfl := Option.some.inj hf
        exact ih ((v4.1 + r4), (v4.2 + (1 : Int32))) _ _ _ hn w (lv_sub hl [2, 1, 0] rfl)
  refine lv_iconst (v := (0 : Int32)) C.1 C.2.1 dX5_links_0 (by decide) ?_
  refine lv_istore_n (lv' := [(1, .int (0 : Int32)), (0, .ref a_this)]) C.1 C.2.1 dX5_links_1 rfl hl (by decide) rfl (fun ls hl => ?_)
  refine lv_iconst (v := (0 : Int32)) C.1 C.2.1 dX5_links_2 (by decide) ?_
  refine lv_istore_n (lv' := [(2, .int (0 : Int32)), (1, .int (0 : Int32)), (0, .ref a_this)]) C.1 C.2.1 dX5_links_3 rfl hl (by decide) rfl (fun ls hl => ?_)
  obtain ⟨ex6, hx7, hf⟩ := bd hf
  refine hlp4  ex6 ?_ fu ((0 : Int32), (0 : Int32)) _ _ _ hx7 w (lv_sub hl [2, 1, 0] rfl)
  intro H locs ls w hl
  refine lv_iload_n C.1 C.2.1 dX5_links_30 rfl (lv_at hl 0 rfl) ?_
  refine lv_iconst (v := (2 : Int32)) C.1 C.2.1 dX5_links_31 (by decide) ?_
  refine lv_idiv C.1 C.2.1 dX5_links_32 (by decide) ?_
  have hres := Option.some.inj hf
  subst hres
  exact ret_i C hr hlocks w rfl dX5_links_33

set_option maxRecDepth 100000 in
theorem inX5_areLinked_X5 : ∀ w ∈ u_ws RX5 TX5 7, w ∈ wsX5_areLinked := by decide +kernel
set_option maxRecDepth 100000 in
theorem lkX5_areLinked_15 : Cond.fieldLink RX5 15 "CleanNets$Standing" "near" "[I" ∈ wsX5_areLinked := by decide +kernel
abbrev wX5_areLinked (cI cL cS cH : ClassId) (a_this : Nat) (a_this_near : Nat) (q_nodes : Int32) (q_clean : Int32) (q_guards : Int32) (q_kind : Int32) (q_team : Int32) (q_draw : Int32) (q_near : Nat → Int32) : va_W := [(a_this, .inr (5, [.int q_nodes, .ref a_this_near, .int q_clean, .int q_guards, .int q_kind, .int q_team, .int q_draw])),
  (a_this_near, .inl (cI, 7, .inl q_near))]
def fX5_areLinked (q_near : Nat → Int32) (x1 : Int32) (x2 : Int32) : Option (Int32) := Option.bind (rd q_near 7 x1) (fun y1 => Option.bind (fX7_has y1 x2) (fun r3 => Option.bind (bz r3) (fun _ => some r3)))
set_option maxHeartbeats 4000000 in
set_option maxRecDepth 100000 in
theorem mX5_areLinked (l : Launch) (D : vg) (cI cL cS cH : ClassId) (sz : Nat) (a_this : Nat) (a_this_near : Nat) (q_nodes : Int32) (q_clean : Int32) (q_guards : Int32) (q_kind : Int32) (q_team : Int32) (q_draw : Int32) (q_near : Nat → Int32) (x1 : Int32) (x2 : Int32) {res : Int32} (hf : fX5_areLinked q_near x1 x2 = some res) : cti l yX5_areLinked wsX5_areLinked ({ frames := 1, cells := 0, slots := 0, locals := 21 }) D (ty4 cI cL cS cH) sz [.ref a_this, .int x1, .int x2] (wX5_areLinked cI cL cS cH a_this a_this_near q_nodes q_clean q_guards q_kind q_team q_draw q_near) (wX5_areLinked cI cL cS cH a_this a_this_near q_nodes q_clean q_guards q_kind q_team q_draw q_near) res := by
  refine Met.ofW (cc := cX5_areLinked) (maxL := 3) (ret := (some .boolean)) (by decide) rfl ?_
  intro p e s m args below meth c s₁ B hml hv
  obtain ⟨rfl, hpre⟩ := hv
  obtain rfl := hpre.1
  have C : CallFix p m c cX5_areLinked 3 s _ wsX5_areLinked RX5 := ⟨B.exec, B.bytes, hml, findClass_of_methodNamed B.named, atoms_spec (ws := wsX5_areLinked) B.pre⟩
  have hr := B.returns
  have hlocks := B.notSynchronized
  have w := wd_start hpre
  clear hpre B
  have hl := lv_entry ([.ref a_this, .int x1, .int x2]) (n := 3) (Nat.le_of_ble_eq_true rfl)
  rw [lg_entry_eq]
  generalize (lg_sl ([.ref a_this, .int x1, .int x2]) ++ List.replicate (3 - (lg_sl ([.ref a_this, .int x1, .int x2])).length) Slot.unset).toArray = ls at hl ⊢
  have hl : lv_has ls 3 [(0, .ref a_this), (1, .int x1), (2, .int x2)] := hl
  unfold fX5_areLinked at hf
  refine lv_aload_n C.1 C.2.1 dX5_areLinked_0 rfl (lv_at hl 0 rfl) ?_
  refine r_get C w inX5_areLinked_X5 0 rfl rfl 1 (by decide) lkX5_areLinked_15 rfl dX5_areLinked_1 ?_
  refine lv_iload_n C.1 C.2.1 dX5_areLinked_4 rfl (lv_at hl 1 rfl) ?_
  obtain ⟨y1, hy2, hf⟩ := bd hf
  refine r_iald C w 1 0 rfl rfl (rd_in hy2) dX5_areLinked_5 ?_
  refine lv_iload_n C.1 C.2.1 dX5_areLinked_6 rfl (lv_at hl 2 rfl) ?_
  obtain ⟨r3, hc4, hf⟩ := bd hf
  refine call_Ni (ws' := (wX5_areLinked cI cL cS cH a_this a_this_near q_nodes q_clean q_guards q_kind q_team q_draw q_near)) (rest := []) C w (mX7_has l D cI cL cS cH _ y1 x2 hc4) ⟨va_cnB 2 C.2.2.2.2 gX5_areLinked_X7_has_n46 rfl rfl rfl (w.1.2.1 (RX5, 46, yX7_has) (by decide +kernel)) (C.2.2.2.2 (.initialized RX7) (by decide +kernel)) (by decide +kernel) ⟨Nat.le_of_ble_eq_true rfl, Nat.le_of_ble_eq_true rfl⟩, C.2.2.2.2 (.static yX7_has) (by decide +kernel), trivial⟩ [] [0, 1] 2 trivial trivial ⟨⟨_, rfl, rfl⟩, ⟨_, rfl, rfl⟩, trivial⟩ rfl (by decide) (by decide) rfl hl.1 rfl (lv_room (Nat.le_of_ble_eq_true rfl)) dX5_areLinked_7 ⟨Nat.zero_le _, Nat.zero_le _⟩ (fun H locs w => ?_)
  obtain ⟨_, hb5, hf⟩ := bd hf
  have hres := Option.some.inj hf
  subst hres
  exact ret_z C hr hlocks w (bz_in hb5).1 rfl dX5_areLinked_10

set_option maxRecDepth 100000 in
theorem inX5_turnLink_X5 : ∀ w ∈ u_ws RX5 TX5 7, w ∈ wsX5_turnLink := by decide +kernel
set_option maxRecDepth 100000 in
theorem lkX5_turnLink_15 : Cond.fieldLink RX5 15 "CleanNets$Standing" "near" "[I" ∈ wsX5_turnLink := by decide +kernel
abbrev wX5_turnLink (cI cL cS cH : ClassId) (a_this : Nat) (a_this_near : Nat) (q_nodes : Int32) (q_clean : Int32) (q_guards : Int32) (q_kind : Int32) (q_team : Int32) (q_draw : Int32) (q_near : Nat → Int32) : va_W := [(a_this, .inr (5, [.int q_nodes, .ref a_this_near, .int q_clean, .int q_guards, .int q_kind, .int q_team, .int q_draw])),
  (a_this_near, .inl (cI, 7, .inl q_near))]
def fX5_turnLink (q_near : Nat → Int32) (x1 : Int32) (x2 : Int32) : Option (Nat → Int32) := Option.bind (rd q_near 7 x1) (fun y1 => Option.bind (wi q_near 7 x1 (y1 ^^^ ((1 : Int32) <<< (x2 &&& 31)))) (fun g3 => Option.bind (rd g3 7 x2) (fun y5 => Option.bind (wi g3 7 x2 (y5 ^^^ ((1 : Int32) <<< (x1 &&& 31)))) (fun g7 => some g7))))
set_option maxHeartbeats 4000000 in
set_option maxRecDepth 100000 in
theorem mX5_turnLink (l : Launch) (D : vg) (cI cL cS cH : ClassId) (sz : Nat) (a_this : Nat) (a_this_near : Nat) (q_nodes : Int32) (q_clean : Int32) (q_guards : Int32) (q_kind : Int32) (q_team : Int32) (q_draw : Int32) (q_near : Nat → Int32) (x1 : Int32) (x2 : Int32) {res : Nat → Int32} (hf : fX5_turnLink q_near x1 x2 = some res) : ctv l yX5_turnLink wsX5_turnLink ({ frames := 0, cells := 0, slots := 0, locals := 0 }) D (ty4 cI cL cS cH) sz [.ref a_this, .int x1, .int x2] (wX5_turnLink cI cL cS cH a_this a_this_near q_nodes q_clean q_guards q_kind q_team q_draw q_near) (wX5_turnLink cI cL cS cH a_this a_this_near q_nodes q_clean q_guards q_kind q_team q_draw res) := by
  refine Met.ofW (cc := cX5_turnLink) (maxL := 3) (ret := none) (by decide) rfl ?_
  intro p e s m args below meth c s₁ B hml hv
  obtain ⟨rfl, hpre⟩ := hv
  obtain rfl := hpre.1
  have C : CallFix p m c cX5_turnLink 3 s _ wsX5_turnLink RX5 := ⟨B.exec, B.bytes, hml, findClass_of_methodNamed B.named, atoms_spec (ws := wsX5_turnLink) B.pre⟩
  have hr := B.returns
  have hlocks := B.notSynchronized
  have w := wd_start hpre
  clear hpre B
  have hl := lv_entry ([.ref a_this, .int x1, .int x2]) (n := 3) (Nat.le_of_ble_eq_true rfl)
  rw [lg_entry_eq]
  generalize (lg_sl ([.ref a_this, .int x1, .int x2]) ++ List.replicate (3 - (lg_sl ([.ref a_this, .int x1, .int x2])).length) Slot.unset).toArray = ls at hl ⊢
  have hl : lv_has ls 3 [(0, .ref a_this), (1, .int x1), (2, .int x2)] := hl
  unfold fX5_turnLink at hf
  refine lv_aload_n C.1 C.2.1 dX5_turnLink_0 rfl (lv_at hl 0 rfl) ?_
  refine r_get C w inX5_turnLink_X5 0 rfl rfl 1 (by decide) lkX5_turnLink_15 rfl dX5_turnLink_1 ?_
  refine lv_iload_n C.1 C.2.1 dX5_turnLink_4 rfl (lv_at hl 1 rfl) ?_
  refine lv_dup2_11 C.1 C.2.1 dX5_turnLink_5 rfl rfl ?_
  obtain ⟨y1, hy2, hf⟩ := bd hf
  refine r_iald C w 1 0 rfl rfl (rd_in hy2) dX5_turnLink_6 ?_
  refine lv_iconst (v := (1 : Int32)) C.1 C.2.1 dX5_turnLink_7 (by decide) ?_
  refine lv_iload_n C.1 C.2.1 dX5_turnLink_8 rfl (lv_at hl 2 rfl) ?_
  refine lv_ishl C.1 C.2.1 dX5_turnLink_9 ?_
  refine lv_ixor C.1 C.2.1 dX5_turnLink_10 ?_
  obtain ⟨g3, hg4, hf⟩ := bd hf
  refine r_iast (ws' := (wX5_turnLink cI cL cS cH a_this a_this_near q_nodes q_clean q_guards q_kind q_team q_draw g3)) C w 1 0 rfl rfl (wi_in hg4) rfl dX5_turnLink_11 (fun H locs w => ?_)
  refine lv_aload_n C.1 C.2.1 dX5_turnLink_12 rfl (lv_at hl 0 rfl) ?_
  refine r_get C w inX5_turnLink_X5 0 rfl rfl 1 (by decide) lkX5_turnLink_15 rfl dX5_turnLink_13 ?_
  refine lv_iload_n C.1 C.2.1 dX5_turnLink_16 rfl (lv_at hl 2 rfl) ?_
  refine lv_dup2_11 C.1 C.2.1 dX5_turnLink_17 rfl rfl ?_
  obtain ⟨y5, hy6, hf⟩ := bd hf
  refine r_iald C w 1 0 rfl rfl (rd_in hy6) dX5_turnLink_18 ?_
  refine lv_iconst (v := (1 : Int32)) C.1 C.2.1 dX5_turnLink_19 (by decide) ?_
  refine lv_iload_n C.1 C.2.1 dX5_turnLink_20 rfl (lv_at hl 1 rfl) ?_
  refine lv_ishl C.1 C.2.1 dX5_turnLink_21 ?_
  refine lv_ixor C.1 C.2.1 dX5_turnLink_22 ?_
  obtain ⟨g7, hg8, hf⟩ := bd hf
  refine r_iast (ws' := (wX5_turnLink cI cL cS cH a_this a_this_near q_nodes q_clean q_guards q_kind q_team q_draw g7)) C w 1 0 rfl rfl (wi_in hg8) rfl dX5_turnLink_23 (fun H locs w => ?_)
  have hres := Option.some.inj hf
  subst hres
  exact ret_v C hr hlocks w dX5_turnLink_24
