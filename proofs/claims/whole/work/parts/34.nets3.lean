set_option maxRecDepth 100000 in
theorem inX7_image_X7 : ∀ w ∈ u_ws RX7 TX7 9, w ∈ wsX7_image := by decide +kernel
set_option maxRecDepth 100000 in
theorem lkX7_image_23 : Cond.fieldLink RX7 23 "CleanNets" "kept" "LCleanNets$Standing;" ∈ wsX7_image := by decide +kernel
set_option maxRecDepth 100000 in
theorem lkX7_image_12 : Cond.fieldLink RX7 12 "CleanNets" "now" "LCleanNets$Standing;" ∈ wsX7_image := by decide +kernel
set_option maxRecDepth 100000 in
theorem lkX7_image_26 : Cond.fieldLink RX7 26 "CleanNets" "keptPast" "LCleanNets$Past;" ∈ wsX7_image := by decide +kernel
set_option maxRecDepth 100000 in
theorem lkX7_image_19 : Cond.fieldLink RX7 19 "CleanNets" "past" "LCleanNets$Past;" ∈ wsX7_image := by decide +kernel
set_option maxRecDepth 100000 in
theorem lkX7_image_29 : Cond.fieldLink RX7 29 "CleanNets" "hasImage" "Z" ∈ wsX7_image := by decide +kernel
abbrev wX7_image (cI cL cS cH : ClassId) (a_this : Nat) (a_this_now : Nat) (a_this_past : Nat) (a_this_kept : Nat) (a_this_keptPast : Nat) (a_this_plans : Nat) (a_this_plans_search_net : Nat) (a_this_tape : Nat) (a_this_sheets : Nat) (a_this_kept_near : Nat) (a_this_keptPast_rows : Nat) (a_this_now_near : Nat) (a_this_past_rows : Nat) (q_hasImage : Int32) (q_kept_nodes : Int32) (q_kept_clean : Int32) (q_kept_guards : Int32) (q_kept_kind : Int32) (q_kept_team : Int32) (q_kept_draw : Int32) (q_kept_near : Nat → Int32) (q_keptPast_known : Int32) (q_keptPast_rows_R : Nat → Nat) (q_keptPast_rows_nodes : Nat → Int32) (q_keptPast_rows_near_R : Nat → Nat) (q_keptPast_rows_clean : Nat → Int32) (q_keptPast_rows_guards : Nat → Int32) (q_keptPast_rows_kind : Nat → Int32) (q_keptPast_rows_team : Nat → Int32) (q_keptPast_rows_draw : Nat → Int32) (q_keptPast_rows_near : Nat → Nat → Int32) (q_now_nodes : Int32) (q_now_clean : Int32) (q_now_guards : Int32) (q_now_kind : Int32) (q_now_team : Int32) (q_now_draw : Int32) (q_now_near : Nat → Int32) (q_past_known : Int32) (q_past_rows_R : Nat → Nat) (q_past_rows_nodes : Nat → Int32) (q_past_rows_near_R : Nat → Nat) (q_past_rows_clean : Nat → Int32) (q_past_rows_guards : Nat → Int32) (q_past_rows_kind : Nat → Int32) (q_past_rows_team : Nat → Int32) (q_past_rows_draw : Nat → Int32) (q_past_rows_near : Nat → Nat → Int32) : va_W := [(a_this, .inr (7, [.ref a_this_now, .ref a_this_past, .ref a_this_kept, .ref a_this_keptPast, .int q_hasImage, .ref a_this_plans, .ref a_this_plans_search_net, .ref a_this_tape, .ref a_this_sheets])),
  (a_this_kept, .inr (5, [.int q_kept_nodes, .ref a_this_kept_near, .int q_kept_clean, .int q_kept_guards, .int q_kept_kind, .int q_kept_team, .int q_kept_draw])),
  (a_this_kept_near, .inl (cI, 7, .inl q_kept_near)),
  (a_this_keptPast, .inr (1, [.int q_keptPast_known, .ref a_this_keptPast_rows])),
  (a_this_keptPast_rows, .inl (cS, 6, .inr (.inr (.inr (.inr (fun k => some (q_keptPast_rows_R k))))))),
  ((q_keptPast_rows_R 0), .inr (5, [.int (q_keptPast_rows_nodes 0), .ref (q_keptPast_rows_near_R 0), .int (q_keptPast_rows_clean 0), .int (q_keptPast_rows_guards 0), .int (q_keptPast_rows_kind 0), .int (q_keptPast_rows_team 0), .int (q_keptPast_rows_draw 0)])),
  ((q_keptPast_rows_near_R 0), .inl (cI, 7, .inl (q_keptPast_rows_near 0))),
  ((q_keptPast_rows_R 1), .inr (5, [.int (q_keptPast_rows_nodes 1), .ref (q_keptPast_rows_near_R 1), .int (q_keptPast_rows_clean 1), .int (q_keptPast_rows_guards 1), .int (q_keptPast_rows_kind 1), .int (q_keptPast_rows_team 1), .int (q_keptPast_rows_draw 1)])),
  ((q_keptPast_rows_near_R 1), .inl (cI, 7, .inl (q_keptPast_rows_near 1))),
  ((q_keptPast_rows_R 2), .inr (5, [.int (q_keptPast_rows_nodes 2), .ref (q_keptPast_rows_near_R 2), .int (q_keptPast_rows_clean 2), .int (q_keptPast_rows_guards 2), .int (q_keptPast_rows_kind 2), .int (q_keptPast_rows_team 2), .int (q_keptPast_rows_draw 2)])),
  ((q_keptPast_rows_near_R 2), .inl (cI, 7, .inl (q_keptPast_rows_near 2))),
  ((q_keptPast_rows_R 3), .inr (5, [.int (q_keptPast_rows_nodes 3), .ref (q_keptPast_rows_near_R 3), .int (q_keptPast_rows_clean 3), .int (q_keptPast_rows_guards 3), .int (q_keptPast_rows_kind 3), .int (q_keptPast_rows_team 3), .int (q_keptPast_rows_draw 3)])),
  ((q_keptPast_rows_near_R 3), .inl (cI, 7, .inl (q_keptPast_rows_near 3))),
  ((q_keptPast_rows_R 4), .inr (5, [.int (q_keptPast_rows_nodes 4), .ref (q_keptPast_rows_near_R 4), .int (q_keptPast_rows_clean 4), .int (q_keptPast_rows_guards 4), .int (q_keptPast_rows_kind 4), .int (q_keptPast_rows_team 4), .int (q_keptPast_rows_draw 4)])),
  ((q_keptPast_rows_near_R 4), .inl (cI, 7, .inl (q_keptPast_rows_near 4))),
  ((q_keptPast_rows_R 5), .inr (5, [.int (q_keptPast_rows_nodes 5), .ref (q_keptPast_rows_near_R 5), .int (q_keptPast_rows_clean 5), .int (q_keptPast_rows_guards 5), .int (q_keptPast_rows_kind 5), .int (q_keptPast_rows_team 5), .int (q_keptPast_rows_draw 5)])),
  ((q_keptPast_rows_near_R 5), .inl (cI, 7, .inl (q_keptPast_rows_near 5))),
  (a_this_now, .inr (5, [.int q_now_nodes, .ref a_this_now_near, .int q_now_clean, .int q_now_guards, .int q_now_kind, .int q_now_team, .int q_now_draw])),
  (a_this_now_near, .inl (cI, 7, .inl q_now_near)),
  (a_this_past, .inr (1, [.int q_past_known, .ref a_this_past_rows])),
  (a_this_past_rows, .inl (cS, 6, .inr (.inr (.inr (.inr (fun k => some (q_past_rows_R k))))))),
  ((q_past_rows_R 0), .inr (5, [.int (q_past_rows_nodes 0), .ref (q_past_rows_near_R 0), .int (q_past_rows_clean 0), .int (q_past_rows_guards 0), .int (q_past_rows_kind 0), .int (q_past_rows_team 0), .int (q_past_rows_draw 0)])),
  ((q_past_rows_near_R 0), .inl (cI, 7, .inl (q_past_rows_near 0))),
  ((q_past_rows_R 1), .inr (5, [.int (q_past_rows_nodes 1), .ref (q_past_rows_near_R 1), .int (q_past_rows_clean 1), .int (q_past_rows_guards 1), .int (q_past_rows_kind 1), .int (q_past_rows_team 1), .int (q_past_rows_draw 1)])),
  ((q_past_rows_near_R 1), .inl (cI, 7, .inl (q_past_rows_near 1))),
  ((q_past_rows_R 2), .inr (5, [.int (q_past_rows_nodes 2), .ref (q_past_rows_near_R 2), .int (q_past_rows_clean 2), .int (q_past_rows_guards 2), .int (q_past_rows_kind 2), .int (q_past_rows_team 2), .int (q_past_rows_draw 2)])),
  ((q_past_rows_near_R 2), .inl (cI, 7, .inl (q_past_rows_near 2))),
  ((q_past_rows_R 3), .inr (5, [.int (q_past_rows_nodes 3), .ref (q_past_rows_near_R 3), .int (q_past_rows_clean 3), .int (q_past_rows_guards 3), .int (q_past_rows_kind 3), .int (q_past_rows_team 3), .int (q_past_rows_draw 3)])),
  ((q_past_rows_near_R 3), .inl (cI, 7, .inl (q_past_rows_near 3))),
  ((q_past_rows_R 4), .inr (5, [.int (q_past_rows_nodes 4), .ref (q_past_rows_near_R 4), .int (q_past_rows_clean 4), .int (q_past_rows_guards 4), .int (q_past_rows_kind 4), .int (q_past_rows_team 4), .int (q_past_rows_draw 4)])),
  ((q_past_rows_near_R 4), .inl (cI, 7, .inl (q_past_rows_near 4))),
  ((q_past_rows_R 5), .inr (5, [.int (q_past_rows_nodes 5), .ref (q_past_rows_near_R 5), .int (q_past_rows_clean 5), .int (q_past_rows_guards 5), .int (q_past_rows_kind 5), .int (q_past_rows_team 5), .int (q_past_rows_draw 5)])),
  ((q_past_rows_near_R 5), .inl (cI, 7, .inl (q_past_rows_near 5)))]
def fX7_image (q_hasImage : Int32) (q_kept_nodes : Int32) (q_kept_clean : Int32) (q_kept_guards : Int32) (q_kept_kind : Int32) (q_kept_team : Int32) (q_kept_draw : Int32) (q_kept_near : Nat → Int32) (q_keptPast_known : Int32) (q_keptPast_rows_nodes : Nat → Int32) (q_keptPast_rows_clean : Nat → Int32) (q_keptPast_rows_guards : Nat → Int32) (q_keptPast_rows_kind : Nat → Int32) (q_keptPast_rows_team : Nat → Int32) (q_keptPast_rows_draw : Nat → Int32) (q_keptPast_rows_near : Nat → Nat → Int32) (q_now_nodes : Int32) (q_now_clean : Int32) (q_now_guards : Int32) (q_now_kind : Int32) (q_now_team : Int32) (q_now_draw : Int32) (q_now_near : Nat → Int32) (q_past_known : Int32) (q_past_rows_nodes : Nat → Int32) (q_past_rows_clean : Nat → Int32) (q_past_rows_guards : Nat → Int32) (q_past_rows_kind : Nat → Int32) (q_past_rows_team : Nat → Int32) (q_past_rows_draw : Nat → Int32) (q_past_rows_near : Nat → Nat → Int32)  : Option (Int32 × Int32 × Int32 × Int32 × Int32 × Int32 × Int32 × Int32 × (Nat → Int32) × Int32 × (Nat → Int32) × (Nat → Int32) × (Nat → Int32) × (Nat → Int32) × (Nat → Int32) × (Nat → Int32) × (Nat → Nat → Int32)) := Option.bind (fX5_become q_now_nodes q_now_clean q_now_guards q_now_kind q_now_team q_now_draw q_now_near q_kept_nodes q_kept_clean q_kept_guards q_kept_kind q_kept_team q_kept_draw q_kept_near) (fun r1 => Option.bind (fX1_become q_past_known q_past_rows_nodes q_past_rows_clean q_past_rows_guards q_past_rows_kind q_past_rows_team q_past_rows_draw q_past_rows_near q_keptPast_known q_keptPast_rows_nodes q_keptPast_rows_clean q_keptPast_rows_guards q_keptPast_rows_kind q_keptPast_rows_team q_keptPast_rows_draw q_keptPast_rows_near) (fun r3 => some ((1 : Int32), (1 : Int32), r1.1, r1.2.1, r1.2.2.1, r1.2.2.2.1, r1.2.2.2.2.1, r1.2.2.2.2.2.1, r1.2.2.2.2.2.2, r3.1, r3.2.1, r3.2.2.1, r3.2.2.2.1, r3.2.2.2.2.1, r3.2.2.2.2.2.1, r3.2.2.2.2.2.2.1, r3.2.2.2.2.2.2.2)))
set_option maxHeartbeats 4000000 in
set_option maxRecDepth 100000 in
theorem mX7_image (l : Launch) (D : vg) (cI cL cS cH : ClassId) (sz : Nat) (a_this : Nat) (a_this_now : Nat) (a_this_past : Nat) (a_this_kept : Nat) (a_this_keptPast : Nat) (a_this_plans : Nat) (a_this_plans_search_net : Nat) (a_this_tape : Nat) (a_this_sheets : Nat) (a_this_kept_near : Nat) (a_this_keptPast_rows : Nat) (a_this_now_near : Nat) (a_this_past_rows : Nat) (q_hasImage : Int32) (q_kept_nodes : Int32) (q_kept_clean : Int32) (q_kept_guards : Int32) (q_kept_kind : Int32) (q_kept_team : Int32) (q_kept_draw : Int32) (q_kept_near : Nat → Int32) (q_keptPast_known : Int32) (q_keptPast_rows_R : Nat → Nat) (q_keptPast_rows_nodes : Nat → Int32) (q_keptPast_rows_near_R : Nat → Nat) (q_keptPast_rows_clean : Nat → Int32) (q_keptPast_rows_guards : Nat → Int32) (q_keptPast_rows_kind : Nat → Int32) (q_keptPast_rows_team : Nat → Int32) (q_keptPast_rows_draw : Nat → Int32) (q_keptPast_rows_near : Nat → Nat → Int32) (q_now_nodes : Int32) (q_now_clean : Int32) (q_now_guards : Int32) (q_now_kind : Int32) (q_now_team : Int32) (q_now_draw : Int32) (q_now_near : Nat → Int32) (q_past_known : Int32) (q_past_rows_R : Nat → Nat) (q_past_rows_nodes : Nat → Int32) (q_past_rows_near_R : Nat → Nat) (q_past_rows_clean : Nat → Int32) (q_past_rows_guards : Nat → Int32) (q_past_rows_kind : Nat → Int32) (q_past_rows_team : Nat → Int32) (q_past_rows_draw : Nat → Int32) (q_past_rows_near : Nat → Nat → Int32) {res : Int32 × Int32 × Int32 × Int32 × Int32 × Int32 × Int32 × Int32 × (Nat → Int32) × Int32 × (Nat → Int32) × (Nat → Int32) × (Nat → Int32) × (Nat → Int32) × (Nat → Int32) × (Nat → Int32) × (Nat → Nat → Int32)} (hf : fX7_image q_hasImage q_kept_nodes q_kept_clean q_kept_guards q_kept_kind q_kept_team q_kept_draw q_kept_near q_keptPast_known q_keptPast_rows_nodes q_keptPast_rows_clean q_keptPast_rows_guards q_keptPast_rows_kind q_keptPast_rows_team q_keptPast_rows_draw q_keptPast_rows_near q_now_nodes q_now_clean q_now_guards q_now_kind q_now_team q_now_draw q_now_near q_past_known q_past_rows_nodes q_past_rows_clean q_past_rows_guards q_past_rows_kind q_past_rows_team q_past_rows_draw q_past_rows_near = some res) : cti l yX7_image wsX7_image ({ frames := 3, cells := 0, slots := 0, locals := 83 }) D (ty4 cI cL cS cH) sz [.ref a_this] (wX7_image cI cL cS cH a_this a_this_now a_this_past a_this_kept a_this_keptPast a_this_plans a_this_plans_search_net a_this_tape a_this_sheets a_this_kept_near a_this_keptPast_rows a_this_now_near a_this_past_rows q_hasImage q_kept_nodes q_kept_clean q_kept_guards q_kept_kind q_kept_team q_kept_draw q_kept_near q_keptPast_known q_keptPast_rows_R q_keptPast_rows_nodes q_keptPast_rows_near_R q_keptPast_rows_clean q_keptPast_rows_guards q_keptPast_rows_kind q_keptPast_rows_team q_keptPast_rows_draw q_keptPast_rows_near q_now_nodes q_now_clean q_now_guards q_now_kind q_now_team q_now_draw q_now_near q_past_known q_past_rows_R q_past_rows_nodes q_past_rows_near_R q_past_rows_clean q_past_rows_guards q_past_rows_kind q_past_rows_team q_past_rows_draw q_past_rows_near) (wX7_image cI cL cS cH a_this a_this_now a_this_past a_this_kept a_this_keptPast a_this_plans a_this_plans_search_net a_this_tape a_this_sheets a_this_kept_near a_this_keptPast_rows a_this_now_near a_this_past_rows res.2.1 res.2.2.1 res.2.2.2.1 res.2.2.2.2.1 res.2.2.2.2.2.1 res.2.2.2.2.2.2.1 res.2.2.2.2.2.2.2.1 res.2.2.2.2.2.2.2.2.1 res.2.2.2.2.2.2.2.2.2.1 q_keptPast_rows_R res.2.2.2.2.2.2.2.2.2.2.1 q_keptPast_rows_near_R res.2.2.2.2.2.2.2.2.2.2.2.1 res.2.2.2.2.2.2.2.2.2.2.2.2.1 res.2.2.2.2.2.2.2.2.2.2.2.2.2.1 res.2.2.2.2.2.2.2.2.2.2.2.2.2.2.1 res.2.2.2.2.2.2.2.2.2.2.2.2.2.2.2.1 res.2.2.2.2.2.2.2.2.2.2.2.2.2.2.2.2 q_now_nodes q_now_clean q_now_guards q_now_kind q_now_team q_now_draw q_now_near q_past_known q_past_rows_R q_past_rows_nodes q_past_rows_near_R q_past_rows_clean q_past_rows_guards q_past_rows_kind q_past_rows_team q_past_rows_draw q_past_rows_near) res.1 := by
  refine Met.ofW (cc := cX7_image) (maxL := 1) (ret := (some .int)) (by decide) rfl ?_
  intro p e s m args below meth c s₁ B hml hv
  obtain ⟨rfl, hpre⟩ := hv
  obtain rfl := hpre.1
  have C : CallFix p m c cX7_image 1 s _ wsX7_image RX7 := ⟨B.exec, B.bytes, hml, findClass_of_methodNamed B.named, atoms_spec (ws := wsX7_image) B.pre⟩
  have hr := B.returns
  have hlocks := B.notSynchronized
  have w := wd_start hpre
  clear hpre B
  have hl := lv_entry ([.ref a_this]) (n := 1) (Nat.le_of_ble_eq_true rfl)
  rw [lg_entry_eq]
  generalize (lg_sl ([.ref a_this]) ++ List.replicate (1 - (lg_sl ([.ref a_this])).length) Slot.unset).toArray = ls at hl ⊢
  have hl : lv_has ls 1 [(0, .ref a_this)] := hl
  unfold fX7_image at hf
  refine lv_aload_n C.1 C.2.1 dX7_image_0 rfl (lv_at hl 0 rfl) ?_
  refine r_get C w inX7_image_X7 0 rfl rfl 2 (by decide) lkX7_image_23 rfl dX7_image_1 ?_
  refine lv_aload_n C.1 C.2.1 dX7_image_4 rfl (lv_at hl 0 rfl) ?_
  refine r_get C w inX7_image_X7 0 rfl rfl 0 (by decide) lkX7_image_12 rfl dX7_image_5 ?_
  obtain ⟨r1, hc2, hf⟩ := bd hf
  refine call_Vv (ws' := (wX7_image cI cL cS cH a_this a_this_now a_this_past a_this_kept a_this_keptPast a_this_plans a_this_plans_search_net a_this_tape a_this_sheets a_this_kept_near a_this_keptPast_rows a_this_now_near a_this_past_rows q_hasImage r1.1 r1.2.1 r1.2.2.1 r1.2.2.2.1 r1.2.2.2.2.1 r1.2.2.2.2.2.1 r1.2.2.2.2.2.2 q_keptPast_known q_keptPast_rows_R q_keptPast_rows_nodes q_keptPast_rows_near_R q_keptPast_rows_clean q_keptPast_rows_guards q_keptPast_rows_kind q_keptPast_rows_team q_keptPast_rows_draw q_keptPast_rows_near q_now_nodes q_now_clean q_now_guards q_now_kind q_now_team q_now_draw q_now_near q_past_known q_past_rows_R q_past_rows_nodes q_past_rows_near_R q_past_rows_clean q_past_rows_guards q_past_rows_kind q_past_rows_team q_past_rows_draw q_past_rows_near)) (rest := []) C w (mX5_become l D cI cL cS cH _ a_this_now a_this_now_near a_this_kept a_this_kept_near q_now_nodes q_now_clean q_now_guards q_now_kind q_now_team q_now_draw q_now_near q_kept_nodes q_kept_clean q_kept_guards q_kept_kind q_kept_team q_kept_draw q_kept_near hc2) (cwV 1 C.2.2.2.2 gX7_image_X5_become rfl rfl rfl (by decide +kernel) ⟨Nat.le_of_ble_eq_true rfl, Nat.le_of_ble_eq_true rfl⟩) [17, 18, 1, 2] [0, 3, 4, 5, 6, 7, 8, 9, 10, 11, 12, 13, 14, 15, 16, 19, 20, 21, 22, 23, 24, 25, 26, 27, 28, 29, 30, 31, 32] 33 ⟨rfl, rfl, rfl, rfl, trivial⟩ ⟨rfl, rfl, rfl, rfl, trivial⟩ ⟨⟨_, rfl, rfl⟩, ⟨_, rfl, rfl⟩, ⟨_, rfl, rfl⟩, ⟨_, rfl, rfl⟩, ⟨_, rfl, rfl⟩, ⟨_, rfl, rfl⟩, ⟨_, rfl, rfl⟩, ⟨_, rfl, rfl⟩, ⟨_, rfl, rfl⟩, ⟨_, rfl, rfl⟩, ⟨_, rfl, rfl⟩, ⟨_, rfl, rfl⟩, ⟨_, rfl, rfl⟩, ⟨_, rfl, rfl⟩, ⟨_, rfl, rfl⟩, ⟨_, rfl, rfl⟩, ⟨_, rfl, rfl⟩, ⟨_, rfl, rfl⟩, ⟨_, rfl, rfl⟩, ⟨_, rfl, rfl⟩, ⟨_, rfl, rfl⟩, ⟨_, rfl, rfl⟩, ⟨_, rfl, rfl⟩, ⟨_, rfl, rfl⟩, ⟨_, rfl, rfl⟩, ⟨_, rfl, rfl⟩, ⟨_, rfl, rfl⟩, ⟨_, rfl, rfl⟩, ⟨_, rfl, rfl⟩, trivial⟩ rfl (by decide) (by decide) (ci := 5) (q0 := 1) rfl rfl rfl hl.1 rfl (lv_room (Nat.le_of_ble_eq_true rfl)) dX7_image_8 ⟨Nat.zero_le _, Nat.zero_le _⟩ (fun H locs w => ?_)
  refine lv_aload_n C.1 C.2.1 dX7_image_11 rfl (lv_at hl 0 rfl) ?_
  refine r_get C w inX7_image_X7 0 rfl rfl 3 (by decide) lkX7_image_26 rfl dX7_image_12 ?_
  refine lv_aload_n C.1 C.2.1 dX7_image_15 rfl (lv_at hl 0 rfl) ?_
  refine r_get C w inX7_image_X7 0 rfl rfl 1 (by decide) lkX7_image_19 rfl dX7_image_16 ?_
  obtain ⟨r3, hc4, hf⟩ := bd hf
  refine call_Vv (ws' := (wX7_image cI cL cS cH a_this a_this_now a_this_past a_this_kept a_this_keptPast a_this_plans a_this_plans_search_net a_this_tape a_this_sheets a_this_kept_near a_this_keptPast_rows a_this_now_near a_this_past_rows q_hasImage r1.1 r1.2.1 r1.2.2.1 r1.2.2.2.1 r1.2.2.2.2.1 r1.2.2.2.2.2.1 r1.2.2.2.2.2.2 r3.1 q_keptPast_rows_R r3.2.1 q_keptPast_rows_near_R r3.2.2.1 r3.2.2.2.1 r3.2.2.2.2.1 r3.2.2.2.2.2.1 r3.2.2.2.2.2.2.1 r3.2.2.2.2.2.2.2 q_now_nodes q_now_clean q_now_guards q_now_kind q_now_team q_now_draw q_now_near q_past_known q_past_rows_R q_past_rows_nodes q_past_rows_near_R q_past_rows_clean q_past_rows_guards q_past_rows_kind q_past_rows_team q_past_rows_draw q_past_rows_near)) (rest := []) C w (mX1_become l D cI cL cS cH _ a_this_past a_this_past_rows a_this_keptPast a_this_keptPast_rows q_past_known q_past_rows_R q_past_rows_nodes q_past_rows_near_R q_past_rows_clean q_past_rows_guards q_past_rows_kind q_past_rows_team q_past_rows_draw q_past_rows_near q_keptPast_known q_keptPast_rows_R q_keptPast_rows_nodes q_keptPast_rows_near_R q_keptPast_rows_clean q_keptPast_rows_guards q_keptPast_rows_kind q_keptPast_rows_team q_keptPast_rows_draw q_keptPast_rows_near hc4) (cwV 1 C.2.2.2.2 gX7_image_X1_become rfl rfl rfl (by decide +kernel) ⟨Nat.le_of_ble_eq_true rfl, Nat.le_of_ble_eq_true rfl⟩) [19, 20, 21, 22, 23, 24, 25, 26, 27, 28, 29, 30, 31, 32, 3, 4, 5, 6, 7, 8, 9, 10, 11, 12, 13, 14, 15, 16] [0, 1, 2, 17, 18] 33 ⟨rfl, rfl, rfl, rfl, rfl, rfl, rfl, rfl, rfl, rfl, rfl, rfl, rfl, rfl, rfl, rfl, rfl, rfl, rfl, rfl, rfl, rfl, rfl, rfl, rfl, rfl, rfl, rfl, trivial⟩ ⟨rfl, rfl, rfl, rfl, rfl, rfl, rfl, rfl, rfl, rfl, rfl, rfl, rfl, rfl, rfl, rfl, rfl, rfl, rfl, rfl, rfl, rfl, rfl, rfl, rfl, rfl, rfl, rfl, trivial⟩ ⟨⟨_, rfl, rfl⟩, ⟨_, rfl, rfl⟩, ⟨_, rfl, rfl⟩, ⟨_, rfl, rfl⟩, ⟨_, rfl, rfl⟩, trivial⟩ rfl (by decide) (by decide) (ci := 1) (q0 := 3) rfl rfl rfl hl.1 rfl (lv_room (Nat.le_of_ble_eq_true rfl)) dX7_image_19 ⟨Nat.zero_le _, Nat.zero_le _⟩ (fun H locs w => ?_)
  refine lv_aload_n C.1 C.2.1 dX7_image_22 rfl (lv_at hl 0 rfl) ?_
  refine lv_iconst (v := (1 : Int32)) C.1 C.2.1 dX7_image_23 (by decide) ?_
  refine r_put (ws' := (wX7_image cI cL cS cH a_this a_this_now a_this_past a_this_kept a_this_keptPast a_this_plans a_this_plans_search_net a_this_tape a_this_sheets a_this_kept_near a_this_keptPast_rows a_this_now_near a_this_past_rows (1 : Int32) r1.1 r1.2.1 r1.2.2.1 r1.2.2.2.1 r1.2.2.2.2.1 r1.2.2.2.2.2.1 r1.2.2.2.2.2.2 r3.1 q_keptPast_rows_R r3.2.1 q_keptPast_rows_near_R r3.2.2.1 r3.2.2.2.1 r3.2.2.2.2.1 r3.2.2.2.2.2.1 r3.2.2.2.2.2.2.1 r3.2.2.2.2.2.2.2 q_now_nodes q_now_clean q_now_guards q_now_kind q_now_team q_now_draw q_now_near q_past_known q_past_rows_R q_past_rows_nodes q_past_rows_near_R q_past_rows_clean q_past_rows_guards q_past_rows_kind q_past_rows_team q_past_rows_draw q_past_rows_near)) C w inX7_image_X7 tyX7 tyX7_ok nmX7 0 rfl rfl 4 (by decide) lkX7_image_29 rfl (by decide) (by decide) (Nat.le_of_ble_eq_true rfl) rfl dX7_image_24 (fun H locs w => ?_)
  refine lv_iconst (v := (1 : Int32)) C.1 C.2.1 dX7_image_27 (by decide) ?_
  have hres := Option.some.inj hf
  subst hres
  exact ret_i C hr hlocks w rfl dX7_image_28

set_option maxRecDepth 100000 in
theorem inX7_restore_X7 : ∀ w ∈ u_ws RX7 TX7 9, w ∈ wsX7_restore := by decide +kernel
set_option maxRecDepth 100000 in
theorem lkX7_restore_29 : Cond.fieldLink RX7 29 "CleanNets" "hasImage" "Z" ∈ wsX7_restore := by decide +kernel
set_option maxRecDepth 100000 in
theorem lkX7_restore_12 : Cond.fieldLink RX7 12 "CleanNets" "now" "LCleanNets$Standing;" ∈ wsX7_restore := by decide +kernel
set_option maxRecDepth 100000 in
theorem lkX7_restore_23 : Cond.fieldLink RX7 23 "CleanNets" "kept" "LCleanNets$Standing;" ∈ wsX7_restore := by decide +kernel
set_option maxRecDepth 100000 in
theorem lkX7_restore_19 : Cond.fieldLink RX7 19 "CleanNets" "past" "LCleanNets$Past;" ∈ wsX7_restore := by decide +kernel
set_option maxRecDepth 100000 in
theorem lkX7_restore_26 : Cond.fieldLink RX7 26 "CleanNets" "keptPast" "LCleanNets$Past;" ∈ wsX7_restore := by decide +kernel
abbrev wX7_restore (cI cL cS cH : ClassId) (a_this : Nat) (a_this_now : Nat) (a_this_past : Nat) (a_this_kept : Nat) (a_this_keptPast : Nat) (a_this_plans : Nat) (a_this_plans_search_net : Nat) (a_this_tape : Nat) (a_this_sheets : Nat) (a_this_kept_near : Nat) (a_this_keptPast_rows : Nat) (a_this_now_near : Nat) (a_this_past_rows : Nat) (q_hasImage : Int32) (q_kept_nodes : Int32) (q_kept_clean : Int32) (q_kept_guards : Int32) (q_kept_kind : Int32) (q_kept_team : Int32) (q_kept_draw : Int32) (q_kept_near : Nat → Int32) (q_keptPast_known : Int32) (q_keptPast_rows_R : Nat → Nat) (q_keptPast_rows_nodes : Nat → Int32) (q_keptPast_rows_near_R : Nat → Nat) (q_keptPast_rows_clean : Nat → Int32) (q_keptPast_rows_guards : Nat → Int32) (q_keptPast_rows_kind : Nat → Int32) (q_keptPast_rows_team : Nat → Int32) (q_keptPast_rows_draw : Nat → Int32) (q_keptPast_rows_near : Nat → Nat → Int32) (q_now_nodes : Int32) (q_now_clean : Int32) (q_now_guards : Int32) (q_now_kind : Int32) (q_now_team : Int32) (q_now_draw : Int32) (q_now_near : Nat → Int32) (q_past_known : Int32) (q_past_rows_R : Nat → Nat) (q_past_rows_nodes : Nat → Int32) (q_past_rows_near_R : Nat → Nat) (q_past_rows_clean : Nat → Int32) (q_past_rows_guards : Nat → Int32) (q_past_rows_kind : Nat → Int32) (q_past_rows_team : Nat → Int32) (q_past_rows_draw : Nat → Int32) (q_past_rows_near : Nat → Nat → Int32) : va_W := [(a_this, .inr (7, [.ref a_this_now, .ref a_this_past, .ref a_this_kept, .ref a_this_keptPast, .int q_hasImage, .ref a_this_plans, .ref a_this_plans_search_net, .ref a_this_tape, .ref a_this_sheets])),
  (a_this_kept, .inr (5, [.int q_kept_nodes, .ref a_this_kept_near, .int q_kept_clean, .int q_kept_guards, .int q_kept_kind, .int q_kept_team, .int q_kept_draw])),
  (a_this_kept_near, .inl (cI, 7, .inl q_kept_near)),
  (a_this_keptPast, .inr (1, [.int q_keptPast_known, .ref a_this_keptPast_rows])),
  (a_this_keptPast_rows, .inl (cS, 6, .inr (.inr (.inr (.inr (fun k => some (q_keptPast_rows_R k))))))),
  ((q_keptPast_rows_R 0), .inr (5, [.int (q_keptPast_rows_nodes 0), .ref (q_keptPast_rows_near_R 0), .int (q_keptPast_rows_clean 0), .int (q_keptPast_rows_guards 0), .int (q_keptPast_rows_kind 0), .int (q_keptPast_rows_team 0), .int (q_keptPast_rows_draw 0)])),
  ((q_keptPast_rows_near_R 0), .inl (cI, 7, .inl (q_keptPast_rows_near 0))),
  ((q_keptPast_rows_R 1), .inr (5, [.int (q_keptPast_rows_nodes 1), .ref (q_keptPast_rows_near_R 1), .int (q_keptPast_rows_clean 1), .int (q_keptPast_rows_guards 1), .int (q_keptPast_rows_kind 1), .int (q_keptPast_rows_team 1), .int (q_keptPast_rows_draw 1)])),
  ((q_keptPast_rows_near_R 1), .inl (cI, 7, .inl (q_keptPast_rows_near 1))),
  ((q_keptPast_rows_R 2), .inr (5, [.int (q_keptPast_rows_nodes 2), .ref (q_keptPast_rows_near_R 2), .int (q_keptPast_rows_clean 2), .int (q_keptPast_rows_guards 2), .int (q_keptPast_rows_kind 2), .int (q_keptPast_rows_team 2), .int (q_keptPast_rows_draw 2)])),
  ((q_keptPast_rows_near_R 2), .inl (cI, 7, .inl (q_keptPast_rows_near 2))),
  ((q_keptPast_rows_R 3), .inr (5, [.int (q_keptPast_rows_nodes 3), .ref (q_keptPast_rows_near_R 3), .int (q_keptPast_rows_clean 3), .int (q_keptPast_rows_guards 3), .int (q_keptPast_rows_kind 3), .int (q_keptPast_rows_team 3), .int (q_keptPast_rows_draw 3)])),
  ((q_keptPast_rows_near_R 3), .inl (cI, 7, .inl (q_keptPast_rows_near 3))),
  ((q_keptPast_rows_R 4), .inr (5, [.int (q_keptPast_rows_nodes 4), .ref (q_keptPast_rows_near_R 4), .int (q_keptPast_rows_clean 4), .int (q_keptPast_rows_guards 4), .int (q_keptPast_rows_kind 4), .int (q_keptPast_rows_team 4), .int (q_keptPast_rows_draw 4)])),
  ((q_keptPast_rows_near_R 4), .inl (cI, 7, .inl (q_keptPast_rows_near 4))),
  ((q_keptPast_rows_R 5), .inr (5, [.int (q_keptPast_rows_nodes 5), .ref (q_keptPast_rows_near_R 5), .int (q_keptPast_rows_clean 5), .int (q_keptPast_rows_guards 5), .int (q_keptPast_rows_kind 5), .int (q_keptPast_rows_team 5), .int (q_keptPast_rows_draw 5)])),
  ((q_keptPast_rows_near_R 5), .inl (cI, 7, .inl (q_keptPast_rows_near 5))),
  (a_this_now, .inr (5, [.int q_now_nodes, .ref a_this_now_near, .int q_now_clean, .int q_now_guards, .int q_now_kind, .int q_now_team, .int q_now_draw])),
  (a_this_now_near, .inl (cI, 7, .inl q_now_near)),
  (a_this_past, .inr (1, [.int q_past_known, .ref a_this_past_rows])),
  (a_this_past_rows, .inl (cS, 6, .inr (.inr (.inr (.inr (fun k => some (q_past_rows_R k))))))),
  ((q_past_rows_R 0), .inr (5, [.int (q_past_rows_nodes 0), .ref (q_past_rows_near_R 0), .int (q_past_rows_clean 0), .int (q_past_rows_guards 0), .int (q_past_rows_kind 0), .int (q_past_rows_team 0), .int (q_past_rows_draw 0)])),
  ((q_past_rows_near_R 0), .inl (cI, 7, .inl (q_past_rows_near 0))),
  ((q_past_rows_R 1), .inr (5, [.int (q_past_rows_nodes 1), .ref (q_past_rows_near_R 1), .int (q_past_rows_clean 1), .int (q_past_rows_guards 1), .int (q_past_rows_kind 1), .int (q_past_rows_team 1), .int (q_past_rows_draw 1)])),
  ((q_past_rows_near_R 1), .inl (cI, 7, .inl (q_past_rows_near 1))),
  ((q_past_rows_R 2), .inr (5, [.int (q_past_rows_nodes 2), .ref (q_past_rows_near_R 2), .int (q_past_rows_clean 2), .int (q_past_rows_guards 2), .int (q_past_rows_kind 2), .int (q_past_rows_team 2), .int (q_past_rows_draw 2)])),
  ((q_past_rows_near_R 2), .inl (cI, 7, .inl (q_past_rows_near 2))),
  ((q_past_rows_R 3), .inr (5, [.int (q_past_rows_nodes 3), .ref (q_past_rows_near_R 3), .int (q_past_rows_clean 3), .int (q_past_rows_guards 3), .int (q_past_rows_kind 3), .int (q_past_rows_team 3), .int (q_past_rows_draw 3)])),
  ((q_past_rows_near_R 3), .inl (cI, 7, .inl (q_past_rows_near 3))),
  ((q_past_rows_R 4), .inr (5, [.int (q_past_rows_nodes 4), .ref (q_past_rows_near_R 4), .int (q_past_rows_clean 4), .int (q_past_rows_guards 4), .int (q_past_rows_kind 4), .int (q_past_rows_team 4), .int (q_past_rows_draw 4)])),
  ((q_past_rows_near_R 4), .inl (cI, 7, .inl (q_past_rows_near 4))),
  ((q_past_rows_R 5), .inr (5, [.int (q_past_rows_nodes 5), .ref (q_past_rows_near_R 5), .int (q_past_rows_clean 5), .int (q_past_rows_guards 5), .int (q_past_rows_kind 5), .int (q_past_rows_team 5), .int (q_past_rows_draw 5)])),
  ((q_past_rows_near_R 5), .inl (cI, 7, .inl (q_past_rows_near 5)))]
def fX7_restore (q_hasImage : Int32) (q_kept_nodes : Int32) (q_kept_clean : Int32) (q_kept_guards : Int32) (q_kept_kind : Int32) (q_kept_team : Int32) (q_kept_draw : Int32) (q_kept_near : Nat → Int32) (q_keptPast_known : Int32) (q_keptPast_rows_nodes : Nat → Int32) (q_keptPast_rows_clean : Nat → Int32) (q_keptPast_rows_guards : Nat → Int32) (q_keptPast_rows_kind : Nat → Int32) (q_keptPast_rows_team : Nat → Int32) (q_keptPast_rows_draw : Nat → Int32) (q_keptPast_rows_near : Nat → Nat → Int32) (q_now_nodes : Int32) (q_now_clean : Int32) (q_now_guards : Int32) (q_now_kind : Int32) (q_now_team : Int32) (q_now_draw : Int32) (q_now_near : Nat → Int32) (q_past_known : Int32) (q_past_rows_nodes : Nat → Int32) (q_past_rows_clean : Nat → Int32) (q_past_rows_guards : Nat → Int32) (q_past_rows_kind : Nat → Int32) (q_past_rows_team : Nat → Int32) (q_past_rows_draw : Nat → Int32) (q_past_rows_near : Nat → Nat → Int32)  : Option (Int32 × Int32 × Int32 × Int32 × Int32 × Int32 × Int32 × (Nat → Int32) × Int32 × (Nat → Int32) × (Nat → Int32) × (Nat → Int32) × (Nat → Int32) × (Nat → Int32) × (Nat → Int32) × (Nat → Nat → Int32)) := (if q_hasImage = 0 then some ((-4 : Int32), q_now_nodes, q_now_clean, q_now_guards, q_now_kind, q_now_team, q_now_draw, q_now_near, q_past_known, q_past_rows_nodes, q_past_rows_clean, q_past_rows_guards, q_past_rows_kind, q_past_rows_team, q_past_rows_draw, q_past_rows_near) else Option.bind (fX5_become q_kept_nodes q_kept_clean q_kept_guards q_kept_kind q_kept_team q_kept_draw q_kept_near q_now_nodes q_now_clean q_now_guards q_now_kind q_now_team q_now_draw q_now_near) (fun r2 => Option.bind (fX1_become q_keptPast_known q_keptPast_rows_nodes q_keptPast_rows_clean q_keptPast_rows_guards q_keptPast_rows_kind q_keptPast_rows_team q_keptPast_rows_draw q_keptPast_rows_near q_past_known q_past_rows_nodes q_past_rows_clean q_past_rows_guards q_past_rows_kind q_past_rows_team q_past_rows_draw q_past_rows_near) (fun r4 => some ((1 : Int32), r2.1, r2.2.1, r2.2.2.1, r2.2.2.2.1, r2.2.2.2.2.1, r2.2.2.2.2.2.1, r2.2.2.2.2.2.2, r4.1, r4.2.1, r4.2.2.1, r4.2.2.2.1, r4.2.2.2.2.1, r4.2.2.2.2.2.1, r4.2.2.2.2.2.2.1, r4.2.2.2.2.2.2.2))))
set_option maxHeartbeats 4000000 in
set_option maxRecDepth 100000 in
theorem mX7_restore (l : Launch) (D : vg) (cI cL cS cH : ClassId) (sz : Nat) (a_this : Nat) (a_this_now : Nat) (a_this_past : Nat) (a_this_kept : Nat) (a_this_keptPast : Nat) (a_this_plans : Nat) (a_this_plans_search_net : Nat) (a_this_tape : Nat) (a_this_sheets : Nat) (a_this_kept_near : Nat) (a_this_keptPast_rows : Nat) (a_this_now_near : Nat) (a_this_past_rows : Nat) (q_hasImage : Int32) (q_kept_nodes : Int32) (q_kept_clean : Int32) (q_kept_guards : Int32) (q_kept_kind : Int32) (q_kept_team : Int32) (q_kept_draw : Int32) (q_kept_near : Nat → Int32) (q_keptPast_known : Int32) (q_keptPast_rows_R : Nat → Nat) (q_keptPast_rows_nodes : Nat → Int32) (q_keptPast_rows_near_R : Nat → Nat) (q_keptPast_rows_clean : Nat → Int32) (q_keptPast_rows_guards : Nat → Int32) (q_keptPast_rows_kind : Nat → Int32) (q_keptPast_rows_team : Nat → Int32) (q_keptPast_rows_draw : Nat → Int32) (q_keptPast_rows_near : Nat → Nat → Int32) (q_now_nodes : Int32) (q_now_clean : Int32) (q_now_guards : Int32) (q_now_kind : Int32) (q_now_team : Int32) (q_now_draw : Int32) (q_now_near : Nat → Int32) (q_past_known : Int32) (q_past_rows_R : Nat → Nat) (q_past_rows_nodes : Nat → Int32) (q_past_rows_near_R : Nat → Nat) (q_past_rows_clean : Nat → Int32) (q_past_rows_guards : Nat → Int32) (q_past_rows_kind : Nat → Int32) (q_past_rows_team : Nat → Int32) (q_past_rows_draw : Nat → Int32) (q_past_rows_near : Nat → Nat → Int32) {res : Int32 × Int32 × Int32 × Int32 × Int32 × Int32 × Int32 × (Nat → Int32) × Int32 × (Nat → Int32) × (Nat → Int32) × (Nat → Int32) × (Nat → Int32) × (Nat → Int32) × (Nat → Int32) × (Nat → Nat → Int32)} (hf : fX7_restore q_hasImage q_kept_nodes q_kept_clean q_kept_guards q_kept_kind q_kept_team q_kept_draw q_kept_near q_keptPast_known q_keptPast_rows_nodes q_keptPast_rows_clean q_keptPast_rows_guards q_keptPast_rows_kind q_keptPast_rows_team q_keptPast_rows_draw q_keptPast_rows_near q_now_nodes q_now_clean q_now_guards q_now_kind q_now_team q_now_draw q_now_near q_past_known q_past_rows_nodes q_past_rows_clean q_past_rows_guards q_past_rows_kind q_past_rows_team q_past_rows_draw q_past_rows_near = some res) : cti l yX7_restore wsX7_restore ({ frames := 3, cells := 0, slots := 0, locals := 83 }) D (ty4 cI cL cS cH) sz [.ref a_this] (wX7_restore cI cL cS cH a_this a_this_now a_this_past a_this_kept a_this_keptPast a_this_plans a_this_plans_search_net a_this_tape a_this_sheets a_this_kept_near a_this_keptPast_rows a_this_now_near a_this_past_rows q_hasImage q_kept_nodes q_kept_clean q_kept_guards q_kept_kind q_kept_team q_kept_draw q_kept_near q_keptPast_known q_keptPast_rows_R q_keptPast_rows_nodes q_keptPast_rows_near_R q_keptPast_rows_clean q_keptPast_rows_guards q_keptPast_rows_kind q_keptPast_rows_team q_keptPast_rows_draw q_keptPast_rows_near q_now_nodes q_now_clean q_now_guards q_now_kind q_now_team q_now_draw q_now_near q_past_known q_past_rows_R q_past_rows_nodes q_past_rows_near_R q_past_rows_clean q_past_rows_guards q_past_rows_kind q_past_rows_team q_past_rows_draw q_past_rows_near) (wX7_restore cI cL cS cH a_this a_this_now a_this_past a_this_kept a_this_keptPast a_this_plans a_this_plans_search_net a_this_tape a_this_sheets a_this_kept_near a_this_keptPast_rows a_this_now_near a_this_past_rows q_hasImage q_kept_nodes q_kept_clean q_kept_guards q_kept_kind q_kept_team q_kept_draw q_kept_near q_keptPast_known q_keptPast_rows_R q_keptPast_rows_nodes q_keptPast_rows_near_R q_keptPast_rows_clean q_keptPast_rows_guards q_keptPast_rows_kind q_keptPast_rows_team q_keptPast_rows_draw q_keptPast_rows_near res.2.1 res.2.2.1 res.2.2.2.1 res.2.2.2.2.1 res.2.2.2.2.2.1 res.2.2.2.2.2.2.1 res.2.2.2.2.2.2.2.1 res.2.2.2.2.2.2.2.2.1 q_past_rows_R res.2.2.2.2.2.2.2.2.2.1 q_past_rows_near_R res.2.2.2.2.2.2.2.2.2.2.1 res.2.2.2.2.2.2.2.2.2.2.2.1 res.2.2.2.2.2.2.2.2.2.2.2.2.1 res.2.2.2.2.2.2.2.2.2.2.2.2.2.1 res.2.2.2.2.2.2.2.2.2.2.2.2.2.2.1 res.2.2.2.2.2.2.2.2.2.2.2.2.2.2.2) res.1 := by
  refine Met.ofW (cc := cX7_restore) (maxL := 1) (ret := (some .int)) (by decide) rfl ?_
  intro p e s m args below meth c s₁ B hml hv
  obtain ⟨rfl, hpre⟩ := hv
  obtain rfl := hpre.1
  have C : CallFix p m c cX7_restore 1 s _ wsX7_restore RX7 := ⟨B.exec, B.bytes, hml, findClass_of_methodNamed B.named, atoms_spec (ws := wsX7_restore) B.pre⟩
  have hr := B.returns
  have hlocks := B.notSynchronized
  have w := wd_start hpre
  clear hpre B
  have hl := lv_entry ([.ref a_this]) (n := 1) (Nat.le_of_ble_eq_true rfl)
  rw [lg_entry_eq]
  generalize (lg_sl ([.ref a_this]) ++ List.replicate (1 - (lg_sl ([.ref a_this])).length) Slot.unset).toArray = ls at hl ⊢
  have hl : lv_has ls 1 [(0, .ref a_this)] := hl
  unfold fX7_restore at hf
  refine lv_aload_n C.1 C.2.1 dX7_restore_0 rfl (lv_at hl 0 rfl) ?_
  refine r_get C w inX7_restore_X7 0 rfl rfl 4 (by decide) lkX7_restore_29 rfl dX7_restore_1 ?_
  refine lv_if_ne (tgt := 10) C.1 C.2.1 dX7_restore_4 (by decide) (fun hq1 => ?_) (fun hq1 => ?_)
  · have hf := ite_f hf hq1
    refine lv_aload_n C.1 C.2.1 dX7_restore_10 rfl (lv_at hl 0 rfl) ?_
    refine r_get C w inX7_restore_X7 0 rfl rfl 0 (by decide) lkX7_restore_12 rfl dX7_restore_11 ?_
    refine lv_aload_n C.1 C.2.1 dX7_restore_14 rfl (lv_at hl 0 rfl) ?_
    refine r_get C w inX7_restore_X7 0 rfl rfl 2 (by decide) lkX7_restore_23 rfl dX7_restore_15 ?_
    obtain ⟨r2, hc3, hf⟩ := bd hf
    refine call_Vv (ws' := (wX7_restore cI cL cS cH a_this a_this_now a_this_past a_this_kept a_this_keptPast a_this_plans a_this_plans_search_net a_this_tape a_this_sheets a_this_kept_near a_this_keptPast_rows a_this_now_near a_this_past_rows q_hasImage q_kept_nodes q_kept_clean q_kept_guards q_kept_kind q_kept_team q_kept_draw q_kept_near q_keptPast_known q_keptPast_rows_R q_keptPast_rows_nodes q_keptPast_rows_near_R q_keptPast_rows_clean q_keptPast_rows_guards q_keptPast_rows_kind q_keptPast_rows_team q_keptPast_rows_draw q_keptPast_rows_near r2.1 r2.2.1 r2.2.2.1 r2.2.2.2.1 r2.2.2.2.2.1 r2.2.2.2.2.2.1 r2.2.2.2.2.2.2 q_past_known q_past_rows_R q_past_rows_nodes q_past_rows_near_R q_past_rows_clean q_past_rows_guards q_past_rows_kind q_past_rows_team q_past_rows_draw q_past_rows_near)) (rest := []) C w (mX5_become l D cI cL cS cH _ a_this_kept a_this_kept_near a_this_now a_this_now_near q_kept_nodes q_kept_clean q_kept_guards q_kept_kind q_kept_team q_kept_draw q_kept_near q_now_nodes q_now_clean q_now_guards q_now_kind q_now_team q_now_draw q_now_near hc3) (cwV 1 C.2.2.2.2 gX7_restore_X5_become rfl rfl rfl (by decide +kernel) ⟨Nat.le_of_ble_eq_true rfl, Nat.le_of_ble_eq_true rfl⟩) [1, 2, 17, 18] [0, 3, 4, 5, 6, 7, 8, 9, 10, 11, 12, 13, 14, 15, 16, 19, 20, 21, 22, 23, 24, 25, 26, 27, 28, 29, 30, 31, 32] 33 ⟨rfl, rfl, rfl, rfl, trivial⟩ ⟨rfl, rfl, rfl, rfl, trivial⟩ ⟨⟨_, rfl, rfl⟩, ⟨_, rfl, rfl⟩, ⟨_, rfl, rfl⟩, ⟨_, rfl, rfl⟩, ⟨_, rfl, rfl⟩, ⟨_, rfl, rfl⟩, ⟨_, rfl, rfl⟩, ⟨_, rfl, rfl⟩, ⟨_, rfl, rfl⟩, ⟨_, rfl, rfl⟩, ⟨_, rfl, rfl⟩, ⟨_, rfl, rfl⟩, ⟨_, rfl, rfl⟩, ⟨_, rfl, rfl⟩, ⟨_, rfl, rfl⟩, ⟨_, rfl, rfl⟩, ⟨_, rfl, rfl⟩, ⟨_, rfl, rfl⟩, ⟨_, rfl, rfl⟩, ⟨_, rfl, rfl⟩, ⟨_, rfl, rfl⟩, ⟨_, rfl, rfl⟩, ⟨_, rfl, rfl⟩, ⟨_, rfl, rfl⟩, ⟨_, rfl, rfl⟩, ⟨_, rfl, rfl⟩, ⟨_, rfl, rfl⟩, ⟨_, rfl, rfl⟩, ⟨_, rfl, rfl⟩, trivial⟩ rfl (by decide) (by decide) (ci := 5) (q0 := 17) rfl rfl rfl hl.1 rfl (lv_room (Nat.le_of_ble_eq_true rfl)) dX7_restore_18 ⟨Nat.zero_le _, Nat.zero_le _⟩ (fun H locs w => ?_)
    refine lv_aload_n C.1 C.2.1 dX7_restore_21 rfl (lv_at hl 0 rfl) ?_
    refine r_get C w inX7_restore_X7 0 rfl rfl 1 (by decide) lkX7_restore_19 rfl dX7_restore_22 ?_
    refine lv_aload_n C.1 C.2.1 dX7_restore_25 rfl (lv_at hl 0 rfl) ?_
    refine r_get C w inX7_restore_X7 0 rfl rfl 3 (by decide) lkX7_restore_26 rfl dX7_restore_26 ?_
    obtain ⟨r4, hc5, hf⟩ := bd hf
    refine call_Vv (ws' := (wX7_restore cI cL cS cH a_this a_this_now a_this_past a_this_kept a_this_keptPast a_this_plans a_this_plans_search_net a_this_tape a_this_sheets a_this_kept_near a_this_keptPast_rows a_this_now_near a_this_past_rows q_hasImage q_kept_nodes q_kept_clean q_kept_guards q_kept_kind q_kept_team q_kept_draw q_kept_near q_keptPast_known q_keptPast_rows_R q_keptPast_rows_nodes q_keptPast_rows_near_R q_keptPast_rows_clean q_keptPast_rows_guards q_keptPast_rows_kind q_keptPast_rows_team q_keptPast_rows_draw q_keptPast_rows_near r2.1 r2.2.1 r2.2.2.1 r2.2.2.2.1 r2.2.2.2.2.1 r2.2.2.2.2.2.1 r2.2.2.2.2.2.2 r4.1 q_past_rows_R r4.2.1 q_past_rows_near_R r4.2.2.1 r4.2.2.2.1 r4.2.2.2.2.1 r4.2.2.2.2.2.1 r4.2.2.2.2.2.2.1 r4.2.2.2.2.2.2.2)) (rest := []) C w (mX1_become l D cI cL cS cH _ a_this_keptPast a_this_keptPast_rows a_this_past a_this_past_rows q_keptPast_known q_keptPast_rows_R q_keptPast_rows_nodes q_keptPast_rows_near_R q_keptPast_rows_clean q_keptPast_rows_guards q_keptPast_rows_kind q_keptPast_rows_team q_keptPast_rows_draw q_keptPast_rows_near q_past_known q_past_rows_R q_past_rows_nodes q_past_rows_near_R q_past_rows_clean q_past_rows_guards q_past_rows_kind q_past_rows_team q_past_rows_draw q_past_rows_near hc5) (cwV 1 C.2.2.2.2 gX7_restore_X1_become rfl rfl rfl (by decide +kernel) ⟨Nat.le_of_ble_eq_true rfl, Nat.le_of_ble_eq_true rfl⟩) [3, 4, 5, 6, 7, 8, 9, 10, 11, 12, 13, 14, 15, 16, 19, 20, 21, 22, 23, 24, 25, 26, 27, 28, 29, 30, 31, 32] [0, 1, 2, 17, 18] 33 ⟨rfl, rfl, rfl, rfl, rfl, rfl, rfl, rfl, rfl, rfl, rfl, rfl, rfl, rfl, rfl, rfl, rfl, rfl, rfl, rfl, rfl, rfl, rfl, rfl, rfl, rfl, rfl, rfl, trivial⟩ ⟨rfl, rfl, rfl, rfl, rfl, rfl, rfl, rfl, rfl, rfl, rfl, rfl, rfl, rfl, rfl, rfl, rfl, rfl, rfl, rfl, rfl, rfl, rfl, rfl, rfl, rfl, rfl, rfl, trivial⟩ ⟨⟨_, rfl, rfl⟩, ⟨_, rfl, rfl⟩, ⟨_, rfl, rfl⟩, ⟨_, rfl, rfl⟩, ⟨_, rfl, rfl⟩, trivial⟩ rfl (by decide) (by decide) (ci := 1) (q0 := 19) rfl rfl rfl hl.1 rfl (lv_room (Nat.le_of_ble_eq_true rfl)) dX7_restore_29 ⟨Nat.zero_le _, Nat.zero_le _⟩ (fun H locs w => ?_)
    refine lv_iconst (v := (1 : Int32)) C.1 C.2.1 dX7_restore_32 (by decide) ?_
    have hres := Option.some.inj hf
    subst hres
    exact ret_i C hr hlocks w rfl dX7_restore_33
  · have hf := ite_t hf hq1
    refine lv_bipush (v := (-4 : Int32)) C.1 C.2.1 dX7_restore_7 (by decide) ?_
    have hres := Option.some.inj hf
    subst hres
    exact ret_i C hr hlocks w rfl dX7_restore_9

set_option maxRecDepth 100000 in
theorem inX7_allAllowed_X4 : ∀ w ∈ u_ws RX4 TX4 3, w ∈ wsX7_allAllowed := by decide +kernel
set_option maxRecDepth 100000 in
theorem lkX7_allAllowed_212 : Cond.fieldLink RX7 212 "CleanNets$Sheet" "items" "[J" ∈ wsX7_allAllowed := by decide +kernel
set_option maxRecDepth 100000 in
theorem inX7_allAllowed_X7 : ∀ w ∈ u_ws RX7 TX7 9, w ∈ wsX7_allAllowed := by decide +kernel
set_option maxRecDepth 100000 in
theorem lkX7_allAllowed_44 : Cond.fieldLink RX7 44 "CleanNets" "net" "LCleanNets$Net;" ∈ wsX7_allAllowed := by decide +kernel
set_option maxRecDepth 100000 in
theorem lkX7_allAllowed_12 : Cond.fieldLink RX7 12 "CleanNets" "now" "LCleanNets$Standing;" ∈ wsX7_allAllowed := by decide +kernel
set_option maxRecDepth 100000 in
theorem inX7_allAllowed_X5 : ∀ w ∈ u_ws RX5 TX5 7, w ∈ wsX7_allAllowed := by decide +kernel
set_option maxRecDepth 100000 in
theorem lkX7_allAllowed_100 : Cond.fieldLink RX7 100 "CleanNets$Standing" "team" "I" ∈ wsX7_allAllowed := by decide +kernel
abbrev wX7_allAllowed (cI cL cS cH : ClassId) (a_p1 : Nat) (a_p1_items : Nat) (a_this : Nat) (a_this_now : Nat) (a_this_past : Nat) (a_this_kept : Nat) (a_this_keptPast : Nat) (a_this_plans : Nat) (a_this_plans_search_net : Nat) (a_this_tape : Nat) (a_this_sheets : Nat) (a_this_now_near : Nat) (a_this_plans_search_net_near : Nat) (a_this_plans_search_net_beside : Nat) (q_p1_lane : Int32) (q_p1_length : Int32) (q_p1_items : Nat → Int64) (q_hasImage : Int32) (q_now_nodes : Int32) (q_now_clean : Int32) (q_now_guards : Int32) (q_now_kind : Int32) (q_now_team : Int32) (q_now_draw : Int32) (q_plans_search_net_nodes : Int32) (q_plans_search_net_all : Int32) (q_plans_search_net_edition : Int32) (q_plans_search_net_beside : Nat → Int32) (q_plans_search_net_near : Nat → Int32) : va_W := [(a_p1, .inr (4, [.int q_p1_lane, .int q_p1_length, .ref a_p1_items])),
  (a_p1_items, .inl (cL, 24, .inr (.inl q_p1_items))),
  (a_this, .inr (7, [.ref a_this_now, .ref a_this_past, .ref a_this_kept, .ref a_this_keptPast, .int q_hasImage, .ref a_this_plans, .ref a_this_plans_search_net, .ref a_this_tape, .ref a_this_sheets])),
  (a_this_now, .inr (5, [.int q_now_nodes, .ref a_this_now_near, .int q_now_clean, .int q_now_guards, .int q_now_kind, .int q_now_team, .int q_now_draw])),
  (a_this_plans_search_net, .inr (0, [.int q_plans_search_net_nodes, .int q_plans_search_net_all, .int q_plans_search_net_edition, .ref a_this_plans_search_net_near, .ref a_this_plans_search_net_beside])),
  (a_this_plans_search_net_beside, .inl (cI, 128, .inl q_plans_search_net_beside)),
  (a_this_plans_search_net_near, .inl (cI, 7, .inl q_plans_search_net_near))]
def bX7_allAllowed_6 (q_p1_items : Nat → Int64) (q_now_team : Int32) (q_plans_search_net_nodes : Int32) (q_plans_search_net_all : Int32) (q_plans_search_net_beside : Nat → Int32) (q_plans_search_net_near : Nat → Int32) (y6_2 : Int32) (y6_3 : Int32) (y6_4 : Int32) (v6 : Int32 × Int32) : Option ((Int32 × Int32) ⊕ ((Int32) ⊕ (Int32 × Int32))) := (if (y6_2 + y6_3) ≤ v6.2 then some (.inr (.inr (v6.1, v6.2))) else Option.bind (rd q_p1_items 24 v6.2) (fun y2 => Option.bind (fX0_ruling q_plans_search_net_nodes q_plans_search_net_all q_plans_search_net_beside q_plans_search_net_near ((y2).toInt32) v6.1 y6_4 q_now_team) (fun r4 => (if r4 = 0 then Option.bind (fX0_guardsAfter ((y2).toInt32) v6.1) (fun r7 => some (.inl (r7, (v6.2 + (1 : Int32))))) else some (.inr (.inl (0 : Int32)))))))
def fX7_allAllowed (q_p1_items : Nat → Int64) (q_now_team : Int32) (q_plans_search_net_nodes : Int32) (q_plans_search_net_all : Int32) (q_plans_search_net_beside : Nat → Int32) (q_plans_search_net_near : Nat → Int32) (x2 : Int32) (x3 : Int32) (x4 : Int32) : Option (Int32) := Option.bind (itL (bX7_allAllowed_6 q_p1_items q_now_team q_plans_search_net_nodes q_plans_search_net_all q_plans_search_net_beside q_plans_search_net_near x2 x3 x4) fu ((0 : Int32), x2)) (fun o => Sum.elim (fun ex9 => some ex9) (fun ex9 => some (1 : Int32)) o)
abbrev gX7_allAllowed (p : Program) (l : Launch) (e : Env) (s : State) (m : MethodId) (below : List Frame) (meth : Method) (c : Code) (D : vg) (cI cL cS cH : ClassId) (a_p1 : Nat) (a_p1_items : Nat) (a_this : Nat) (a_this_now : Nat) (a_this_past : Nat) (a_this_kept : Nat) (a_this_keptPast : Nat) (a_this_plans : Nat) (a_this_plans_search_net : Nat) (a_this_tape : Nat) (a_this_sheets : Nat) (a_this_now_near : Nat) (a_this_plans_search_net_near : Nat) (a_this_plans_search_net_beside : Nat) (q_p1_lane : Int32) (q_p1_length : Int32) (q_p1_items : Nat → Int64) (q_hasImage : Int32) (q_now_nodes : Int32) (q_now_clean : Int32) (q_now_guards : Int32) (q_now_kind : Int32) (q_now_team : Int32) (q_now_draw : Int32) (q_plans_search_net_nodes : Int32) (q_plans_search_net_all : Int32) (q_plans_search_net_edition : Int32) (q_plans_search_net_beside : Nat → Int32) (q_plans_search_net_near : Nat → Int32) (x2 : Int32) (x3 : Int32) (x4 : Int32) (res : Int32) (H : Heap) (locs : List Loc) (g : JFrame) : Prop := W p l e (headSpec wsX7_allAllowed ({ frames := 3, cells := 0, slots := 0, locals := 69 })).room s m ([.ref a_this, .ref a_p1, .int x2, .int x3, .int x4] : List Value).toArray below meth c H locs 0 0 (MQ below (va_Qi (fun r' (_ : Unit) => r' = res) (fun _ t => pos1 D s.heap.size (wX7_allAllowed cI cL cS cH a_p1 a_p1_items a_this a_this_now a_this_past a_this_kept a_this_keptPast a_this_plans a_this_plans_search_net a_this_tape a_this_sheets a_this_now_near a_this_plans_search_net_near a_this_plans_search_net_beside q_p1_lane q_p1_length q_p1_items q_hasImage q_now_nodes q_now_clean q_now_guards q_now_kind q_now_team q_now_draw q_plans_search_net_nodes q_plans_search_net_all q_plans_search_net_edition q_plans_search_net_beside q_plans_search_net_near) (wX7_allAllowed cI cL cS cH a_p1 a_p1_items a_this a_this_now a_this_past a_this_kept a_this_keptPast a_this_plans a_this_plans_search_net a_this_tape a_this_sheets a_this_now_near a_this_plans_search_net_near a_this_plans_search_net_beside q_p1_lane q_p1_length q_p1_items q_hasImage q_now_nodes q_now_clean q_now_guards q_now_kind q_now_team q_now_draw q_plans_search_net_nodes q_plans_search_net_all q_plans_search_net_edition q_plans_search_net_beside q_plans_search_net_near) t) (va_A (wX7_allAllowed cI cL cS cH a_p1 a_p1_items a_this a_this_now a_this_past a_this_kept a_this_keptPast a_this_plans a_this_plans_search_net a_this_tape a_this_sheets a_this_now_near a_this_plans_search_net_near a_this_plans_search_net_beside q_p1_lane q_p1_length q_p1_items q_hasImage q_now_nodes q_now_clean q_now_guards q_now_kind q_now_team q_now_draw q_plans_search_net_nodes q_plans_search_net_all q_plans_search_net_edition q_plans_search_net_beside q_plans_search_net_near) s.heap.size)) ([.ref a_this, .ref a_p1, .int x2, .int x3, .int x4] : List Value).toArray s 0 0 (va_A (wX7_allAllowed cI cL cS cH a_p1 a_p1_items a_this a_this_now a_this_past a_this_kept a_this_keptPast a_this_plans a_this_plans_search_net a_this_tape a_this_sheets a_this_now_near a_this_plans_search_net_near a_this_plans_search_net_beside q_p1_lane q_p1_length q_p1_items q_hasImage q_now_nodes q_now_clean q_now_guards q_now_kind q_now_team q_now_draw q_plans_search_net_nodes q_plans_search_net_all q_plans_search_net_edition q_plans_search_net_beside q_plans_search_net_near) s.heap.size)) g
set_option maxHeartbeats 4000000 in
set_option maxRecDepth 100000 in
theorem mX7_allAllowed (l : Launch) (D : vg) (cI cL cS cH : ClassId) (sz : Nat) (a_p1 : Nat) (a_p1_items : Nat) (a_this : Nat) (a_this_now : Nat) (a_this_past : Nat) (a_this_kept : Nat) (a_this_keptPast : Nat) (a_this_plans : Nat) (a_this_plans_search_net : Nat) (a_this_tape : Nat) (a_this_sheets : Nat) (a_this_now_near : Nat) (a_this_plans_search_net_near : Nat) (a_this_plans_search_net_beside : Nat) (q_p1_lane : Int32) (q_p1_length : Int32) (q_p1_items : Nat → Int64) (q_hasImage : Int32) (q_now_nodes : Int32) (q_now_clean : Int32) (q_now_guards : Int32) (q_now_kind : Int32) (q_now_team : Int32) (q_now_draw : Int32) (q_plans_search_net_nodes : Int32) (q_plans_search_net_all : Int32) (q_plans_search_net_edition : Int32) (q_plans_search_net_beside : Nat → Int32) (q_plans_search_net_near : Nat → Int32) (x2 : Int32) (x3 : Int32) (x4 : Int32) {res : Int32} (hf : fX7_allAllowed q_p1_items q_now_team q_plans_search_net_nodes q_plans_search_net_all q_plans_search_net_beside q_plans_search_net_near x2 x3 x4 = some res) : cti l yX7_allAllowed wsX7_allAllowed ({ frames := 3, cells := 0, slots := 0, locals := 69 }) D (ty4 cI cL cS cH) sz [.ref a_this, .ref a_p1, .int x2, .int x3, .int x4] (wX7_allAllowed cI cL cS cH a_p1 a_p1_items a_this a_this_now a_this_past a_this_kept a_this_keptPast a_this_plans a_this_plans_search_net a_this_tape a_this_sheets a_this_now_near a_this_plans_search_net_near a_this_plans_search_net_beside q_p1_lane q_p1_length q_p1_items q_hasImage q_now_nodes q_now_clean q_now_guards q_now_kind q_now_team q_now_draw q_plans_search_net_nodes q_plans_search_net_all q_plans_search_net_edition q_plans_search_net_beside q_plans_search_net_near) (wX7_allAllowed cI cL cS cH a_p1 a_p1_items a_this a_this_now a_this_past a_this_kept a_this_keptPast a_this_plans a_this_plans_search_net a_this_tape a_this_sheets a_this_now_near a_this_plans_search_net_near a_this_plans_search_net_beside q_p1_lane q_p1_length q_p1_items q_hasImage q_now_nodes q_now_clean q_now_guards q_now_kind q_now_team q_now_draw q_plans_search_net_nodes q_plans_search_net_all q_plans_search_net_edition q_plans_search_net_beside q_plans_search_net_near) res := by
  refine Met.ofW (cc := cX7_allAllowed) (maxL := 8) (ret := (some .boolean)) (by decide) rfl ?_
  intro p e s m args below meth c s₁ B hml hv
  obtain ⟨rfl, hpre⟩ := hv
  obtain rfl := hpre.1
  have C : CallFix p m c cX7_allAllowed 8 s _ wsX7_allAllowed RX7 := ⟨B.exec, B.bytes, hml, findClass_of_methodNamed B.named, atoms_spec (ws := wsX7_allAllowed) B.pre⟩
  have hr := B.returns
  have hlocks := B.notSynchronized
  have w := wd_start hpre
  clear hpre B
  have hl := lv_entry ([.ref a_this, .ref a_p1, .int x2, .int x3, .int x4]) (n := 8) (Nat.le_of_ble_eq_true rfl)
  rw [lg_entry_eq]
  generalize (lg_sl ([.ref a_this, .ref a_p1, .int x2, .int x3, .int x4]) ++ List.replicate (8 - (lg_sl ([.ref a_this, .ref a_p1, .int x2, .int x3, .int x4])).length) Slot.unset).toArray = ls at hl ⊢
  have hl : lv_has ls 8 [(0, .ref a_this), (1, .ref a_p1), (2, .int x2), (3, .int x3), (4, .int x4)] := hl
  unfold fX7_allAllowed at hf
  have hlp6 : ∀ (y6_2 : Int32) (y6_3 : Int32) (y6_4 : Int32) (ex6 : (Int32) ⊕ (Int32 × Int32)) (hk : (match ex6 with | .inl r => r = res | .inr u => ∀ (H : Heap) (locs : List Loc) (ls : Array Slot), wd D (ty4 cI cL cS cH) s (va_A (wX7_allAllowed cI cL cS cH a_p1 a_p1_items a_this a_this_now a_this_past a_this_kept a_this_keptPast a_this_plans a_this_plans_search_net a_this_tape a_this_sheets a_this_now_near a_this_plans_search_net_near a_this_plans_search_net_beside q_p1_lane q_p1_length q_p1_items q_hasImage q_now_nodes q_now_clean q_now_guards q_now_kind q_now_team q_now_draw q_plans_search_net_nodes q_plans_search_net_all q_plans_search_net_edition q_plans_search_net_beside q_plans_search_net_near) s.heap.size) s.heap H locs (wX7_allAllowed cI cL cS cH a_p1 a_p1_items a_this a_this_now a_this_past a_this_kept a_this_keptPast a_this_plans a_this_plans_search_net a_this_tape a_this_sheets a_this_now_near a_this_plans_search_net_near a_this_plans_search_net_beside q_p1_lane q_p1_length q_p1_items q_hasImage q_now_nodes q_now_clean q_now_guards q_now_kind q_now_team q_now_draw q_plans_search_net_nodes q_plans_search_net_all q_plans_search_net_edition q_plans_search_net_beside q_plans_search_net_near) → lv_has ls 8 [] → gX7_allAllowed p l e s m below meth c D cI cL cS cH a_p1 a_p1_items a_this a_this_now a_this_past a_this_kept a_this_keptPast a_this_plans a_this_plans_search_net a_this_tape a_this_sheets a_this_now_near a_this_plans_search_net_near a_this_plans_search_net_beside q_p1_lane q_p1_length q_p1_items q_hasImage q_now_nodes q_now_clean q_now_guards q_now_kind q_now_team q_now_draw q_plans_search_net_nodes q_plans_search_net_all q_plans_search_net_edition q_plans_search_net_beside q_plans_search_net_near x2 x3 x4 res H locs (F0 m 64 ls []))) (n : Nat) (v6 : Int32 × Int32) (H : Heap) (locs : List Loc) (ls : Array Slot), itL (bX7_allAllowed_6 q_p1_items q_now_team q_plans_search_net_nodes q_plans_search_net_all q_plans_search_net_beside q_plans_search_net_near y6_2 y6_3 y6_4) n v6 = some ex6 → wd D (ty4 cI cL cS cH) s (va_A (wX7_allAllowed cI cL cS cH a_p1 a_p1_items a_this a_this_now a_this_past a_this_kept a_this_keptPast a_this_plans a_this_plans_search_net a_this_tape a_this_sheets a_this_now_near a_this_plans_search_net_near a_this_plans_search_net_beside q_p1_lane q_p1_length q_p1_items q_hasImage q_now_nodes q_now_clean q_now_guards q_now_kind q_now_team q_now_draw q_plans_search_net_nodes q_plans_search_net_all q_plans_search_net_edition q_plans_search_net_beside q_plans_search_net_near) s.heap.size) s.heap H locs (wX7_allAllowed cI cL cS cH a_p1 a_p1_items a_this a_this_now a_this_past a_this_kept a_this_keptPast a_this_plans a_this_plans_search_net a_this_tape a_this_sheets a_this_now_near a_this_plans_search_net_near a_this_plans_search_net_beside q_p1_lane q_p1_length q_p1_items q_hasImage q_now_nodes q_now_clean q_now_guards q_now_kind q_now_team q_now_draw q_plans_search_net_nodes q_plans_search_net_all q_plans_search_net_edition q_plans_search_net_beside q_plans_search_net_near) → lv_has ls 8 [(0, .ref a_this), (1, .ref a_p1), (2, .int y6_2), (3, .int y6_3), (4, .int y6_4), (5, .int v6.1), (6, .int v6.2)] → gX7_allAllowed p l e s m below meth c D cI cL cS cH a_p1 a_p1_items a_this a_this_now a_this_past a_this_kept a_this_keptPast a_this_plans a_this_plans_search_net a_this_tape a_this_sheets a_this_now_near a_this_plans_search_net_near a_this_plans_search_net_beside q_p1_lane q_p1_length q_p1_items q_hasImage q_now_nodes q_now_clean q_now_guards q_now_kind q_now_team q_now_draw q_plans_search_net_nodes q_plans_search_net_all q_plans_search_net_edition q_plans_search_net_beside q_plans_search_net_near x2 x3 x4 res H locs (F0 m 6 ls []) := by
    intro y6_2 y6_3 y6_4 ex6 hk n
    induction n with
    | zero => intro v6 H locs ls hi w hl; exact (itL_zero hi).elim
    | succ n ih =>
      intro v6 H locs ls hi w hl
      obtain ⟨o, hf, hn⟩ := itL_succ hi
      unfold bX7_allAllowed_6 at hf
      refine lv_iload C.1 C.2.1 dX7_allAllowed_6 (lv_at hl 6 rfl) ?_
      refine lv_iload_n C.1 C.2.1 dX7_allAllowed_8 rfl (lv_at hl 2 rfl) ?_
      refine lv_iload_n C.1 C.2.1 dX7_allAllowed_9 rfl (lv_at hl 3 rfl) ?_
      refine lv_iadd C.1 C.2.1 dX7_allAllowed_10 ?_
      refine lv_icmp_ge (tgt := 64) C.1 C.2.1 dX7_allAllowed_11 (by decide) (fun hq1 => ?_) (fun hq1 => ?_)
      · have hf := ite_t hf hq1
        obtain rfl := Option.some.inj hf
        obtain rfl := hn
        exact hk _ _ _ w (lv_sub hl [] rfl)
      · have hf := ite_f hf hq1
        refine lv_aload_n C.1 C.2.1 dX7_allAllowed_14 rfl (lv_at hl 1 rfl) ?_
        refine r_get C w inX7_allAllowed_X4 0 rfl rfl 2 (by decide) lkX7_allAllowed_212 rfl dX7_allAllowed_15 ?_
        refine lv_iload C.1 C.2.1 dX7_allAllowed_18 (lv_at hl 6 rfl) ?_
        obtain ⟨y2, hy3, hf⟩ := bd hf
        refine r_lald C w 1 1 rfl rfl (rd_in hy3) dX7_allAllowed_20 ?_
        refine lv_l2i C.1 C.2.1 dX7_allAllowed_21 rfl ?_
        refine lv_istore (lv' := [(7, .int ((y2).toInt32)), (0, .ref a_this), (1, .ref a_p1), (2, .int y6_2), (3, .int y6_3), (4, .int y6_4), (5, .int v6.1), (6, .int v6.2)]) C.1 C.2.1 dX7_allAllowed_22 hl (by decide) rfl (fun ls hl => ?_)
        refine lv_aload_n C.1 C.2.1 dX7_allAllowed_24 rfl (lv_at hl 1 rfl) ?_
        refine r_get C w inX7_allAllowed_X7 2 rfl rfl 6 (by decide) lkX7_allAllowed_44 rfl dX7_allAllowed_25 ?_
        refine lv_iload C.1 C.2.1 dX7_allAllowed_28 (lv_at hl 0 rfl) ?_
        refine lv_iload C.1 C.2.1 dX7_allAllowed_30 (lv_at hl 6 rfl) ?_
        refine lv_iload C.1 C.2.1 dX7_allAllowed_32 (lv_at hl 5 rfl) ?_
        refine lv_aload_n C.1 C.2.1 dX7_allAllowed_34 rfl (lv_at hl 1 rfl) ?_
        refine r_get C w inX7_allAllowed_X7 2 rfl rfl 0 (by decide) lkX7_allAllowed_12 rfl dX7_allAllowed_35 ?_
        refine r_get C w inX7_allAllowed_X5 3 rfl rfl 5 (by decide) lkX7_allAllowed_100 rfl dX7_allAllowed_38 ?_
        obtain ⟨r4, hc5, hf⟩ := bd hf
        refine call_Vi (ws' := (wX7_allAllowed cI cL cS cH a_p1 a_p1_items a_this a_this_now a_this_past a_this_kept a_this_keptPast a_this_plans a_this_plans_search_net a_this_tape a_this_sheets a_this_now_near a_this_plans_search_net_near a_this_plans_search_net_beside q_p1_lane q_p1_length q_p1_items q_hasImage q_now_nodes q_now_clean q_now_guards q_now_kind q_now_team q_now_draw q_plans_search_net_nodes q_plans_search_net_all q_plans_search_net_edition q_plans_search_net_beside q_plans_search_net_near)) (rest := []) C w (mX0_ruling l D cI cL cS cH _ a_this_plans_search_net a_this_plans_search_net_near a_this_plans_search_net_beside q_plans_search_net_nodes q_plans_search_net_all q_plans_search_net_edition q_plans_search_net_beside q_plans_search_net_near ((y2).toInt32) v6.1 y6_4 q_now_team hc5) (cwV 4 C.2.2.2.2 gX7_allAllowed_X0_ruling rfl rfl rfl (by decide +kernel) ⟨Nat.le_of_ble_eq_true rfl, Nat.le_of_ble_eq_true rfl⟩) [4, 5, 6] [0, 1, 2, 3] 7 ⟨rfl, rfl, rfl, trivial⟩ ⟨rfl, rfl, rfl, trivial⟩ ⟨⟨_, rfl, rfl⟩, ⟨_, rfl, rfl⟩, ⟨_, rfl, rfl⟩, ⟨_, rfl, rfl⟩, trivial⟩ rfl (by decide) (by decide) (ci := 0) (q0 := 4) rfl rfl rfl hl.1 rfl (lv_room (Nat.le_of_ble_eq_true rfl)) dX7_allAllowed_41 ⟨Nat.zero_le _, Nat.zero_le _⟩ (fun H locs w => ?_)
        refine lv_if_eq (tgt := 49) C.1 C.2.1 dX7_allAllowed_44 (by decide) (fun hq6 => ?_) (fun hq6 => ?_)
        · have hf := ite_t hf hq6
          refine lv_iload C.1 C.2.1 dX7_allAllowed_49 (lv_at hl 0 rfl) ?_
          refine lv_iload C.1 C.2.1 dX7_allAllowed_51 (lv_at hl 6 rfl) ?_
          obtain ⟨r7, hc8, hf⟩ := bd hf
          refine call_Si (ws' := (wX7_allAllowed cI cL cS cH a_p1 a_p1_items a_this a_this_now a_this_past a_this_kept a_this_keptPast a_this_plans a_this_plans_search_net a_this_tape a_this_sheets a_this_now_near a_this_plans_search_net_near a_this_plans_search_net_beside q_p1_lane q_p1_length q_p1_items q_hasImage q_now_nodes q_now_clean q_now_guards q_now_kind q_now_team q_now_draw q_plans_search_net_nodes q_plans_search_net_all q_plans_search_net_edition q_plans_search_net_beside q_plans_search_net_near)) (rest := []) C w (mX0_guardsAfter l D cI cL cS cH _ ((y2).toInt32) v6.1 hc8) (va_cwS 2 C.2.2.2.2 gX7_allAllowed_X0_guardsAfter rfl rfl rfl (by decide +kernel) ⟨Nat.le_of_ble_eq_true rfl, Nat.le_of_ble_eq_true rfl⟩) [] [0, 1, 2, 3, 4, 5, 6] 7 trivial trivial ⟨⟨_, rfl, rfl⟩, ⟨_, rfl, rfl⟩, ⟨_, rfl, rfl⟩, ⟨_, rfl, rfl⟩, ⟨_, rfl, rfl⟩, ⟨_, rfl, rfl⟩, ⟨_, rfl, rfl⟩, trivial⟩ rfl (by decide) (by decide) rfl hl.1 rfl (lv_room (Nat.le_of_ble_eq_true rfl)) dX7_allAllowed_53 ⟨Nat.zero_le _, Nat.zero_le _⟩ (fun H locs w => ?_)
          refine lv_istore (lv' := [(5, .int r7), (7, .int ((y2).toInt32)), (0, .ref a_this), (1, .ref a_p1), (2, .int y6_2), (3, .int y6_3), (4, .int y6_4), (6, .int v6.2)]) C.1 C.2.1 dX7_allAllowed_56 hl (by decide) rfl (fun ls hl => ?_)
          refine lv_iinc (v := (v6.2 + (1 : Int32))) (lv' := [(6, .int (v6.2 + (1 : Int32))), (5, .int r7), (7, .int ((y2).toInt32)), (0, .ref a_this), (1, .ref a_p1), (2, .int y6_2), (3, .int y6_3), (4, .int y6_4)]) C.1 C.2.1 dX7_allAllowed_58 hl (k := 7) rfl rfl (by decide) rfl (fun ls hl => ?_)
          refine lv_goto (tgt := 6) C.1 C.2.1 dX7_allAllowed_61 (by decide) ?_
          obtain rfl := Option.some.inj hf
          exact ih (r7, (v6.2 + (1 : Int32))) _ _ _ hn w (lv_sub hl [3, 4, 5, 6, 7, 1, 0] rfl)
        · have hf := ite_f hf hq6
          refine lv_iconst (v := (0 : Int32)) C.1 C.2.1 dX7_allAllowed_47 (by decide) ?_
          obtain rfl := Option.some.inj hf
          obtain rfl := hn
          have hres : _ = res := hk
          subst hres
          exact ret_z C hr hlocks w (by decide) rfl dX7_allAllowed_48
  refine lv_iconst (v := (0 : Int32)) C.1 C.2.1 dX7_allAllowed_0 (by decide) ?_
  refine lv_istore (lv' := [(5, .int (0 : Int32)), (0, .ref a_this), (1, .ref a_p1), (2, .int x2), (3, .int x3), (4, .int x4)]) C.1 C.2.1 dX7_allAllowed_1 hl (by decide) rfl (fun ls hl => ?_)
  refine lv_iload_n C.1 C.2.1 dX7_allAllowed_3 rfl (lv_at hl 3 rfl) ?_
  refine lv_istore (lv' := [(6, .int x2), (5, .int (0 : Int32)), (0, .ref a_this), (1, .ref a_p1), (2, .int x2), (3, .int x3), (4, .int x4)]) C.1 C.2.1 dX7_allAllowed_4 hl (by decide) rfl (fun ls hl => ?_)
  obtain ⟨ex9, hx10, hf⟩ := bd hf
  rcases ex9 with ex9 | ex9
  · have hf := se_l hf
    have hres := Option.some.inj hf
    exact hlp6 x2 x3 x4 (.inl ex9) hres fu ((0 : Int32), x2) _ _ _ hx10 w (lv_sub hl [2, 3, 4, 5, 6, 1, 0] rfl)
  · have hf := se_r hf
    refine hlp6 x2 x3 x4 (.inr ex9) ?_ fu ((0 : Int32), x2) _ _ _ hx10 w (lv_sub hl [2, 3, 4, 5, 6, 1, 0] rfl)
    intro H locs ls w hl
    refine lv_iconst (v := (1 : Int32)) C.1 C.2.1 dX7_allAllowed_64 (by decide) ?_
    have hres := Option.some.inj hf
    subst hres
    exact ret_z C hr hlocks w (by decide) rfl dX7_allAllowed_65

set_option maxRecDepth 100000 in
theorem inX7_allowed_X7 : ∀ w ∈ u_ws RX7 TX7 9, w ∈ wsX7_allowed := by decide +kernel
set_option maxRecDepth 100000 in
theorem lkX7_allowed_54 : Cond.fieldLink RX7 54 "CleanNets" "sheets" "[LCleanNets$Sheet;" ∈ wsX7_allowed := by decide +kernel
set_option maxRecDepth 100000 in
theorem lkX7_allowed_44 : Cond.fieldLink RX7 44 "CleanNets" "net" "LCleanNets$Net;" ∈ wsX7_allowed := by decide +kernel
set_option maxRecDepth 100000 in
theorem inX7_allowed_X4 : ∀ w ∈ u_ws RX4 TX4 3, w ∈ wsX7_allowed := by decide +kernel
set_option maxRecDepth 100000 in
theorem lkX7_allowed_212 : Cond.fieldLink RX7 212 "CleanNets$Sheet" "items" "[J" ∈ wsX7_allowed := by decide +kernel
abbrev wX7_allowed (cI cL cS cH : ClassId) (a_this : Nat) (a_this_now : Nat) (a_this_past : Nat) (a_this_kept : Nat) (a_this_keptPast : Nat) (a_this_plans : Nat) (a_this_plans_search_net : Nat) (a_this_tape : Nat) (a_this_sheets : Nat) (a_this_now_near : Nat) (a_this_plans_search_net_near : Nat) (a_this_plans_search_net_beside : Nat) (a_this_sheets_e : Nat → Nat) (a_this_sheets_items_e : Nat → Nat) (q_hasImage : Int32) (q_now_nodes : Int32) (q_now_clean : Int32) (q_now_guards : Int32) (q_now_kind : Int32) (q_now_team : Int32) (q_now_draw : Int32) (q_now_near : Nat → Int32) (q_plans_search_net_nodes : Int32) (q_plans_search_net_all : Int32) (q_plans_search_net_edition : Int32) (q_plans_search_net_beside : Nat → Int32) (q_plans_search_net_near : Nat → Int32) (q_sheets_lane : Nat → Int32) (q_sheets_length : Nat → Int32) (q_sheets_items : Nat → Nat → Int64) : va_W := [(a_this, .inr (7, [.ref a_this_now, .ref a_this_past, .ref a_this_kept, .ref a_this_keptPast, .int q_hasImage, .ref a_this_plans, .ref a_this_plans_search_net, .ref a_this_tape, .ref a_this_sheets])),
  (a_this_now, .inr (5, [.int q_now_nodes, .ref a_this_now_near, .int q_now_clean, .int q_now_guards, .int q_now_kind, .int q_now_team, .int q_now_draw])),
  (a_this_now_near, .inl (cI, 7, .inl q_now_near)),
  (a_this_plans_search_net, .inr (0, [.int q_plans_search_net_nodes, .int q_plans_search_net_all, .int q_plans_search_net_edition, .ref a_this_plans_search_net_near, .ref a_this_plans_search_net_beside])),
  (a_this_plans_search_net_beside, .inl (cI, 128, .inl q_plans_search_net_beside)),
  (a_this_plans_search_net_near, .inl (cI, 7, .inl q_plans_search_net_near)),
  (a_this_sheets, .inl (cH, 4, .inr (.inr (.inr (.inr (fun k => some (a_this_sheets_e k))))))),
  ((a_this_sheets_e 0), .inr (4, [.int (q_sheets_lane 0), .int (q_sheets_length 0), .ref (a_this_sheets_items_e 0)])),
  ((a_this_sheets_items_e 0), .inl (cL, 24, .inr (.inl (q_sheets_items 0)))),
  ((a_this_sheets_e 1), .inr (4, [.int (q_sheets_lane 1), .int (q_sheets_length 1), .ref (a_this_sheets_items_e 1)])),
  ((a_this_sheets_items_e 1), .inl (cL, 24, .inr (.inl (q_sheets_items 1)))),
  ((a_this_sheets_e 2), .inr (4, [.int (q_sheets_lane 2), .int (q_sheets_length 2), .ref (a_this_sheets_items_e 2)])),
  ((a_this_sheets_items_e 2), .inl (cL, 24, .inr (.inl (q_sheets_items 2)))),
  ((a_this_sheets_e 3), .inr (4, [.int (q_sheets_lane 3), .int (q_sheets_length 3), .ref (a_this_sheets_items_e 3)])),
  ((a_this_sheets_items_e 3), .inl (cL, 24, .inr (.inl (q_sheets_items 3))))]
def jX7_allowed_135 (q_now_nodes : Int32) (q_now_team : Int32) (q_now_near : Nat → Int32) (q_sheets_lane : Nat → Int32) (q_sheets_length : Nat → Int32) (q_sheets_items : Nat → Nat → Int64) (k34 : Nat) (y106_3 : Int32) (y106_4 : Int32) (y135_7 : Int32) (y135_8 : Int32) (k106_q_plans_search_net_nodes : Int32) (k106_q_plans_search_net_all : Int32) (k106_q_plans_search_net_edition : Int32) (k106_q_plans_search_net_beside : Nat → Int32) (k106_q_plans_search_net_near : Nat → Int32) : Option ((Int32 × Int32) ⊕ (Int32 × Int32)) := some (.inl (y135_7, (y135_8 + (1 : Int32))))
def bX7_allowed_106 (q_now_nodes : Int32) (q_now_team : Int32) (q_now_near : Nat → Int32) (q_sheets_lane : Nat → Int32) (q_sheets_length : Nat → Int32) (q_sheets_items : Nat → Nat → Int64) (k34 : Nat) (y106_3 : Int32) (y106_4 : Int32) (k106_q_plans_search_net_nodes : Int32) (k106_q_plans_search_net_all : Int32) (k106_q_plans_search_net_edition : Int32) (k106_q_plans_search_net_beside : Nat → Int32) (k106_q_plans_search_net_near : Nat → Int32) (v106 : Int32 × Int32) : Option ((Int32 × Int32) ⊕ (Int32 × Int32)) := (if (3 : Int32) ≤ v106.2 then some (.inr (v106.1, v106.2)) else Option.bind (fX7_allAllowed (q_sheets_items k34) q_now_team k106_q_plans_search_net_nodes k106_q_plans_search_net_all k106_q_plans_search_net_beside k106_q_plans_search_net_near y106_3 y106_4 v106.2) (fun r10 => (if r10 = 0 then jX7_allowed_135 q_now_nodes q_now_team q_now_near q_sheets_lane q_sheets_length q_sheets_items k34 y106_3 y106_4 v106.1 v106.2 k106_q_plans_search_net_nodes k106_q_plans_search_net_all k106_q_plans_search_net_edition k106_q_plans_search_net_beside k106_q_plans_search_net_near else bnd (v106.1 ||| ((1 : Int32) <<< (v106.2 &&& 31))) (fun y13 => jX7_allowed_135 q_now_nodes q_now_team q_now_near q_sheets_lane q_sheets_length q_sheets_items k34 y106_3 y106_4 y13 v106.2 k106_q_plans_search_net_nodes k106_q_plans_search_net_all k106_q_plans_search_net_edition k106_q_plans_search_net_beside k106_q_plans_search_net_near))))
def bX7_allowed_64 (q_now_nodes : Int32) (q_now_team : Int32) (q_now_near : Nat → Int32) (q_sheets_lane : Nat → Int32) (q_sheets_length : Nat → Int32) (q_sheets_items : Nat → Nat → Int64) (k34 : Nat) (y64_3 : Int32) (y64_4 : Int32) (k64_q_plans_search_net_nodes : Int32) (k64_q_plans_search_net_all : Int32) (k64_q_plans_search_net_edition : Int32) (k64_q_plans_search_net_beside : Nat → Int32) (k64_q_plans_search_net_near : Nat → Int32) (v64 : Int32) : Option ((Int32) ⊕ ((Int32 × Int32 × Int32 × Int32 × (Nat → Int32) × (Nat → Int32)) ⊕ (Int32))) := (if (y64_3 + y64_4) ≤ v64 then some (.inr (.inr v64)) else Option.bind (rd (q_sheets_items k34) 24 v64) (fun y16 => Option.bind (fX0_isAct k64_q_plans_search_net_nodes y16) (fun r18 => (if r18 = 0 then some (.inr (.inl ((-2 : Int32), k64_q_plans_search_net_nodes, k64_q_plans_search_net_all, k64_q_plans_search_net_edition, k64_q_plans_search_net_beside, k64_q_plans_search_net_near))) else some (.inl (v64 + (1 : Int32)))))))
def fX7_allowed (q_now_nodes : Int32) (q_now_team : Int32) (q_now_near : Nat → Int32) (q_plans_search_net_nodes : Int32) (q_plans_search_net_all : Int32) (q_plans_search_net_edition : Int32) (q_plans_search_net_beside : Nat → Int32) (q_plans_search_net_near : Nat → Int32) (q_sheets_lane : Nat → Int32) (q_sheets_length : Nat → Int32) (q_sheets_items : Nat → Nat → Int64) (x1 : Int32) (x2 : Int32) (x3 : Int32) (x4 : Int32) : Option (Int32 × Int32 × Int32 × Int32 × (Nat → Int32) × (Nat → Int32)) := Option.bind (fX7_isSheet x1) (fun r1 => (if r1 = 0 then some ((-1 : Int32), q_plans_search_net_nodes, q_plans_search_net_all, q_plans_search_net_edition, q_plans_search_net_beside, q_plans_search_net_near) else Option.bind (fX7_isLane x2) (fun r4 => (if r4 = 0 then some ((-1 : Int32), q_plans_search_net_nodes, q_plans_search_net_all, q_plans_search_net_edition, q_plans_search_net_beside, q_plans_search_net_near) else (if x4 < (1 : Int32) then some ((-1 : Int32), q_plans_search_net_nodes, q_plans_search_net_all, q_plans_search_net_edition, q_plans_search_net_beside, q_plans_search_net_near) else (if x4 ≤ (12 : Int32) then sel4 x1 (fun k34 => Option.bind (fX4_wrongAs (q_sheets_lane k34) (q_sheets_length k34) x2 x3 x4) (fun r21 => (if r21 = 0 then Option.bind (fX7_currentNet q_now_nodes q_now_near q_plans_search_net_nodes q_plans_search_net_all q_plans_search_net_edition q_plans_search_net_beside q_plans_search_net_near) (fun r24 => Option.bind (itL (bX7_allowed_64 q_now_nodes q_now_team q_now_near q_sheets_lane q_sheets_length q_sheets_items k34 x3 x4 r24.1 r24.2.1 r24.2.2.1 r24.2.2.2.1 r24.2.2.2.2) fu x3) (fun o => Sum.elim (fun ex26 => some ex26) (fun ex26 => Option.bind (itL (bX7_allowed_106 q_now_nodes q_now_team q_now_near q_sheets_lane q_sheets_length q_sheets_items k34 x3 x4 r24.1 r24.2.1 r24.2.2.1 r24.2.2.2.1 r24.2.2.2.2) fu ((0 : Int32), (0 : Int32))) (fun ex28 => some (ex28.1, r24.1, r24.2.1, r24.2.2.1, r24.2.2.2.1, r24.2.2.2.2))) o)) else some (r21, q_plans_search_net_nodes, q_plans_search_net_all, q_plans_search_net_edition, q_plans_search_net_beside, q_plans_search_net_near)))) else some ((-1 : Int32), q_plans_search_net_nodes, q_plans_search_net_all, q_plans_search_net_edition, q_plans_search_net_beside, q_plans_search_net_near)))))))
abbrev gX7_allowed (p : Program) (l : Launch) (e : Env) (s : State) (m : MethodId) (below : List Frame) (meth : Method) (c : Code) (D : vg) (cI cL cS cH : ClassId) (a_this : Nat) (a_this_now : Nat) (a_this_past : Nat) (a_this_kept : Nat) (a_this_keptPast : Nat) (a_this_plans : Nat) (a_this_plans_search_net : Nat) (a_this_tape : Nat) (a_this_sheets : Nat) (a_this_now_near : Nat) (a_this_plans_search_net_near : Nat) (a_this_plans_search_net_beside : Nat) (a_this_sheets_e : Nat → Nat) (a_this_sheets_items_e : Nat → Nat) (q_hasImage : Int32) (q_now_nodes : Int32) (q_now_clean : Int32) (q_now_guards : Int32) (q_now_kind : Int32) (q_now_team : Int32) (q_now_draw : Int32) (q_now_near : Nat → Int32) (q_plans_search_net_nodes : Int32) (q_plans_search_net_all : Int32) (q_plans_search_net_edition : Int32) (q_plans_search_net_beside : Nat → Int32) (q_plans_search_net_near : Nat → Int32) (q_sheets_lane : Nat → Int32) (q_sheets_length : Nat → Int32) (q_sheets_items : Nat → Nat → Int64) (x1 : Int32) (x2 : Int32) (x3 : Int32) (x4 : Int32) (res : Int32 × Int32 × Int32 × Int32 × (Nat → Int32) × (Nat → Int32)) (H : Heap) (locs : List Loc) (g : JFrame) : Prop := W p l e (headSpec wsX7_allowed ({ frames := 4, cells := 0, slots := 0, locals := 96 })).room s m ([.ref a_this, .int x1, .int x2, .int x3, .int x4] : List Value).toArray below meth c H locs 0 0 (MQ below (va_Qi (fun r' (_ : Unit) => r' = res.1) (fun _ t => pos1 D s.heap.size (wX7_allowed cI cL cS cH a_this a_this_now a_this_past a_this_kept a_this_keptPast a_this_plans a_this_plans_search_net a_this_tape a_this_sheets a_this_now_near a_this_plans_search_net_near a_this_plans_search_net_beside a_this_sheets_e a_this_sheets_items_e q_hasImage q_now_nodes q_now_clean q_now_guards q_now_kind q_now_team q_now_draw q_now_near q_plans_search_net_nodes q_plans_search_net_all q_plans_search_net_edition q_plans_search_net_beside q_plans_search_net_near q_sheets_lane q_sheets_length q_sheets_items) (wX7_allowed cI cL cS cH a_this a_this_now a_this_past a_this_kept a_this_keptPast a_this_plans a_this_plans_search_net a_this_tape a_this_sheets a_this_now_near a_this_plans_search_net_near a_this_plans_search_net_beside a_this_sheets_e a_this_sheets_items_e q_hasImage q_now_nodes q_now_clean q_now_guards q_now_kind q_now_team q_now_draw q_now_near res.2.1 res.2.2.1 res.2.2.2.1 res.2.2.2.2.1 res.2.2.2.2.2 q_sheets_lane q_sheets_length q_sheets_items) t) (va_A (wX7_allowed cI cL cS cH a_this a_this_now a_this_past a_this_kept a_this_keptPast a_this_plans a_this_plans_search_net a_this_tape a_this_sheets a_this_now_near a_this_plans_search_net_near a_this_plans_search_net_beside a_this_sheets_e a_this_sheets_items_e q_hasImage q_now_nodes q_now_clean q_now_guards q_now_kind q_now_team q_now_draw q_now_near q_plans_search_net_nodes q_plans_search_net_all q_plans_search_net_edition q_plans_search_net_beside q_plans_search_net_near q_sheets_lane q_sheets_length q_sheets_items) s.heap.size)) ([.ref a_this, .int x1, .int x2, .int x3, .int x4] : List Value).toArray s 0 0 (va_A (wX7_allowed cI cL cS cH a_this a_this_now a_this_past a_this_kept a_this_keptPast a_this_plans a_this_plans_search_net a_this_tape a_this_sheets a_this_now_near a_this_plans_search_net_near a_this_plans_search_net_beside a_this_sheets_e a_this_sheets_items_e q_hasImage q_now_nodes q_now_clean q_now_guards q_now_kind q_now_team q_now_draw q_now_near q_plans_search_net_nodes q_plans_search_net_all q_plans_search_net_edition q_plans_search_net_beside q_plans_search_net_near q_sheets_lane q_sheets_length q_sheets_items) s.heap.size)) g
set_option maxHeartbeats 4000000 in
set_option maxRecDepth 100000 in
theorem mX7_allowed (l : Launch) (D : vg) (cI cL cS cH : ClassId) (sz : Nat) (a_this : Nat) (a_this_now : Nat) (a_this_past : Nat) (a_this_kept : Nat) (a_this_keptPast : Nat) (a_this_plans : Nat) (a_this_plans_search_net : Nat) (a_this_tape : Nat) (a_this_sheets : Nat) (a_this_now_near : Nat) (a_this_plans_search_net_near : Nat) (a_this_plans_search_net_beside : Nat) (a_this_sheets_e : Nat → Nat) (a_this_sheets_items_e : Nat → Nat) (q_hasImage : Int32) (q_now_nodes : Int32) (q_now_clean : Int32) (q_now_guards : Int32) (q_now_kind : Int32) (q_now_team : Int32) (q_now_draw : Int32) (q_now_near : Nat → Int32) (q_plans_search_net_nodes : Int32) (q_plans_search_net_all : Int32) (q_plans_search_net_edition : Int32) (q_plans_search_net_beside : Nat → Int32) (q_plans_search_net_near : Nat → Int32) (q_sheets_lane : Nat → Int32) (q_sheets_length : Nat → Int32) (q_sheets_items : Nat → Nat → Int64) (x1 : Int32) (x2 : Int32) (x3 : Int32) (x4 : Int32) {res : Int32 × Int32 × Int32 × Int32 × (Nat → Int32) × (Nat → Int32)} (hf : fX7_allowed q_now_nodes q_now_team q_now_near q_plans_search_net_nodes q_plans_search_net_all q_plans_search_net_edition q_plans_search_net_beside q_plans_search_net_near q_sheets_lane q_sheets_length q_sheets_items x1 x2 x3 x4 = some res) : cti l yX7_allowed wsX7_allowed ({ frames := 4, cells := 0, slots := 0, locals := 96 }) D (ty4 cI cL cS cH) sz [.ref a_this, .int x1, .int x2, .int x3, .int x4] (wX7_allowed cI cL cS cH a_this a_this_now a_this_past a_this_kept a_this_keptPast a_this_plans a_this_plans_search_net a_this_tape a_this_sheets a_this_now_near a_this_plans_search_net_near a_this_plans_search_net_beside a_this_sheets_e a_this_sheets_items_e q_hasImage q_now_nodes q_now_clean q_now_guards q_now_kind q_now_team q_now_draw q_now_near q_plans_search_net_nodes q_plans_search_net_all q_plans_search_net_edition q_plans_search_net_beside q_plans_search_net_near q_sheets_lane q_sheets_length q_sheets_items) (wX7_allowed cI cL cS cH a_this a_this_now a_this_past a_this_kept a_this_keptPast a_this_plans a_this_plans_search_net a_this_tape a_this_sheets a_this_now_near a_this_plans_search_net_near a_this_plans_search_net_beside a_this_sheets_e a_this_sheets_items_e q_hasImage q_now_nodes q_now_clean q_now_guards q_now_kind q_now_team q_now_draw q_now_near res.2.1 res.2.2.1 res.2.2.2.1 res.2.2.2.2.1 res.2.2.2.2.2 q_sheets_lane q_sheets_length q_sheets_items) res.1 := by
  refine Met.ofW (cc := cX7_allowed) (maxL := 9) (ret := (some .int)) (by decide) rfl ?_
  intro p e s m args below meth c s₁ B hml hv
  obtain ⟨rfl, hpre⟩ := hv
  obtain rfl := hpre.1
  have C : CallFix p m c cX7_allowed 9 s _ wsX7_allowed RX7 := ⟨B.exec, B.bytes, hml, findClass_of_methodNamed B.named, atoms_spec (ws := wsX7_allowed) B.pre⟩
  have hr := B.returns
  have hlocks := B.notSynchronized
  have w := wd_start hpre
  clear hpre B
  have hl := lv_entry ([.ref a_this, .int x1, .int x2, .int x3, .int x4]) (n := 9) (Nat.le_of_ble_eq_true rfl)
  rw [lg_entry_eq]
  generalize (lg_sl ([.ref a_this, .int x1, .int x2, .int x3, .int x4]) ++ List.replicate (9 - (lg_sl ([.ref a_this, .int x1, .int x2, .int x3, .int x4])).length) Slot.unset).toArray = ls at hl ⊢
  have hl : lv_has ls 9 [(0, .ref a_this), (1, .int x1), (2, .int x2), (3, .int x3), (4, .int x4)] := hl
  unfold fX7_allowed at hf
  refine lv_iload_n C.1 C.2.1 dX7_allowed_0 rfl (lv_at hl 1 rfl) ?_
  obtain ⟨r1, hc2, hf⟩ := bd hf
  refine call_Si (ws' := (wX7_allowed cI cL cS cH a_this a_this_now a_this_past a_this_kept a_this_keptPast a_this_plans a_this_plans_search_net a_this_tape a_this_sheets a_this_now_near a_this_plans_search_net_near a_this_plans_search_net_beside a_this_sheets_e a_this_sheets_items_e q_hasImage q_now_nodes q_now_clean q_now_guards q_now_kind q_now_team q_now_draw q_now_near q_plans_search_net_nodes q_plans_search_net_all q_plans_search_net_edition q_plans_search_net_beside q_plans_search_net_near q_sheets_lane q_sheets_length q_sheets_items)) (rest := []) C w (mX7_isSheet l D cI cL cS cH _ x1 hc2) (va_cwS 1 C.2.2.2.2 gX7_allowed_X7_isSheet rfl rfl rfl (by decide +kernel) ⟨Nat.le_of_ble_eq_true rfl, Nat.le_of_ble_eq_true rfl⟩) [] [0, 1, 2, 3, 4, 5, 6, 7, 8, 9, 10, 11, 12, 13, 14] 15 trivial trivial ⟨⟨_, rfl, rfl⟩, ⟨_, rfl, rfl⟩, ⟨_, rfl, rfl⟩, ⟨_, rfl, rfl⟩, ⟨_, rfl, rfl⟩, ⟨_, rfl, rfl⟩, ⟨_, rfl, rfl⟩, ⟨_, rfl, rfl⟩, ⟨_, rfl, rfl⟩, ⟨_, rfl, rfl⟩, ⟨_, rfl, rfl⟩, ⟨_, rfl, rfl⟩, ⟨_, rfl, rfl⟩, ⟨_, rfl, rfl⟩, ⟨_, rfl, rfl⟩, trivial⟩ rfl (by decide) (by decide) rfl hl.1 rfl (lv_room (Nat.le_of_ble_eq_true rfl)) dX7_allowed_1 ⟨Nat.zero_le _, Nat.zero_le _⟩ (fun H locs w => ?_)
  refine lv_if_eq (tgt := 27) C.1 C.2.1 dX7_allowed_4 (by decide) (fun hq3 => ?_) (fun hq3 => ?_)
  · have hf := ite_t hf hq3
    refine lv_iconst (v := (-1 : Int32)) C.1 C.2.1 dX7_allowed_27 (by decide) ?_
    have hres := Option.some.inj hf
    subst hres
    exact ret_i C hr hlocks w rfl dX7_allowed_28
  · have hf := ite_f hf hq3
    refine lv_iload_n C.1 C.2.1 dX7_allowed_7 rfl (lv_at hl 2 rfl) ?_
    obtain ⟨r4, hc5, hf⟩ := bd hf
    refine call_Si (ws' := (wX7_allowed cI cL cS cH a_this a_this_now a_this_past a_this_kept a_this_keptPast a_this_plans a_this_plans_search_net a_this_tape a_this_sheets a_this_now_near a_this_plans_search_net_near a_this_plans_search_net_beside a_this_sheets_e a_this_sheets_items_e q_hasImage q_now_nodes q_now_clean q_now_guards q_now_kind q_now_team q_now_draw q_now_near q_plans_search_net_nodes q_plans_search_net_all q_plans_search_net_edition q_plans_search_net_beside q_plans_search_net_near q_sheets_lane q_sheets_length q_sheets_items)) (rest := []) C w (mX7_isLane l D cI cL cS cH _ x2 hc5) (va_cwS 1 C.2.2.2.2 gX7_allowed_X7_isLane rfl rfl rfl (by decide +kernel) ⟨Nat.le_of_ble_eq_true rfl, Nat.le_of_ble_eq_true rfl⟩) [] [0, 1, 2, 3, 4, 5, 6, 7, 8, 9, 10, 11, 12, 13, 14] 15 trivial trivial ⟨⟨_, rfl, rfl⟩, ⟨_, rfl, rfl⟩, ⟨_, rfl, rfl⟩, ⟨_, rfl, rfl⟩, ⟨_, rfl, rfl⟩, ⟨_, rfl, rfl⟩, ⟨_, rfl, rfl⟩, ⟨_, rfl, rfl⟩, ⟨_, rfl, rfl⟩, ⟨_, rfl, rfl⟩, ⟨_, rfl, rfl⟩, ⟨_, rfl, rfl⟩, ⟨_, rfl, rfl⟩, ⟨_, rfl, rfl⟩, ⟨_, rfl, rfl⟩, trivial⟩ rfl (by decide) (by decide) rfl hl.1 rfl (lv_room (Nat.le_of_ble_eq_true rfl)) dX7_allowed_8 ⟨Nat.zero_le _, Nat.zero_le _⟩ (fun H locs w => ?_)
    refine lv_if_eq (tgt := 27) C.1 C.2.1 dX7_allowed_11 (by decide) (fun hq6 => ?_) (fun hq6 => ?_)
    · have hf := ite_t hf hq6
      refine lv_iconst (v := (-1 : Int32)) C.1 C.2.1 dX7_allowed_27 (by decide) ?_
      have hres := Option.some.inj hf
      subst hres
      exact ret_i C hr hlocks w rfl dX7_allowed_28
    · have hf := ite_f hf hq6
      refine lv_iload C.1 C.2.1 dX7_allowed_14 (lv_at hl 4 rfl) ?_
      refine lv_iconst (v := (1 : Int32)) C.1 C.2.1 dX7_allowed_16 (by decide) ?_
      refine lv_icmp_lt (tgt := 27) C.1 C.2.1 dX7_allowed_17 (by decide) (fun hq7 => ?_) (fun hq7 => ?_)
      · have hf := ite_t hf hq7
        refine lv_iconst (v := (-1 : Int32)) C.1 C.2.1 dX7_allowed_27 (by decide) ?_
        have hres := Option.some.inj hf
        subst hres
        exact ret_i C hr hlocks w rfl dX7_allowed_28
      · have hf := ite_f hf hq7
        refine lv_iload C.1 C.2.1 dX7_allowed_20 (lv_at hl 4 rfl) ?_
        refine lv_bipush (v := (12 : Int32)) C.1 C.2.1 dX7_allowed_22 (by decide) ?_
        refine lv_icmp_le (tgt := 29) C.1 C.2.1 dX7_allowed_24 (by decide) (fun hq8 => ?_) (fun hq8 => ?_)
        · have hf := ite_t hf hq8
          refine lv_aload_n C.1 C.2.1 dX7_allowed_29 rfl (lv_at hl 0 rfl) ?_
          refine r_get C w inX7_allowed_X7 0 rfl rfl 8 (by decide) lkX7_allowed_54 rfl dX7_allowed_30 ?_
          refine lv_iload_n C.1 C.2.1 dX7_allowed_33 rfl (lv_at hl 1 rfl) ?_
          rcases sel4_in hf with ⟨hx34, hf⟩ | ⟨hx34, hf⟩ | ⟨hx34, hf⟩ | ⟨hx34, hf⟩
          · refine r_aald (v := (a_this_sheets_e 0)) C w 6 3 rfl rfl (by rw [hx34]; exact ⟨inb_in (by decide), rfl⟩) dX7_allowed_34 ?_
            have hlp106 : ∀ (y106_3 : Int32) (y106_4 : Int32) (k106_q_plans_search_net_nodes : Int32) (k106_q_plans_search_net_all : Int32) (k106_q_plans_search_net_edition : Int32) (k106_q_plans_search_net_beside : Nat → Int32) (k106_q_plans_search_net_near : Nat → Int32) (ex106 : Int32 × Int32) (hk : (∀ (H : Heap) (locs : List Loc) (ls : Array Slot), wd D (ty4 cI cL cS cH) s (va_A (wX7_allowed cI cL cS cH a_this a_this_now a_this_past a_this_kept a_this_keptPast a_this_plans a_this_plans_search_net a_this_tape a_this_sheets a_this_now_near a_this_plans_search_net_near a_this_plans_search_net_beside a_this_sheets_e a_this_sheets_items_e q_hasImage q_now_nodes q_now_clean q_now_guards q_now_kind q_now_team q_now_draw q_now_near q_plans_search_net_nodes q_plans_search_net_all q_plans_search_net_edition q_plans_search_net_beside q_plans_search_net_near q_sheets_lane q_sheets_length q_sheets_items) s.heap.size) s.heap H locs (wX7_allowed cI cL cS cH a_this a_this_now a_this_past a_this_kept a_this_keptPast a_this_plans a_this_plans_search_net a_this_tape a_this_sheets a_this_now_near a_this_plans_search_net_near a_this_plans_search_net_beside a_this_sheets_e a_this_sheets_items_e q_hasImage q_now_nodes q_now_clean q_now_guards q_now_kind q_now_team q_now_draw q_now_near k106_q_plans_search_net_nodes k106_q_plans_search_net_all k106_q_plans_search_net_edition k106_q_plans_search_net_beside k106_q_plans_search_net_near q_sheets_lane q_sheets_length q_sheets_items) → lv_has ls 9 [(7, .int ex106.1)] → gX7_allowed p l e s m below meth c D cI cL cS cH a_this a_this_now a_this_past a_this_kept a_this_keptPast a_this_plans a_this_plans_search_net a_this_tape a_this_sheets a_this_now_near a_this_plans_search_net_near a_this_plans_search_net_beside a_this_sheets_e a_this_sheets_items_e q_hasImage q_now_nodes q_now_clean q_now_guards q_now_kind q_now_team q_now_draw q_now_near q_plans_search_net_nodes q_plans_search_net_all q_plans_search_net_edition q_plans_search_net_beside q_plans_search_net_near q_sheets_lane q_sheets_length q_sheets_items x1 x2 x3 x4 res H locs (F0 m 141 ls []))) (n : Nat) (v106 : Int32 × Int32) (H : Heap) (locs : List Loc) (ls : Array Slot), itL (bX7_allowed_106 q_now_nodes q_now_team q_now_near q_sheets_lane q_sheets_length q_sheets_items 0 y106_3 y106_4 k106_q_plans_search_net_nodes k106_q_plans_search_net_all k106_q_plans_search_net_edition k106_q_plans_search_net_beside k106_q_plans_search_net_near) n v106 = some ex106 → wd D (ty4 cI cL cS cH) s (va_A (wX7_allowed cI cL cS cH a_this a_this_now a_this_past a_this_kept a_this_keptPast a_this_plans a_this_plans_search_net a_this_tape a_this_sheets a_this_now_near a_this_plans_search_net_near a_this_plans_search_net_beside a_this_sheets_e a_this_sheets_items_e q_hasImage q_now_nodes q_now_clean q_now_guards q_now_kind q_now_team q_now_draw q_now_near q_plans_search_net_nodes q_plans_search_net_all q_plans_search_net_edition q_plans_search_net_beside q_plans_search_net_near q_sheets_lane q_sheets_length q_sheets_items) s.heap.size) s.heap H locs (wX7_allowed cI cL cS cH a_this a_this_now a_this_past a_this_kept a_this_keptPast a_this_plans a_this_plans_search_net a_this_tape a_this_sheets a_this_now_near a_this_plans_search_net_near a_this_plans_search_net_beside a_this_sheets_e a_this_sheets_items_e q_hasImage q_now_nodes q_now_clean q_now_guards q_now_kind q_now_team q_now_draw q_now_near k106_q_plans_search_net_nodes k106_q_plans_search_net_all k106_q_plans_search_net_edition k106_q_plans_search_net_beside k106_q_plans_search_net_near q_sheets_lane q_sheets_length q_sheets_items) → lv_has ls 9 [(0, .ref a_this), (3, .int y106_3), (4, .int y106_4), (5, .ref (a_this_sheets_e 0)), (7, .int v106.1), (8, .int v106.2)] → gX7_allowed p l e s m below meth c D cI cL cS cH a_this a_this_now a_this_past a_this_kept a_this_keptPast a_this_plans a_this_plans_search_net a_this_tape a_this_sheets a_this_now_near a_this_plans_search_net_near a_this_plans_search_net_beside a_this_sheets_e a_this_sheets_items_e q_hasImage q_now_nodes q_now_clean q_now_guards q_now_kind q_now_team q_now_draw q_now_near q_plans_search_net_nodes q_plans_search_net_all q_plans_search_net_edition q_plans_search_net_beside q_plans_search_net_near q_sheets_lane q_sheets_length q_sheets_items x1 x2 x3 x4 res H locs (F0 m 106 ls []) := by
              intro y106_3 y106_4 k106_q_plans_search_net_nodes k106_q_plans_search_net_all k106_q_plans_search_net_edition k106_q_plans_search_net_beside k106_q_plans_search_net_near ex106 hk n
              induction n with
              | zero => intro v106 H locs ls hi w hl; exact (itL_zero hi).elim
              | succ n ih =>
                intro v106 H locs ls hi w hl
                obtain ⟨o, hf, hn⟩ := itL_succ hi
                unfold bX7_allowed_106 at hf
                have hj135 : ∀ (y135_7 : Int32) (y135_8 : Int32) (H : Heap) (locs : List Loc) (ls : Array Slot), wd D (ty4 cI cL cS cH) s (va_A (wX7_allowed cI cL cS cH a_this a_this_now a_this_past a_this_kept a_this_keptPast a_this_plans a_this_plans_search_net a_this_tape a_this_sheets a_this_now_near a_this_plans_search_net_near a_this_plans_search_net_beside a_this_sheets_e a_this_sheets_items_e q_hasImage q_now_nodes q_now_clean q_now_guards q_now_kind q_now_team q_now_draw q_now_near q_plans_search_net_nodes q_plans_search_net_all q_plans_search_net_edition q_plans_search_net_beside q_plans_search_net_near q_sheets_lane q_sheets_length q_sheets_items) s.heap.size) s.heap H locs (wX7_allowed cI cL cS cH a_this a_this_now a_this_past a_this_kept a_this_keptPast a_this_plans a_this_plans_search_net a_this_tape a_this_sheets a_this_now_near a_this_plans_search_net_near a_this_plans_search_net_beside a_this_sheets_e a_this_sheets_items_e q_hasImage q_now_nodes q_now_clean q_now_guards q_now_kind q_now_team q_now_draw q_now_near k106_q_plans_search_net_nodes k106_q_plans_search_net_all k106_q_plans_search_net_edition k106_q_plans_search_net_beside k106_q_plans_search_net_near q_sheets_lane q_sheets_length q_sheets_items) → lv_has ls 9 [(0, .ref a_this), (3, .int y106_3), (4, .int y106_4), (5, .ref (a_this_sheets_e 0)), (7, .int y135_7), (8, .int y135_8)] → jX7_allowed_135 q_now_nodes q_now_team q_now_near q_sheets_lane q_sheets_length q_sheets_items 0 y106_3 y106_4 y135_7 y135_8 k106_q_plans_search_net_nodes k106_q_plans_search_net_all k106_q_plans_search_net_edition k106_q_plans_search_net_beside k106_q_plans_search_net_near = some o → gX7_allowed p l e s m below meth c D cI cL cS cH a_this a_this_now a_this_past a_this_kept a_this_keptPast a_this_plans a_this_plans_search_net a_this_tape a_this_sheets a_this_now_near a_this_plans_search_net_near a_this_plans_search_net_beside a_this_sheets_e a_this_sheets_items_e q_hasImage q_now_nodes q_now_clean q_now_guards q_now_kind q_now_team q_now_draw q_now_near q_plans_search_net_nodes q_plans_search_net_all q_plans_search_net_edition q_plans_search_net_beside q_plans_search_net_near q_sheets_lane q_sheets_length q_sheets_items x1 x2 x3 x4 res H locs (F0 m 135 ls []) := by
                  intro y135_7 y135_8 H locs ls w hl hf
                  unfold jX7_allowed_135 at hf
                  refine lv_iinc (v := (y135_8 + (1 : Int32))) (lv' := [(8, .int (y135_8 + (1 : Int32))), (0, .ref a_this), (3, .int y106_3), (4, .int y106_4), (5, .ref (a_this_sheets_e 0)), (7, .int y135_7)]) C.1 C.2.1 dX7_allowed_135 hl (k := 5) rfl rfl (by decide) rfl (fun ls hl => ?_)
                  refine lv_goto (tgt := 106) C.1 C.2.1 dX7_allowed_138 (by decide) ?_
                  obtain rfl := Option.some.inj hf
                  exact ih (y135_7, (y135_8 + (1 : Int32))) _ _ _ hn w (lv_sub hl [1, 2, 3, 4, 5, 0] rfl)
                refine lv_iload C.1 C.2.1 dX7_allowed_106 (lv_at hl 5 rfl) ?_
                refine lv_iconst (v := (3 : Int32)) C.1 C.2.1 dX7_allowed_108 (by decide) ?_
                refine lv_icmp_ge (tgt := 141) C.1 C.2.1 dX7_allowed_109 (by decide) (fun hq9 => ?_) (fun hq9 => ?_)
                · have hf := ite_t hf hq9
                  obtain rfl := Option.some.inj hf
                  obtain rfl := hn
                  exact hk _ _ _ w (lv_sub hl [4] rfl)
                · have hf := ite_f hf hq9
                  refine lv_aload_n C.1 C.2.1 dX7_allowed_112 rfl (lv_at hl 0 rfl) ?_
                  refine lv_aload C.1 C.2.1 dX7_allowed_113 (lv_at hl 3 rfl) ?_
                  refine lv_iload_n C.1 C.2.1 dX7_allowed_115 rfl (lv_at hl 1 rfl) ?_
                  refine lv_iload C.1 C.2.1 dX7_allowed_116 (lv_at hl 2 rfl) ?_
                  refine lv_iload C.1 C.2.1 dX7_allowed_118 (lv_at hl 5 rfl) ?_
                  obtain ⟨r10, hc11, hf⟩ := bd hf
                  refine call_Vi (ws' := (wX7_allowed cI cL cS cH a_this a_this_now a_this_past a_this_kept a_this_keptPast a_this_plans a_this_plans_search_net a_this_tape a_this_sheets a_this_now_near a_this_plans_search_net_near a_this_plans_search_net_beside a_this_sheets_e a_this_sheets_items_e q_hasImage q_now_nodes q_now_clean q_now_guards q_now_kind q_now_team q_now_draw q_now_near k106_q_plans_search_net_nodes k106_q_plans_search_net_all k106_q_plans_search_net_edition k106_q_plans_search_net_beside k106_q_plans_search_net_near q_sheets_lane q_sheets_length q_sheets_items)) (rest := []) C w (mX7_allAllowed l D cI cL cS cH _ (a_this_sheets_e 0) (a_this_sheets_items_e 0) a_this a_this_now a_this_past a_this_kept a_this_keptPast a_this_plans a_this_plans_search_net a_this_tape a_this_sheets a_this_now_near a_this_plans_search_net_near a_this_plans_search_net_beside (q_sheets_lane 0) (q_sheets_length 0) (q_sheets_items 0) q_hasImage q_now_nodes q_now_clean q_now_guards q_now_kind q_now_team q_now_draw k106_q_plans_search_net_nodes k106_q_plans_search_net_all k106_q_plans_search_net_edition k106_q_plans_search_net_beside k106_q_plans_search_net_near y106_3 y106_4 v106.2 hc11) (cwV 4 C.2.2.2.2 gX7_allowed_X7_allAllowed rfl rfl rfl (by decide +kernel) ⟨Nat.le_of_ble_eq_true rfl, Nat.le_of_ble_eq_true rfl⟩) [7, 8, 0, 1, 3, 4, 5] [2, 6, 9, 10, 11, 12, 13, 14] 15 ⟨rfl, rfl, rfl, rfl, rfl, rfl, rfl, trivial⟩ ⟨rfl, rfl, rfl, rfl, rfl, rfl, rfl, trivial⟩ ⟨⟨_, rfl, rfl⟩, ⟨_, rfl, rfl⟩, ⟨_, rfl, rfl⟩, ⟨_, rfl, rfl⟩, ⟨_, rfl, rfl⟩, ⟨_, rfl, rfl⟩, ⟨_, rfl, rfl⟩, ⟨_, rfl, rfl⟩, trivial⟩ rfl (by decide) (by decide) (ci := 7) (q0 := 0) rfl rfl rfl hl.1 rfl (lv_room (Nat.le_of_ble_eq_true rfl)) dX7_allowed_120 ⟨Nat.zero_le _, Nat.zero_le _⟩ (fun H locs w => ?_)
                  refine lv_if_eq (tgt := 135) C.1 C.2.1 dX7_allowed_123 (by decide) (fun hq12 => ?_) (fun hq12 => ?_)
                  · have hf := ite_t hf hq12
                    exact hj135 v106.1 v106.2 _ _ _ w (lv_sub hl [0, 1, 2, 3, 4, 5] rfl) hf
                  · have hf := ite_f hf hq12
                    refine lv_iload C.1 C.2.1 dX7_allowed_126 (lv_at hl 4 rfl) ?_
                    refine lv_iconst (v := (1 : Int32)) C.1 C.2.1 dX7_allowed_128 (by decide) ?_
                    refine lv_iload C.1 C.2.1 dX7_allowed_129 (lv_at hl 5 rfl) ?_
                    refine lv_ishl C.1 C.2.1 dX7_allowed_131 ?_
                    refine lv_ior C.1 C.2.1 dX7_allowed_132 ?_
                    obtain ⟨y13, hy14, hf⟩ := bnd_e hf
                    refine lt_topi hy14 ?_
                    refine lv_istore (lv' := [(7, .int y13), (0, .ref a_this), (3, .int y106_3), (4, .int y106_4), (5, .ref (a_this_sheets_e 0)), (8, .int v106.2)]) C.1 C.2.1 dX7_allowed_133 hl (by decide) rfl (fun ls hl => ?_)
                    exact hj135 y13 v106.2 _ _ _ w (lv_sub hl [1, 2, 3, 4, 0, 5] rfl) hf
            have hlp64 : ∀ (y64_3 : Int32) (y64_4 : Int32) (k64_q_plans_search_net_nodes : Int32) (k64_q_plans_search_net_all : Int32) (k64_q_plans_search_net_edition : Int32) (k64_q_plans_search_net_beside : Nat → Int32) (k64_q_plans_search_net_near : Nat → Int32) (ex64 : (Int32 × Int32 × Int32 × Int32 × (Nat → Int32) × (Nat → Int32)) ⊕ (Int32)) (hk : (match ex64 with | .inl r => r = res | .inr u => ∀ (H : Heap) (locs : List Loc) (ls : Array Slot), wd D (ty4 cI cL cS cH) s (va_A (wX7_allowed cI cL cS cH a_this a_this_now a_this_past a_this_kept a_this_keptPast a_this_plans a_this_plans_search_net a_this_tape a_this_sheets a_this_now_near a_this_plans_search_net_near a_this_plans_search_net_beside a_this_sheets_e a_this_sheets_items_e q_hasImage q_now_nodes q_now_clean q_now_guards q_now_kind q_now_team q_now_draw q_now_near q_plans_search_net_nodes q_plans_search_net_all q_plans_search_net_edition q_plans_search_net_beside q_plans_search_net_near q_sheets_lane q_sheets_length q_sheets_items) s.heap.size) s.heap H locs (wX7_allowed cI cL cS cH a_this a_this_now a_this_past a_this_kept a_this_keptPast a_this_plans a_this_plans_search_net a_this_tape a_this_sheets a_this_now_near a_this_plans_search_net_near a_this_plans_search_net_beside a_this_sheets_e a_this_sheets_items_e q_hasImage q_now_nodes q_now_clean q_now_guards q_now_kind q_now_team q_now_draw q_now_near k64_q_plans_search_net_nodes k64_q_plans_search_net_all k64_q_plans_search_net_edition k64_q_plans_search_net_beside k64_q_plans_search_net_near q_sheets_lane q_sheets_length q_sheets_items) → lv_has ls 9 [(0, .ref a_this), (3, .int y64_3), (4, .int y64_4), (5, .ref (a_this_sheets_e 0))] → gX7_allowed p l e s m below meth c D cI cL cS cH a_this a_this_now a_this_past a_this_kept a_this_keptPast a_this_plans a_this_plans_search_net a_this_tape a_this_sheets a_this_now_near a_this_plans_search_net_near a_this_plans_search_net_beside a_this_sheets_e a_this_sheets_items_e q_hasImage q_now_nodes q_now_clean q_now_guards q_now_kind q_now_team q_now_draw q_now_near q_plans_search_net_nodes q_plans_search_net_all q_plans_search_net_edition q_plans_search_net_beside q_plans_search_net_near q_sheets_lane q_sheets_length q_sheets_items x1 x2 x3 x4 res H locs (F0 m 100 ls []))) (n : Nat) (v64 : Int32) (H : Heap) (locs : List Loc) (ls : Array Slot), itL (bX7_allowed_64 q_now_nodes q_now_team q_now_near q_sheets_lane q_sheets_length q_sheets_items 0 y64_3 y64_4 k64_q_plans_search_net_nodes k64_q_plans_search_net_all k64_q_plans_search_net_edition k64_q_plans_search_net_beside k64_q_plans_search_net_near) n v64 = some ex64 → wd D (ty4 cI cL cS cH) s (va_A (wX7_allowed cI cL cS cH a_this a_this_now a_this_past a_this_kept a_this_keptPast a_this_plans a_this_plans_search_net a_this_tape a_this_sheets a_this_now_near a_this_plans_search_net_near a_this_plans_search_net_beside a_this_sheets_e a_this_sheets_items_e q_hasImage q_now_nodes q_now_clean q_now_guards q_now_kind q_now_team q_now_draw q_now_near q_plans_search_net_nodes q_plans_search_net_all q_plans_search_net_edition q_plans_search_net_beside q_plans_search_net_near q_sheets_lane q_sheets_length q_sheets_items) s.heap.size) s.heap H locs (wX7_allowed cI cL cS cH a_this a_this_now a_this_past a_this_kept a_this_keptPast a_this_plans a_this_plans_search_net a_this_tape a_this_sheets a_this_now_near a_this_plans_search_net_near a_this_plans_search_net_beside a_this_sheets_e a_this_sheets_items_e q_hasImage q_now_nodes q_now_clean q_now_guards q_now_kind q_now_team q_now_draw q_now_near k64_q_plans_search_net_nodes k64_q_plans_search_net_all k64_q_plans_search_net_edition k64_q_plans_search_net_beside k64_q_plans_search_net_near q_sheets_lane q_sheets_length q_sheets_items) → lv_has ls 9 [(0, .ref a_this), (3, .int y64_3), (4, .int y64_4), (5, .ref (a_this_sheets_e 0)), (7, .int v64)] → gX7_allowed p l e s m below meth c D cI cL cS cH a_this a_this_now a_this_past a_this_kept a_this_keptPast a_this_plans a_this_plans_search_net a_this_tape a_this_sheets a_this_now_near a_this_plans_search_net_near a_this_plans_search_net_beside a_this_sheets_e a_this_sheets_items_e q_hasImage q_now_nodes q_now_clean q_now_guards q_now_kind q_now_team q_now_draw q_now_near q_plans_search_net_nodes q_plans_search_net_all q_plans_search_net_edition q_plans_search_net_beside q_plans_search_net_near q_sheets_lane q_sheets_length q_sheets_items x1 x2 x3 x4 res H locs (F0 m 64 ls []) := by
              intro y64_3 y64_4 k64_q_plans_search_net_nodes k64_q_plans_search_net_all k64_q_plans_search_net_edition k64_q_plans_search_net_beside k64_q_plans_search_net_near ex64 hk n
              induction n with
              | zero => intro v64 H locs ls hi w hl; exact (itL_zero hi).elim
              | succ n ih =>
                intro v64 H locs ls hi w hl
                obtain ⟨o, hf, hn⟩ := itL_succ hi
                unfold bX7_allowed_64 at hf
                refine lv_iload C.1 C.2.1 dX7_allowed_64 (lv_at hl 4 rfl) ?_
                refine lv_iload_n C.1 C.2.1 dX7_allowed_66 rfl (lv_at hl 1 rfl) ?_
                refine lv_iload C.1 C.2.1 dX7_allowed_67 (lv_at hl 2 rfl) ?_
                refine lv_iadd C.1 C.2.1 dX7_allowed_69 ?_
                refine lv_icmp_ge (tgt := 100) C.1 C.2.1 dX7_allowed_70 (by decide) (fun hq15 => ?_) (fun hq15 => ?_)
                · have hf := ite_t hf hq15
                  obtain rfl := Option.some.inj hf
                  obtain rfl := hn
                  exact hk _ _ _ w (lv_sub hl [0, 1, 2, 3] rfl)
                · have hf := ite_f hf hq15
                  refine lv_aload_n C.1 C.2.1 dX7_allowed_73 rfl (lv_at hl 0 rfl) ?_
                  refine r_get C w inX7_allowed_X7 0 rfl rfl 6 (by decide) lkX7_allowed_44 rfl dX7_allowed_74 ?_
                  refine lv_aload C.1 C.2.1 dX7_allowed_77 (lv_at hl 3 rfl) ?_
                  refine r_get C w inX7_allowed_X4 7 rfl rfl 2 (by decide) lkX7_allowed_212 rfl dX7_allowed_79 ?_
                  refine lv_iload C.1 C.2.1 dX7_allowed_82 (lv_at hl 4 rfl) ?_
                  obtain ⟨y16, hy17, hf⟩ := bd hf
                  refine r_lald C w 8 1 rfl rfl (rd_in hy17) dX7_allowed_84 ?_
                  obtain ⟨r18, hc19, hf⟩ := bd hf
                  refine call_Vi (ws' := (wX7_allowed cI cL cS cH a_this a_this_now a_this_past a_this_kept a_this_keptPast a_this_plans a_this_plans_search_net a_this_tape a_this_sheets a_this_now_near a_this_plans_search_net_near a_this_plans_search_net_beside a_this_sheets_e a_this_sheets_items_e q_hasImage q_now_nodes q_now_clean q_now_guards q_now_kind q_now_team q_now_draw q_now_near k64_q_plans_search_net_nodes k64_q_plans_search_net_all k64_q_plans_search_net_edition k64_q_plans_search_net_beside k64_q_plans_search_net_near q_sheets_lane q_sheets_length q_sheets_items)) (rest := []) C w (mX0_isAct l D cI cL cS cH _ a_this_plans_search_net a_this_plans_search_net_near a_this_plans_search_net_beside k64_q_plans_search_net_nodes k64_q_plans_search_net_all k64_q_plans_search_net_edition y16 hc19) (cwV 1 C.2.2.2.2 gX7_allowed_X0_isAct rfl rfl rfl (by decide +kernel) ⟨Nat.le_of_ble_eq_true rfl, Nat.le_of_ble_eq_true rfl⟩) [3] [0, 1, 2, 4, 5, 6, 7, 8, 9, 10, 11, 12, 13, 14] 15 ⟨rfl, trivial⟩ ⟨rfl, trivial⟩ ⟨⟨_, rfl, rfl⟩, ⟨_, rfl, rfl⟩, ⟨_, rfl, rfl⟩, ⟨_, rfl, rfl⟩, ⟨_, rfl, rfl⟩, ⟨_, rfl, rfl⟩, ⟨_, rfl, rfl⟩, ⟨_, rfl, rfl⟩, ⟨_, rfl, rfl⟩, ⟨_, rfl, rfl⟩, ⟨_, rfl, rfl⟩, ⟨_, rfl, rfl⟩, ⟨_, rfl, rfl⟩, ⟨_, rfl, rfl⟩, trivial⟩ rfl (by decide) (by decide) (ci := 0) (q0 := 3) rfl rfl rfl hl.1 rfl (lv_room (Nat.le_of_ble_eq_true rfl)) dX7_allowed_85 ⟨Nat.zero_le _, Nat.zero_le _⟩ (fun H locs w => ?_)
                  refine lv_if_ne (tgt := 94) C.1 C.2.1 dX7_allowed_88 (by decide) (fun hq20 => ?_) (fun hq20 => ?_)
                  · have hf := ite_f hf hq20
                    refine lv_iinc (v := (v64 + (1 : Int32))) (lv' := [(7, .int (v64 + (1 : Int32))), (0, .ref a_this), (3, .int y64_3), (4, .int y64_4), (5, .ref (a_this_sheets_e 0))]) C.1 C.2.1 dX7_allowed_94 hl (k := 4) rfl rfl (by decide) rfl (fun ls hl => ?_)
                    refine lv_goto (tgt := 64) C.1 C.2.1 dX7_allowed_97 (by decide) ?_
                    obtain rfl := Option.some.inj hf
                    exact ih (v64 + (1 : Int32)) _ _ _ hn w (lv_sub hl [1, 2, 3, 4, 0] rfl)
                  · have hf := ite_t hf hq20
                    refine lv_bipush (v := (-2 : Int32)) C.1 C.2.1 dX7_allowed_91 (by decide) ?_
                    obtain rfl := Option.some.inj hf
                    obtain rfl := hn
                    have hres : _ = res := hk
                    subst hres
                    exact ret_i C hr hlocks w rfl dX7_allowed_93
            refine lv_astore (lv' := [(5, .ref (a_this_sheets_e 0)), (0, .ref a_this), (1, .int x1), (2, .int x2), (3, .int x3), (4, .int x4)]) C.1 C.2.1 dX7_allowed_35 hl (by decide) rfl (fun ls hl => ?_)
            refine lv_aload C.1 C.2.1 dX7_allowed_37 (lv_at hl 0 rfl) ?_
            refine lv_iload_n C.1 C.2.1 dX7_allowed_39 rfl (lv_at hl 3 rfl) ?_
            refine lv_iload_n C.1 C.2.1 dX7_allowed_40 rfl (lv_at hl 4 rfl) ?_
            refine lv_iload C.1 C.2.1 dX7_allowed_41 (lv_at hl 5 rfl) ?_
            obtain ⟨r21, hc22, hf⟩ := bd hf
            refine call_Vi (ws' := (wX7_allowed cI cL cS cH a_this a_this_now a_this_past a_this_kept a_this_keptPast a_this_plans a_this_plans_search_net a_this_tape a_this_sheets a_this_now_near a_this_plans_search_net_near a_this_plans_search_net_beside a_this_sheets_e a_this_sheets_items_e q_hasImage q_now_nodes q_now_clean q_now_guards q_now_kind q_now_team q_now_draw q_now_near q_plans_search_net_nodes q_plans_search_net_all q_plans_search_net_edition q_plans_search_net_beside q_plans_search_net_near q_sheets_lane q_sheets_length q_sheets_items)) (rest := []) C w (mX4_wrongAs l D cI cL cS cH _ (a_this_sheets_e 0) (a_this_sheets_items_e 0) (q_sheets_lane 0) (q_sheets_length 0) x2 x3 x4 hc22) (cwV 3 C.2.2.2.2 gX7_allowed_X4_wrongAs rfl rfl rfl (by decide +kernel) ⟨Nat.le_of_ble_eq_true rfl, Nat.le_of_ble_eq_true rfl⟩) [7] [0, 1, 2, 3, 4, 5, 6, 8, 9, 10, 11, 12, 13, 14] 15 ⟨rfl, trivial⟩ ⟨rfl, trivial⟩ ⟨⟨_, rfl, rfl⟩, ⟨_, rfl, rfl⟩, ⟨_, rfl, rfl⟩, ⟨_, rfl, rfl⟩, ⟨_, rfl, rfl⟩, ⟨_, rfl, rfl⟩, ⟨_, rfl, rfl⟩, ⟨_, rfl, rfl⟩, ⟨_, rfl, rfl⟩, ⟨_, rfl, rfl⟩, ⟨_, rfl, rfl⟩, ⟨_, rfl, rfl⟩, ⟨_, rfl, rfl⟩, ⟨_, rfl, rfl⟩, trivial⟩ rfl (by decide) (by decide) (ci := 4) (q0 := 7) rfl rfl rfl hl.1 rfl (lv_room (Nat.le_of_ble_eq_true rfl)) dX7_allowed_43 ⟨Nat.zero_le _, Nat.zero_le _⟩ (fun H locs w => ?_)
            refine lv_istore (lv' := [(6, .int r21), (5, .ref (a_this_sheets_e 0)), (0, .ref a_this), (1, .int x1), (2, .int x2), (3, .int x3), (4, .int x4)]) C.1 C.2.1 dX7_allowed_46 hl (by decide) rfl (fun ls hl => ?_)
            refine lv_iload C.1 C.2.1 dX7_allowed_48 (lv_at hl 0 rfl) ?_
            refine lv_if_eq (tgt := 56) C.1 C.2.1 dX7_allowed_50 (by decide) (fun hq23 => ?_) (fun hq23 => ?_)
            · have hf := ite_t hf hq23
              refine lv_aload_n C.1 C.2.1 dX7_allowed_56 rfl (lv_at hl 2 rfl) ?_
              obtain ⟨r24, hc25, hf⟩ := bd hf
              refine call_Vr (ws' := (wX7_allowed cI cL cS cH a_this a_this_now a_this_past a_this_kept a_this_keptPast a_this_plans a_this_plans_search_net a_this_tape a_this_sheets a_this_now_near a_this_plans_search_net_near a_this_plans_search_net_beside a_this_sheets_e a_this_sheets_items_e q_hasImage q_now_nodes q_now_clean q_now_guards q_now_kind q_now_team q_now_draw q_now_near r24.1 r24.2.1 r24.2.2.1 r24.2.2.2.1 r24.2.2.2.2 q_sheets_lane q_sheets_length q_sheets_items)) (rest := []) C w (mX7_currentNet l D cI cL cS cH _ a_this a_this_now a_this_past a_this_kept a_this_keptPast a_this_plans a_this_plans_search_net a_this_tape a_this_sheets a_this_now_near a_this_plans_search_net_near a_this_plans_search_net_beside q_hasImage q_now_nodes q_now_clean q_now_guards q_now_kind q_now_team q_now_draw q_now_near q_plans_search_net_nodes q_plans_search_net_all q_plans_search_net_edition q_plans_search_net_beside q_plans_search_net_near hc25) (cwV 0 C.2.2.2.2 gX7_allowed_X7_currentNet rfl rfl rfl (by decide +kernel) ⟨Nat.le_of_ble_eq_true rfl, Nat.le_of_ble_eq_true rfl⟩) [0, 1, 2, 3, 4, 5] [6, 7, 8, 9, 10, 11, 12, 13, 14] 15 ⟨rfl, rfl, rfl, rfl, rfl, rfl, trivial⟩ ⟨rfl, rfl, rfl, rfl, rfl, rfl, trivial⟩ ⟨⟨_, rfl, rfl⟩, ⟨_, rfl, rfl⟩, ⟨_, rfl, rfl⟩, ⟨_, rfl, rfl⟩, ⟨_, rfl, rfl⟩, ⟨_, rfl, rfl⟩, ⟨_, rfl, rfl⟩, ⟨_, rfl, rfl⟩, ⟨_, rfl, rfl⟩, trivial⟩ rfl (by decide) (by decide) (ci := 7) (q0 := 0) rfl rfl rfl hl.1 rfl (lv_room (Nat.le_of_ble_eq_true rfl)) dX7_allowed_57 ⟨Nat.zero_le _, Nat.zero_le _⟩ (fun H locs w => ?_)
              refine lv_pop C.1 C.2.1 dX7_allowed_60 rfl ?_
              refine lv_iload_n C.1 C.2.1 dX7_allowed_61 rfl (lv_at hl 5 rfl) ?_
              refine lv_istore (lv' := [(7, .int x3), (6, .int r21), (5, .ref (a_this_sheets_e 0)), (0, .ref a_this), (1, .int x1), (2, .int x2), (3, .int x3), (4, .int x4)]) C.1 C.2.1 dX7_allowed_62 hl (by decide) rfl (fun ls hl => ?_)
              obtain ⟨ex26, hx27, hf⟩ := bd hf
              rcases ex26 with ex26 | ex26
              · have hf := se_l hf
                have hres := Option.some.inj hf
                exact hlp64 x3 x4 r24.1 r24.2.1 r24.2.2.1 r24.2.2.2.1 r24.2.2.2.2 (.inl ex26) hres fu x3 _ _ _ hx27 w (lv_sub hl [3, 6, 7, 2, 0] rfl)
              · have hf := se_r hf
                refine hlp64 x3 x4 r24.1 r24.2.1 r24.2.2.1 r24.2.2.2.1 r24.2.2.2.2 (.inr ex26) ?_ fu x3 _ _ _ hx27 w (lv_sub hl [3, 6, 7, 2, 0] rfl)
                intro H locs ls w hl
                refine lv_iconst (v := (0 : Int32)) C.1 C.2.1 dX7_allowed_100 (by decide) ?_
                refine lv_istore (lv' := [(7, .int (0 : Int32)), (0, .ref a_this), (3, .int x3), (4, .int x4), (5, .ref (a_this_sheets_e 0))]) C.1 C.2.1 dX7_allowed_101 hl (by decide) rfl (fun ls hl => ?_)
                refine lv_iconst (v := (0 : Int32)) C.1 C.2.1 dX7_allowed_103 (by decide) ?_
                refine lv_istore (lv' := [(8, .int (0 : Int32)), (7, .int (0 : Int32)), (0, .ref a_this), (3, .int x3), (4, .int x4), (5, .ref (a_this_sheets_e 0))]) C.1 C.2.1 dX7_allowed_104 hl (by decide) rfl (fun ls hl => ?_)
                obtain ⟨ex28, hx29, hf⟩ := bd hf
                refine hlp106 x3 x4 r24.1 r24.2.1 r24.2.2.1 r24.2.2.2.1 r24.2.2.2.2 ex28 ?_ fu ((0 : Int32), (0 : Int32)) _ _ _ hx29 w (lv_sub hl [2, 3, 4, 5, 1, 0] rfl)
                intro H locs ls w hl
                refine lv_iload C.1 C.2.1 dX7_allowed_141 (lv_at hl 0 rfl) ?_
                have hres := Option.some.inj hf
                subst hres
                exact ret_i C hr hlocks w rfl dX7_allowed_143
            · have hf := ite_f hf hq23
              refine lv_iload C.1 C.2.1 dX7_allowed_53 (lv_at hl 0 rfl) ?_
              have hres := Option.some.inj hf
              subst hres
              exact ret_i C hr hlocks w rfl dX7_allowed_55
          · refine r_aald (v := (a_this_sheets_e 1)) C w 6 3 rfl rfl (by rw [hx34]; exact ⟨inb_in (by decide), rfl⟩) dX7_allowed_34 ?_
            have hlp106 : ∀ (y106_3 : Int32) (y106_4 : Int32) (k106_q_plans_search_net_nodes : Int32) (k106_q_plans_search_net_all : Int32) (k106_q_plans_search_net_edition : Int32) (k106_q_plans_search_net_beside : Nat → Int32) (k106_q_plans_search_net_near : Nat → Int32) (ex106 : Int32 × Int32) (hk : (∀ (H : Heap) (locs : List Loc) (ls : Array Slot), wd D (ty4 cI cL cS cH) s (va_A (wX7_allowed cI cL cS cH a_this a_this_now a_this_past a_this_kept a_this_keptPast a_this_plans a_this_plans_search_net a_this_tape a_this_sheets a_this_now_near a_this_plans_search_net_near a_this_plans_search_net_beside a_this_sheets_e a_this_sheets_items_e q_hasImage q_now_nodes q_now_clean q_now_guards q_now_kind q_now_team q_now_draw q_now_near q_plans_search_net_nodes q_plans_search_net_all q_plans_search_net_edition q_plans_search_net_beside q_plans_search_net_near q_sheets_lane q_sheets_length q_sheets_items) s.heap.size) s.heap H locs (wX7_allowed cI cL cS cH a_this a_this_now a_this_past a_this_kept a_this_keptPast a_this_plans a_this_plans_search_net a_this_tape a_this_sheets a_this_now_near a_this_plans_search_net_near a_this_plans_search_net_beside a_this_sheets_e a_this_sheets_items_e q_hasImage q_now_nodes q_now_clean q_now_guards q_now_kind q_now_team q_now_draw q_now_near k106_q_plans_search_net_nodes k106_q_plans_search_net_all k106_q_plans_search_net_edition k106_q_plans_search_net_beside k106_q_plans_search_net_near q_sheets_lane q_sheets_length q_sheets_items) → lv_has ls 9 [(7, .int ex106.1)] → gX7_allowed p l e s m below meth c D cI cL cS cH a_this a_this_now a_this_past a_this_kept a_this_keptPast a_this_plans a_this_plans_search_net a_this_tape a_this_sheets a_this_now_near a_this_plans_search_net_near a_this_plans_search_net_beside a_this_sheets_e a_this_sheets_items_e q_hasImage q_now_nodes q_now_clean q_now_guards q_now_kind q_now_team q_now_draw q_now_near q_plans_search_net_nodes q_plans_search_net_all q_plans_search_net_edition q_plans_search_net_beside q_plans_search_net_near q_sheets_lane q_sheets_length q_sheets_items x1 x2 x3 x4 res H locs (F0 m 141 ls []))) (n : Nat) (v106 : Int32 × Int32) (H : Heap) (locs : List Loc) (ls : Array Slot), itL (bX7_allowed_106 q_now_nodes q_now_team q_now_near q_sheets_lane q_sheets_length q_sheets_items 1 y106_3 y106_4 k106_q_plans_search_net_nodes k106_q_plans_search_net_all k106_q_plans_search_net_edition k106_q_plans_search_net_beside k106_q_plans_search_net_near) n v106 = some ex106 → wd D (ty4 cI cL cS cH) s (va_A (wX7_allowed cI cL cS cH a_this a_this_now a_this_past a_this_kept a_this_keptPast a_this_plans a_this_plans_search_net a_this_tape a_this_sheets a_this_now_near a_this_plans_search_net_near a_this_plans_search_net_beside a_this_sheets_e a_this_sheets_items_e q_hasImage q_now_nodes q_now_clean q_now_guards q_now_kind q_now_team q_now_draw q_now_near q_plans_search_net_nodes q_plans_search_net_all q_plans_search_net_edition q_plans_search_net_beside q_plans_search_net_near q_sheets_lane q_sheets_length q_sheets_items) s.heap.size) s.heap H locs (wX7_allowed cI cL cS cH a_this a_this_now a_this_past a_this_kept a_this_keptPast a_this_plans a_this_plans_search_net a_this_tape a_this_sheets a_this_now_near a_this_plans_search_net_near a_this_plans_search_net_beside a_this_sheets_e a_this_sheets_items_e q_hasImage q_now_nodes q_now_clean q_now_guards q_now_kind q_now_team q_now_draw q_now_near k106_q_plans_search_net_nodes k106_q_plans_search_net_all k106_q_plans_search_net_edition k106_q_plans_search_net_beside k106_q_plans_search_net_near q_sheets_lane q_sheets_length q_sheets_items) → lv_has ls 9 [(0, .ref a_this), (3, .int y106_3), (4, .int y106_4), (5, .ref (a_this_sheets_e 1)), (7, .int v106.1), (8, .int v106.2)] → gX7_allowed p l e s m below meth c D cI cL cS cH a_this a_this_now a_this_past a_this_kept a_this_keptPast a_this_plans a_this_plans_search_net a_this_tape a_this_sheets a_this_now_near a_this_plans_search_net_near a_this_plans_search_net_beside a_this_sheets_e a_this_sheets_items_e q_hasImage q_now_nodes q_now_clean q_now_guards q_now_kind q_now_team q_now_draw q_now_near q_plans_search_net_nodes q_plans_search_net_all q_plans_search_net_edition q_plans_search_net_beside q_plans_search_net_near q_sheets_lane q_sheets_length q_sheets_items x1 x2 x3 x4 res H locs (F0 m 106 ls []) := by
              intro y106_3 y106_4 k106_q_plans_search_net_nodes k106_q_plans_search_net_all k106_q_plans_search_net_edition k106_q_plans_search_net_beside k106_q_plans_search_net_near ex106 hk n
              induction n with
              | zero => intro v106 H locs ls hi w hl; exact (itL_zero hi).elim
              | succ n ih =>
                intro v106 H locs ls hi w hl
                obtain ⟨o, hf, hn⟩ := itL_succ hi
                unfold bX7_allowed_106 at hf
                have hj135 : ∀ (y135_7 : Int32) (y135_8 : Int32) (H : Heap) (locs : List Loc) (ls : Array Slot), wd D (ty4 cI cL cS cH) s (va_A (wX7_allowed cI cL cS cH a_this a_this_now a_this_past a_this_kept a_this_keptPast a_this_plans a_this_plans_search_net a_this_tape a_this_sheets a_this_now_near a_this_plans_search_net_near a_this_plans_search_net_beside a_this_sheets_e a_this_sheets_items_e q_hasImage q_now_nodes q_now_clean q_now_guards q_now_kind q_now_team q_now_draw q_now_near q_plans_search_net_nodes q_plans_search_net_all q_plans_search_net_edition q_plans_search_net_beside q_plans_search_net_near q_sheets_lane q_sheets_length q_sheets_items) s.heap.size) s.heap H locs (wX7_allowed cI cL cS cH a_this a_this_now a_this_past a_this_kept a_this_keptPast a_this_plans a_this_plans_search_net a_this_tape a_this_sheets a_this_now_near a_this_plans_search_net_near a_this_plans_search_net_beside a_this_sheets_e a_this_sheets_items_e q_hasImage q_now_nodes q_now_clean q_now_guards q_now_kind q_now_team q_now_draw q_now_near k106_q_plans_search_net_nodes k106_q_plans_search_net_all k106_q_plans_search_net_edition k106_q_plans_search_net_beside k106_q_plans_search_net_near q_sheets_lane q_sheets_length q_sheets_items) → lv_has ls 9 [(0, .ref a_this), (3, .int y106_3), (4, .int y106_4), (5, .ref (a_this_sheets_e 1)), (7, .int y135_7), (8, .int y135_8)] → jX7_allowed_135 q_now_nodes q_now_team q_now_near q_sheets_lane q_sheets_length q_sheets_items 1 y106_3 y106_4 y135_7 y135_8 k106_q_plans_search_net_nodes k106_q_plans_search_net_all k106_q_plans_search_net_edition k106_q_plans_search_net_beside k106_q_plans_search_net_near = some o → gX7_allowed p l e s m below meth c D cI cL cS cH a_this a_this_now a_this_past a_this_kept a_this_keptPast a_this_plans a_this_plans_search_net a_this_tape a_this_sheets a_this_now_near a_this_plans_search_net_near a_this_plans_search_net_beside a_this_sheets_e a_this_sheets_items_e q_hasImage q_now_nodes q_now_clean q_now_guards q_now_kind q_now_team q_now_draw q_now_near q_plans_search_net_nodes q_plans_search_net_all q_plans_search_net_edition q_plans_search_net_beside q_plans_search_net_near q_sheets_lane q_sheets_length q_sheets_items x1 x2 x3 x4 res H locs (F0 m 135 ls []) := by
                  intro y135_7 y135_8 H locs ls w hl hf
                  unfold jX7_allowed_135 at hf
                  refine lv_iinc (v := (y135_8 + (1 : Int32))) (lv' := [(8, .int (y135_8 + (1 : Int32))), (0, .ref a_this), (3, .int y106_3), (4, .int y106_4), (5, .ref (a_this_sheets_e 1)), (7, .int y135_7)]) C.1 C.2.1 dX7_allowed_135 hl (k := 5) rfl rfl (by decide) rfl (fun ls hl => ?_)
                  refine lv_goto (tgt := 106) C.1 C.2.1 dX7_allowed_138 (by decide) ?_
                  obtain rfl := Option.some.inj hf
                  exact ih (y135_7, (y135_8 + (1 : Int32))) _ _ _ hn w (lv_sub hl [1, 2, 3, 4, 5, 0] rfl)
                refine lv_iload C.1 C.2.1 dX7_allowed_106 (lv_at hl 5 rfl) ?_
                refine lv_iconst (v := (3 : Int32)) C.1 C.2.1 dX7_allowed_108 (by decide) ?_
                refine lv_icmp_ge (tgt := 141) C.1 C.2.1 dX7_allowed_109 (by decide) (fun hq9 => ?_) (fun hq9 => ?_)
                · have hf := ite_t hf hq9
                  obtain rfl := Option.some.inj hf
                  obtain rfl := hn
                  exact hk _ _ _ w (lv_sub hl [4] rfl)
                · have hf := ite_f hf hq9
                  refine lv_aload_n C.1 C.2.1 dX7_allowed_112 rfl (lv_at hl 0 rfl) ?_
                  refine lv_aload C.1 C.2.1 dX7_allowed_113 (lv_at hl 3 rfl) ?_
                  refine lv_iload_n C.1 C.2.1 dX7_allowed_115 rfl (lv_at hl 1 rfl) ?_
                  refine lv_iload C.1 C.2.1 dX7_allowed_116 (lv_at hl 2 rfl) ?_
                  refine lv_iload C.1 C.2.1 dX7_allowed_118 (lv_at hl 5 rfl) ?_
                  obtain ⟨r10, hc11, hf⟩ := bd hf
                  refine call_Vi (ws' := (wX7_allowed cI cL cS cH a_this a_this_now a_this_past a_this_kept a_this_keptPast a_this_plans a_this_plans_search_net a_this_tape a_this_sheets a_this_now_near a_this_plans_search_net_near a_this_plans_search_net_beside a_this_sheets_e a_this_sheets_items_e q_hasImage q_now_nodes q_now_clean q_now_guards q_now_kind q_now_team q_now_draw q_now_near k106_q_plans_search_net_nodes k106_q_plans_search_net_all k106_q_plans_search_net_edition k106_q_plans_search_net_beside k106_q_plans_search_net_near q_sheets_lane q_sheets_length q_sheets_items)) (rest := []) C w (mX7_allAllowed l D cI cL cS cH _ (a_this_sheets_e 1) (a_this_sheets_items_e 1) a_this a_this_now a_this_past a_this_kept a_this_keptPast a_this_plans a_this_plans_search_net a_this_tape a_this_sheets a_this_now_near a_this_plans_search_net_near a_this_plans_search_net_beside (q_sheets_lane 1) (q_sheets_length 1) (q_sheets_items 1) q_hasImage q_now_nodes q_now_clean q_now_guards q_now_kind q_now_team q_now_draw k106_q_plans_search_net_nodes k106_q_plans_search_net_all k106_q_plans_search_net_edition k106_q_plans_search_net_beside k106_q_plans_search_net_near y106_3 y106_4 v106.2 hc11) (cwV 4 C.2.2.2.2 gX7_allowed_X7_allAllowed rfl rfl rfl (by decide +kernel) ⟨Nat.le_of_ble_eq_true rfl, Nat.le_of_ble_eq_true rfl⟩) [9, 10, 0, 1, 3, 4, 5] [2, 6, 7, 8, 11, 12, 13, 14] 15 ⟨rfl, rfl, rfl, rfl, rfl, rfl, rfl, trivial⟩ ⟨rfl, rfl, rfl, rfl, rfl, rfl, rfl, trivial⟩ ⟨⟨_, rfl, rfl⟩, ⟨_, rfl, rfl⟩, ⟨_, rfl, rfl⟩, ⟨_, rfl, rfl⟩, ⟨_, rfl, rfl⟩, ⟨_, rfl, rfl⟩, ⟨_, rfl, rfl⟩, ⟨_, rfl, rfl⟩, trivial⟩ rfl (by decide) (by decide) (ci := 7) (q0 := 0) rfl rfl rfl hl.1 rfl (lv_room (Nat.le_of_ble_eq_true rfl)) dX7_allowed_120 ⟨Nat.zero_le _, Nat.zero_le _⟩ (fun H locs w => ?_)
                  refine lv_if_eq (tgt := 135) C.1 C.2.1 dX7_allowed_123 (by decide) (fun hq12 => ?_) (fun hq12 => ?_)
                  · have hf := ite_t hf hq12
                    exact hj135 v106.1 v106.2 _ _ _ w (lv_sub hl [0, 1, 2, 3, 4, 5] rfl) hf
                  · have hf := ite_f hf hq12
                    refine lv_iload C.1 C.2.1 dX7_allowed_126 (lv_at hl 4 rfl) ?_
                    refine lv_iconst (v := (1 : Int32)) C.1 C.2.1 dX7_allowed_128 (by decide) ?_
                    refine lv_iload C.1 C.2.1 dX7_allowed_129 (lv_at hl 5 rfl) ?_
                    refine lv_ishl C.1 C.2.1 dX7_allowed_131 ?_
                    refine lv_ior C.1 C.2.1 dX7_allowed_132 ?_
                    obtain ⟨y13, hy14, hf⟩ := bnd_e hf
                    refine lt_topi hy14 ?_
                    refine lv_istore (lv' := [(7, .int y13), (0, .ref a_this), (3, .int y106_3), (4, .int y106_4), (5, .ref (a_this_sheets_e 1)), (8, .int v106.2)]) C.1 C.2.1 dX7_allowed_133 hl (by decide) rfl (fun ls hl => ?_)
                    exact hj135 y13 v106.2 _ _ _ w (lv_sub hl [1, 2, 3, 4, 0, 5] rfl) hf
            have hlp64 : ∀ (y64_3 : Int32) (y64_4 : Int32) (k64_q_plans_search_net_nodes : Int32) (k64_q_plans_search_net_all : Int32) (k64_q_plans_search_net_edition : Int32) (k64_q_plans_search_net_beside : Nat → Int32) (k64_q_plans_search_net_near : Nat → Int32) (ex64 : (Int32 × Int32 × Int32 × Int32 × (Nat → Int32) × (Nat → Int32)) ⊕ (Int32)) (hk : (match ex64 with | .inl r => r = res | .inr u => ∀ (H : Heap) (locs : List Loc) (ls : Array Slot), wd D (ty4 cI cL cS cH) s (va_A (wX7_allowed cI cL cS cH a_this a_this_now a_this_past a_this_kept a_this_keptPast a_this_plans a_this_plans_search_net a_this_tape a_this_sheets a_this_now_near a_this_plans_search_net_near a_this_plans_search_net_beside a_this_sheets_e a_this_sheets_items_e q_hasImage q_now_nodes q_now_clean q_now_guards q_now_kind q_now_team q_now_draw q_now_near q_plans_search_net_nodes q_plans_search_net_all q_plans_search_net_edition q_plans_search_net_beside q_plans_search_net_near q_sheets_lane q_sheets_length q_sheets_items) s.heap.size) s.heap H locs (wX7_allowed cI cL cS cH a_this a_this_now a_this_past a_this_kept a_this_keptPast a_this_plans a_this_plans_search_net a_this_tape a_this_sheets a_this_now_near a_this_plans_search_net_near a_this_plans_search_net_beside a_this_sheets_e a_this_sheets_items_e q_hasImage q_now_nodes q_now_clean q_now_guards q_now_kind q_now_team q_now_draw q_now_near k64_q_plans_search_net_nodes k64_q_plans_search_net_all k64_q_plans_search_net_edition k64_q_plans_search_net_beside k64_q_plans_search_net_near q_sheets_lane q_sheets_length q_sheets_items) → lv_has ls 9 [(0, .ref a_this), (3, .int y64_3), (4, .int y64_4), (5, .ref (a_this_sheets_e 1))] → gX7_allowed p l e s m below meth c D cI cL cS cH a_this a_this_now a_this_past a_this_kept a_this_keptPast a_this_plans a_this_plans_search_net a_this_tape a_this_sheets a_this_now_near a_this_plans_search_net_near a_this_plans_search_net_beside a_this_sheets_e a_this_sheets_items_e q_hasImage q_now_nodes q_now_clean q_now_guards q_now_kind q_now_team q_now_draw q_now_near q_plans_search_net_nodes q_plans_search_net_all q_plans_search_net_edition q_plans_search_net_beside q_plans_search_net_near q_sheets_lane q_sheets_length q_sheets_items x1 x2 x3 x4 res H locs (F0 m 100 ls []))) (n : Nat) (v64 : Int32) (H : Heap) (locs : List Loc) (ls : Array Slot), itL (bX7_allowed_64 q_now_nodes q_now_team q_now_near q_sheets_lane q_sheets_length q_sheets_items 1 y64_3 y64_4 k64_q_plans_search_net_nodes k64_q_plans_search_net_all k64_q_plans_search_net_edition k64_q_plans_search_net_beside k64_q_plans_search_net_near) n v64 = some ex64 → wd D (ty4 cI cL cS cH) s (va_A (wX7_allowed cI cL cS cH a_this a_this_now a_this_past a_this_kept a_this_keptPast a_this_plans a_this_plans_search_net a_this_tape a_this_sheets a_this_now_near a_this_plans_search_net_near a_this_plans_search_net_beside a_this_sheets_e a_this_sheets_items_e q_hasImage q_now_nodes q_now_clean q_now_guards q_now_kind q_now_team q_now_draw q_now_near q_plans_search_net_nodes q_plans_search_net_all q_plans_search_net_edition q_plans_search_net_beside q_plans_search_net_near q_sheets_lane q_sheets_length q_sheets_items) s.heap.size) s.heap H locs (wX7_allowed cI cL cS cH a_this a_this_now a_this_past a_this_kept a_this_keptPast a_this_plans a_this_plans_search_net a_this_tape a_this_sheets a_this_now_near a_this_plans_search_net_near a_this_plans_search_net_beside a_this_sheets_e a_this_sheets_items_e q_hasImage q_now_nodes q_now_clean q_now_guards q_now_kind q_now_team q_now_draw q_now_near k64_q_plans_search_net_nodes k64_q_plans_search_net_all k64_q_plans_search_net_edition k64_q_plans_search_net_beside k64_q_plans_search_net_near q_sheets_lane q_sheets_length q_sheets_items) → lv_has ls 9 [(0, .ref a_this), (3, .int y64_3), (4, .int y64_4), (5, .ref (a_this_sheets_e 1)), (7, .int v64)] → gX7_allowed p l e s m below meth c D cI cL cS cH a_this a_this_now a_this_past a_this_kept a_this_keptPast a_this_plans a_this_plans_search_net a_this_tape a_this_sheets a_this_now_near a_this_plans_search_net_near a_this_plans_search_net_beside a_this_sheets_e a_this_sheets_items_e q_hasImage q_now_nodes q_now_clean q_now_guards q_now_kind q_now_team q_now_draw q_now_near q_plans_search_net_nodes q_plans_search_net_all q_plans_search_net_edition q_plans_search_net_beside q_plans_search_net_near q_sheets_lane q_sheets_length q_sheets_items x1 x2 x3 x4 res H locs (F0 m 64 ls []) := by
              intro y64_3 y64_4 k64_q_plans_search_net_nodes k64_q_plans_search_net_all k64_q_plans_search_net_edition k64_q_plans_search_net_beside k64_q_plans_search_net_near ex64 hk n
              induction n with
              | zero => intro v64 H locs ls hi w hl; exact (itL_zero hi).elim
              | succ n ih =>
                intro v64 H locs ls hi w hl
                obtain ⟨o, hf, hn⟩ := itL_succ hi
                unfold bX7_allowed_64 at hf
                refine lv_iload C.1 C.2.1 dX7_allowed_64 (lv_at hl 4 rfl) ?_
                refine lv_iload_n C.1 C.2.1 dX7_allowed_66 rfl (lv_at hl 1 rfl) ?_
                refine lv_iload C.1 C.2.1 dX7_allowed_67 (lv_at hl 2 rfl) ?_
                refine lv_iadd C.1 C.2.1 dX7_allowed_69 ?_
                refine lv_icmp_ge (tgt := 100) C.1 C.2.1 dX7_allowed_70 (by decide) (fun hq15 => ?_) (fun hq15 => ?_)
                · have hf := ite_t hf hq15
                  obtain rfl := Option.some.inj hf
                  obtain rfl := hn
                  exact hk _ _ _ w (lv_sub hl [0, 1, 2, 3] rfl)
                · have hf := ite_f hf hq15
                  refine lv_aload_n C.1 C.2.1 dX7_allowed_73 rfl (lv_at hl 0 rfl) ?_
                  refine r_get C w inX7_allowed_X7 0 rfl rfl 6 (by decide) lkX7_allowed_44 rfl dX7_allowed_74 ?_
                  refine lv_aload C.1 C.2.1 dX7_allowed_77 (lv_at hl 3 rfl) ?_
                  refine r_get C w inX7_allowed_X4 9 rfl rfl 2 (by decide) lkX7_allowed_212 rfl dX7_allowed_79 ?_
                  refine lv_iload C.1 C.2.1 dX7_allowed_82 (lv_at hl 4 rfl) ?_
                  obtain ⟨y16, hy17, hf⟩ := bd hf
                  refine r_lald C w 10 1 rfl rfl (rd_in hy17) dX7_allowed_84 ?_
                  obtain ⟨r18, hc19, hf⟩ := bd hf
                  refine call_Vi (ws' := (wX7_allowed cI cL cS cH a_this a_this_now a_this_past a_this_kept a_this_keptPast a_this_plans a_this_plans_search_net a_this_tape a_this_sheets a_this_now_near a_this_plans_search_net_near a_this_plans_search_net_beside a_this_sheets_e a_this_sheets_items_e q_hasImage q_now_nodes q_now_clean q_now_guards q_now_kind q_now_team q_now_draw q_now_near k64_q_plans_search_net_nodes k64_q_plans_search_net_all k64_q_plans_search_net_edition k64_q_plans_search_net_beside k64_q_plans_search_net_near q_sheets_lane q_sheets_length q_sheets_items)) (rest := []) C w (mX0_isAct l D cI cL cS cH _ a_this_plans_search_net a_this_plans_search_net_near a_this_plans_search_net_beside k64_q_plans_search_net_nodes k64_q_plans_search_net_all k64_q_plans_search_net_edition y16 hc19) (cwV 1 C.2.2.2.2 gX7_allowed_X0_isAct rfl rfl rfl (by decide +kernel) ⟨Nat.le_of_ble_eq_true rfl, Nat.le_of_ble_eq_true rfl⟩) [3] [0, 1, 2, 4, 5, 6, 7, 8, 9, 10, 11, 12, 13, 14] 15 ⟨rfl, trivial⟩ ⟨rfl, trivial⟩ ⟨⟨_, rfl, rfl⟩, ⟨_, rfl, rfl⟩, ⟨_, rfl, rfl⟩, ⟨_, rfl, rfl⟩, ⟨_, rfl, rfl⟩, ⟨_, rfl, rfl⟩, ⟨_, rfl, rfl⟩, ⟨_, rfl, rfl⟩, ⟨_, rfl, rfl⟩, ⟨_, rfl, rfl⟩, ⟨_, rfl, rfl⟩, ⟨_, rfl, rfl⟩, ⟨_, rfl, rfl⟩, ⟨_, rfl, rfl⟩, trivial⟩ rfl (by decide) (by decide) (ci := 0) (q0 := 3) rfl rfl rfl hl.1 rfl (lv_room (Nat.le_of_ble_eq_true rfl)) dX7_allowed_85 ⟨Nat.zero_le _, Nat.zero_le _⟩ (fun H locs w => ?_)
                  refine lv_if_ne (tgt := 94) C.1 C.2.1 dX7_allowed_88 (by decide) (fun hq20 => ?_) (fun hq20 => ?_)
                  · have hf := ite_f hf hq20
                    refine lv_iinc (v := (v64 + (1 : Int32))) (lv' := [(7, .int (v64 + (1 : Int32))), (0, .ref a_this), (3, .int y64_3), (4, .int y64_4), (5, .ref (a_this_sheets_e 1))]) C.1 C.2.1 dX7_allowed_94 hl (k := 4) rfl rfl (by decide) rfl (fun ls hl => ?_)
                    refine lv_goto (tgt := 64) C.1 C.2.1 dX7_allowed_97 (by decide) ?_
                    obtain rfl := Option.some.inj hf
                    exact ih (v64 + (1 : Int32)) _ _ _ hn w (lv_sub hl [1, 2, 3, 4, 0] rfl)
                  · have hf := ite_t hf hq20
                    refine lv_bipush (v := (-2 : Int32)) C.1 C.2.1 dX7_allowed_91 (by decide) ?_
                    obtain rfl := Option.some.inj hf
                    obtain rfl := hn
                    have hres : _ = res := hk
                    subst hres
                    exact ret_i C hr hlocks w rfl dX7_allowed_93
            refine lv_astore (lv' := [(5, .ref (a_this_sheets_e 1)), (0, .ref a_this), (1, .int x1), (2, .int x2), (3, .int x3), (4, .int x4)]) C.1 C.2.1 dX7_allowed_35 hl (by decide) rfl (fun ls hl => ?_)
            refine lv_aload C.1 C.2.1 dX7_allowed_37 (lv_at hl 0 rfl) ?_
            refine lv_iload_n C.1 C.2.1 dX7_allowed_39 rfl (lv_at hl 3 rfl) ?_
            refine lv_iload_n C.1 C.2.1 dX7_allowed_40 rfl (lv_at hl 4 rfl) ?_
            refine lv_iload C.1 C.2.1 dX7_allowed_41 (lv_at hl 5 rfl) ?_
            obtain ⟨r21, hc22, hf⟩ := bd hf
            refine call_Vi (ws' := (wX7_allowed cI cL cS cH a_this a_this_now a_this_past a_this_kept a_this_keptPast a_this_plans a_this_plans_search_net a_this_tape a_this_sheets a_this_now_near a_this_plans_search_net_near a_this_plans_search_net_beside a_this_sheets_e a_this_sheets_items_e q_hasImage q_now_nodes q_now_clean q_now_guards q_now_kind q_now_team q_now_draw q_now_near q_plans_search_net_nodes q_plans_search_net_all q_plans_search_net_edition q_plans_search_net_beside q_plans_search_net_near q_sheets_lane q_sheets_length q_sheets_items)) (rest := []) C w (mX4_wrongAs l D cI cL cS cH _ (a_this_sheets_e 1) (a_this_sheets_items_e 1) (q_sheets_lane 1) (q_sheets_length 1) x2 x3 x4 hc22) (cwV 3 C.2.2.2.2 gX7_allowed_X4_wrongAs rfl rfl rfl (by decide +kernel) ⟨Nat.le_of_ble_eq_true rfl, Nat.le_of_ble_eq_true rfl⟩) [9] [0, 1, 2, 3, 4, 5, 6, 7, 8, 10, 11, 12, 13, 14] 15 ⟨rfl, trivial⟩ ⟨rfl, trivial⟩ ⟨⟨_, rfl, rfl⟩, ⟨_, rfl, rfl⟩, ⟨_, rfl, rfl⟩, ⟨_, rfl, rfl⟩, ⟨_, rfl, rfl⟩, ⟨_, rfl, rfl⟩, ⟨_, rfl, rfl⟩, ⟨_, rfl, rfl⟩, ⟨_, rfl, rfl⟩, ⟨_, rfl, rfl⟩, ⟨_, rfl, rfl⟩, ⟨_, rfl, rfl⟩, ⟨_, rfl, rfl⟩, ⟨_, rfl, rfl⟩, trivial⟩ rfl (by decide) (by decide) (ci := 4) (q0 := 9) rfl rfl rfl hl.1 rfl (lv_room (Nat.le_of_ble_eq_true rfl)) dX7_allowed_43 ⟨Nat.zero_le _, Nat.zero_le _⟩ (fun H locs w => ?_)
            refine lv_istore (lv' := [(6, .int r21), (5, .ref (a_this_sheets_e 1)), (0, .ref a_this), (1, .int x1), (2, .int x2), (3, .int x3), (4, .int x4)]) C.1 C.2.1 dX7_allowed_46 hl (by decide) rfl (fun ls hl => ?_)
            refine lv_iload C.1 C.2.1 dX7_allowed_48 (lv_at hl 0 rfl) ?_
            refine lv_if_eq (tgt := 56) C.1 C.2.1 dX7_allowed_50 (by decide) (fun hq23 => ?_) (fun hq23 => ?_)
            · have hf := ite_t hf hq23
              refine lv_aload_n C.1 C.2.1 dX7_allowed_56 rfl (lv_at hl 2 rfl) ?_
              obtain ⟨r24, hc25, hf⟩ := bd hf
              refine call_Vr (ws' := (wX7_allowed cI cL cS cH a_this a_this_now a_this_past a_this_kept a_this_keptPast a_this_plans a_this_plans_search_net a_this_tape a_this_sheets a_this_now_near a_this_plans_search_net_near a_this_plans_search_net_beside a_this_sheets_e a_this_sheets_items_e q_hasImage q_now_nodes q_now_clean q_now_guards q_now_kind q_now_team q_now_draw q_now_near r24.1 r24.2.1 r24.2.2.1 r24.2.2.2.1 r24.2.2.2.2 q_sheets_lane q_sheets_length q_sheets_items)) (rest := []) C w (mX7_currentNet l D cI cL cS cH _ a_this a_this_now a_this_past a_this_kept a_this_keptPast a_this_plans a_this_plans_search_net a_this_tape a_this_sheets a_this_now_near a_this_plans_search_net_near a_this_plans_search_net_beside q_hasImage q_now_nodes q_now_clean q_now_guards q_now_kind q_now_team q_now_draw q_now_near q_plans_search_net_nodes q_plans_search_net_all q_plans_search_net_edition q_plans_search_net_beside q_plans_search_net_near hc25) (cwV 0 C.2.2.2.2 gX7_allowed_X7_currentNet rfl rfl rfl (by decide +kernel) ⟨Nat.le_of_ble_eq_true rfl, Nat.le_of_ble_eq_true rfl⟩) [0, 1, 2, 3, 4, 5] [6, 7, 8, 9, 10, 11, 12, 13, 14] 15 ⟨rfl, rfl, rfl, rfl, rfl, rfl, trivial⟩ ⟨rfl, rfl, rfl, rfl, rfl, rfl, trivial⟩ ⟨⟨_, rfl, rfl⟩, ⟨_, rfl, rfl⟩, ⟨_, rfl, rfl⟩, ⟨_, rfl, rfl⟩, ⟨_, rfl, rfl⟩, ⟨_, rfl, rfl⟩, ⟨_, rfl, rfl⟩, ⟨_, rfl, rfl⟩, ⟨_, rfl, rfl⟩, trivial⟩ rfl (by decide) (by decide) (ci := 7) (q0 := 0) rfl rfl rfl hl.1 rfl (lv_room (Nat.le_of_ble_eq_true rfl)) dX7_allowed_57 ⟨Nat.zero_le _, Nat.zero_le _⟩ (fun H locs w => ?_)
              refine lv_pop C.1 C.2.1 dX7_allowed_60 rfl ?_
              refine lv_iload_n C.1 C.2.1 dX7_allowed_61 rfl (lv_at hl 5 rfl) ?_
              refine lv_istore (lv' := [(7, .int x3), (6, .int r21), (5, .ref (a_this_sheets_e 1)), (0, .ref a_this), (1, .int x1), (2, .int x2), (3, .int x3), (4, .int x4)]) C.1 C.2.1 dX7_allowed_62 hl (by decide) rfl (fun ls hl => ?_)
              obtain ⟨ex26, hx27, hf⟩ := bd hf
              rcases ex26 with ex26 | ex26
              · have hf := se_l hf
                have hres := Option.some.inj hf
                exact hlp64 x3 x4 r24.1 r24.2.1 r24.2.2.1 r24.2.2.2.1 r24.2.2.2.2 (.inl ex26) hres fu x3 _ _ _ hx27 w (lv_sub hl [3, 6, 7, 2, 0] rfl)
              · have hf := se_r hf
                refine hlp64 x3 x4 r24.1 r24.2.1 r24.2.2.1 r24.2.2.2.1 r24.2.2.2.2 (.inr ex26) ?_ fu x3 _ _ _ hx27 w (lv_sub hl [3, 6, 7, 2, 0] rfl)
                intro H locs ls w hl
                refine lv_iconst (v := (0 : Int32)) C.1 C.2.1 dX7_allowed_100 (by decide) ?_
                refine lv_istore (lv' := [(7, .int (0 : Int32)), (0, .ref a_this), (3, .int x3), (4, .int x4), (5, .ref (a_this_sheets_e 1))]) C.1 C.2.1 dX7_allowed_101 hl (by decide) rfl (fun ls hl => ?_)
                refine lv_iconst (v := (0 : Int32)) C.1 C.2.1 dX7_allowed_103 (by decide) ?_
                refine lv_istore (lv' := [(8, .int (0 : Int32)), (7, .int (0 : Int32)), (0, .ref a_this), (3, .int x3), (4, .int x4), (5, .ref (a_this_sheets_e 1))]) C.1 C.2.1 dX7_allowed_104 hl (by decide) rfl (fun ls hl => ?_)
                obtain ⟨ex28, hx29, hf⟩ := bd hf
                refine hlp106 x3 x4 r24.1 r24.2.1 r24.2.2.1 r24.2.2.2.1 r24.2.2.2.2 ex28 ?_ fu ((0 : Int32), (0 : Int32)) _ _ _ hx29 w (lv_sub hl [2, 3, 4, 5, 1, 0] rfl)
                intro H locs ls w hl
                refine lv_iload C.1 C.2.1 dX7_allowed_141 (lv_at hl 0 rfl) ?_
                have hres := Option.some.inj hf
                subst hres
                exact ret_i C hr hlocks w rfl dX7_allowed_143
            · have hf := ite_f hf hq23
              refine lv_iload C.1 C.2.1 dX7_allowed_53 (lv_at hl 0 rfl) ?_
              have hres := Option.some.inj hf
              subst hres
              exact ret_i C hr hlocks w rfl dX7_allowed_55
          · refine r_aald (v := (a_this_sheets_e 2)) C w 6 3 rfl rfl (by rw [hx34]; exact ⟨inb_in (by decide), rfl⟩) dX7_allowed_34 ?_
            have hlp106 : ∀ (y106_3 : Int32) (y106_4 : Int32) (k106_q_plans_search_net_nodes : Int32) (k106_q_plans_search_net_all : Int32) (k106_q_plans_search_net_edition : Int32) (k106_q_plans_search_net_beside : Nat → Int32) (k106_q_plans_search_net_near : Nat → Int32) (ex106 : Int32 × Int32) (hk : (∀ (H : Heap) (locs : List Loc) (ls : Array Slot), wd D (ty4 cI cL cS cH) s (va_A (wX7_allowed cI cL cS cH a_this a_this_now a_this_past a_this_kept a_this_keptPast a_this_plans a_this_plans_search_net a_this_tape a_this_sheets a_this_now_near a_this_plans_search_net_near a_this_plans_search_net_beside a_this_sheets_e a_this_sheets_items_e q_hasImage q_now_nodes q_now_clean q_now_guards q_now_kind q_now_team q_now_draw q_now_near q_plans_search_net_nodes q_plans_search_net_all q_plans_search_net_edition q_plans_search_net_beside q_plans_search_net_near q_sheets_lane q_sheets_length q_sheets_items) s.heap.size) s.heap H locs (wX7_allowed cI cL cS cH a_this a_this_now a_this_past a_this_kept a_this_keptPast a_this_plans a_this_plans_search_net a_this_tape a_this_sheets a_this_now_near a_this_plans_search_net_near a_this_plans_search_net_beside a_this_sheets_e a_this_sheets_items_e q_hasImage q_now_nodes q_now_clean q_now_guards q_now_kind q_now_team q_now_draw q_now_near k106_q_plans_search_net_nodes k106_q_plans_search_net_all k106_q_plans_search_net_edition k106_q_plans_search_net_beside k106_q_plans_search_net_near q_sheets_lane q_sheets_length q_sheets_items) → lv_has ls 9 [(7, .int ex106.1)] → gX7_allowed p l e s m below meth c D cI cL cS cH a_this a_this_now a_this_past a_this_kept a_this_keptPast a_this_plans a_this_plans_search_net a_this_tape a_this_sheets a_this_now_near a_this_plans_search_net_near a_this_plans_search_net_beside a_this_sheets_e a_this_sheets_items_e q_hasImage q_now_nodes q_now_clean q_now_guards q_now_kind q_now_team q_now_draw q_now_near q_plans_search_net_nodes q_plans_search_net_all q_plans_search_net_edition q_plans_search_net_beside q_plans_search_net_near q_sheets_lane q_sheets_length q_sheets_items x1 x2 x3 x4 res H locs (F0 m 141 ls []))) (n : Nat) (v106 : Int32 × Int32) (H : Heap) (locs : List Loc) (ls : Array Slot), itL (bX7_allowed_106 q_now_nodes q_now_team q_now_near q_sheets_lane q_sheets_length q_sheets_items 2 y106_3 y106_4 k106_q_plans_search_net_nodes k106_q_plans_search_net_all k106_q_plans_search_net_edition k106_q_plans_search_net_beside k106_q_plans_search_net_near) n v106 = some ex106 → wd D (ty4 cI cL cS cH) s (va_A (wX7_allowed cI cL cS cH a_this a_this_now a_this_past a_this_kept a_this_keptPast a_this_plans a_this_plans_search_net a_this_tape a_this_sheets a_this_now_near a_this_plans_search_net_near a_this_plans_search_net_beside a_this_sheets_e a_this_sheets_items_e q_hasImage q_now_nodes q_now_clean q_now_guards q_now_kind q_now_team q_now_draw q_now_near q_plans_search_net_nodes q_plans_search_net_all q_plans_search_net_edition q_plans_search_net_beside q_plans_search_net_near q_sheets_lane q_sheets_length q_sheets_items) s.heap.size) s.heap H locs (wX7_allowed cI cL cS cH a_this a_this_now a_this_past a_this_kept a_this_keptPast a_this_plans a_this_plans_search_net a_this_tape a_this_sheets a_this_now_near a_this_plans_search_net_near a_this_plans_search_net_beside a_this_sheets_e a_this_sheets_items_e q_hasImage q_now_nodes q_now_clean q_now_guards q_now_kind q_now_team q_now_draw q_now_near k106_q_plans_search_net_nodes k106_q_plans_search_net_all k106_q_plans_search_net_edition k106_q_plans_search_net_beside k106_q_plans_search_net_near q_sheets_lane q_sheets_length q_sheets_items) → lv_has ls 9 [(0, .ref a_this), (3, .int y106_3), (4, .int y106_4), (5, .ref (a_this_sheets_e 2)), (7, .int v106.1), (8, .int v106.2)] → gX7_allowed p l e s m below meth c D cI cL cS cH a_this a_this_now a_this_past a_this_kept a_this_keptPast a_this_plans a_this_plans_search_net a_this_tape a_this_sheets a_this_now_near a_this_plans_search_net_near a_this_plans_search_net_beside a_this_sheets_e a_this_sheets_items_e q_hasImage q_now_nodes q_now_clean q_now_guards q_now_kind q_now_team q_now_draw q_now_near q_plans_search_net_nodes q_plans_search_net_all q_plans_search_net_edition q_plans_search_net_beside q_plans_search_net_near q_sheets_lane q_sheets_length q_sheets_items x1 x2 x3 x4 res H locs (F0 m 106 ls []) := by
              intro y106_3 y106_4 k106_q_plans_search_net_nodes k106_q_plans_search_net_all k106_q_plans_search_net_edition k106_q_plans_search_net_beside k106_q_plans_search_net_near ex106 hk n
              induction n with
              | zero => intro v106 H locs ls hi w hl; exact (itL_zero hi).elim
              | succ n ih =>
                intro v106 H locs ls hi w hl
                obtain ⟨o, hf, hn⟩ := itL_succ hi
                unfold bX7_allowed_106 at hf
                have hj135 : ∀ (y135_7 : Int32) (y135_8 : Int32) (H : Heap) (locs : List Loc) (ls : Array Slot), wd D (ty4 cI cL cS cH) s (va_A (wX7_allowed cI cL cS cH a_this a_this_now a_this_past a_this_kept a_this_keptPast a_this_plans a_this_plans_search_net a_this_tape a_this_sheets a_this_now_near a_this_plans_search_net_near a_this_plans_search_net_beside a_this_sheets_e a_this_sheets_items_e q_hasImage q_now_nodes q_now_clean q_now_guards q_now_kind q_now_team q_now_draw q_now_near q_plans_search_net_nodes q_plans_search_net_all q_plans_search_net_edition q_plans_search_net_beside q_plans_search_net_near q_sheets_lane q_sheets_length q_sheets_items) s.heap.size) s.heap H locs (wX7_allowed cI cL cS cH a_this a_this_now a_this_past a_this_kept a_this_keptPast a_this_plans a_this_plans_search_net a_this_tape a_this_sheets a_this_now_near a_this_plans_search_net_near a_this_plans_search_net_beside a_this_sheets_e a_this_sheets_items_e q_hasImage q_now_nodes q_now_clean q_now_guards q_now_kind q_now_team q_now_draw q_now_near k106_q_plans_search_net_nodes k106_q_plans_search_net_all k106_q_plans_search_net_edition k106_q_plans_search_net_beside k106_q_plans_search_net_near q_sheets_lane q_sheets_length q_sheets_items) → lv_has ls 9 [(0, .ref a_this), (3, .int y106_3), (4, .int y106_4), (5, .ref (a_this_sheets_e 2)), (7, .int y135_7), (8, .int y135_8)] → jX7_allowed_135 q_now_nodes q_now_team q_now_near q_sheets_lane q_sheets_length q_sheets_items 2 y106_3 y106_4 y135_7 y135_8 k106_q_plans_search_net_nodes k106_q_plans_search_net_all k106_q_plans_search_net_edition k106_q_plans_search_net_beside k106_q_plans_search_net_near = some o → gX7_allowed p l e s m below meth c D cI cL cS cH a_this a_this_now a_this_past a_this_kept a_this_keptPast a_this_plans a_this_plans_search_net a_this_tape a_this_sheets a_this_now_near a_this_plans_search_net_near a_this_plans_search_net_beside a_this_sheets_e a_this_sheets_items_e q_hasImage q_now_nodes q_now_clean q_now_guards q_now_kind q_now_team q_now_draw q_now_near q_plans_search_net_nodes q_plans_search_net_all q_plans_search_net_edition q_plans_search_net_beside q_plans_search_net_near q_sheets_lane q_sheets_length q_sheets_items x1 x2 x3 x4 res H locs (F0 m 135 ls []) := by
                  intro y135_7 y135_8 H locs ls w hl hf
                  unfold jX7_allowed_135 at hf
                  refine lv_iinc (v := (y135_8 + (1 : Int32))) (lv' := [(8, .int (y135_8 + (1 : Int32))), (0, .ref a_this), (3, .int y106_3), (4, .int y106_4), (5, .ref (a_this_sheets_e 2)), (7, .int y135_7)]) C.1 C.2.1 dX7_allowed_135 hl (k := 5) rfl rfl (by decide) rfl (fun ls hl => ?_)
                  refine lv_goto (tgt := 106) C.1 C.2.1 dX7_allowed_138 (by decide) ?_
                  obtain rfl := Option.some.inj hf
                  exact ih (y135_7, (y135_8 + (1 : Int32))) _ _ _ hn w (lv_sub hl [1, 2, 3, 4, 5, 0] rfl)
                refine lv_iload C.1 C.2.1 dX7_allowed_106 (lv_at hl 5 rfl) ?_
                refine lv_iconst (v := (3 : Int32)) C.1 C.2.1 dX7_allowed_108 (by decide) ?_
                refine lv_icmp_ge (tgt := 141) C.1 C.2.1 dX7_allowed_109 (by decide) (fun hq9 => ?_) (fun hq9 => ?_)
                · have hf := ite_t hf hq9
                  obtain rfl := Option.some.inj hf
                  obtain rfl := hn
                  exact hk _ _ _ w (lv_sub hl [4] rfl)
                · have hf := ite_f hf hq9
                  refine lv_aload_n C.1 C.2.1 dX7_allowed_112 rfl (lv_at hl 0 rfl) ?_
                  refine lv_aload C.1 C.2.1 dX7_allowed_113 (lv_at hl 3 rfl) ?_
                  refine lv_iload_n C.1 C.2.1 dX7_allowed_115 rfl (lv_at hl 1 rfl) ?_
                  refine lv_iload C.1 C.2.1 dX7_allowed_116 (lv_at hl 2 rfl) ?_
                  refine lv_iload C.1 C.2.1 dX7_allowed_118 (lv_at hl 5 rfl) ?_
                  obtain ⟨r10, hc11, hf⟩ := bd hf
                  refine call_Vi (ws' := (wX7_allowed cI cL cS cH a_this a_this_now a_this_past a_this_kept a_this_keptPast a_this_plans a_this_plans_search_net a_this_tape a_this_sheets a_this_now_near a_this_plans_search_net_near a_this_plans_search_net_beside a_this_sheets_e a_this_sheets_items_e q_hasImage q_now_nodes q_now_clean q_now_guards q_now_kind q_now_team q_now_draw q_now_near k106_q_plans_search_net_nodes k106_q_plans_search_net_all k106_q_plans_search_net_edition k106_q_plans_search_net_beside k106_q_plans_search_net_near q_sheets_lane q_sheets_length q_sheets_items)) (rest := []) C w (mX7_allAllowed l D cI cL cS cH _ (a_this_sheets_e 2) (a_this_sheets_items_e 2) a_this a_this_now a_this_past a_this_kept a_this_keptPast a_this_plans a_this_plans_search_net a_this_tape a_this_sheets a_this_now_near a_this_plans_search_net_near a_this_plans_search_net_beside (q_sheets_lane 2) (q_sheets_length 2) (q_sheets_items 2) q_hasImage q_now_nodes q_now_clean q_now_guards q_now_kind q_now_team q_now_draw k106_q_plans_search_net_nodes k106_q_plans_search_net_all k106_q_plans_search_net_edition k106_q_plans_search_net_beside k106_q_plans_search_net_near y106_3 y106_4 v106.2 hc11) (cwV 4 C.2.2.2.2 gX7_allowed_X7_allAllowed rfl rfl rfl (by decide +kernel) ⟨Nat.le_of_ble_eq_true rfl, Nat.le_of_ble_eq_true rfl⟩) [11, 12, 0, 1, 3, 4, 5] [2, 6, 7, 8, 9, 10, 13, 14] 15 ⟨rfl, rfl, rfl, rfl, rfl, rfl, rfl, trivial⟩ ⟨rfl, rfl, rfl, rfl, rfl, rfl, rfl, trivial⟩ ⟨⟨_, rfl, rfl⟩, ⟨_, rfl, rfl⟩, ⟨_, rfl, rfl⟩, ⟨_, rfl, rfl⟩, ⟨_, rfl, rfl⟩, ⟨_, rfl, rfl⟩, ⟨_, rfl, rfl⟩, ⟨_, rfl, rfl⟩, trivial⟩ rfl (by decide) (by decide) (ci := 7) (q0 := 0) rfl rfl rfl hl.1 rfl (lv_room (Nat.le_of_ble_eq_true rfl)) dX7_allowed_120 ⟨Nat.zero_le _, Nat.zero_le _⟩ (fun H locs w => ?_)
                  refine lv_if_eq (tgt := 135) C.1 C.2.1 dX7_allowed_123 (by decide) (fun hq12 => ?_) (fun hq12 => ?_)
                  · have hf := ite_t hf hq12
                    exact hj135 v106.1 v106.2 _ _ _ w (lv_sub hl [0, 1, 2, 3, 4, 5] rfl) hf
                  · have hf := ite_f hf hq12
                    refine lv_iload C.1 C.2.1 dX7_allowed_126 (lv_at hl 4 rfl) ?_
                    refine lv_iconst (v := (1 : Int32)) C.1 C.2.1 dX7_allowed_128 (by decide) ?_
                    refine lv_iload C.1 C.2.1 dX7_allowed_129 (lv_at hl 5 rfl) ?_
                    refine lv_ishl C.1 C.2.1 dX7_allowed_131 ?_
                    refine lv_ior C.1 C.2.1 dX7_allowed_132 ?_
                    obtain ⟨y13, hy14, hf⟩ := bnd_e hf
                    refine lt_topi hy14 ?_
                    refine lv_istore (lv' := [(7, .int y13), (0, .ref a_this), (3, .int y106_3), (4, .int y106_4), (5, .ref (a_this_sheets_e 2)), (8, .int v106.2)]) C.1 C.2.1 dX7_allowed_133 hl (by decide) rfl (fun ls hl => ?_)
                    exact hj135 y13 v106.2 _ _ _ w (lv_sub hl [1, 2, 3, 4, 0, 5] rfl) hf
            have hlp64 : ∀ (y64_3 : Int32) (y64_4 : Int32) (k64_q_plans_search_net_nodes : Int32) (k64_q_plans_search_net_all : Int32) (k64_q_plans_search_net_edition : Int32) (k64_q_plans_search_net_beside : Nat → Int32) (k64_q_plans_search_net_near : Nat → Int32) (ex64 : (Int32 × Int32 × Int32 × Int32 × (Nat → Int32) × (Nat → Int32)) ⊕ (Int32)) (hk : (match ex64 with | .inl r => r = res | .inr u => ∀ (H : Heap) (locs : List Loc) (ls : Array Slot), wd D (ty4 cI cL cS cH) s (va_A (wX7_allowed cI cL cS cH a_this a_this_now a_this_past a_this_kept a_this_keptPast a_this_plans a_this_plans_search_net a_this_tape a_this_sheets a_this_now_near a_this_plans_search_net_near a_this_plans_search_net_beside a_this_sheets_e a_this_sheets_items_e q_hasImage q_now_nodes q_now_clean q_now_guards q_now_kind q_now_team q_now_draw q_now_near q_plans_search_net_nodes q_plans_search_net_all q_plans_search_net_edition q_plans_search_net_beside q_plans_search_net_near q_sheets_lane q_sheets_length q_sheets_items) s.heap.size) s.heap H locs (wX7_allowed cI cL cS cH a_this a_this_now a_this_past a_this_kept a_this_keptPast a_this_plans a_this_plans_search_net a_this_tape a_this_sheets a_this_now_near a_this_plans_search_net_near a_this_plans_search_net_beside a_this_sheets_e a_this_sheets_items_e q_hasImage q_now_nodes q_now_clean q_now_guards q_now_kind q_now_team q_now_draw q_now_near k64_q_plans_search_net_nodes k64_q_plans_search_net_all k64_q_plans_search_net_edition k64_q_plans_search_net_beside k64_q_plans_search_net_near q_sheets_lane q_sheets_length q_sheets_items) → lv_has ls 9 [(0, .ref a_this), (3, .int y64_3), (4, .int y64_4), (5, .ref (a_this_sheets_e 2))] → gX7_allowed p l e s m below meth c D cI cL cS cH a_this a_this_now a_this_past a_this_kept a_this_keptPast a_this_plans a_this_plans_search_net a_this_tape a_this_sheets a_this_now_near a_this_plans_search_net_near a_this_plans_search_net_beside a_this_sheets_e a_this_sheets_items_e q_hasImage q_now_nodes q_now_clean q_now_guards q_now_kind q_now_team q_now_draw q_now_near q_plans_search_net_nodes q_plans_search_net_all q_plans_search_net_edition q_plans_search_net_beside q_plans_search_net_near q_sheets_lane q_sheets_length q_sheets_items x1 x2 x3 x4 res H locs (F0 m 100 ls []))) (n : Nat) (v64 : Int32) (H : Heap) (locs : List Loc) (ls : Array Slot), itL (bX7_allowed_64 q_now_nodes q_now_team q_now_near q_sheets_lane q_sheets_length q_sheets_items 2 y64_3 y64_4 k64_q_plans_search_net_nodes k64_q_plans_search_net_all k64_q_plans_search_net_edition k64_q_plans_search_net_beside k64_q_plans_search_net_near) n v64 = some ex64 → wd D (ty4 cI cL cS cH) s (va_A (wX7_allowed cI cL cS cH a_this a_this_now a_this_past a_this_kept a_this_keptPast a_this_plans a_this_plans_search_net a_this_tape a_this_sheets a_this_now_near a_this_plans_search_net_near a_this_plans_search_net_beside a_this_sheets_e a_this_sheets_items_e q_hasImage q_now_nodes q_now_clean q_now_guards q_now_kind q_now_team q_now_draw q_now_near q_plans_search_net_nodes q_plans_search_net_all q_plans_search_net_edition q_plans_search_net_beside q_plans_search_net_near q_sheets_lane q_sheets_length q_sheets_items) s.heap.size) s.heap H locs (wX7_allowed cI cL cS cH a_this a_this_now a_this_past a_this_kept a_this_keptPast a_this_plans a_this_plans_search_net a_this_tape a_this_sheets a_this_now_near a_this_plans_search_net_near a_this_plans_search_net_beside a_this_sheets_e a_this_sheets_items_e q_hasImage q_now_nodes q_now_clean q_now_guards q_now_kind q_now_team q_now_draw q_now_near k64_q_plans_search_net_nodes k64_q_plans_search_net_all k64_q_plans_search_net_edition k64_q_plans_search_net_beside k64_q_plans_search_net_near q_sheets_lane q_sheets_length q_sheets_items) → lv_has ls 9 [(0, .ref a_this), (3, .int y64_3), (4, .int y64_4), (5, .ref (a_this_sheets_e 2)), (7, .int v64)] → gX7_allowed p l e s m below meth c D cI cL cS cH a_this a_this_now a_this_past a_this_kept a_this_keptPast a_this_plans a_this_plans_search_net a_this_tape a_this_sheets a_this_now_near a_this_plans_search_net_near a_this_plans_search_net_beside a_this_sheets_e a_this_sheets_items_e q_hasImage q_now_nodes q_now_clean q_now_guards q_now_kind q_now_team q_now_draw q_now_near q_plans_search_net_nodes q_plans_search_net_all q_plans_search_net_edition q_plans_search_net_beside q_plans_search_net_near q_sheets_lane q_sheets_length q_sheets_items x1 x2 x3 x4 res H locs (F0 m 64 ls []) := by
              intro y64_3 y64_4 k64_q_plans_search_net_nodes k64_q_plans_search_net_all k64_q_plans_search_net_edition k64_q_plans_search_net_beside k64_q_plans_search_net_near ex64 hk n
              induction n with
              | zero => intro v64 H locs ls hi w hl; exact (itL_zero hi).elim
              | succ n ih =>
                intro v64 H locs ls hi w hl
                obtain ⟨o, hf, hn⟩ := itL_succ hi
                unfold bX7_allowed_64 at hf
                refine lv_iload C.1 C.2.1 dX7_allowed_64 (lv_at hl 4 rfl) ?_
                refine lv_iload_n C.1 C.2.1 dX7_allowed_66 rfl (lv_at hl 1 rfl) ?_
                refine lv_iload C.1 C.2.1 dX7_allowed_67 (lv_at hl 2 rfl) ?_
                refine lv_iadd C.1 C.2.1 dX7_allowed_69 ?_
                refine lv_icmp_ge (tgt := 100) C.1 C.2.1 dX7_allowed_70 (by decide) (fun hq15 => ?_) (fun hq15 => ?_)
                · have hf := ite_t hf hq15
                  obtain rfl := Option.some.inj hf
                  obtain rfl := hn
                  exact hk _ _ _ w (lv_sub hl [0, 1, 2, 3] rfl)
                · have hf := ite_f hf hq15
                  refine lv_aload_n C.1 C.2.1 dX7_allowed_73 rfl (lv_at hl 0 rfl) ?_
                  refine r_get C w inX7_allowed_X7 0 rfl rfl 6 (by decide) lkX7_allowed_44 rfl dX7_allowed_74 ?_
                  refine lv_aload C.1 C.2.1 dX7_allowed_77 (lv_at hl 3 rfl) ?_
                  refine r_get C w inX7_allowed_X4 11 rfl rfl 2 (by decide) lkX7_allowed_212 rfl dX7_allowed_79 ?_
                  refine lv_iload C.1 C.2.1 dX7_allowed_82 (lv_at hl 4 rfl) ?_
                  obtain ⟨y16, hy17, hf⟩ := bd hf
                  refine r_lald C w 12 1 rfl rfl (rd_in hy17) dX7_allowed_84 ?_
                  obtain ⟨r18, hc19, hf⟩ := bd hf
                  refine call_Vi (ws' := (wX7_allowed cI cL cS cH a_this a_this_now a_this_past a_this_kept a_this_keptPast a_this_plans a_this_plans_search_net a_this_tape a_this_sheets a_this_now_near a_this_plans_search_net_near a_this_plans_search_net_beside a_this_sheets_e a_this_sheets_items_e q_hasImage q_now_nodes q_now_clean q_now_guards q_now_kind q_now_team q_now_draw q_now_near k64_q_plans_search_net_nodes k64_q_plans_search_net_all k64_q_plans_search_net_edition k64_q_plans_search_net_beside k64_q_plans_search_net_near q_sheets_lane q_sheets_length q_sheets_items)) (rest := []) C w (mX0_isAct l D cI cL cS cH _ a_this_plans_search_net a_this_plans_search_net_near a_this_plans_search_net_beside k64_q_plans_search_net_nodes k64_q_plans_search_net_all k64_q_plans_search_net_edition y16 hc19) (cwV 1 C.2.2.2.2 gX7_allowed_X0_isAct rfl rfl rfl (by decide +kernel) ⟨Nat.le_of_ble_eq_true rfl, Nat.le_of_ble_eq_true rfl⟩) [3] [0, 1, 2, 4, 5, 6, 7, 8, 9, 10, 11, 12, 13, 14] 15 ⟨rfl, trivial⟩ ⟨rfl, trivial⟩ ⟨⟨_, rfl, rfl⟩, ⟨_, rfl, rfl⟩, ⟨_, rfl, rfl⟩, ⟨_, rfl, rfl⟩, ⟨_, rfl, rfl⟩, ⟨_, rfl, rfl⟩, ⟨_, rfl, rfl⟩, ⟨_, rfl, rfl⟩, ⟨_, rfl, rfl⟩, ⟨_, rfl, rfl⟩, ⟨_, rfl, rfl⟩, ⟨_, rfl, rfl⟩, ⟨_, rfl, rfl⟩, ⟨_, rfl, rfl⟩, trivial⟩ rfl (by decide) (by decide) (ci := 0) (q0 := 3) rfl rfl rfl hl.1 rfl (lv_room (Nat.le_of_ble_eq_true rfl)) dX7_allowed_85 ⟨Nat.zero_le _, Nat.zero_le _⟩ (fun H locs w => ?_)
                  refine lv_if_ne (tgt := 94) C.1 C.2.1 dX7_allowed_88 (by decide) (fun hq20 => ?_) (fun hq20 => ?_)
                  · have hf := ite_f hf hq20
                    refine lv_iinc (v := (v64 + (1 : Int32))) (lv' := [(7, .int (v64 + (1 : Int32))), (0, .ref a_this), (3, .int y64_3), (4, .int y64_4), (5, .ref (a_this_sheets_e 2))]) C.1 C.2.1 dX7_allowed_94 hl (k := 4) rfl rfl (by decide) rfl (fun ls hl => ?_)
                    refine lv_goto (tgt := 64) C.1 C.2.1 dX7_allowed_97 (by decide) ?_
                    obtain rfl := Option.some.inj hf
                    exact ih (v64 + (1 : Int32)) _ _ _ hn w (lv_sub hl [1, 2, 3, 4, 0] rfl)
                  · have hf := ite_t hf hq20
                    refine lv_bipush (v := (-2 : Int32)) C.1 C.2.1 dX7_allowed_91 (by decide) ?_
                    obtain rfl := Option.some.inj hf
                    obtain rfl := hn
                    have hres : _ = res := hk
                    subst hres
                    exact ret_i C hr hlocks w rfl dX7_allowed_93
            refine lv_astore (lv' := [(5, .ref (a_this_sheets_e 2)), (0, .ref a_this), (1, .int x1), (2, .int x2), (3, .int x3), (4, .int x4)]) C.1 C.2.1 dX7_allowed_35 hl (by decide) rfl (fun ls hl => ?_)
            refine lv_aload C.1 C.2.1 dX7_allowed_37 (lv_at hl 0 rfl) ?_
            refine lv_iload_n C.1 C.2.1 dX7_allowed_39 rfl (lv_at hl 3 rfl) ?_
            refine lv_iload_n C.1 C.2.1 dX7_allowed_40 rfl (lv_at hl 4 rfl) ?_
            refine lv_iload C.1 C.2.1 dX7_allowed_41 (lv_at hl 5 rfl) ?_
            obtain ⟨r21, hc22, hf⟩ := bd hf
            refine call_Vi (ws' := (wX7_allowed cI cL cS cH a_this a_this_now a_this_past a_this_kept a_this_keptPast a_this_plans a_this_plans_search_net a_this_tape a_this_sheets a_this_now_near a_this_plans_search_net_near a_this_plans_search_net_beside a_this_sheets_e a_this_sheets_items_e q_hasImage q_now_nodes q_now_clean q_now_guards q_now_kind q_now_team q_now_draw q_now_near q_plans_search_net_nodes q_plans_search_net_all q_plans_search_net_edition q_plans_search_net_beside q_plans_search_net_near q_sheets_lane q_sheets_length q_sheets_items)) (rest := []) C w (mX4_wrongAs l D cI cL cS cH _ (a_this_sheets_e 2) (a_this_sheets_items_e 2) (q_sheets_lane 2) (q_sheets_length 2) x2 x3 x4 hc22) (cwV 3 C.2.2.2.2 gX7_allowed_X4_wrongAs rfl rfl rfl (by decide +kernel) ⟨Nat.le_of_ble_eq_true rfl, Nat.le_of_ble_eq_true rfl⟩) [11] [0, 1, 2, 3, 4, 5, 6, 7, 8, 9, 10, 12, 13, 14] 15 ⟨rfl, trivial⟩ ⟨rfl, trivial⟩ ⟨⟨_, rfl, rfl⟩, ⟨_, rfl, rfl⟩, ⟨_, rfl, rfl⟩, ⟨_, rfl, rfl⟩, ⟨_, rfl, rfl⟩, ⟨_, rfl, rfl⟩, ⟨_, rfl, rfl⟩, ⟨_, rfl, rfl⟩, ⟨_, rfl, rfl⟩, ⟨_, rfl, rfl⟩, ⟨_, rfl, rfl⟩, ⟨_, rfl, rfl⟩, ⟨_, rfl, rfl⟩, ⟨_, rfl, rfl⟩, trivial⟩ rfl (by decide) (by decide) (ci := 4) (q0 := 11) rfl rfl rfl hl.1 rfl (lv_room (Nat.le_of_ble_eq_true rfl)) dX7_allowed_43 ⟨Nat.zero_le _, Nat.zero_le _⟩ (fun H locs w => ?_)
            refine lv_istore (lv' := [(6, .int r21), (5, .ref (a_this_sheets_e 2)), (0, .ref a_this), (1, .int x1), (2, .int x2), (3, .int x3), (4, .int x4)]) C.1 C.2.1 dX7_allowed_46 hl (by decide) rfl (fun ls hl => ?_)
            refine lv_iload C.1 C.2.1 dX7_allowed_48 (lv_at hl 0 rfl) ?_
            refine lv_if_eq (tgt := 56) C.1 C.2.1 dX7_allowed_50 (by decide) (fun hq23 => ?_) (fun hq23 => ?_)
            · have hf := ite_t hf hq23
              refine lv_aload_n C.1 C.2.1 dX7_allowed_56 rfl (lv_at hl 2 rfl) ?_
              obtain ⟨r24, hc25, hf⟩ := bd hf
              refine call_Vr (ws' := (wX7_allowed cI cL cS cH a_this a_this_now a_this_past a_this_kept a_this_keptPast a_this_plans a_this_plans_search_net a_this_tape a_this_sheets a_this_now_near a_this_plans_search_net_near a_this_plans_search_net_beside a_this_sheets_e a_this_sheets_items_e q_hasImage q_now_nodes q_now_clean q_now_guards q_now_kind q_now_team q_now_draw q_now_near r24.1 r24.2.1 r24.2.2.1 r24.2.2.2.1 r24.2.2.2.2 q_sheets_lane q_sheets_length q_sheets_items)) (rest := []) C w (mX7_currentNet l D cI cL cS cH _ a_this a_this_now a_this_past a_this_kept a_this_keptPast a_this_plans a_this_plans_search_net a_this_tape a_this_sheets a_this_now_near a_this_plans_search_net_near a_this_plans_search_net_beside q_hasImage q_now_nodes q_now_clean q_now_guards q_now_kind q_now_team q_now_draw q_now_near q_plans_search_net_nodes q_plans_search_net_all q_plans_search_net_edition q_plans_search_net_beside q_plans_search_net_near hc25) (cwV 0 C.2.2.2.2 gX7_allowed_X7_currentNet rfl rfl rfl (by decide +kernel) ⟨Nat.le_of_ble_eq_true rfl, Nat.le_of_ble_eq_true rfl⟩) [0, 1, 2, 3, 4, 5] [6, 7, 8, 9, 10, 11, 12, 13, 14] 15 ⟨rfl, rfl, rfl, rfl, rfl, rfl, trivial⟩ ⟨rfl, rfl, rfl, rfl, rfl, rfl, trivial⟩ ⟨⟨_, rfl, rfl⟩, ⟨_, rfl, rfl⟩, ⟨_, rfl, rfl⟩, ⟨_, rfl, rfl⟩, ⟨_, rfl, rfl⟩, ⟨_, rfl, rfl⟩, ⟨_, rfl, rfl⟩, ⟨_, rfl, rfl⟩, ⟨_, rfl, rfl⟩, trivial⟩ rfl (by decide) (by decide) (ci := 7) (q0 := 0) rfl rfl rfl hl.1 rfl (lv_room (Nat.le_of_ble_eq_true rfl)) dX7_allowed_57 ⟨Nat.zero_le _, Nat.zero_le _⟩ (fun H locs w => ?_)
              refine lv_pop C.1 C.2.1 dX7_allowed_60 rfl ?_
              refine lv_iload_n C.1 C.2.1 dX7_allowed_61 rfl (lv_at hl 5 rfl) ?_
              refine lv_istore (lv' := [(7, .int x3), (6, .int r21), (5, .ref (a_this_sheets_e 2)), (0, .ref a_this), (1, .int x1), (2, .int x2), (3, .int x3), (4, .int x4)]) C.1 C.2.1 dX7_allowed_62 hl (by decide) rfl (fun ls hl => ?_)
              obtain ⟨ex26, hx27, hf⟩ := bd hf
              rcases ex26 with ex26 | ex26
              · have hf := se_l hf
                have hres := Option.some.inj hf
                exact hlp64 x3 x4 r24.1 r24.2.1 r24.2.2.1 r24.2.2.2.1 r24.2.2.2.2 (.inl ex26) hres fu x3 _ _ _ hx27 w (lv_sub hl [3, 6, 7, 2, 0] rfl)
              · have hf := se_r hf
                refine hlp64 x3 x4 r24.1 r24.2.1 r24.2.2.1 r24.2.2.2.1 r24.2.2.2.2 (.inr ex26) ?_ fu x3 _ _ _ hx27 w (lv_sub hl [3, 6, 7, 2, 0] rfl)
                intro H locs ls w hl
                refine lv_iconst (v := (0 : Int32)) C.1 C.2.1 dX7_allowed_100 (by decide) ?_
                refine lv_istore (lv' := [(7, .int (0 : Int32)), (0, .ref a_this), (3, .int x3), (4, .int x4), (5, .ref (a_this_sheets_e 2))]) C.1 C.2.1 dX7_allowed_101 hl (by decide) rfl (fun ls hl => ?_)
                refine lv_iconst (v := (0 : Int32)) C.1 C.2.1 dX7_allowed_103 (by decide) ?_
                refine lv_istore (lv' := [(8, .int (0 : Int32)), (7, .int (0 : Int32)), (0, .ref a_this), (3, .int x3), (4, .int x4), (5, .ref (a_this_sheets_e 2))]) C.1 C.2.1 dX7_allowed_104 hl (by decide) rfl (fun ls hl => ?_)
                obtain ⟨ex28, hx29, hf⟩ := bd hf
                refine hlp106 x3 x4 r24.1 r24.2.1 r24.2.2.1 r24.2.2.2.1 r24.2.2.2.2 ex28 ?_ fu ((0 : Int32), (0 : Int32)) _ _ _ hx29 w (lv_sub hl [2, 3, 4, 5, 1, 0] rfl)
                intro H locs ls w hl
                refine lv_iload C.1 C.2.1 dX7_allowed_141 (lv_at hl 0 rfl) ?_
                have hres := Option.some.inj hf
                subst hres
                exact ret_i C hr hlocks w rfl dX7_allowed_143
            · have hf := ite_f hf hq23
              refine lv_iload C.1 C.2.1 dX7_allowed_53 (lv_at hl 0 rfl) ?_
              have hres := Option.some.inj hf
              subst hres
              exact ret_i C hr hlocks w rfl dX7_allowed_55
          · refine r_aald (v := (a_this_sheets_e 3)) C w 6 3 rfl rfl (by rw [hx34]; exact ⟨inb_in (by decide), rfl⟩) dX7_allowed_34 ?_
            have hlp106 : ∀ (y106_3 : Int32) (y106_4 : Int32) (k106_q_plans_search_net_nodes : Int32) (k106_q_plans_search_net_all : Int32) (k106_q_plans_search_net_edition : Int32) (k106_q_plans_search_net_beside : Nat → Int32) (k106_q_plans_search_net_near : Nat → Int32) (ex106 : Int32 × Int32) (hk : (∀ (H : Heap) (locs : List Loc) (ls : Array Slot), wd D (ty4 cI cL cS cH) s (va_A (wX7_allowed cI cL cS cH a_this a_this_now a_this_past a_this_kept a_this_keptPast a_this_plans a_this_plans_search_net a_this_tape a_this_sheets a_this_now_near a_this_plans_search_net_near a_this_plans_search_net_beside a_this_sheets_e a_this_sheets_items_e q_hasImage q_now_nodes q_now_clean q_now_guards q_now_kind q_now_team q_now_draw q_now_near q_plans_search_net_nodes q_plans_search_net_all q_plans_search_net_edition q_plans_search_net_beside q_plans_search_net_near q_sheets_lane q_sheets_length q_sheets_items) s.heap.size) s.heap H locs (wX7_allowed cI cL cS cH a_this a_this_now a_this_past a_this_kept a_this_keptPast a_this_plans a_this_plans_search_net a_this_tape a_this_sheets a_this_now_near a_this_plans_search_net_near a_this_plans_search_net_beside a_this_sheets_e a_this_sheets_items_e q_hasImage q_now_nodes q_now_clean q_now_guards q_now_kind q_now_team q_now_draw q_now_near k106_q_plans_search_net_nodes k106_q_plans_search_net_all k106_q_plans_search_net_edition k106_q_plans_search_net_beside k106_q_plans_search_net_near q_sheets_lane q_sheets_length q_sheets_items) → lv_has ls 9 [(7, .int ex106.1)] → gX7_allowed p l e s m below meth c D cI cL cS cH a_this a_this_now a_this_past a_this_kept a_this_keptPast a_this_plans a_this_plans_search_net a_this_tape a_this_sheets a_this_now_near a_this_plans_search_net_near a_this_plans_search_net_beside a_this_sheets_e a_this_sheets_items_e q_hasImage q_now_nodes q_now_clean q_now_guards q_now_kind q_now_team q_now_draw q_now_near q_plans_search_net_nodes q_plans_search_net_all q_plans_search_net_edition q_plans_search_net_beside q_plans_search_net_near q_sheets_lane q_sheets_length q_sheets_items x1 x2 x3 x4 res H locs (F0 m 141 ls []))) (n : Nat) (v106 : Int32 × Int32) (H : Heap) (locs : List Loc) (ls : Array Slot), itL (bX7_allowed_106 q_now_nodes q_now_team q_now_near q_sheets_lane q_sheets_length q_sheets_items 3 y106_3 y106_4 k106_q_plans_search_net_nodes k106_q_plans_search_net_all k106_q_plans_search_net_edition k106_q_plans_search_net_beside k106_q_plans_search_net_near) n v106 = some ex106 → wd D (ty4 cI cL cS cH) s (va_A (wX7_allowed cI cL cS cH a_this a_this_now a_this_past a_this_kept a_this_keptPast a_this_plans a_this_plans_search_net a_this_tape a_this_sheets a_this_now_near a_this_plans_search_net_near a_this_plans_search_net_beside a_this_sheets_e a_this_sheets_items_e q_hasImage q_now_nodes q_now_clean q_now_guards q_now_kind q_now_team q_now_draw q_now_near q_plans_search_net_nodes q_plans_search_net_all q_plans_search_net_edition q_plans_search_net_beside q_plans_search_net_near q_sheets_lane q_sheets_length q_sheets_items) s.heap.size) s.heap H locs (wX7_allowed cI cL cS cH a_this a_this_now a_this_past a_this_kept a_this_keptPast a_this_plans a_this_plans_search_net a_this_tape a_this_sheets a_this_now_near a_this_plans_search_net_near a_this_plans_search_net_beside a_this_sheets_e a_this_sheets_items_e q_hasImage q_now_nodes q_now_clean q_now_guards q_now_kind q_now_team q_now_draw q_now_near k106_q_plans_search_net_nodes k106_q_plans_search_net_all k106_q_plans_search_net_edition k106_q_plans_search_net_beside k106_q_plans_search_net_near q_sheets_lane q_sheets_length q_sheets_items) → lv_has ls 9 [(0, .ref a_this), (3, .int y106_3), (4, .int y106_4), (5, .ref (a_this_sheets_e 3)), (7, .int v106.1), (8, .int v106.2)] → gX7_allowed p l e s m below meth c D cI cL cS cH a_this a_this_now a_this_past a_this_kept a_this_keptPast a_this_plans a_this_plans_search_net a_this_tape a_this_sheets a_this_now_near a_this_plans_search_net_near a_this_plans_search_net_beside a_this_sheets_e a_this_sheets_items_e q_hasImage q_now_nodes q_now_clean q_now_guards q_now_kind q_now_team q_now_draw q_now_near q_plans_search_net_nodes q_plans_search_net_all q_plans_search_net_edition q_plans_search_net_beside q_plans_search_net_near q_sheets_lane q_sheets_length q_sheets_items x1 x2 x3 x4 res H locs (F0 m 106 ls []) := by
              intro y106_3 y106_4 k106_q_plans_search_net_nodes k106_q_plans_search_net_all k106_q_plans_search_net_edition k106_q_plans_search_net_beside k106_q_plans_search_net_near ex106 hk n
              induction n with
              | zero => intro v106 H locs ls hi w hl; exact (itL_zero hi).elim
              | succ n ih =>
                intro v106 H locs ls hi w hl
                obtain ⟨o, hf, hn⟩ := itL_succ hi
                unfold bX7_allowed_106 at hf
                have hj135 : ∀ (y135_7 : Int32) (y135_8 : Int32) (H : Heap) (locs : List Loc) (ls : Array Slot), wd D (ty4 cI cL cS cH) s (va_A (wX7_allowed cI cL cS cH a_this a_this_now a_this_past a_this_kept a_this_keptPast a_this_plans a_this_plans_search_net a_this_tape a_this_sheets a_this_now_near a_this_plans_search_net_near a_this_plans_search_net_beside a_this_sheets_e a_this_sheets_items_e q_hasImage q_now_nodes q_now_clean q_now_guards q_now_kind q_now_team q_now_draw q_now_near q_plans_search_net_nodes q_plans_search_net_all q_plans_search_net_edition q_plans_search_net_beside q_plans_search_net_near q_sheets_lane q_sheets_length q_sheets_items) s.heap.size) s.heap H locs (wX7_allowed cI cL cS cH a_this a_this_now a_this_past a_this_kept a_this_keptPast a_this_plans a_this_plans_search_net a_this_tape a_this_sheets a_this_now_near a_this_plans_search_net_near a_this_plans_search_net_beside a_this_sheets_e a_this_sheets_items_e q_hasImage q_now_nodes q_now_clean q_now_guards q_now_kind q_now_team q_now_draw q_now_near k106_q_plans_search_net_nodes k106_q_plans_search_net_all k106_q_plans_search_net_edition k106_q_plans_search_net_beside k106_q_plans_search_net_near q_sheets_lane q_sheets_length q_sheets_items) → lv_has ls 9 [(0, .ref a_this), (3, .int y106_3), (4, .int y106_4), (5, .ref (a_this_sheets_e 3)), (7, .int y135_7), (8, .int y135_8)] → jX7_allowed_135 q_now_nodes q_now_team q_now_near q_sheets_lane q_sheets_length q_sheets_items 3 y106_3 y106_4 y135_7 y135_8 k106_q_plans_search_net_nodes k106_q_plans_search_net_all k106_q_plans_search_net_edition k106_q_plans_search_net_beside k106_q_plans_search_net_near = some o → gX7_allowed p l e s m below meth c D cI cL cS cH a_this a_this_now a_this_past a_this_kept a_this_keptPast a_this_plans a_this_plans_search_net a_this_tape a_this_sheets a_this_now_near a_this_plans_search_net_near a_this_plans_search_net_beside a_this_sheets_e a_this_sheets_items_e q_hasImage q_now_nodes q_now_clean q_now_guards q_now_kind q_now_team q_now_draw q_now_near q_plans_search_net_nodes q_plans_search_net_all q_plans_search_net_edition q_plans_search_net_beside q_plans_search_net_near q_sheets_lane q_sheets_length q_sheets_items x1 x2 x3 x4 res H locs (F0 m 135 ls []) := by
                  intro y135_7 y135_8 H locs ls w hl hf
                  unfold jX7_allowed_135 at hf
                  refine lv_iinc (v := (y135_8 + (1 : Int32))) (lv' := [(8, .int (y135_8 + (1 : Int32))), (0, .ref a_this), (3, .int y106_3), (4, .int y106_4), (5, .ref (a_this_sheets_e 3)), (7, .int y135_7)]) C.1 C.2.1 dX7_allowed_135 hl (k := 5) rfl rfl (by decide) rfl (fun ls hl => ?_)
                  refine lv_goto (tgt := 106) C.1 C.2.1 dX7_allowed_138 (by decide) ?_
                  obtain rfl := Option.some.inj hf
                  exact ih (y135_7, (y135_8 + (1 : Int32))) _ _ _ hn w (lv_sub hl [1, 2, 3, 4, 5, 0] rfl)
                refine lv_iload C.1 C.2.1 dX7_allowed_106 (lv_at hl 5 rfl) ?_
                refine lv_iconst (v := (3 : Int32)) C.1 C.2.1 dX7_allowed_108 (by decide) ?_
                refine lv_icmp_ge (tgt := 141) C.1 C.2.1 dX7_allowed_109 (by decide) (fun hq9 => ?_) (fun hq9 => ?_)
                · have hf := ite_t hf hq9
                  obtain rfl := Option.some.inj hf
                  obtain rfl := hn
                  exact hk _ _ _ w (lv_sub hl [4] rfl)
                · have hf := ite_f hf hq9
                  refine lv_aload_n C.1 C.2.1 dX7_allowed_112 rfl (lv_at hl 0 rfl) ?_
                  refine lv_aload C.1 C.2.1 dX7_allowed_113 (lv_at hl 3 rfl) ?_
                  refine lv_iload_n C.1 C.2.1 dX7_allowed_115 rfl (lv_at hl 1 rfl) ?_
                  refine lv_iload C.1 C.2.1 dX7_allowed_116 (lv_at hl 2 rfl) ?_
                  refine lv_iload C.1 C.2.1 dX7_allowed_118 (lv_at hl 5 rfl) ?_
                  obtain ⟨r10, hc11, hf⟩ := bd hf
                  refine call_Vi (ws' := (wX7_allowed cI cL cS cH a_this a_this_now a_this_past a_this_kept a_this_keptPast a_this_plans a_this_plans_search_net a_this_tape a_this_sheets a_this_now_near a_this_plans_search_net_near a_this_plans_search_net_beside a_this_sheets_e a_this_sheets_items_e q_hasImage q_now_nodes q_now_clean q_now_guards q_now_kind q_now_team q_now_draw q_now_near k106_q_plans_search_net_nodes k106_q_plans_search_net_all k106_q_plans_search_net_edition k106_q_plans_search_net_beside k106_q_plans_search_net_near q_sheets_lane q_sheets_length q_sheets_items)) (rest := []) C w (mX7_allAllowed l D cI cL cS cH _ (a_this_sheets_e 3) (a_this_sheets_items_e 3) a_this a_this_now a_this_past a_this_kept a_this_keptPast a_this_plans a_this_plans_search_net a_this_tape a_this_sheets a_this_now_near a_this_plans_search_net_near a_this_plans_search_net_beside (q_sheets_lane 3) (q_sheets_length 3) (q_sheets_items 3) q_hasImage q_now_nodes q_now_clean q_now_guards q_now_kind q_now_team q_now_draw k106_q_plans_search_net_nodes k106_q_plans_search_net_all k106_q_plans_search_net_edition k106_q_plans_search_net_beside k106_q_plans_search_net_near y106_3 y106_4 v106.2 hc11) (cwV 4 C.2.2.2.2 gX7_allowed_X7_allAllowed rfl rfl rfl (by decide +kernel) ⟨Nat.le_of_ble_eq_true rfl, Nat.le_of_ble_eq_true rfl⟩) [13, 14, 0, 1, 3, 4, 5] [2, 6, 7, 8, 9, 10, 11, 12] 15 ⟨rfl, rfl, rfl, rfl, rfl, rfl, rfl, trivial⟩ ⟨rfl, rfl, rfl, rfl, rfl, rfl, rfl, trivial⟩ ⟨⟨_, rfl, rfl⟩, ⟨_, rfl, rfl⟩, ⟨_, rfl, rfl⟩, ⟨_, rfl, rfl⟩, ⟨_, rfl, rfl⟩, ⟨_, rfl, rfl⟩, ⟨_, rfl, rfl⟩, ⟨_, rfl, rfl⟩, trivial⟩ rfl (by decide) (by decide) (ci := 7) (q0 := 0) rfl rfl rfl hl.1 rfl (lv_room (Nat.le_of_ble_eq_true rfl)) dX7_allowed_120 ⟨Nat.zero_le _, Nat.zero_le _⟩ (fun H locs w => ?_)
                  refine lv_if_eq (tgt := 135) C.1 C.2.1 dX7_allowed_123 (by decide) (fun hq12 => ?_) (fun hq12 => ?_)
                  · have hf := ite_t hf hq12
                    exact hj135 v106.1 v106.2 _ _ _ w (lv_sub hl [0, 1, 2, 3, 4, 5] rfl) hf
                  · have hf := ite_f hf hq12
                    refine lv_iload C.1 C.2.1 dX7_allowed_126 (lv_at hl 4 rfl) ?_
                    refine lv_iconst (v := (1 : Int32)) C.1 C.2.1 dX7_allowed_128 (by decide) ?_
                    refine lv_iload C.1 C.2.1 dX7_allowed_129 (lv_at hl 5 rfl) ?_
                    refine lv_ishl C.1 C.2.1 dX7_allowed_131 ?_
                    refine lv_ior C.1 C.2.1 dX7_allowed_132 ?_
                    obtain ⟨y13, hy14, hf⟩ := bnd_e hf
                    refine lt_topi hy14 ?_
                    refine lv_istore (lv' := [(7, .int y13), (0, .ref a_this), (3, .int y106_3), (4, .int y106_4), (5, .ref (a_this_sheets_e 3)), (8, .int v106.2)]) C.1 C.2.1 dX7_allowed_133 hl (by decide) rfl (fun ls hl => ?_)
                    exact hj135 y13 v106.2 _ _ _ w (lv_sub hl [1, 2, 3, 4, 0, 5] rfl) hf
            have hlp64 : ∀ (y64_3 : Int32) (y64_4 : Int32) (k64_q_plans_search_net_nodes : Int32) (k64_q_plans_search_net_all : Int32) (k64_q_plans_search_net_edition : Int32) (k64_q_plans_search_net_beside : Nat → Int32) (k64_q_plans_search_net_near : Nat → Int32) (ex64 : (Int32 × Int32 × Int32 × Int32 × (Nat → Int32) × (Nat → Int32)) ⊕ (Int32)) (hk : (match ex64 with | .inl r => r = res | .inr u => ∀ (H : Heap) (locs : List Loc) (ls : Array Slot), wd D (ty4 cI cL cS cH) s (va_A (wX7_allowed cI cL cS cH a_this a_this_now a_this_past a_this_kept a_this_keptPast a_this_plans a_this_plans_search_net a_this_tape a_this_sheets a_this_now_near a_this_plans_search_net_near a_this_plans_search_net_beside a_this_sheets_e a_this_sheets_items_e q_hasImage q_now_nodes q_now_clean q_now_guards q_now_kind q_now_team q_now_draw q_now_near q_plans_search_net_nodes q_plans_search_net_all q_plans_search_net_edition q_plans_search_net_beside q_plans_search_net_near q_sheets_lane q_sheets_length q_sheets_items) s.heap.size) s.heap H locs (wX7_allowed cI cL cS cH a_this a_this_now a_this_past a_this_kept a_this_keptPast a_this_plans a_this_plans_search_net a_this_tape a_this_sheets a_this_now_near a_this_plans_search_net_near a_this_plans_search_net_beside a_this_sheets_e a_this_sheets_items_e q_hasImage q_now_nodes q_now_clean q_now_guards q_now_kind q_now_team q_now_draw q_now_near k64_q_plans_search_net_nodes k64_q_plans_search_net_all k64_q_plans_search_net_edition k64_q_plans_search_net_beside k64_q_plans_search_net_near q_sheets_lane q_sheets_length q_sheets_items) → lv_has ls 9 [(0, .ref a_this), (3, .int y64_3), (4, .int y64_4), (5, .ref (a_this_sheets_e 3))] → gX7_allowed p l e s m below meth c D cI cL cS cH a_this a_this_now a_this_past a_this_kept a_this_keptPast a_this_plans a_this_plans_search_net a_this_tape a_this_sheets a_this_now_near a_this_plans_search_net_near a_this_plans_search_net_beside a_this_sheets_e a_this_sheets_items_e q_hasImage q_now_nodes q_now_clean q_now_guards q_now_kind q_now_team q_now_draw q_now_near q_plans_search_net_nodes q_plans_search_net_all q_plans_search_net_edition q_plans_search_net_beside q_plans_search_net_near q_sheets_lane q_sheets_length q_sheets_items x1 x2 x3 x4 res H locs (F0 m 100 ls []))) (n : Nat) (v64 : Int32) (H : Heap) (locs : List Loc) (ls : Array Slot), itL (bX7_allowed_64 q_now_nodes q_now_team q_now_near q_sheets_lane q_sheets_length q_sheets_items 3 y64_3 y64_4 k64_q_plans_search_net_nodes k64_q_plans_search_net_all k64_q_plans_search_net_edition k64_q_plans_search_net_beside k64_q_plans_search_net_near) n v64 = some ex64 → wd D (ty4 cI cL cS cH) s (va_A (wX7_allowed cI cL cS cH a_this a_this_now a_this_past a_this_kept a_this_keptPast a_this_plans a_this_plans_search_net a_this_tape a_this_sheets a_this_now_near a_this_plans_search_net_near a_this_plans_search_net_beside a_this_sheets_e a_this_sheets_items_e q_hasImage q_now_nodes q_now_clean q_now_guards q_now_kind q_now_team q_now_draw q_now_near q_plans_search_net_nodes q_plans_search_net_all q_plans_search_net_edition q_plans_search_net_beside q_plans_search_net_near q_sheets_lane q_sheets_length q_sheets_items) s.heap.size) s.heap H locs (wX7_allowed cI cL cS cH a_this a_this_now a_this_past a_this_kept a_this_keptPast a_this_plans a_this_plans_search_net a_this_tape a_this_sheets a_this_now_near a_this_plans_search_net_near a_this_plans_search_net_beside a_this_sheets_e a_this_sheets_items_e q_hasImage q_now_nodes q_now_clean q_now_guards q_now_kind q_now_team q_now_draw q_now_near k64_q_plans_search_net_nodes k64_q_plans_search_net_all k64_q_plans_search_net_edition k64_q_plans_search_net_beside k64_q_plans_search_net_near q_sheets_lane q_sheets_length q_sheets_items) → lv_has ls 9 [(0, .ref a_this), (3, .int y64_3), (4, .int y64_4), (5, .ref (a_this_sheets_e 3)), (7, .int v64)] → gX7_allowed p l e s m below meth c D cI cL cS cH a_this a_this_now a_this_past a_this_kept a_this_keptPast a_this_plans a_this_plans_search_net a_this_tape a_this_sheets a_this_now_near a_this_plans_search_net_near a_this_plans_search_net_beside a_this_sheets_e a_this_sheets_items_e q_hasImage q_now_nodes q_now_clean q_now_guards q_now_kind q_now_team q_now_draw q_now_near q_plans_search_net_nodes q_plans_search_net_all q_plans_search_net_edition q_plans_search_net_beside q_plans_search_net_near q_sheets_lane q_sheets_length q_sheets_items x1 x2 x3 x4 res H locs (F0 m 64 ls []) := by
              intro y64_3 y64_4 k64_q_plans_search_net_nodes k64_q_plans_search_net_all k64_q_plans_search_net_edition k64_q_plans_search_net_beside k64_q_plans_search_net_near ex64 hk n
              induction n with
              | zero => intro v64 H locs ls hi w hl; exact (itL_zero hi).elim
              | succ n ih =>
                intro v64 H locs ls hi w hl
                obtain ⟨o, hf, hn⟩ := itL_succ hi
                unfold bX7_allowed_64 at hf
                refine lv_iload C.1 C.2.1 dX7_allowed_64 (lv_at hl 4 rfl) ?_
                refine lv_iload_n C.1 C.2.1 dX7_allowed_66 rfl (lv_at hl 1 rfl) ?_
                refine lv_iload C.1 C.2.1 dX7_allowed_67 (lv_at hl 2 rfl) ?_
                refine lv_iadd C.1 C.2.1 dX7_allowed_69 ?_
                refine lv_icmp_ge (tgt := 100) C.1 C.2.1 dX7_allowed_70 (by decide) (fun hq15 => ?_) (fun hq15 => ?_)
                · have hf := ite_t hf hq15
                  obtain rfl := Option.some.inj hf
                  obtain rfl := hn
                  exact hk _ _ _ w (lv_sub hl [0, 1, 2, 3] rfl)
                · have hf := ite_f hf hq15
                  refine lv_aload_n C.1 C.2.1 dX7_allowed_73 rfl (lv_at hl 0 rfl) ?_
                  refine r_get C w inX7_allowed_X7 0 rfl rfl 6 (by decide) lkX7_allowed_44 rfl dX7_allowed_74 ?_
                  refine lv_aload C.1 C.2.1 dX7_allowed_77 (lv_at hl 3 rfl) ?_
                  refine r_get C w inX7_allowed_X4 13 rfl rfl 2 (by decide) lkX7_allowed_212 rfl dX7_allowed_79 ?_
                  refine lv_iload C.1 C.2.1 dX7_allowed_82 (lv_at hl 4 rfl) ?_
                  obtain ⟨y16, hy17, hf⟩ := bd hf
                  refine r_lald C w 14 1 rfl rfl (rd_in hy17) dX7_allowed_84 ?_
                  obtain ⟨r18, hc19, hf⟩ := bd hf
                  refine call_Vi (ws' := (wX7_allowed cI cL cS cH a_this a_this_now a_this_past a_this_kept a_this_keptPast a_this_plans a_this_plans_search_net a_this_tape a_this_sheets a_this_now_near a_this_plans_search_net_near a_this_plans_search_net_beside a_this_sheets_e a_this_sheets_items_e q_hasImage q_now_nodes q_now_clean q_now_guards q_now_kind q_now_team q_now_draw q_now_near k64_q_plans_search_net_nodes k64_q_plans_search_net_all k64_q_plans_search_net_edition k64_q_plans_search_net_beside k64_q_plans_search_net_near q_sheets_lane q_sheets_length q_sheets_items)) (rest := []) C w (mX0_isAct l D cI cL cS cH _ a_this_plans_search_net a_this_plans_search_net_near a_this_plans_search_net_beside k64_q_plans_search_net_nodes k64_q_plans_search_net_all k64_q_plans_search_net_edition y16 hc19) (cwV 1 C.2.2.2.2 gX7_allowed_X0_isAct rfl rfl rfl (by decide +kernel) ⟨Nat.le_of_ble_eq_true rfl, Nat.le_of_ble_eq_true rfl⟩) [3] [0, 1, 2, 4, 5, 6, 7, 8, 9, 10, 11, 12, 13, 14] 15 ⟨rfl, trivial⟩ ⟨rfl, trivial⟩ ⟨⟨_, rfl, rfl⟩, ⟨_, rfl, rfl⟩, ⟨_, rfl, rfl⟩, ⟨_, rfl, rfl⟩, ⟨_, rfl, rfl⟩, ⟨_, rfl, rfl⟩, ⟨_, rfl, rfl⟩, ⟨_, rfl, rfl⟩, ⟨_, rfl, rfl⟩, ⟨_, rfl, rfl⟩, ⟨_, rfl, rfl⟩, ⟨_, rfl, rfl⟩, ⟨_, rfl, rfl⟩, ⟨_, rfl, rfl⟩, trivial⟩ rfl (by decide) (by decide) (ci := 0) (q0 := 3) rfl rfl rfl hl.1 rfl (lv_room (Nat.le_of_ble_eq_true rfl)) dX7_allowed_85 ⟨Nat.zero_le _, Nat.zero_le _⟩ (fun H locs w => ?_)
                  refine lv_if_ne (tgt := 94) C.1 C.2.1 dX7_allowed_88 (by decide) (fun hq20 => ?_) (fun hq20 => ?_)
                  · have hf := ite_f hf hq20
                    refine lv_iinc (v := (v64 + (1 : Int32))) (lv' := [(7, .int (v64 + (1 : Int32))), (0, .ref a_this), (3, .int y64_3), (4, .int y64_4), (5, .ref (a_this_sheets_e 3))]) C.1 C.2.1 dX7_allowed_94 hl (k := 4) rfl rfl (by decide) rfl (fun ls hl => ?_)
                    refine lv_goto (tgt := 64) C.1 C.2.1 dX7_allowed_97 (by decide) ?_
                    obtain rfl := Option.some.inj hf
                    exact ih (v64 + (1 : Int32)) _ _ _ hn w (lv_sub hl [1, 2, 3, 4, 0] rfl)
                  · have hf := ite_t hf hq20
                    refine lv_bipush (v := (-2 : Int32)) C.1 C.2.1 dX7_allowed_91 (by decide) ?_
                    obtain rfl := Option.some.inj hf
                    obtain rfl := hn
                    have hres : _ = res := hk
                    subst hres
                    exact ret_i C hr hlocks w rfl dX7_allowed_93
            refine lv_astore (lv' := [(5, .ref (a_this_sheets_e 3)), (0, .ref a_this), (1, .int x1), (2, .int x2), (3, .int x3), (4, .int x4)]) C.1 C.2.1 dX7_allowed_35 hl (by decide) rfl (fun ls hl => ?_)
            refine lv_aload C.1 C.2.1 dX7_allowed_37 (lv_at hl 0 rfl) ?_
            refine lv_iload_n C.1 C.2.1 dX7_allowed_39 rfl (lv_at hl 3 rfl) ?_
            refine lv_iload_n C.1 C.2.1 dX7_allowed_40 rfl (lv_at hl 4 rfl) ?_
            refine lv_iload C.1 C.2.1 dX7_allowed_41 (lv_at hl 5 rfl) ?_
            obtain ⟨r21, hc22, hf⟩ := bd hf
            refine call_Vi (ws' := (wX7_allowed cI cL cS cH a_this a_this_now a_this_past a_this_kept a_this_keptPast a_this_plans a_this_plans_search_net a_this_tape a_this_sheets a_this_now_near a_this_plans_search_net_near a_this_plans_search_net_beside a_this_sheets_e a_this_sheets_items_e q_hasImage q_now_nodes q_now_clean q_now_guards q_now_kind q_now_team q_now_draw q_now_near q_plans_search_net_nodes q_plans_search_net_all q_plans_search_net_edition q_plans_search_net_beside q_plans_search_net_near q_sheets_lane q_sheets_length q_sheets_items)) (rest := []) C w (mX4_wrongAs l D cI cL cS cH _ (a_this_sheets_e 3) (a_this_sheets_items_e 3) (q_sheets_lane 3) (q_sheets_length 3) x2 x3 x4 hc22) (cwV 3 C.2.2.2.2 gX7_allowed_X4_wrongAs rfl rfl rfl (by decide +kernel) ⟨Nat.le_of_ble_eq_true rfl, Nat.le_of_ble_eq_true rfl⟩) [13] [0, 1, 2, 3, 4, 5, 6, 7, 8, 9, 10, 11, 12, 14] 15 ⟨rfl, trivial⟩ ⟨rfl, trivial⟩ ⟨⟨_, rfl, rfl⟩, ⟨_, rfl, rfl⟩, ⟨_, rfl, rfl⟩, ⟨_, rfl, rfl⟩, ⟨_, rfl, rfl⟩, ⟨_, rfl, rfl⟩, ⟨_, rfl, rfl⟩, ⟨_, rfl, rfl⟩, ⟨_, rfl, rfl⟩, ⟨_, rfl, rfl⟩, ⟨_, rfl, rfl⟩, ⟨_, rfl, rfl⟩, ⟨_, rfl, rfl⟩, ⟨_, rfl, rfl⟩, trivial⟩ rfl (by decide) (by decide) (ci := 4) (q0 := 13) rfl rfl rfl hl.1 rfl (lv_room (Nat.le_of_ble_eq_true rfl)) dX7_allowed_43 ⟨Nat.zero_le _, Nat.zero_le _⟩ (fun H locs w => ?_)
            refine lv_istore (lv' := [(6, .int r21), (5, .ref (a_this_sheets_e 3)), (0, .ref a_this), (1, .int x1), (2, .int x2), (3, .int x3), (4, .int x4)]) C.1 C.2.1 dX7_allowed_46 hl (by decide) rfl (fun ls hl => ?_)
            refine lv_iload C.1 C.2.1 dX7_allowed_48 (lv_at hl 0 rfl) ?_
            refine lv_if_eq (tgt := 56) C.1 C.2.1 dX7_allowed_50 (by decide) (fun hq23 => ?_) (fun hq23 => ?_)
            · have hf := ite_t hf hq23
              refine lv_aload_n C.1 C.2.1 dX7_allowed_56 rfl (lv_at hl 2 rfl) ?_
              obtain ⟨r24, hc25, hf⟩ := bd hf
              refine call_Vr (ws' := (wX7_allowed cI cL cS cH a_this a_this_now a_this_past a_this_kept a_this_keptPast a_this_plans a_this_plans_search_net a_this_tape a_this_sheets a_this_now_near a_this_plans_search_net_near a_this_plans_search_net_beside a_this_sheets_e a_this_sheets_items_e q_hasImage q_now_nodes q_now_clean q_now_guards q_now_kind q_now_team q_now_draw q_now_near r24.1 r24.2.1 r24.2.2.1 r24.2.2.2.1 r24.2.2.2.2 q_sheets_lane q_sheets_length q_sheets_items)) (rest := []) C w (mX7_currentNet l D cI cL cS cH _ a_this a_this_now a_this_past a_this_kept a_this_keptPast a_this_plans a_this_plans_search_net a_this_tape a_this_sheets a_this_now_near a_this_plans_search_net_near a_this_plans_search_net_beside q_hasImage q_now_nodes q_now_clean q_now_guards q_now_kind q_now_team q_now_draw q_now_near q_plans_search_net_nodes q_plans_search_net_all q_plans_search_net_edition q_plans_search_net_beside q_plans_search_net_near hc25) (cwV 0 C.2.2.2.2 gX7_allowed_X7_currentNet rfl rfl rfl (by decide +kernel) ⟨Nat.le_of_ble_eq_true rfl, Nat.le_of_ble_eq_true rfl⟩) [0, 1, 2, 3, 4, 5] [6, 7, 8, 9, 10, 11, 12, 13, 14] 15 ⟨rfl, rfl, rfl, rfl, rfl, rfl, trivial⟩ ⟨rfl, rfl, rfl, rfl, rfl, rfl, trivial⟩ ⟨⟨_, rfl, rfl⟩, ⟨_, rfl, rfl⟩, ⟨_, rfl, rfl⟩, ⟨_, rfl, rfl⟩, ⟨_, rfl, rfl⟩, ⟨_, rfl, rfl⟩, ⟨_, rfl, rfl⟩, ⟨_, rfl, rfl⟩, ⟨_, rfl, rfl⟩, trivial⟩ rfl (by decide) (by decide) (ci := 7) (q0 := 0) rfl rfl rfl hl.1 rfl (lv_room (Nat.le_of_ble_eq_true rfl)) dX7_allowed_57 ⟨Nat.zero_le _, Nat.zero_le _⟩ (fun H locs w => ?_)
              refine lv_pop C.1 C.2.1 dX7_allowed_60 rfl ?_
              refine lv_iload_n C.1 C.2.1 dX7_allowed_61 rfl (lv_at hl 5 rfl) ?_
              refine lv_istore (lv' := [(7, .int x3), (6, .int r21), (5, .ref (a_this_sheets_e 3)), (0, .ref a_this), (1, .int x1), (2, .int x2), (3, .int x3), (4, .int x4)]) C.1 C.2.1 dX7_allowed_62 hl (by decide) rfl (fun ls hl => ?_)
              obtain ⟨ex26, hx27, hf⟩ := bd hf
              rcases ex26 with ex26 | ex26
              · have hf := se_l hf
                have hres := Option.some.inj hf
                exact hlp64 x3 x4 r24.1 r24.2.1 r24.2.2.1 r24.2.2.2.1 r24.2.2.2.2 (.inl ex26) hres fu x3 _ _ _ hx27 w (lv_sub hl [3, 6, 7, 2, 0] rfl)
              · have hf := se_r hf
                refine hlp64 x3 x4 r24.1 r24.2.1 r24.2.2.1 r24.2.2.2.1 r24.2.2.2.2 (.inr ex26) ?_ fu x3 _ _ _ hx27 w (lv_sub hl [3, 6, 7, 2, 0] rfl)
                intro H locs ls w hl
                refine lv_iconst (v := (0 : Int32)) C.1 C.2.1 dX7_allowed_100 (by decide) ?_
                refine lv_istore (lv' := [(7, .int (0 : Int32)), (0, .ref a_this), (3, .int x3), (4, .int x4), (5, .ref (a_this_sheets_e 3))]) C.1 C.2.1 dX7_allowed_101 hl (by decide) rfl (fun ls hl => ?_)
                refine lv_iconst (v := (0 : Int32)) C.1 C.2.1 dX7_allowed_103 (by decide) ?_
                refine lv_istore (lv' := [(8, .int (0 : Int32)), (7, .int (0 : Int32)), (0, .ref a_this), (3, .int x3), (4, .int x4), (5, .ref (a_this_sheets_e 3))]) C.1 C.2.1 dX7_allowed_104 hl (by decide) rfl (fun ls hl => ?_)
                obtain ⟨ex28, hx29, hf⟩ := bd hf
                refine hlp106 x3 x4 r24.1 r24.2.1 r24.2.2.1 r24.2.2.2.1 r24.2.2.2.2 ex28 ?_ fu ((0 : Int32), (0 : Int32)) _ _ _ hx29 w (lv_sub hl [2, 3, 4, 5, 1, 0] rfl)
                intro H locs ls w hl
                refine lv_iload C.1 C.2.1 dX7_allowed_141 (lv_at hl 0 rfl) ?_
                have hres := Option.some.inj hf
                subst hres
                exact ret_i C hr hlocks w rfl dX7_allowed_143
            · have hf := ite_f hf hq23
              refine lv_iload C.1 C.2.1 dX7_allowed_53 (lv_at hl 0 rfl) ?_
              have hres := Option.some.inj hf
              subst hres
              exact ret_i C hr hlocks w rfl dX7_allowed_55
        · have hf := ite_f hf hq8
          refine lv_iconst (v := (-1 : Int32)) C.1 C.2.1 dX7_allowed_27 (by decide) ?_
          have hres := Option.some.inj hf
          subst hres
          exact ret_i C hr hlocks w rfl dX7_allowed_28

set_option maxRecDepth 100000 in
theorem inX7_film_X7 : ∀ w ∈ u_ws RX7 TX7 9, w ∈ wsX7_film := by decide +kernel
set_option maxRecDepth 100000 in
theorem lkX7_film_54 : Cond.fieldLink RX7 54 "CleanNets" "sheets" "[LCleanNets$Sheet;" ∈ wsX7_film := by decide +kernel
set_option maxRecDepth 100000 in
theorem lkX7_film_12 : Cond.fieldLink RX7 12 "CleanNets" "now" "LCleanNets$Standing;" ∈ wsX7_film := by decide +kernel
set_option maxRecDepth 100000 in
theorem inX7_film_X5 : ∀ w ∈ u_ws RX5 TX5 7, w ∈ wsX7_film := by decide +kernel
set_option maxRecDepth 100000 in
theorem lkX7_film_80 : Cond.fieldLink RX7 80 "CleanNets$Standing" "nodes" "I" ∈ wsX7_film := by decide +kernel
set_option maxRecDepth 100000 in
theorem inX7_film_X4 : ∀ w ∈ u_ws RX4 TX4 3, w ∈ wsX7_film := by decide +kernel
set_option maxRecDepth 100000 in
theorem lkX7_film_212 : Cond.fieldLink RX7 212 "CleanNets$Sheet" "items" "[J" ∈ wsX7_film := by decide +kernel
abbrev wX7_film (cI cL cS cH : ClassId) (a_this : Nat) (a_this_now : Nat) (a_this_past : Nat) (a_this_kept : Nat) (a_this_keptPast : Nat) (a_this_plans : Nat) (a_this_plans_search_net : Nat) (a_this_tape : Nat) (a_this_sheets : Nat) (a_this_now_near : Nat) (a_this_sheets_e : Nat → Nat) (a_this_sheets_items_e : Nat → Nat) (q_hasImage : Int32) (q_now_nodes : Int32) (q_now_clean : Int32) (q_now_guards : Int32) (q_now_kind : Int32) (q_now_team : Int32) (q_now_draw : Int32) (q_sheets_lane : Nat → Int32) (q_sheets_length : Nat → Int32) (q_sheets_items : Nat → Nat → Int64) : va_W := [(a_this, .inr (7, [.ref a_this_now, .ref a_this_past, .ref a_this_kept, .ref a_this_keptPast, .int q_hasImage, .ref a_this_plans, .ref a_this_plans_search_net, .ref a_this_tape, .ref a_this_sheets])),
  (a_this_now, .inr (5, [.int q_now_nodes, .ref a_this_now_near, .int q_now_clean, .int q_now_guards, .int q_now_kind, .int q_now_team, .int q_now_draw])),
  (a_this_sheets, .inl (cH, 4, .inr (.inr (.inr (.inr (fun k => some (a_this_sheets_e k))))))),
  ((a_this_sheets_e 0), .inr (4, [.int (q_sheets_lane 0), .int (q_sheets_length 0), .ref (a_this_sheets_items_e 0)])),
  ((a_this_sheets_items_e 0), .inl (cL, 24, .inr (.inl (q_sheets_items 0)))),
  ((a_this_sheets_e 1), .inr (4, [.int (q_sheets_lane 1), .int (q_sheets_length 1), .ref (a_this_sheets_items_e 1)])),
  ((a_this_sheets_items_e 1), .inl (cL, 24, .inr (.inl (q_sheets_items 1)))),
  ((a_this_sheets_e 2), .inr (4, [.int (q_sheets_lane 2), .int (q_sheets_length 2), .ref (a_this_sheets_items_e 2)])),
  ((a_this_sheets_items_e 2), .inl (cL, 24, .inr (.inl (q_sheets_items 2)))),
  ((a_this_sheets_e 3), .inr (4, [.int (q_sheets_lane 3), .int (q_sheets_length 3), .ref (a_this_sheets_items_e 3)])),
  ((a_this_sheets_items_e 3), .inl (cL, 24, .inr (.inl (q_sheets_items 3))))]
def bX7_film_51 (q_now_nodes : Int32) (q_now_clean : Int32) (q_now_guards : Int32) (q_sheets_lane : Nat → Int32) (q_sheets_length : Nat → Int32) (k21 : Nat) (y51_3 : Int32) (v51 : Int32 × (Nat → Nat → Int64)) : Option ((Int32 × (Nat → Nat → Int64)) ⊕ (Int32 × (Nat → Nat → Int64))) := (if q_now_nodes ≤ v51.1 then some (.inr (v51.1, v51.2)) else Option.bind (fX5_look q_now_clean q_now_guards v51.1) (fun r8 => Option.bind (wl (v51.2 k21) 24 (y51_3 + v51.1) ((r8).toInt64)) (fun g10 => some (.inl ((v51.1 + (1 : Int32)), (va_up v51.2 k21 g10))))))
def fX7_film (q_now_nodes : Int32) (q_now_clean : Int32) (q_now_guards : Int32) (q_sheets_lane : Nat → Int32) (q_sheets_length : Nat → Int32) (q_sheets_items : Nat → Nat → Int64) (x1 : Int32) (x2 : Int32) (x3 : Int32) : Option (Int32 × (Nat → Nat → Int64)) := Option.bind (fX7_isSheet x1) (fun r1 => (if r1 = 0 then some ((-1 : Int32), q_sheets_items) else Option.bind (fX7_isLane x2) (fun r4 => (if r4 = 0 then some ((-1 : Int32), q_sheets_items) else sel4 x1 (fun k21 => Option.bind (fX4_wrongAs (q_sheets_lane k21) (q_sheets_length k21) x2 x3 q_now_nodes) (fun r12 => (if r12 = 0 then Option.bind (itL (bX7_film_51 q_now_nodes q_now_clean q_now_guards q_sheets_lane q_sheets_length k21 x3) fu ((0 : Int32), q_sheets_items)) (fun ex15 => some (q_now_nodes, ex15.2)) else some (r12, q_sheets_items))))))))
abbrev gX7_film (p : Program) (l : Launch) (e : Env) (s : State) (m : MethodId) (below : List Frame) (meth : Method) (c : Code) (D : vg) (cI cL cS cH : ClassId) (a_this : Nat) (a_this_now : Nat) (a_this_past : Nat) (a_this_kept : Nat) (a_this_keptPast : Nat) (a_this_plans : Nat) (a_this_plans_search_net : Nat) (a_this_tape : Nat) (a_this_sheets : Nat) (a_this_now_near : Nat) (a_this_sheets_e : Nat → Nat) (a_this_sheets_items_e : Nat → Nat) (q_hasImage : Int32) (q_now_nodes : Int32) (q_now_clean : Int32) (q_now_guards : Int32) (q_now_kind : Int32) (q_now_team : Int32) (q_now_draw : Int32) (q_sheets_lane : Nat → Int32) (q_sheets_length : Nat → Int32) (q_sheets_items : Nat → Nat → Int64) (x1 : Int32) (x2 : Int32) (x3 : Int32) (res : Int32 × (Nat → Nat → Int64)) (H : Heap) (locs : List Loc) (g : JFrame) : Prop := W p l e (headSpec wsX7_film ({ frames := 2, cells := 0, slots := 0, locals := 45 })).room s m ([.ref a_this, .int x1, .int x2, .int x3] : List Value).toArray below meth c H locs 0 0 (MQ below (va_Qi (fun r' (_ : Unit) => r' = res.1) (fun _ t => pos1 D s.heap.size (wX7_film cI cL cS cH a_this a_this_now a_this_past a_this_kept a_this_keptPast a_this_plans a_this_plans_search_net a_this_tape a_this_sheets a_this_now_near a_this_sheets_e a_this_sheets_items_e q_hasImage q_now_nodes q_now_clean q_now_guards q_now_kind q_now_team q_now_draw q_sheets_lane q_sheets_length q_sheets_items) (wX7_film cI cL cS cH a_this a_this_now a_this_past a_this_kept a_this_keptPast a_this_plans a_this_plans_search_net a_this_tape a_this_sheets a_this_now_near a_this_sheets_e a_this_sheets_items_e q_hasImage q_now_nodes q_now_clean q_now_guards q_now_kind q_now_team q_now_draw q_sheets_lane q_sheets_length res.2) t) (va_A (wX7_film cI cL cS cH a_this a_this_now a_this_past a_this_kept a_this_keptPast a_this_plans a_this_plans_search_net a_this_tape a_this_sheets a_this_now_near a_this_sheets_e a_this_sheets_items_e q_hasImage q_now_nodes q_now_clean q_now_guards q_now_kind q_now_team q_now_draw q_sheets_lane q_sheets_length q_sheets_items) s.heap.size)) ([.ref a_this, .int x1, .int x2, .int x3] : List Value).toArray s 0 0 (va_A (wX7_film cI cL cS cH a_this a_this_now a_this_past a_this_kept a_this_keptPast a_this_plans a_this_plans_search_net a_this_tape a_this_sheets a_this_now_near a_this_sheets_e a_this_sheets_items_e q_hasImage q_now_nodes q_now_clean q_now_guards q_now_kind q_now_team q_now_draw q_sheets_lane q_sheets_length q_sheets_items) s.heap.size)) g
set_option maxHeartbeats 4000000 in
set_option maxRecDepth 100000 in
theorem mX7_film (l : Launch) (D : vg) (cI cL cS cH : ClassId) (sz : Nat) (a_this : Nat) (a_this_now : Nat) (a_this_past : Nat) (a_this_kept : Nat) (a_this_keptPast : Nat) (a_this_plans : Nat) (a_this_plans_search_net : Nat) (a_this_tape : Nat) (a_this_sheets : Nat) (a_this_now_near : Nat) (a_this_sheets_e : Nat → Nat) (a_this_sheets_items_e : Nat → Nat) (q_hasImage : Int32) (q_now_nodes : Int32) (q_now_clean : Int32) (q_now_guards : Int32) (q_now_kind : Int32) (q_now_team : Int32) (q_now_draw : Int32) (q_sheets_lane : Nat → Int32) (q_sheets_length : Nat → Int32) (q_sheets_items : Nat → Nat → Int64) (x1 : Int32) (x2 : Int32) (x3 : Int32) {res : Int32 × (Nat → Nat → Int64)} (hf : fX7_film q_now_nodes q_now_clean q_now_guards q_sheets_lane q_sheets_length q_sheets_items x1 x2 x3 = some res) : cti l yX7_film wsX7_film ({ frames := 2, cells := 0, slots := 0, locals := 45 }) D (ty4 cI cL cS cH) sz [.ref a_this, .int x1, .int x2, .int x3] (wX7_film cI cL cS cH a_this a_this_now a_this_past a_this_kept a_this_keptPast a_this_plans a_this_plans_search_net a_this_tape a_this_sheets a_this_now_near a_this_sheets_e a_this_sheets_items_e q_hasImage q_now_nodes q_now_clean q_now_guards q_now_kind q_now_team q_now_draw q_sheets_lane q_sheets_length q_sheets_items) (wX7_film cI cL cS cH a_this a_this_now a_this_past a_this_kept a_this_keptPast a_this_plans a_this_plans_search_net a_this_tape a_this_sheets a_this_now_near a_this_sheets_e a_this_sheets_items_e q_hasImage q_now_nodes q_now_clean q_now_guards q_now_kind q_now_team q_now_draw q_sheets_lane q_sheets_length res.2) res.1 := by
  refine Met.ofW (cc := cX7_film) (maxL := 7) (ret := (some .int)) (by decide) rfl ?_
  intro p e s m args below meth c s₁ B hml hv
  obtain ⟨rfl, hpre⟩ := hv
  obtain rfl := hpre.1
  have C : CallFix p m c cX7_film 7 s _ wsX7_film RX7 := ⟨B.exec, B.bytes, hml, findClass_of_methodNamed B.named, atoms_spec (ws := wsX7_film) B.pre⟩
  have hr := B.returns
  have hlocks := B.notSynchronized
  have w := wd_start hpre
  clear hpre B
  have hl := lv_entry ([.ref a_this, .int x1, .int x2, .int x3]) (n := 7) (Nat.le_of_ble_eq_true rfl)
  rw [lg_entry_eq]
  generalize (lg_sl ([.ref a_this, .int x1, .int x2, .int x3]) ++ List.replicate (7 - (lg_sl ([.ref a_this, .int x1, .int x2, .int x3])).length) Slot.unset).toArray = ls at hl ⊢
  have hl : lv_has ls 7 [(0, .ref a_this), (1, .int x1), (2, .int x2), (3, .int x3)] := hl
  unfold fX7_film at hf
  refine lv_iload_n C.1 C.2.1 dX7_film_0 rfl (lv_at hl 1 rfl) ?_
  obtain ⟨r1, hc2, hf⟩ := bd hf
  refine call_Si (ws' := (wX7_film cI cL cS cH a_this a_this_now a_this_past a_this_kept a_this_keptPast a_this_plans a_this_plans_search_net a_this_tape a_this_sheets a_this_now_near a_this_sheets_e a_this_sheets_items_e q_hasImage q_now_nodes q_now_clean q_now_guards q_now_kind q_now_team q_now_draw q_sheets_lane q_sheets_length q_sheets_items)) (rest := []) C w (mX7_isSheet l D cI cL cS cH _ x1 hc2) (va_cwS 1 C.2.2.2.2 gX7_film_X7_isSheet rfl rfl rfl (by decide +kernel) ⟨Nat.le_of_ble_eq_true rfl, Nat.le_of_ble_eq_true rfl⟩) [] [0, 1, 2, 3, 4, 5, 6, 7, 8, 9, 10] 11 trivial trivial ⟨⟨_, rfl, rfl⟩, ⟨_, rfl, rfl⟩, ⟨_, rfl, rfl⟩, ⟨_, rfl, rfl⟩, ⟨_, rfl, rfl⟩, ⟨_, rfl, rfl⟩, ⟨_, rfl, rfl⟩, ⟨_, rfl, rfl⟩, ⟨_, rfl, rfl⟩, ⟨_, rfl, rfl⟩, ⟨_, rfl, rfl⟩, trivial⟩ rfl (by decide) (by decide) rfl hl.1 rfl (lv_room (Nat.le_of_ble_eq_true rfl)) dX7_film_1 ⟨Nat.zero_le _, Nat.zero_le _⟩ (fun H locs w => ?_)
  refine lv_if_eq (tgt := 14) C.1 C.2.1 dX7_film_4 (by decide) (fun hq3 => ?_) (fun hq3 => ?_)
  · have hf := ite_t hf hq3
    refine lv_iconst (v := (-1 : Int32)) C.1 C.2.1 dX7_film_14 (by decide) ?_
    have hres := Option.some.inj hf
    subst hres
    exact ret_i C hr hlocks w rfl dX7_film_15
  · have hf := ite_f hf hq3
    refine lv_iload_n C.1 C.2.1 dX7_film_7 rfl (lv_at hl 2 rfl) ?_
    obtain ⟨r4, hc5, hf⟩ := bd hf
    refine call_Si (ws' := (wX7_film cI cL cS cH a_this a_this_now a_this_past a_this_kept a_this_keptPast a_this_plans a_this_plans_search_net a_this_tape a_this_sheets a_this_now_near a_this_sheets_e a_this_sheets_items_e q_hasImage q_now_nodes q_now_clean q_now_guards q_now_kind q_now_team q_now_draw q_sheets_lane q_sheets_length q_sheets_items)) (rest := []) C w (mX7_isLane l D cI cL cS cH _ x2 hc5) (va_cwS 1 C.2.2.2.2 gX7_film_X7_isLane rfl rfl rfl (by decide +kernel) ⟨Nat.le_of_ble_eq_true rfl, Nat.le_of_ble_eq_true rfl⟩) [] [0, 1, 2, 3, 4, 5, 6, 7, 8, 9, 10] 11 trivial trivial ⟨⟨_, rfl, rfl⟩, ⟨_, rfl, rfl⟩, ⟨_, rfl, rfl⟩, ⟨_, rfl, rfl⟩, ⟨_, rfl, rfl⟩, ⟨_, rfl, rfl⟩, ⟨_, rfl, rfl⟩, ⟨_, rfl, rfl⟩, ⟨_, rfl, rfl⟩, ⟨_, rfl, rfl⟩, ⟨_, rfl, rfl⟩, trivial⟩ rfl (by decide) (by decide) rfl hl.1 rfl (lv_room (Nat.le_of_ble_eq_true rfl)) dX7_film_8 ⟨Nat.zero_le _, Nat.zero_le _⟩ (fun H locs w => ?_)
    refine lv_if_ne (tgt := 16) C.1 C.2.1 dX7_film_11 (by decide) (fun hq6 => ?_) (fun hq6 => ?_)
    · have hf := ite_f hf hq6
      refine lv_aload_n C.1 C.2.1 dX7_film_16 rfl (lv_at hl 0 rfl) ?_
      refine r_get C w inX7_film_X7 0 rfl rfl 8 (by decide) lkX7_film_54 rfl dX7_film_17 ?_
      refine lv_iload_n C.1 C.2.1 dX7_film_20 rfl (lv_at hl 1 rfl) ?_
      rcases sel4_in hf with ⟨hx21, hf⟩ | ⟨hx21, hf⟩ | ⟨hx21, hf⟩ | ⟨hx21, hf⟩
      · refine r_aald (v := (a_this_sheets_e 0)) C w 2 3 rfl rfl (by rw [hx21]; exact ⟨inb_in (by decide), rfl⟩) dX7_film_21 ?_
        have hlp51 : ∀ (y51_3 : Int32) (ex51 : Int32 × (Nat → Nat → Int64)) (hk : (∀ (H : Heap) (locs : List Loc) (ls : Array Slot), wd D (ty4 cI cL cS cH) s (va_A (wX7_film cI cL cS cH a_this a_this_now a_this_past a_this_kept a_this_keptPast a_this_plans a_this_plans_search_net a_this_tape a_this_sheets a_this_now_near a_this_sheets_e a_this_sheets_items_e q_hasImage q_now_nodes q_now_clean q_now_guards q_now_kind q_now_team q_now_draw q_sheets_lane q_sheets_length q_sheets_items) s.heap.size) s.heap H locs (wX7_film cI cL cS cH a_this a_this_now a_this_past a_this_kept a_this_keptPast a_this_plans a_this_plans_search_net a_this_tape a_this_sheets a_this_now_near a_this_sheets_e a_this_sheets_items_e q_hasImage q_now_nodes q_now_clean q_now_guards q_now_kind q_now_team q_now_draw q_sheets_lane q_sheets_length ex51.2) → lv_has ls 7 [(0, .ref a_this)] → gX7_film p l e s m below meth c D cI cL cS cH a_this a_this_now a_this_past a_this_kept a_this_keptPast a_this_plans a_this_plans_search_net a_this_tape a_this_sheets a_this_now_near a_this_sheets_e a_this_sheets_items_e q_hasImage q_now_nodes q_now_clean q_now_guards q_now_kind q_now_team q_now_draw q_sheets_lane q_sheets_length q_sheets_items x1 x2 x3 res H locs (F0 m 89 ls []))) (n : Nat) (v51 : Int32 × (Nat → Nat → Int64)) (H : Heap) (locs : List Loc) (ls : Array Slot), itL (bX7_film_51 q_now_nodes q_now_clean q_now_guards q_sheets_lane q_sheets_length 0 y51_3) n v51 = some ex51 → wd D (ty4 cI cL cS cH) s (va_A (wX7_film cI cL cS cH a_this a_this_now a_this_past a_this_kept a_this_keptPast a_this_plans a_this_plans_search_net a_this_tape a_this_sheets a_this_now_near a_this_sheets_e a_this_sheets_items_e q_hasImage q_now_nodes q_now_clean q_now_guards q_now_kind q_now_team q_now_draw q_sheets_lane q_sheets_length q_sheets_items) s.heap.size) s.heap H locs (wX7_film cI cL cS cH a_this a_this_now a_this_past a_this_kept a_this_keptPast a_this_plans a_this_plans_search_net a_this_tape a_this_sheets a_this_now_near a_this_sheets_e a_this_sheets_items_e q_hasImage q_now_nodes q_now_clean q_now_guards q_now_kind q_now_team q_now_draw q_sheets_lane q_sheets_length v51.2) → lv_has ls 7 [(0, .ref a_this), (3, .int y51_3), (4, .ref (a_this_sheets_e 0)), (6, .int v51.1)] → gX7_film p l e s m below meth c D cI cL cS cH a_this a_this_now a_this_past a_this_kept a_this_keptPast a_this_plans a_this_plans_search_net a_this_tape a_this_sheets a_this_now_near a_this_sheets_e a_this_sheets_items_e q_hasImage q_now_nodes q_now_clean q_now_guards q_now_kind q_now_team q_now_draw q_sheets_lane q_sheets_length q_sheets_items x1 x2 x3 res H locs (F0 m 51 ls []) := by
          intro y51_3 ex51 hk n
          induction n with
          | zero => intro v51 H locs ls hi w hl; exact (itL_zero hi).elim
          | succ n ih =>
            intro v51 H locs ls hi w hl
            obtain ⟨o, hf, hn⟩ := itL_succ hi
            unfold bX7_film_51 at hf
            refine lv_iload C.1 C.2.1 dX7_film_51 (lv_at hl 3 rfl) ?_
            refine lv_aload_n C.1 C.2.1 dX7_film_53 rfl (lv_at hl 0 rfl) ?_
            refine r_get C w inX7_film_X7 0 rfl rfl 0 (by decide) lkX7_film_12 rfl dX7_film_54 ?_
            refine r_get C w inX7_film_X5 1 rfl rfl 0 (by decide) lkX7_film_80 rfl dX7_film_57 ?_
            refine lv_icmp_ge (tgt := 89) C.1 C.2.1 dX7_film_60 (by decide) (fun hq7 => ?_) (fun hq7 => ?_)
            · have hf := ite_t hf hq7
              obtain rfl := Option.some.inj hf
              obtain rfl := hn
              exact hk _ _ _ w (lv_sub hl [0] rfl)
            · have hf := ite_f hf hq7
              refine lv_aload C.1 C.2.1 dX7_film_63 (lv_at hl 2 rfl) ?_
              refine r_get C w inX7_film_X4 3 rfl rfl 2 (by decide) lkX7_film_212 rfl dX7_film_65 ?_
              refine lv_iload_n C.1 C.2.1 dX7_film_68 rfl (lv_at hl 1 rfl) ?_
              refine lv_iload C.1 C.2.1 dX7_film_69 (lv_at hl 3 rfl) ?_
              refine lv_iadd C.1 C.2.1 dX7_film_71 ?_
              refine lv_aload_n C.1 C.2.1 dX7_film_72 rfl (lv_at hl 0 rfl) ?_
              refine r_get C w inX7_film_X7 0 rfl rfl 0 (by decide) lkX7_film_12 rfl dX7_film_73 ?_
              refine lv_iload C.1 C.2.1 dX7_film_76 (lv_at hl 3 rfl) ?_
              obtain ⟨r8, hc9, hf⟩ := bd hf
              refine call_Vi (ws' := (wX7_film cI cL cS cH a_this a_this_now a_this_past a_this_kept a_this_keptPast a_this_plans a_this_plans_search_net a_this_tape a_this_sheets a_this_now_near a_this_sheets_e a_this_sheets_items_e q_hasImage q_now_nodes q_now_clean q_now_guards q_now_kind q_now_team q_now_draw q_sheets_lane q_sheets_length v51.2)) (rest := [.int (y51_3 + v51.1), .ref (a_this_sheets_items_e 0)]) C w (mX5_look l D cI cL cS cH _ a_this_now a_this_now_near q_now_nodes q_now_clean q_now_guards q_now_kind q_now_team q_now_draw v51.1 hc9) (cwV 1 C.2.2.2.2 gX7_film_X5_look rfl rfl rfl (by decide +kernel) ⟨Nat.le_of_ble_eq_true rfl, Nat.le_of_ble_eq_true rfl⟩) [1] [0, 2, 3, 4, 5, 6, 7, 8, 9, 10] 11 ⟨rfl, trivial⟩ ⟨rfl, trivial⟩ ⟨⟨_, rfl, rfl⟩, ⟨_, rfl, rfl⟩, ⟨_, rfl, rfl⟩, ⟨_, rfl, rfl⟩, ⟨_, rfl, rfl⟩, ⟨_, rfl, rfl⟩, ⟨_, rfl, rfl⟩, ⟨_, rfl, rfl⟩, ⟨_, rfl, rfl⟩, ⟨_, rfl, rfl⟩, trivial⟩ rfl (by decide) (by decide) (ci := 5) (q0 := 1) rfl rfl rfl hl.1 rfl (lv_room (Nat.le_of_ble_eq_true rfl)) dX7_film_78 ⟨Nat.zero_le _, Nat.zero_le _⟩ (fun H locs w => ?_)
              refine lv_i2l C.1 C.2.1 dX7_film_81 rfl ?_
              obtain ⟨g10, hg11, hf⟩ := bd hf
              refine r_last (ws' := (wX7_film cI cL cS cH a_this a_this_now a_this_past a_this_kept a_this_keptPast a_this_plans a_this_plans_search_net a_this_tape a_this_sheets a_this_now_near a_this_sheets_e a_this_sheets_items_e q_hasImage q_now_nodes q_now_clean q_now_guards q_now_kind q_now_team q_now_draw q_sheets_lane q_sheets_length (va_up v51.2 0 g10))) C w 4 1 rfl rfl (wl_in hg11) rfl dX7_film_82 (fun H locs w => ?_)
              refine lv_iinc (v := (v51.1 + (1 : Int32))) (lv' := [(6, .int (v51.1 + (1 : Int32))), (0, .ref a_this), (3, .int y51_3), (4, .ref (a_this_sheets_e 0))]) C.1 C.2.1 dX7_film_83 hl (k := 3) rfl rfl (by decide) rfl (fun ls hl => ?_)
              refine lv_goto (tgt := 51) C.1 C.2.1 dX7_film_86 (by decide) ?_
              obtain rfl := Option.some.inj hf
              exact ih ((v51.1 + (1 : Int32)), (va_up v51.2 0 g10)) _ _ _ hn w (lv_sub hl [1, 2, 3, 0] rfl)
        refine lv_astore (lv' := [(4, .ref (a_this_sheets_e 0)), (0, .ref a_this), (1, .int x1), (2, .int x2), (3, .int x3)]) C.1 C.2.1 dX7_film_22 hl (by decide) rfl (fun ls hl => ?_)
        refine lv_aload C.1 C.2.1 dX7_film_24 (lv_at hl 0 rfl) ?_
        refine lv_iload_n C.1 C.2.1 dX7_film_26 rfl (lv_at hl 3 rfl) ?_
        refine lv_iload_n C.1 C.2.1 dX7_film_27 rfl (lv_at hl 4 rfl) ?_
        refine lv_aload_n C.1 C.2.1 dX7_film_28 rfl (lv_at hl 1 rfl) ?_
        refine r_get C w inX7_film_X7 0 rfl rfl 0 (by decide) lkX7_film_12 rfl dX7_film_29 ?_
        refine r_get C w inX7_film_X5 1 rfl rfl 0 (by decide) lkX7_film_80 rfl dX7_film_32 ?_
        obtain ⟨r12, hc13, hf⟩ := bd hf
        refine call_Vi (ws' := (wX7_film cI cL cS cH a_this a_this_now a_this_past a_this_kept a_this_keptPast a_this_plans a_this_plans_search_net a_this_tape a_this_sheets a_this_now_near a_this_sheets_e a_this_sheets_items_e q_hasImage q_now_nodes q_now_clean q_now_guards q_now_kind q_now_team q_now_draw q_sheets_lane q_sheets_length q_sheets_items)) (rest := []) C w (mX4_wrongAs l D cI cL cS cH _ (a_this_sheets_e 0) (a_this_sheets_items_e 0) (q_sheets_lane 0) (q_sheets_length 0) x2 x3 q_now_nodes hc13) (cwV 3 C.2.2.2.2 gX7_film_X4_wrongAs rfl rfl rfl (by decide +kernel) ⟨Nat.le_of_ble_eq_true rfl, Nat.le_of_ble_eq_true rfl⟩) [3] [0, 1, 2, 4, 5, 6, 7, 8, 9, 10] 11 ⟨rfl, trivial⟩ ⟨rfl, trivial⟩ ⟨⟨_, rfl, rfl⟩, ⟨_, rfl, rfl⟩, ⟨_, rfl, rfl⟩, ⟨_, rfl, rfl⟩, ⟨_, rfl, rfl⟩, ⟨_, rfl, rfl⟩, ⟨_, rfl, rfl⟩, ⟨_, rfl, rfl⟩, ⟨_, rfl, rfl⟩, ⟨_, rfl, rfl⟩, trivial⟩ rfl (by decide) (by decide) (ci := 4) (q0 := 3) rfl rfl rfl hl.1 rfl (lv_room (Nat.le_of_ble_eq_true rfl)) dX7_film_35 ⟨Nat.zero_le _, Nat.zero_le _⟩ (fun H locs w => ?_)
        refine lv_istore (lv' := [(5, .int r12), (4, .ref (a_this_sheets_e 0)), (0, .ref a_this), (1, .int x1), (2, .int x2), (3, .int x3)]) C.1 C.2.1 dX7_film_38 hl (by decide) rfl (fun ls hl => ?_)
        refine lv_iload C.1 C.2.1 dX7_film_40 (lv_at hl 0 rfl) ?_
        refine lv_if_eq (tgt := 48) C.1 C.2.1 dX7_film_42 (by decide) (fun hq14 => ?_) (fun hq14 => ?_)
        · have hf := ite_t hf hq14
          refine lv_iconst (v := (0 : Int32)) C.1 C.2.1 dX7_film_48 (by decide) ?_
          refine lv_istore (lv' := [(6, .int (0 : Int32)), (5, .int r12), (4, .ref (a_this_sheets_e 0)), (0, .ref a_this), (1, .int x1), (2, .int x2), (3, .int x3)]) C.1 C.2.1 dX7_film_49 hl (by decide) rfl (fun ls hl => ?_)
          obtain ⟨ex15, hx16, hf⟩ := bd hf
          refine hlp51 x3 ex15 ?_ fu ((0 : Int32), q_sheets_items) _ _ _ hx16 w (lv_sub hl [3, 6, 2, 0] rfl)
          intro H locs ls w hl
          refine lv_aload_n C.1 C.2.1 dX7_film_89 rfl (lv_at hl 0 rfl) ?_
          refine r_get C w inX7_film_X7 0 rfl rfl 0 (by decide) lkX7_film_12 rfl dX7_film_90 ?_
          refine r_get C w inX7_film_X5 1 rfl rfl 0 (by decide) lkX7_film_80 rfl dX7_film_93 ?_
          have hres := Option.some.inj hf
          subst hres
          exact ret_i C hr hlocks w rfl dX7_film_96
        · have hf := ite_f hf hq14
          refine lv_iload C.1 C.2.1 dX7_film_45 (lv_at hl 0 rfl) ?_
          have hres := Option.some.inj hf
          subst hres
          exact ret_i C hr hlocks w rfl dX7_film_47
      · refine r_aald (v := (a_this_sheets_e 1)) C w 2 3 rfl rfl (by rw [hx21]; exact ⟨inb_in (by decide), rfl⟩) dX7_film_21 ?_
        have hlp51 : ∀ (y51_3 : Int32) (ex51 : Int32 × (Nat → Nat → Int64)) (hk : (∀ (H : Heap) (locs : List Loc) (ls : Array Slot), wd D (ty4 cI cL cS cH) s (va_A (wX7_film cI cL cS cH a_this a_this_now a_this_past a_this_kept a_this_keptPast a_this_plans a_this_plans_search_net a_this_tape a_this_sheets a_this_now_near a_this_sheets_e a_this_sheets_items_e q_hasImage q_now_nodes q_now_clean q_now_guards q_now_kind q_now_team q_now_draw q_sheets_lane q_sheets_length q_sheets_items) s.heap.size) s.heap H locs (wX7_film cI cL cS cH a_this a_this_now a_this_past a_this_kept a_this_keptPast a_this_plans a_this_plans_search_net a_this_tape a_this_sheets a_this_now_near a_this_sheets_e a_this_sheets_items_e q_hasImage q_now_nodes q_now_clean q_now_guards q_now_kind q_now_team q_now_draw q_sheets_lane q_sheets_length ex51.2) → lv_has ls 7 [(0, .ref a_this)] → gX7_film p l e s m below meth c D cI cL cS cH a_this a_this_now a_this_past a_this_kept a_this_keptPast a_this_plans a_this_plans_search_net a_this_tape a_this_sheets a_this_now_near a_this_sheets_e a_this_sheets_items_e q_hasImage q_now_nodes q_now_clean q_now_guards q_now_kind q_now_team q_now_draw q_sheets_lane q_sheets_length q_sheets_items x1 x2 x3 res H locs (F0 m 89 ls []))) (n : Nat) (v51 : Int32 × (Nat → Nat → Int64)) (H : Heap) (locs : List Loc) (ls : Array Slot), itL (bX7_film_51 q_now_nodes q_now_clean q_now_guards q_sheets_lane q_sheets_length 1 y51_3) n v51 = some ex51 → wd D (ty4 cI cL cS cH) s (va_A (wX7_film cI cL cS cH a_this a_this_now a_this_past a_this_kept a_this_keptPast a_this_plans a_this_plans_search_net a_this_tape a_this_sheets a_this_now_near a_this_sheets_e a_this_sheets_items_e q_hasImage q_now_nodes q_now_clean q_now_guards q_now_kind q_now_team q_now_draw q_sheets_lane q_sheets_length q_sheets_items) s.heap.size) s.heap H locs (wX7_film cI cL cS cH a_this a_this_now a_this_past a_this_kept a_this_keptPast a_this_plans a_this_plans_search_net a_this_tape a_this_sheets a_this_now_near a_this_sheets_e a_this_sheets_items_e q_hasImage q_now_nodes q_now_clean q_now_guards q_now_kind q_now_team q_now_draw q_sheets_lane q_sheets_length v51.2) → lv_has ls 7 [(0, .ref a_this), (3, .int y51_3), (4, .ref (a_this_sheets_e 1)), (6, .int v51.1)] → gX7_film p l e s m below meth c D cI cL cS cH a_this a_this_now a_this_past a_this_kept a_this_keptPast a_this_plans a_this_plans_search_net a_this_tape a_this_sheets a_this_now_near a_this_sheets_e a_this_sheets_items_e q_hasImage q_now_nodes q_now_clean q_now_guards q_now_kind q_now_team q_now_draw q_sheets_lane q_sheets_length q_sheets_items x1 x2 x3 res H locs (F0 m 51 ls []) := by
          intro y51_3 ex51 hk n
          induction n with
          | zero => intro v51 H locs ls hi w hl; exact (itL_zero hi).elim
          | succ n ih =>
            intro v51 H locs ls hi w hl
            obtain ⟨o, hf, hn⟩ := itL_succ hi
            unfold bX7_film_51 at hf
            refine lv_iload C.1 C.2.1 dX7_film_51 (lv_at hl 3 rfl) ?_
            refine lv_aload_n C.1 C.2.1 dX7_film_53 rfl (lv_at hl 0 rfl) ?_
            refine r_get C w inX7_film_X7 0 rfl rfl 0 (by decide) lkX7_film_12 rfl dX7_film_54 ?_
            refine r_get C w inX7_film_X5 1 rfl rfl 0 (by decide) lkX7_film_80 rfl dX7_film_57 ?_
            refine lv_icmp_ge (tgt := 89) C.1 C.2.1 dX7_film_60 (by decide) (fun hq7 => ?_) (fun hq7 => ?_)
            · have hf := ite_t hf hq7
              obtain rfl := Option.some.inj hf
              obtain rfl := hn
              exact hk _ _ _ w (lv_sub hl [0] rfl)
            · have hf := ite_f hf hq7
              refine lv_aload C.1 C.2.1 dX7_film_63 (lv_at hl 2 rfl) ?_
              refine r_get C w inX7_film_X4 5 rfl rfl 2 (by decide) lkX7_film_212 rfl dX7_film_65 ?_
              refine lv_iload_n C.1 C.2.1 dX7_film_68 rfl (lv_at hl 1 rfl) ?_
              refine lv_iload C.1 C.2.1 dX7_film_69 (lv_at hl 3 rfl) ?_
              refine lv_iadd C.1 C.2.1 dX7_film_71 ?_
              refine lv_aload_n C.1 C.2.1 dX7_film_72 rfl (lv_at hl 0 rfl) ?_
              refine r_get C w inX7_film_X7 0 rfl rfl 0 (by decide) lkX7_film_12 rfl dX7_film_73 ?_
              refine lv_iload C.1 C.2.1 dX7_film_76 (lv_at hl 3 rfl) ?_
              obtain ⟨r8, hc9, hf⟩ := bd hf
              refine call_Vi (ws' := (wX7_film cI cL cS cH a_this a_this_now a_this_past a_this_kept a_this_keptPast a_this_plans a_this_plans_search_net a_this_tape a_this_sheets a_this_now_near a_this_sheets_e a_this_sheets_items_e q_hasImage q_now_nodes q_now_clean q_now_guards q_now_kind q_now_team q_now_draw q_sheets_lane q_sheets_length v51.2)) (rest := [.int (y51_3 + v51.1), .ref (a_this_sheets_items_e 1)]) C w (mX5_look l D cI cL cS cH _ a_this_now a_this_now_near q_now_nodes q_now_clean q_now_guards q_now_kind q_now_team q_now_draw v51.1 hc9) (cwV 1 C.2.2.2.2 gX7_film_X5_look rfl rfl rfl (by decide +kernel) ⟨Nat.le_of_ble_eq_true rfl, Nat.le_of_ble_eq_true rfl⟩) [1] [0, 2, 3, 4, 5, 6, 7, 8, 9, 10] 11 ⟨rfl, trivial⟩ ⟨rfl, trivial⟩ ⟨⟨_, rfl, rfl⟩, ⟨_, rfl, rfl⟩, ⟨_, rfl, rfl⟩, ⟨_, rfl, rfl⟩, ⟨_, rfl, rfl⟩, ⟨_, rfl, rfl⟩, ⟨_, rfl, rfl⟩, ⟨_, rfl, rfl⟩, ⟨_, rfl, rfl⟩, ⟨_, rfl, rfl⟩, trivial⟩ rfl (by decide) (by decide) (ci := 5) (q0 := 1) rfl rfl rfl hl.1 rfl (lv_room (Nat.le_of_ble_eq_true rfl)) dX7_film_78 ⟨Nat.zero_le _, Nat.zero_le _⟩ (fun H locs w => ?_)
              refine lv_i2l C.1 C.2.1 dX7_film_81 rfl ?_
              obtain ⟨g10, hg11, hf⟩ := bd hf
              refine r_last (ws' := (wX7_film cI cL cS cH a_this a_this_now a_this_past a_this_kept a_this_keptPast a_this_plans a_this_plans_search_net a_this_tape a_this_sheets a_this_now_near a_this_sheets_e a_this_sheets_items_e q_hasImage q_now_nodes q_now_clean q_now_guards q_now_kind q_now_team q_now_draw q_sheets_lane q_sheets_length (va_up v51.2 1 g10))) C w 6 1 rfl rfl (wl_in hg11) rfl dX7_film_82 (fun H locs w => ?_)
              refine lv_iinc (v := (v51.1 + (1 : Int32))) (lv' := [(6, .int (v51.1 + (1 : Int32))), (0, .ref a_this), (3, .int y51_3), (4, .ref (a_this_sheets_e 1))]) C.1 C.2.1 dX7_film_83 hl (k := 3) rfl rfl (by decide) rfl (fun ls hl => ?_)
              refine lv_goto (tgt := 51) C.1 C.2.1 dX7_film_86 (by decide) ?_
              obtain rfl := Option.some.inj hf
              exact ih ((v51.1 + (1 : Int32)), (va_up v51.2 1 g10)) _ _ _ hn w (lv_sub hl [1, 2, 3, 0] rfl)
        refine lv_astore (lv' := [(4, .ref (a_this_sheets_e 1)), (0, .ref a_this), (1, .int x1), (2, .int x2), (3, .int x3)]) C.1 C.2.1 dX7_film_22 hl (by decide) rfl (fun ls hl => ?_)
        refine lv_aload C.1 C.2.1 dX7_film_24 (lv_at hl 0 rfl) ?_
        refine lv_iload_n C.1 C.2.1 dX7_film_26 rfl (lv_at hl 3 rfl) ?_
        refine lv_iload_n C.1 C.2.1 dX7_film_27 rfl (lv_at hl 4 rfl) ?_
        refine lv_aload_n C.1 C.2.1 dX7_film_28 rfl (lv_at hl 1 rfl) ?_
        refine r_get C w inX7_film_X7 0 rfl rfl 0 (by decide) lkX7_film_12 rfl dX7_film_29 ?_
        refine r_get C w inX7_film_X5 1 rfl rfl 0 (by decide) lkX7_film_80 rfl dX7_film_32 ?_
        obtain ⟨r12, hc13, hf⟩ := bd hf
        refine call_Vi (ws' := (wX7_film cI cL cS cH a_this a_this_now a_this_past a_this_kept a_this_keptPast a_this_plans a_this_plans_search_net a_this_tape a_this_sheets a_this_now_near a_this_sheets_e a_this_sheets_items_e q_hasImage q_now_nodes q_now_clean q_now_guards q_now_kind q_now_team q_now_draw q_sheets_lane q_sheets_length q_sheets_items)) (rest := []) C w (mX4_wrongAs l D cI cL cS cH _ (a_this_sheets_e 1) (a_this_sheets_items_e 1) (q_sheets_lane 1) (q_sheets_length 1) x2 x3 q_now_nodes hc13) (cwV 3 C.2.2.2.2 gX7_film_X4_wrongAs rfl rfl rfl (by decide +kernel) ⟨Nat.le_of_ble_eq_true rfl, Nat.le_of_ble_eq_true rfl⟩) [5] [0, 1, 2, 3, 4, 6, 7, 8, 9, 10] 11 ⟨rfl, trivial⟩ ⟨rfl, trivial⟩ ⟨⟨_, rfl, rfl⟩, ⟨_, rfl, rfl⟩, ⟨_, rfl, rfl⟩, ⟨_, rfl, rfl⟩, ⟨_, rfl, rfl⟩, ⟨_, rfl, rfl⟩, ⟨_, rfl, rfl⟩, ⟨_, rfl, rfl⟩, ⟨_, rfl, rfl⟩, ⟨_, rfl, rfl⟩, trivial⟩ rfl (by decide) (by decide) (ci := 4) (q0 := 5) rfl rfl rfl hl.1 rfl (lv_room (Nat.le_of_ble_eq_true rfl)) dX7_film_35 ⟨Nat.zero_le _, Nat.zero_le _⟩ (fun H locs w => ?_)
        refine lv_istore (lv' := [(5, .int r12), (4, .ref (a_this_sheets_e 1)), (0, .ref a_this), (1, .int x1), (2, .int x2), (3, .int x3)]) C.1 C.2.1 dX7_film_38 hl (by decide) rfl (fun ls hl => ?_)
        refine lv_iload C.1 C.2.1 dX7_film_40 (lv_at hl 0 rfl) ?_
        refine lv_if_eq (tgt := 48) C.1 C.2.1 dX7_film_42 (by decide) (fun hq14 => ?_) (fun hq14 => ?_)
        · have hf := ite_t hf hq14
          refine lv_iconst (v := (0 : Int32)) C.1 C.2.1 dX7_film_48 (by decide) ?_
          refine lv_istore (lv' := [(6, .int (0 : Int32)), (5, .int r12), (4, .ref (a_this_sheets_e 1)), (0, .ref a_this), (1, .int x1), (2, .int x2), (3, .int x3)]) C.1 C.2.1 dX7_film_49 hl (by decide) rfl (fun ls hl => ?_)
          obtain ⟨ex15, hx16, hf⟩ := bd hf
          refine hlp51 x3 ex15 ?_ fu ((0 : Int32), q_sheets_items) _ _ _ hx16 w (lv_sub hl [3, 6, 2, 0] rfl)
          intro H locs ls w hl
          refine lv_aload_n C.1 C.2.1 dX7_film_89 rfl (lv_at hl 0 rfl) ?_
          refine r_get C w inX7_film_X7 0 rfl rfl 0 (by decide) lkX7_film_12 rfl dX7_film_90 ?_
          refine r_get C w inX7_film_X5 1 rfl rfl 0 (by decide) lkX7_film_80 rfl dX7_film_93 ?_
          have hres := Option.some.inj hf
          subst hres
          exact ret_i C hr hlocks w rfl dX7_film_96
        · have hf := ite_f hf hq14
          refine lv_iload C.1 C.2.1 dX7_film_45 (lv_at hl 0 rfl) ?_
          have hres := Option.some.inj hf
          subst hres
          exact ret_i C hr hlocks w rfl dX7_film_47
      · refine r_aald (v := (a_this_sheets_e 2)) C w 2 3 rfl rfl (by rw [hx21]; exact ⟨inb_in (by decide), rfl⟩) dX7_film_21 ?_
        have hlp51 : ∀ (y51_3 : Int32) (ex51 : Int32 × (Nat → Nat → Int64)) (hk : (∀ (H : Heap) (locs : List Loc) (ls : Array Slot), wd D (ty4 cI cL cS cH) s (va_A (wX7_film cI cL cS cH a_this a_this_now a_this_past a_this_kept a_this_keptPast a_this_plans a_this_plans_search_net a_this_tape a_this_sheets a_this_now_near a_this_sheets_e a_this_sheets_items_e q_hasImage q_now_nodes q_now_clean q_now_guards q_now_kind q_now_team q_now_draw q_sheets_lane q_sheets_length q_sheets_items) s.heap.size) s.heap H locs (wX7_film cI cL cS cH a_this a_this_now a_this_past a_this_kept a_this_keptPast a_this_plans a_this_plans_search_net a_this_tape a_this_sheets a_this_now_near a_this_sheets_e a_this_sheets_items_e q_hasImage q_now_nodes q_now_clean q_now_guards q_now_kind q_now_team q_now_draw q_sheets_lane q_sheets_length ex51.2) → lv_has ls 7 [(0, .ref a_this)] → gX7_film p l e s m below meth c D cI cL cS cH a_this a_this_now a_this_past a_this_kept a_this_keptPast a_this_plans a_this_plans_search_net a_this_tape a_this_sheets a_this_now_near a_this_sheets_e a_this_sheets_items_e q_hasImage q_now_nodes q_now_clean q_now_guards q_now_kind q_now_team q_now_draw q_sheets_lane q_sheets_length q_sheets_items x1 x2 x3 res H locs (F0 m 89 ls []))) (n : Nat) (v51 : Int32 × (Nat → Nat → Int64)) (H : Heap) (locs : List Loc) (ls : Array Slot), itL (bX7_film_51 q_now_nodes q_now_clean q_now_guards q_sheets_lane q_sheets_length 2 y51_3) n v51 = some ex51 → wd D (ty4 cI cL cS cH) s (va_A (wX7_film cI cL cS cH a_this a_this_now a_this_past a_this_kept a_this_keptPast a_this_plans a_this_plans_search_net a_this_tape a_this_sheets a_this_now_near a_this_sheets_e a_this_sheets_items_e q_hasImage q_now_nodes q_now_clean q_now_guards q_now_kind q_now_team q_now_draw q_sheets_lane q_sheets_length q_sheets_items) s.heap.size) s.heap H locs (wX7_film cI cL cS cH a_this a_this_now a_this_past a_this_kept a_this_keptPast a_this_plans a_this_plans_search_net a_this_tape a_this_sheets a_this_now_near a_this_sheets_e a_this_sheets_items_e q_hasImage q_now_nodes q_now_clean q_now_guards q_now_kind q_now_team q_now_draw q_sheets_lane q_sheets_length v51.2) → lv_has ls 7 [(0, .ref a_this), (3, .int y51_3), (4, .ref (a_this_sheets_e 2)), (6, .int v51.1)] → gX7_film p l e s m below meth c D cI cL cS cH a_this a_this_now a_this_past a_this_kept a_this_keptPast a_this_plans a_this_plans_search_net a_this_tape a_this_sheets a_this_now_near a_this_sheets_e a_this_sheets_items_e q_hasImage q_now_nodes q_now_clean q_now_guards q_now_kind q_now_team q_now_draw q_sheets_lane q_sheets_length q_sheets_items x1 x2 x3 res H locs (F0 m 51 ls []) := by
          intro y51_3 ex51 hk n
          induction n with
          | zero => intro v51 H locs ls hi w hl; exact (itL_zero hi).elim
          | succ n ih =>
            intro v51 H locs ls hi w hl
            obtain ⟨o, hf, hn⟩ := itL_succ hi
            unfold bX7_film_51 at hf
            refine lv_iload C.1 C.2.1 dX7_film_51 (lv_at hl 3 rfl) ?_
            refine lv_aload_n C.1 C.2.1 dX7_film_53 rfl (lv_at hl 0 rfl) ?_
            refine r_get C w inX7_film_X7 0 rfl rfl 0 (by decide) lkX7_film_12 rfl dX7_film_54 ?_
            refine r_get C w inX7_film_X5 1 rfl rfl 0 (by decide) lkX7_film_80 rfl dX7_film_57 ?_
            refine lv_icmp_ge (tgt := 89) C.1 C.2.1 dX7_film_60 (by decide) (fun hq7 => ?_) (fun hq7 => ?_)
            · have hf := ite_t hf hq7
              obtain rfl := Option.some.inj hf
              obtain rfl := hn
              exact hk _ _ _ w (lv_sub hl [0] rfl)
            · have hf := ite_f hf hq7
              refine lv_aload C.1 C.2.1 dX7_film_63 (lv_at hl 2 rfl) ?_
              refine r_get C w inX7_film_X4 7 rfl rfl 2 (by decide) lkX7_film_212 rfl dX7_film_65 ?_
              refine lv_iload_n C.1 C.2.1 dX7_film_68 rfl (lv_at hl 1 rfl) ?_
              refine lv_iload C.1 C.2.1 dX7_film_69 (lv_at hl 3 rfl) ?_
              refine lv_iadd C.1 C.2.1 dX7_film_71 ?_
              refine lv_aload_n C.1 C.2.1 dX7_film_72 rfl (lv_at hl 0 rfl) ?_
              refine r_get C w inX7_film_X7 0 rfl rfl 0 (by decide) lkX7_film_12 rfl dX7_film_73 ?_
              refine lv_iload C.1 C.2.1 dX7_film_76 (lv_at hl 3 rfl) ?_
              obtain ⟨r8, hc9, hf⟩ := bd hf
              refine call_Vi (ws' := (wX7_film cI cL cS cH a_this a_this_now a_this_past a_this_kept a_this_keptPast a_this_plans a_this_plans_search_net a_this_tape a_this_sheets a_this_now_near a_this_sheets_e a_this_sheets_items_e q_hasImage q_now_nodes q_now_clean q_now_guards q_now_kind q_now_team q_now_draw q_sheets_lane q_sheets_length v51.2)) (rest := [.int (y51_3 + v51.1), .ref (a_this_sheets_items_e 2)]) C w (mX5_look l D cI cL cS cH _ a_this_now a_this_now_near q_now_nodes q_now_clean q_now_guards q_now_kind q_now_team q_now_draw v51.1 hc9) (cwV 1 C.2.2.2.2 gX7_film_X5_look rfl rfl rfl (by decide +kernel) ⟨Nat.le_of_ble_eq_true rfl, Nat.le_of_ble_eq_true rfl⟩) [1] [0, 2, 3, 4, 5, 6, 7, 8, 9, 10] 11 ⟨rfl, trivial⟩ ⟨rfl, trivial⟩ ⟨⟨_, rfl, rfl⟩, ⟨_, rfl, rfl⟩, ⟨_, rfl, rfl⟩, ⟨_, rfl, rfl⟩, ⟨_, rfl, rfl⟩, ⟨_, rfl, rfl⟩, ⟨_, rfl, rfl⟩, ⟨_, rfl, rfl⟩, ⟨_, rfl, rfl⟩, ⟨_, rfl, rfl⟩, trivial⟩ rfl (by decide) (by decide) (ci := 5) (q0 := 1) rfl rfl rfl hl.1 rfl (lv_room (Nat.le_of_ble_eq_true rfl)) dX7_film_78 ⟨Nat.zero_le _, Nat.zero_le _⟩ (fun H locs w => ?_)
              refine lv_i2l C.1 C.2.1 dX7_film_81 rfl ?_
              obtain ⟨g10, hg11, hf⟩ := bd hf
              refine r_last (ws' := (wX7_film cI cL cS cH a_this a_this_now a_this_past a_this_kept a_this_keptPast a_this_plans a_this_plans_search_net a_this_tape a_this_sheets a_this_now_near a_this_sheets_e a_this_sheets_items_e q_hasImage q_now_nodes q_now_clean q_now_guards q_now_kind q_now_team q_now_draw q_sheets_lane q_sheets_length (va_up v51.2 2 g10))) C w 8 1 rfl rfl (wl_in hg11) rfl dX7_film_82 (fun H locs w => ?_)
              refine lv_iinc (v := (v51.1 + (1 : Int32))) (lv' := [(6, .int (v51.1 + (1 : Int32))), (0, .ref a_this), (3, .int y51_3), (4, .ref (a_this_sheets_e 2))]) C.1 C.2.1 dX7_film_83 hl (k := 3) rfl rfl (by decide) rfl (fun ls hl => ?_)
              refine lv_goto (tgt := 51) C.1 C.2.1 dX7_film_86 (by decide) ?_
              obtain rfl := Option.some.inj hf
              exact ih ((v51.1 + (1 : Int32)), (va_up v51.2 2 g10)) _ _ _ hn w (lv_sub hl [1, 2, 3, 0] rfl)
        refine lv_astore (lv' := [(4, .ref (a_this_sheets_e 2)), (0, .ref a_this), (1, .int x1), (2, .int x2), (3, .int x3)]) C.1 C.2.1 dX7_film_22 hl (by decide) rfl (fun ls hl => ?_)
        refine lv_aload C.1 C.2.1 dX7_film_24 (lv_at hl 0 rfl) ?_
        refine lv_iload_n C.1 C.2.1 dX7_film_26 rfl (lv_at hl 3 rfl) ?_
        refine lv_iload_n C.1 C.2.1 dX7_film_27 rfl (lv_at hl 4 rfl) ?_
        refine lv_aload_n C.1 C.2.1 dX7_film_28 rfl (lv_at hl 1 rfl) ?_
        refine r_get C w inX7_film_X7 0 rfl rfl 0 (by decide) lkX7_film_12 rfl dX7_film_29 ?_
        refine r_get C w inX7_film_X5 1 rfl rfl 0 (by decide) lkX7_film_80 rfl dX7_film_32 ?_
        obtain ⟨r12, hc13, hf⟩ := bd hf
        refine call_Vi (ws' := (wX7_film cI cL cS cH a_this a_this_now a_this_past a_this_kept a_this_keptPast a_this_plans a_this_plans_search_net a_this_tape a_this_sheets a_this_now_near a_this_sheets_e a_this_sheets_items_e q_hasImage q_now_nodes q_now_clean q_now_guards q_now_kind q_now_team q_now_draw q_sheets_lane q_sheets_length q_sheets_items)) (rest := []) C w (mX4_wrongAs l D cI cL cS cH _ (a_this_sheets_e 2) (a_this_sheets_items_e 2) (q_sheets_lane 2) (q_sheets_length 2) x2 x3 q_now_nodes hc13) (cwV 3 C.2.2.2.2 gX7_film_X4_wrongAs rfl rfl rfl (by decide +kernel) ⟨Nat.le_of_ble_eq_true rfl, Nat.le_of_ble_eq_true rfl⟩) [7] [0, 1, 2, 3, 4, 5, 6, 8, 9, 10] 11 ⟨rfl, trivial⟩ ⟨rfl, trivial⟩ ⟨⟨_, rfl, rfl⟩, ⟨_, rfl, rfl⟩, ⟨_, rfl, rfl⟩, ⟨_, rfl, rfl⟩, ⟨_, rfl, rfl⟩, ⟨_, rfl, rfl⟩, ⟨_, rfl, rfl⟩, ⟨_, rfl, rfl⟩, ⟨_, rfl, rfl⟩, ⟨_, rfl, rfl⟩, trivial⟩ rfl (by decide) (by decide) (ci := 4) (q0 := 7) rfl rfl rfl hl.1 rfl (lv_room (Nat.le_of_ble_eq_true rfl)) dX7_film_35 ⟨Nat.zero_le _, Nat.zero_le _⟩ (fun H locs w => ?_)
        refine lv_istore (lv' := [(5, .int r12), (4, .ref (a_this_sheets_e 2)), (0, .ref a_this), (1, .int x1), (2, .int x2), (3, .int x3)]) C.1 C.2.1 dX7_film_38 hl (by decide) rfl (fun ls hl => ?_)
        refine lv_iload C.1 C.2.1 dX7_film_40 (lv_at hl 0 rfl) ?_
        refine lv_if_eq (tgt := 48) C.1 C.2.1 dX7_film_42 (by decide) (fun hq14 => ?_) (fun hq14 => ?_)
        · have hf := ite_t hf hq14
          refine lv_iconst (v := (0 : Int32)) C.1 C.2.1 dX7_film_48 (by decide) ?_
          refine lv_istore (lv' := [(6, .int (0 : Int32)), (5, .int r12), (4, .ref (a_this_sheets_e 2)), (0, .ref a_this), (1, .int x1), (2, .int x2), (3, .int x3)]) C.1 C.2.1 dX7_film_49 hl (by decide) rfl (fun ls hl => ?_)
          obtain ⟨ex15, hx16, hf⟩ := bd hf
          refine hlp51 x3 ex15 ?_ fu ((0 : Int32), q_sheets_items) _ _ _ hx16 w (lv_sub hl [3, 6, 2, 0] rfl)
          intro H locs ls w hl
          refine lv_aload_n C.1 C.2.1 dX7_film_89 rfl (lv_at hl 0 rfl) ?_
          refine r_get C w inX7_film_X7 0 rfl rfl 0 (by decide) lkX7_film_12 rfl dX7_film_90 ?_
          refine r_get C w inX7_film_X5 1 rfl rfl 0 (by decide) lkX7_film_80 rfl dX7_film_93 ?_
          have hres := Option.some.inj hf
          subst hres
          exact ret_i C hr hlocks w rfl dX7_film_96
        · have hf := ite_f hf hq14
          refine lv_iload C.1 C.2.1 dX7_film_45 (lv_at hl 0 rfl) ?_
          have hres := Option.some.inj hf
          subst hres
          exact ret_i C hr hlocks w rfl dX7_film_47
      · refine r_aald (v := (a_this_sheets_e 3)) C w 2 3 rfl rfl (by rw [hx21]; exact ⟨inb_in (by decide), rfl⟩) dX7_film_21 ?_
        have hlp51 : ∀ (y51_3 : Int32) (ex51 : Int32 × (Nat → Nat → Int64)) (hk : (∀ (H : Heap) (locs : List Loc) (ls : Array Slot), wd D (ty4 cI cL cS cH) s (va_A (wX7_film cI cL cS cH a_this a_this_now a_this_past a_this_kept a_this_keptPast a_this_plans a_this_plans_search_net a_this_tape a_this_sheets a_this_now_near a_this_sheets_e a_this_sheets_items_e q_hasImage q_now_nodes q_now_clean q_now_guards q_now_kind q_now_team q_now_draw q_sheets_lane q_sheets_length q_sheets_items) s.heap.size) s.heap H locs (wX7_film cI cL cS cH a_this a_this_now a_this_past a_this_kept a_this_keptPast a_this_plans a_this_plans_search_net a_this_tape a_this_sheets a_this_now_near a_this_sheets_e a_this_sheets_items_e q_hasImage q_now_nodes q_now_clean q_now_guards q_now_kind q_now_team q_now_draw q_sheets_lane q_sheets_length ex51.2) → lv_has ls 7 [(0, .ref a_this)] → gX7_film p l e s m below meth c D cI cL cS cH a_this a_this_now a_this_past a_this_kept a_this_keptPast a_this_plans a_this_plans_search_net a_this_tape a_this_sheets a_this_now_near a_this_sheets_e a_this_sheets_items_e q_hasImage q_now_nodes q_now_clean q_now_guards q_now_kind q_now_team q_now_draw q_sheets_lane q_sheets_length q_sheets_items x1 x2 x3 res H locs (F0 m 89 ls []))) (n : Nat) (v51 : Int32 × (Nat → Nat → Int64)) (H : Heap) (locs : List Loc) (ls : Array Slot), itL (bX7_film_51 q_now_nodes q_now_clean q_now_guards q_sheets_lane q_sheets_length 3 y51_3) n v51 = some ex51 → wd D (ty4 cI cL cS cH) s (va_A (wX7_film cI cL cS cH a_this a_this_now a_this_past a_this_kept a_this_keptPast a_this_plans a_this_plans_search_net a_this_tape a_this_sheets a_this_now_near a_this_sheets_e a_this_sheets_items_e q_hasImage q_now_nodes q_now_clean q_now_guards q_now_kind q_now_team q_now_draw q_sheets_lane q_sheets_length q_sheets_items) s.heap.size) s.heap H locs (wX7_film cI cL cS cH a_this a_this_now a_this_past a_this_kept a_this_keptPast a_this_plans a_this_plans_search_net a_this_tape a_this_sheets a_this_now_near a_this_sheets_e a_this_sheets_items_e q_hasImage q_now_nodes q_now_clean q_now_guards q_now_kind q_now_team q_now_draw q_sheets_lane q_sheets_length v51.2) → lv_has ls 7 [(0, .ref a_this), (3, .int y51_3), (4, .ref (a_this_sheets_e 3)), (6, .int v51.1)] → gX7_film p l e s m below meth c D cI cL cS cH a_this a_this_now a_this_past a_this_kept a_this_keptPast a_this_plans a_this_plans_search_net a_this_tape a_this_sheets a_this_now_near a_this_sheets_e a_this_sheets_items_e q_hasImage q_now_nodes q_now_clean q_now_guards q_now_kind q_now_team q_now_draw q_sheets_lane q_sheets_length q_sheets_items x1 x2 x3 res H locs (F0 m 51 ls []) := by
          intro y51_3 ex51 hk n
          induction n with
          | zero => intro v51 H locs ls hi w hl; exact (itL_zero hi).elim
          | succ n ih =>
            intro v51 H locs ls hi w hl
            obtain ⟨o, hf, hn⟩ := itL_succ hi
            unfold bX7_film_51 at hf
            refine lv_iload C.1 C.2.1 dX7_film_51 (lv_at hl 3 rfl) ?_
            refine lv_aload_n C.1 C.2.1 dX7_film_53 rfl (lv_at hl 0 rfl) ?_
            refine r_get C w inX7_film_X7 0 rfl rfl 0 (by decide) lkX7_film_12 rfl dX7_film_54 ?_
            refine r_get C w inX7_film_X5 1 rfl rfl 0 (by decide) lkX7_film_80 rfl dX7_film_57 ?_
            refine lv_icmp_ge (tgt := 89) C.1 C.2.1 dX7_film_60 (by decide) (fun hq7 => ?_) (fun hq7 => ?_)
            · have hf := ite_t hf hq7
              obtain rfl := Option.some.inj hf
              obtain rfl := hn
              exact hk _ _ _ w (lv_sub hl [0] rfl)
            · have hf := ite_f hf hq7
              refine lv_aload C.1 C.2.1 dX7_film_63 (lv_at hl 2 rfl) ?_
              refine r_get C w inX7_film_X4 9 rfl rfl 2 (by decide) lkX7_film_212 rfl dX7_film_65 ?_
              refine lv_iload_n C.1 C.2.1 dX7_film_68 rfl (lv_at hl 1 rfl) ?_
              refine lv_iload C.1 C.2.1 dX7_film_69 (lv_at hl 3 rfl) ?_
              refine lv_iadd C.1 C.2.1 dX7_film_71 ?_
              refine lv_aload_n C.1 C.2.1 dX7_film_72 rfl (lv_at hl 0 rfl) ?_
              refine r_get C w inX7_film_X7 0 rfl rfl 0 (by decide) lkX7_film_12 rfl dX7_film_73 ?_
              refine lv_iload C.1 C.2.1 dX7_film_76 (lv_at hl 3 rfl) ?_
              obtain ⟨r8, hc9, hf⟩ := bd hf
              refine call_Vi (ws' := (wX7_film cI cL cS cH a_this a_this_now a_this_past a_this_kept a_this_keptPast a_this_plans a_this_plans_search_net a_this_tape a_this_sheets a_this_now_near a_this_sheets_e a_this_sheets_items_e q_hasImage q_now_nodes q_now_clean q_now_guards q_now_kind q_now_team q_now_draw q_sheets_lane q_sheets_length v51.2)) (rest := [.int (y51_3 + v51.1), .ref (a_this_sheets_items_e 3)]) C w (mX5_look l D cI cL cS cH _ a_this_now a_this_now_near q_now_nodes q_now_clean q_now_guards q_now_kind q_now_team q_now_draw v51.1 hc9) (cwV 1 C.2.2.2.2 gX7_film_X5_look rfl rfl rfl (by decide +kernel) ⟨Nat.le_of_ble_eq_true rfl, Nat.le_of_ble_eq_true rfl⟩) [1] [0, 2, 3, 4, 5, 6, 7, 8, 9, 10] 11 ⟨rfl, trivial⟩ ⟨rfl, trivial⟩ ⟨⟨_, rfl, rfl⟩, ⟨_, rfl, rfl⟩, ⟨_, rfl, rfl⟩, ⟨_, rfl, rfl⟩, ⟨_, rfl, rfl⟩, ⟨_, rfl, rfl⟩, ⟨_, rfl, rfl⟩, ⟨_, rfl, rfl⟩, ⟨_, rfl, rfl⟩, ⟨_, rfl, rfl⟩, trivial⟩ rfl (by decide) (by decide) (ci := 5) (q0 := 1) rfl rfl rfl hl.1 rfl (lv_room (Nat.le_of_ble_eq_true rfl)) dX7_film_78 ⟨Nat.zero_le _, Nat.zero_le _⟩ (fun H locs w => ?_)
              refine lv_i2l C.1 C.2.1 dX7_film_81 rfl ?_
              obtain ⟨g10, hg11, hf⟩ := bd hf
              refine r_last (ws' := (wX7_film cI cL cS cH a_this a_this_now a_this_past a_this_kept a_this_keptPast a_this_plans a_this_plans_search_net a_this_tape a_this_sheets a_this_now_near a_this_sheets_e a_this_sheets_items_e q_hasImage q_now_nodes q_now_clean q_now_guards q_now_kind q_now_team q_now_draw q_sheets_lane q_sheets_length (va_up v51.2 3 g10))) C w 10 1 rfl rfl (wl_in hg11) rfl dX7_film_82 (fun H locs w => ?_)
              refine lv_iinc (v := (v51.1 + (1 : Int32))) (lv' := [(6, .int (v51.1 + (1 : Int32))), (0, .ref a_this), (3, .int y51_3), (4, .ref (a_this_sheets_e 3))]) C.1 C.2.1 dX7_film_83 hl (k := 3) rfl rfl (by decide) rfl (fun ls hl => ?_)
              refine lv_goto (tgt := 51) C.1 C.2.1 dX7_film_86 (by decide) ?_
              obtain rfl := Option.some.inj hf
              exact ih ((v51.1 + (1 : Int32)), (va_up v51.2 3 g10)) _ _ _ hn w (lv_sub hl [1, 2, 3, 0] rfl)
        refine lv_astore (lv' := [(4, .ref (a_this_sheets_e 3)), (0, .ref a_this), (1, .int x1), (2, .int x2), (3, .int x3)]) C.1 C.2.1 dX7_film_22 hl (by decide) rfl (fun ls hl => ?_)
        refine lv_aload C.1 C.2.1 dX7_film_24 (lv_at hl 0 rfl) ?_
        refine lv_iload_n C.1 C.2.1 dX7_film_26 rfl (lv_at hl 3 rfl) ?_
        refine lv_iload_n C.1 C.2.1 dX7_film_27 rfl (lv_at hl 4 rfl) ?_
        refine lv_aload_n C.1 C.2.1 dX7_film_28 rfl (lv_at hl 1 rfl) ?_
        refine r_get C w inX7_film_X7 0 rfl rfl 0 (by decide) lkX7_film_12 rfl dX7_film_29 ?_
        refine r_get C w inX7_film_X5 1 rfl rfl 0 (by decide) lkX7_film_80 rfl dX7_film_32 ?_
        obtain ⟨r12, hc13, hf⟩ := bd hf
        refine call_Vi (ws' := (wX7_film cI cL cS cH a_this a_this_now a_this_past a_this_kept a_this_keptPast a_this_plans a_this_plans_search_net a_this_tape a_this_sheets a_this_now_near a_this_sheets_e a_this_sheets_items_e q_hasImage q_now_nodes q_now_clean q_now_guards q_now_kind q_now_team q_now_draw q_sheets_lane q_sheets_length q_sheets_items)) (rest := []) C w (mX4_wrongAs l D cI cL cS cH _ (a_this_sheets_e 3) (a_this_sheets_items_e 3) (q_sheets_lane 3) (q_sheets_length 3) x2 x3 q_now_nodes hc13) (cwV 3 C.2.2.2.2 gX7_film_X4_wrongAs rfl rfl rfl (by decide +kernel) ⟨Nat.le_of_ble_eq_true rfl, Nat.le_of_ble_eq_true rfl⟩) [9] [0, 1, 2, 3, 4, 5, 6, 7, 8, 10] 11 ⟨rfl, trivial⟩ ⟨rfl, trivial⟩ ⟨⟨_, rfl, rfl⟩, ⟨_, rfl, rfl⟩, ⟨_, rfl, rfl⟩, ⟨_, rfl, rfl⟩, ⟨_, rfl, rfl⟩, ⟨_, rfl, rfl⟩, ⟨_, rfl, rfl⟩, ⟨_, rfl, rfl⟩, ⟨_, rfl, rfl⟩, ⟨_, rfl, rfl⟩, trivial⟩ rfl (by decide) (by decide) (ci := 4) (q0 := 9) rfl rfl rfl hl.1 rfl (lv_room (Nat.le_of_ble_eq_true rfl)) dX7_film_35 ⟨Nat.zero_le _, Nat.zero_le _⟩ (fun H locs w => ?_)
        refine lv_istore (lv' := [(5, .int r12), (4, .ref (a_this_sheets_e 3)), (0, .ref a_this), (1, .int x1), (2, .int x2), (3, .int x3)]) C.1 C.2.1 dX7_film_38 hl (by decide) rfl (fun ls hl => ?_)
        refine lv_iload C.1 C.2.1 dX7_film_40 (lv_at hl 0 rfl) ?_
        refine lv_if_eq (tgt := 48) C.1 C.2.1 dX7_film_42 (by decide) (fun hq14 => ?_) (fun hq14 => ?_)
        · have hf := ite_t hf hq14
          refine lv_iconst (v := (0 : Int32)) C.1 C.2.1 dX7_film_48 (by decide) ?_
          refine lv_istore (lv' := [(6, .int (0 : Int32)), (5, .int r12), (4, .ref (a_this_sheets_e 3)), (0, .ref a_this), (1, .int x1), (2, .int x2), (3, .int x3)]) C.1 C.2.1 dX7_film_49 hl (by decide) rfl (fun ls hl => ?_)
          obtain ⟨ex15, hx16, hf⟩ := bd hf
          refine hlp51 x3 ex15 ?_ fu ((0 : Int32), q_sheets_items) _ _ _ hx16 w (lv_sub hl [3, 6, 2, 0] rfl)
          intro H locs ls w hl
          refine lv_aload_n C.1 C.2.1 dX7_film_89 rfl (lv_at hl 0 rfl) ?_
          refine r_get C w inX7_film_X7 0 rfl rfl 0 (by decide) lkX7_film_12 rfl dX7_film_90 ?_
          refine r_get C w inX7_film_X5 1 rfl rfl 0 (by decide) lkX7_film_80 rfl dX7_film_93 ?_
          have hres := Option.some.inj hf
          subst hres
          exact ret_i C hr hlocks w rfl dX7_film_96
        · have hf := ite_f hf hq14
          refine lv_iload C.1 C.2.1 dX7_film_45 (lv_at hl 0 rfl) ?_
          have hres := Option.some.inj hf
          subst hres
          exact ret_i C hr hlocks w rfl dX7_film_47
    · have hf := ite_t hf hq6
      refine lv_iconst (v := (-1 : Int32)) C.1 C.2.1 dX7_film_14 (by decide) ?_
      have hres := Option.some.inj hf
      subst hres
      exact ret_i C hr hlocks w rfl dX7_film_15

set_option maxRecDepth 100000 in
theorem inX7_sheet_X7 : ∀ w ∈ u_ws RX7 TX7 9, w ∈ wsX7_sheet := by decide +kernel
set_option maxRecDepth 100000 in
theorem lkX7_sheet_54 : Cond.fieldLink RX7 54 "CleanNets" "sheets" "[LCleanNets$Sheet;" ∈ wsX7_sheet := by decide +kernel
abbrev wX7_sheet (cI cL cS cH : ClassId) (a_this : Nat) (a_this_now : Nat) (a_this_past : Nat) (a_this_kept : Nat) (a_this_keptPast : Nat) (a_this_plans : Nat) (a_this_plans_search_net : Nat) (a_this_tape : Nat) (a_this_sheets : Nat) (a_this_sheets_e : Nat → Nat) (a_this_sheets_items_e : Nat → Nat) (q_hasImage : Int32) (q_sheets_lane : Nat → Int32) (q_sheets_length : Nat → Int32) (q_sheets_items : Nat → Nat → Int64) : va_W := [(a_this, .inr (7, [.ref a_this_now, .ref a_this_past, .ref a_this_kept, .ref a_this_keptPast, .int q_hasImage, .ref a_this_plans, .ref a_this_plans_search_net, .ref a_this_tape, .ref a_this_sheets])),
  (a_this_sheets, .inl (cH, 4, .inr (.inr (.inr (.inr (fun k => some (a_this_sheets_e k))))))),
  ((a_this_sheets_e 0), .inr (4, [.int (q_sheets_lane 0), .int (q_sheets_length 0), .ref (a_this_sheets_items_e 0)])),
  ((a_this_sheets_items_e 0), .inl (cL, 24, .inr (.inl (q_sheets_items 0)))),
  ((a_this_sheets_e 1), .inr (4, [.int (q_sheets_lane 1), .int (q_sheets_length 1), .ref (a_this_sheets_items_e 1)])),
  ((a_this_sheets_items_e 1), .inl (cL, 24, .inr (.inl (q_sheets_items 1)))),
  ((a_this_sheets_e 2), .inr (4, [.int (q_sheets_lane 2), .int (q_sheets_length 2), .ref (a_this_sheets_items_e 2)])),
  ((a_this_sheets_items_e 2), .inl (cL, 24, .inr (.inl (q_sheets_items 2)))),
  ((a_this_sheets_e 3), .inr (4, [.int (q_sheets_lane 3), .int (q_sheets_length 3), .ref (a_this_sheets_items_e 3)])),
  ((a_this_sheets_items_e 3), .inl (cL, 24, .inr (.inl (q_sheets_items 3))))]
def fX7_sheet (q_sheets_lane : Nat → Int32) (q_sheets_length : Nat → Int32) (q_sheets_items : Nat → Nat → Int64) (x1 : Int32) (x2 : Int32) (x3 : Int32) : Option (Int32 × (Nat → Int32) × (Nat → Int32) × (Nat → Nat → Int64)) := Option.bind (fX7_isSheet x1) (fun r1 => (if r1 = 0 then some ((-1 : Int32), q_sheets_lane, q_sheets_length, q_sheets_items) else Option.bind (fX7_isLane x2) (fun r4 => (if r4 = 0 then some ((-1 : Int32), q_sheets_lane, q_sheets_length, q_sheets_items) else (if x3 ≤ (24 : Int32) then (if 0 ≤ x3 then sel4 x1 (fun k34 => Option.bind (fX4_begin (q_sheets_lane k34) (q_sheets_length k34) (q_sheets_items k34) x2 x3) (fun r9 => some (x3, (va_up q_sheets_lane k34 r9.1), (va_up q_sheets_length k34 r9.2.1), (va_up q_sheets_items k34 r9.2.2)))) else some ((-14 : Int32), q_sheets_lane, q_sheets_length, q_sheets_items)) else some ((-1 : Int32), q_sheets_lane, q_sheets_length, q_sheets_items))))))
set_option maxHeartbeats 4000000 in
set_option maxRecDepth 100000 in
theorem mX7_sheet (l : Launch) (D : vg) (cI cL cS cH : ClassId) (sz : Nat) (a_this : Nat) (a_this_now : Nat) (a_this_past : Nat) (a_this_kept : Nat) (a_this_keptPast : Nat) (a_this_plans : Nat) (a_this_plans_search_net : Nat) (a_this_tape : Nat) (a_this_sheets : Nat) (a_this_sheets_e : Nat → Nat) (a_this_sheets_items_e : Nat → Nat) (q_hasImage : Int32) (q_sheets_lane : Nat → Int32) (q_sheets_length : Nat → Int32) (q_sheets_items : Nat → Nat → Int64) (x1 : Int32) (x2 : Int32) (x3 : Int32) {res : Int32 × (Nat → Int32) × (Nat → Int32) × (Nat → Nat → Int64)} (hf : fX7_sheet q_sheets_lane q_sheets_length q_sheets_items x1 x2 x3 = some res) : cti l yX7_sheet wsX7_sheet ({ frames := 1, cells := 0, slots := 0, locals := 23 }) D (ty4 cI cL cS cH) sz [.ref a_this, .int x1, .int x2, .int x3] (wX7_sheet cI cL cS cH a_this a_this_now a_this_past a_this_kept a_this_keptPast a_this_plans a_this_plans_search_net a_this_tape a_this_sheets a_this_sheets_e a_this_sheets_items_e q_hasImage q_sheets_lane q_sheets_length q_sheets_items) (wX7_sheet cI cL cS cH a_this a_this_now a_this_past a_this_kept a_this_keptPast a_this_plans a_this_plans_search_net a_this_tape a_this_sheets a_this_sheets_e a_this_sheets_items_e q_hasImage res.2.1 res.2.2.1 res.2.2.2) res.1 := by
  refine Met.ofW (cc := cX7_sheet) (maxL := 4) (ret := (some .int)) (by decide) rfl ?_
  intro p e s m args below meth c s₁ B hml hv
  obtain ⟨rfl, hpre⟩ := hv
  obtain rfl := hpre.1
  have C : CallFix p m c cX7_sheet 4 s _ wsX7_sheet RX7 := ⟨B.exec, B.bytes, hml, findClass_of_methodNamed B.named, atoms_spec (ws := wsX7_sheet) B.pre⟩
  have hr := B.returns
  have hlocks := B.notSynchronized
  have w := wd_start hpre
  clear hpre B
  have hl := lv_entry ([.ref a_this, .int x1, .int x2, .int x3]) (n := 4) (Nat.le_of_ble_eq_true rfl)
  rw [lg_entry_eq]
  generalize (lg_sl ([.ref a_this, .int x1, .int x2, .int x3]) ++ List.replicate (4 - (lg_sl ([.ref a_this, .int x1, .int x2, .int x3])).length) Slot.unset).toArray = ls at hl ⊢
  have hl : lv_has ls 4 [(0, .ref a_this), (1, .int x1), (2, .int x2), (3, .int x3)] := hl
  unfold fX7_sheet at hf
  refine lv_iload_n C.1 C.2.1 dX7_sheet_0 rfl (lv_at hl 1 rfl) ?_
  obtain ⟨r1, hc2, hf⟩ := bd hf
  refine call_Si (ws' := (wX7_sheet cI cL cS cH a_this a_this_now a_this_past a_this_kept a_this_keptPast a_this_plans a_this_plans_search_net a_this_tape a_this_sheets a_this_sheets_e a_this_sheets_items_e q_hasImage q_sheets_lane q_sheets_length q_sheets_items)) (rest := []) C w (mX7_isSheet l D cI cL cS cH _ x1 hc2) (va_cwS 1 C.2.2.2.2 gX7_sheet_X7_isSheet rfl rfl rfl (by decide +kernel) ⟨Nat.le_of_ble_eq_true rfl, Nat.le_of_ble_eq_true rfl⟩) [] [0, 1, 2, 3, 4, 5, 6, 7, 8, 9] 10 trivial trivial ⟨⟨_, rfl, rfl⟩, ⟨_, rfl, rfl⟩, ⟨_, rfl, rfl⟩, ⟨_, rfl, rfl⟩, ⟨_, rfl, rfl⟩, ⟨_, rfl, rfl⟩, ⟨_, rfl, rfl⟩, ⟨_, rfl, rfl⟩, ⟨_, rfl, rfl⟩, ⟨_, rfl, rfl⟩, trivial⟩ rfl (by decide) (by decide) rfl hl.1 rfl (lv_room (Nat.le_of_ble_eq_true rfl)) dX7_sheet_1 ⟨Nat.zero_le _, Nat.zero_le _⟩ (fun H locs w => ?_)
  refine lv_if_eq (tgt := 20) C.1 C.2.1 dX7_sheet_4 (by decide) (fun hq3 => ?_) (fun hq3 => ?_)
  · have hf := ite_t hf hq3
    refine lv_iconst (v := (-1 : Int32)) C.1 C.2.1 dX7_sheet_20 (by decide) ?_
    have hres := Option.some.inj hf
    subst hres
    exact ret_i C hr hlocks w rfl dX7_sheet_21
  · have hf := ite_f hf hq3
    refine lv_iload_n C.1 C.2.1 dX7_sheet_7 rfl (lv_at hl 2 rfl) ?_
    obtain ⟨r4, hc5, hf⟩ := bd hf
    refine call_Si (ws' := (wX7_sheet cI cL cS cH a_this a_this_now a_this_past a_this_kept a_this_keptPast a_this_plans a_this_plans_search_net a_this_tape a_this_sheets a_this_sheets_e a_this_sheets_items_e q_hasImage q_sheets_lane q_sheets_length q_sheets_items)) (rest := []) C w (mX7_isLane l D cI cL cS cH _ x2 hc5) (va_cwS 1 C.2.2.2.2 gX7_sheet_X7_isLane rfl rfl rfl (by decide +kernel) ⟨Nat.le_of_ble_eq_true rfl, Nat.le_of_ble_eq_true rfl⟩) [] [0, 1, 2, 3, 4, 5, 6, 7, 8, 9] 10 trivial trivial ⟨⟨_, rfl, rfl⟩, ⟨_, rfl, rfl⟩, ⟨_, rfl, rfl⟩, ⟨_, rfl, rfl⟩, ⟨_, rfl, rfl⟩, ⟨_, rfl, rfl⟩, ⟨_, rfl, rfl⟩, ⟨_, rfl, rfl⟩, ⟨_, rfl, rfl⟩, ⟨_, rfl, rfl⟩, trivial⟩ rfl (by decide) (by decide) rfl hl.1 rfl (lv_room (Nat.le_of_ble_eq_true rfl)) dX7_sheet_8 ⟨Nat.zero_le _, Nat.zero_le _⟩ (fun H locs w => ?_)
    refine lv_if_eq (tgt := 20) C.1 C.2.1 dX7_sheet_11 (by decide) (fun hq6 => ?_) (fun hq6 => ?_)
    · have hf := ite_t hf hq6
      refine lv_iconst (v := (-1 : Int32)) C.1 C.2.1 dX7_sheet_20 (by decide) ?_
      have hres := Option.some.inj hf
      subst hres
      exact ret_i C hr hlocks w rfl dX7_sheet_21
    · have hf := ite_f hf hq6
      refine lv_iload_n C.1 C.2.1 dX7_sheet_14 rfl (lv_at hl 3 rfl) ?_
      refine lv_bipush (v := (24 : Int32)) C.1 C.2.1 dX7_sheet_15 (by decide) ?_
      refine lv_icmp_le (tgt := 22) C.1 C.2.1 dX7_sheet_17 (by decide) (fun hq7 => ?_) (fun hq7 => ?_)
      · have hf := ite_t hf hq7
        refine lv_iload_n C.1 C.2.1 dX7_sheet_22 rfl (lv_at hl 3 rfl) ?_
        refine lv_if_ge (tgt := 29) C.1 C.2.1 dX7_sheet_23 (by decide) (fun hq8 => ?_) (fun hq8 => ?_)
        · have hf := ite_t hf hq8
          refine lv_aload_n C.1 C.2.1 dX7_sheet_29 rfl (lv_at hl 0 rfl) ?_
          refine r_get C w inX7_sheet_X7 0 rfl rfl 8 (by decide) lkX7_sheet_54 rfl dX7_sheet_30 ?_
          refine lv_iload_n C.1 C.2.1 dX7_sheet_33 rfl (lv_at hl 1 rfl) ?_
          rcases sel4_in hf with ⟨hx34, hf⟩ | ⟨hx34, hf⟩ | ⟨hx34, hf⟩ | ⟨hx34, hf⟩
          · refine r_aald (v := (a_this_sheets_e 0)) C w 1 3 rfl rfl (by rw [hx34]; exact ⟨inb_in (by decide), rfl⟩) dX7_sheet_34 ?_
            refine lv_iload_n C.1 C.2.1 dX7_sheet_35 rfl (lv_at hl 2 rfl) ?_
            refine lv_iload_n C.1 C.2.1 dX7_sheet_36 rfl (lv_at hl 3 rfl) ?_
            obtain ⟨r9, hc10, hf⟩ := bd hf
            refine call_Vv (ws' := (wX7_sheet cI cL cS cH a_this a_this_now a_this_past a_this_kept a_this_keptPast a_this_plans a_this_plans_search_net a_this_tape a_this_sheets a_this_sheets_e a_this_sheets_items_e q_hasImage (va_up q_sheets_lane 0 r9.1) (va_up q_sheets_length 0 r9.2.1) (va_up q_sheets_items 0 r9.2.2))) (rest := []) C w (mX4_begin l D cI cL cS cH _ (a_this_sheets_e 0) (a_this_sheets_items_e 0) (q_sheets_lane 0) (q_sheets_length 0) (q_sheets_items 0) x2 x3 hc10) (cwV 2 C.2.2.2.2 gX7_sheet_X4_begin rfl rfl rfl (by decide +kernel) ⟨Nat.le_of_ble_eq_true rfl, Nat.le_of_ble_eq_true rfl⟩) [2, 3] [0, 1, 4, 5, 6, 7, 8, 9] 10 ⟨rfl, rfl, trivial⟩ ⟨rfl, rfl, trivial⟩ ⟨⟨_, rfl, rfl⟩, ⟨_, rfl, rfl⟩, ⟨_, rfl, rfl⟩, ⟨_, rfl, rfl⟩, ⟨_, rfl, rfl⟩, ⟨_, rfl, rfl⟩, ⟨_, rfl, rfl⟩, ⟨_, rfl, rfl⟩, trivial⟩ rfl (by decide) (by decide) (ci := 4) (q0 := 2) rfl rfl rfl hl.1 rfl (lv_room (Nat.le_of_ble_eq_true rfl)) dX7_sheet_37 ⟨Nat.zero_le _, Nat.zero_le _⟩ (fun H locs w => ?_)
            refine lv_iload_n C.1 C.2.1 dX7_sheet_40 rfl (lv_at hl 3 rfl) ?_
            have hres := Option.some.inj hf
            subst hres
            exact ret_i C hr hlocks w rfl dX7_sheet_41
          · refine r_aald (v := (a_this_sheets_e 1)) C w 1 3 rfl rfl (by rw [hx34]; exact ⟨inb_in (by decide), rfl⟩) dX7_sheet_34 ?_
            refine lv_iload_n C.1 C.2.1 dX7_sheet_35 rfl (lv_at hl 2 rfl) ?_
            refine lv_iload_n C.1 C.2.1 dX7_sheet_36 rfl (lv_at hl 3 rfl) ?_
            obtain ⟨r9, hc10, hf⟩ := bd hf
            refine call_Vv (ws' := (wX7_sheet cI cL cS cH a_this a_this_now a_this_past a_this_kept a_this_keptPast a_this_plans a_this_plans_search_net a_this_tape a_this_sheets a_this_sheets_e a_this_sheets_items_e q_hasImage (va_up q_sheets_lane 1 r9.1) (va_up q_sheets_length 1 r9.2.1) (va_up q_sheets_items 1 r9.2.2))) (rest := []) C w (mX4_begin l D cI cL cS cH _ (a_this_sheets_e 1) (a_this_sheets_items_e 1) (q_sheets_lane 1) (q_sheets_length 1) (q_sheets_items 1) x2 x3 hc10) (cwV 2 C.2.2.2.2 gX7_sheet_X4_begin rfl rfl rfl (by decide +kernel) ⟨Nat.le_of_ble_eq_true rfl, Nat.le_of_ble_eq_true rfl⟩) [4, 5] [0, 1, 2, 3, 6, 7, 8, 9] 10 ⟨rfl, rfl, trivial⟩ ⟨rfl, rfl, trivial⟩ ⟨⟨_, rfl, rfl⟩, ⟨_, rfl, rfl⟩, ⟨_, rfl, rfl⟩, ⟨_, rfl, rfl⟩, ⟨_, rfl, rfl⟩, ⟨_, rfl, rfl⟩, ⟨_, rfl, rfl⟩, ⟨_, rfl, rfl⟩, trivial⟩ rfl (by decide) (by decide) (ci := 4) (q0 := 4) rfl rfl rfl hl.1 rfl (lv_room (Nat.le_of_ble_eq_true rfl)) dX7_sheet_37 ⟨Nat.zero_le _, Nat.zero_le _⟩ (fun H locs w => ?_)
            refine lv_iload_n C.1 C.2.1 dX7_sheet_40 rfl (lv_at hl 3 rfl) ?_
            have hres := Option.some.inj hf
            subst hres
            exact ret_i C hr hlocks w rfl dX7_sheet_41
          · refine r_aald (v := (a_this_sheets_e 2)) C w 1 3 rfl rfl (by rw [hx34]; exact ⟨inb_in (by decide), rfl⟩) dX7_sheet_34 ?_
            refine lv_iload_n C.1 C.2.1 dX7_sheet_35 rfl (lv_at hl 2 rfl) ?_
            refine lv_iload_n C.1 C.2.1 dX7_sheet_36 rfl (lv_at hl 3 rfl) ?_
            obtain ⟨r9, hc10, hf⟩ := bd hf
            refine call_Vv (ws' := (wX7_sheet cI cL cS cH a_this a_this_now a_this_past a_this_kept a_this_keptPast a_this_plans a_this_plans_search_net a_this_tape a_this_sheets a_this_sheets_e a_this_sheets_items_e q_hasImage (va_up q_sheets_lane 2 r9.1) (va_up q_sheets_length 2 r9.2.1) (va_up q_sheets_items 2 r9.2.2))) (rest := []) C w (mX4_begin l D cI cL cS cH _ (a_this_sheets_e 2) (a_this_sheets_items_e 2) (q_sheets_lane 2) (q_sheets_length 2) (q_sheets_items 2) x2 x3 hc10) (cwV 2 C.2.2.2.2 gX7_sheet_X4_begin rfl rfl rfl (by decide +kernel) ⟨Nat.le_of_ble_eq_true rfl, Nat.le_of_ble_eq_true rfl⟩) [6, 7] [0, 1, 2, 3, 4, 5, 8, 9] 10 ⟨rfl, rfl, trivial⟩ ⟨rfl, rfl, trivial⟩ ⟨⟨_, rfl, rfl⟩, ⟨_, rfl, rfl⟩, ⟨_, rfl, rfl⟩, ⟨_, rfl, rfl⟩, ⟨_, rfl, rfl⟩, ⟨_, rfl, rfl⟩, ⟨_, rfl, rfl⟩, ⟨_, rfl, rfl⟩, trivial⟩ rfl (by decide) (by decide) (ci := 4) (q0 := 6) rfl rfl rfl hl.1 rfl (lv_room (Nat.le_of_ble_eq_true rfl)) dX7_sheet_37 ⟨Nat.zero_le _, Nat.zero_le _⟩ (fun H locs w => ?_)
            refine lv_iload_n C.1 C.2.1 dX7_sheet_40 rfl (lv_at hl 3 rfl) ?_
            have hres := Option.some.inj hf
            subst hres
            exact ret_i C hr hlocks w rfl dX7_sheet_41
          · refine r_aald (v := (a_this_sheets_e 3)) C w 1 3 rfl rfl (by rw [hx34]; exact ⟨inb_in (by decide), rfl⟩) dX7_sheet_34 ?_
            refine lv_iload_n C.1 C.2.1 dX7_sheet_35 rfl (lv_at hl 2 rfl) ?_
            refine lv_iload_n C.1 C.2.1 dX7_sheet_36 rfl (lv_at hl 3 rfl) ?_
            obtain ⟨r9, hc10, hf⟩ := bd hf
            refine call_Vv (ws' := (wX7_sheet cI cL cS cH a_this a_this_now a_this_past a_this_kept a_this_keptPast a_this_plans a_this_plans_search_net a_this_tape a_this_sheets a_this_sheets_e a_this_sheets_items_e q_hasImage (va_up q_sheets_lane 3 r9.1) (va_up q_sheets_length 3 r9.2.1) (va_up q_sheets_items 3 r9.2.2))) (rest := []) C w (mX4_begin l D cI cL cS cH _ (a_this_sheets_e 3) (a_this_sheets_items_e 3) (q_sheets_lane 3) (q_sheets_length 3) (q_sheets_items 3) x2 x3 hc10) (cwV 2 C.2.2.2.2 gX7_sheet_X4_begin rfl rfl rfl (by decide +kernel) ⟨Nat.le_of_ble_eq_true rfl, Nat.le_of_ble_eq_true rfl⟩) [8, 9] [0, 1, 2, 3, 4, 5, 6, 7] 10 ⟨rfl, rfl, trivial⟩ ⟨rfl, rfl, trivial⟩ ⟨⟨_, rfl, rfl⟩, ⟨_, rfl, rfl⟩, ⟨_, rfl, rfl⟩, ⟨_, rfl, rfl⟩, ⟨_, rfl, rfl⟩, ⟨_, rfl, rfl⟩, ⟨_, rfl, rfl⟩, ⟨_, rfl, rfl⟩, trivial⟩ rfl (by decide) (by decide) (ci := 4) (q0 := 8) rfl rfl rfl hl.1 rfl (lv_room (Nat.le_of_ble_eq_true rfl)) dX7_sheet_37 ⟨Nat.zero_le _, Nat.zero_le _⟩ (fun H locs w => ?_)
            refine lv_iload_n C.1 C.2.1 dX7_sheet_40 rfl (lv_at hl 3 rfl) ?_
            have hres := Option.some.inj hf
            subst hres
            exact ret_i C hr hlocks w rfl dX7_sheet_41
        · have hf := ite_f hf hq8
          refine lv_bipush (v := (-14 : Int32)) C.1 C.2.1 dX7_sheet_26 (by decide) ?_
          have hres := Option.some.inj hf
          subst hres
          exact ret_i C hr hlocks w rfl dX7_sheet_28
      · have hf := ite_f hf hq7
        refine lv_iconst (v := (-1 : Int32)) C.1 C.2.1 dX7_sheet_20 (by decide) ?_
        have hres := Option.some.inj hf
        subst hres
        exact ret_i C hr hlocks w rfl dX7_sheet_21

set_option maxRecDepth 100000 in
theorem inX7_drop_X7 : ∀ w ∈ u_ws RX7 TX7 9, w ∈ wsX7_drop := by decide +kernel
set_option maxRecDepth 100000 in
theorem lkX7_drop_54 : Cond.fieldLink RX7 54 "CleanNets" "sheets" "[LCleanNets$Sheet;" ∈ wsX7_drop := by decide +kernel
set_option maxRecDepth 100000 in
theorem inX7_drop_X4 : ∀ w ∈ u_ws RX4 TX4 3, w ∈ wsX7_drop := by decide +kernel
set_option maxRecDepth 100000 in
theorem lkX7_drop_231 : Cond.fieldLink RX7 231 "CleanNets$Sheet" "lane" "I" ∈ wsX7_drop := by decide +kernel
set_option maxRecDepth 100000 in
theorem lkX7_drop_234 : Cond.fieldLink RX7 234 "CleanNets$Sheet" "length" "I" ∈ wsX7_drop := by decide +kernel
abbrev wX7_drop (cI cL cS cH : ClassId) (a_this : Nat) (a_this_now : Nat) (a_this_past : Nat) (a_this_kept : Nat) (a_this_keptPast : Nat) (a_this_plans : Nat) (a_this_plans_search_net : Nat) (a_this_tape : Nat) (a_this_sheets : Nat) (a_this_sheets_e : Nat → Nat) (a_this_sheets_items_e : Nat → Nat) (q_hasImage : Int32) (q_sheets_lane : Nat → Int32) (q_sheets_length : Nat → Int32) : va_W := [(a_this, .inr (7, [.ref a_this_now, .ref a_this_past, .ref a_this_kept, .ref a_this_keptPast, .int q_hasImage, .ref a_this_plans, .ref a_this_plans_search_net, .ref a_this_tape, .ref a_this_sheets])),
  (a_this_sheets, .inl (cH, 4, .inr (.inr (.inr (.inr (fun k => some (a_this_sheets_e k))))))),
  ((a_this_sheets_e 0), .inr (4, [.int (q_sheets_lane 0), .int (q_sheets_length 0), .ref (a_this_sheets_items_e 0)])),
  ((a_this_sheets_e 1), .inr (4, [.int (q_sheets_lane 1), .int (q_sheets_length 1), .ref (a_this_sheets_items_e 1)])),
  ((a_this_sheets_e 2), .inr (4, [.int (q_sheets_lane 2), .int (q_sheets_length 2), .ref (a_this_sheets_items_e 2)])),
  ((a_this_sheets_e 3), .inr (4, [.int (q_sheets_lane 3), .int (q_sheets_length 3), .ref (a_this_sheets_items_e 3)]))]
def fX7_drop (q_sheets_lane : Nat → Int32) (q_sheets_length : Nat → Int32) (x1 : Int32) : Option (Int32 × (Nat → Int32)) := Option.bind (fX7_isSheet x1) (fun r1 => (if r1 = 0 then some ((-1 : Int32), q_sheets_lane) else sel4 x1 (fun k14 => Option.bind (fX4_isMissing (q_sheets_lane k14)) (fun r4 => (if r4 = 0 then some ((q_sheets_length k14), (va_up q_sheets_lane k14 (-1 : Int32))) else some ((-11 : Int32), q_sheets_lane))))))
set_option maxHeartbeats 4000000 in
set_option maxRecDepth 100000 in
theorem mX7_drop (l : Launch) (D : vg) (cI cL cS cH : ClassId) (sz : Nat) (a_this : Nat) (a_this_now : Nat) (a_this_past : Nat) (a_this_kept : Nat) (a_this_keptPast : Nat) (a_this_plans : Nat) (a_this_plans_search_net : Nat) (a_this_tape : Nat) (a_this_sheets : Nat) (a_this_sheets_e : Nat → Nat) (a_this_sheets_items_e : Nat → Nat) (q_hasImage : Int32) (q_sheets_lane : Nat → Int32) (q_sheets_length : Nat → Int32) (x1 : Int32) {res : Int32 × (Nat → Int32)} (hf : fX7_drop q_sheets_lane q_sheets_length x1 = some res) : cti l yX7_drop wsX7_drop ({ frames := 1, cells := 0, slots := 0, locals := 20 }) D (ty4 cI cL cS cH) sz [.ref a_this, .int x1] (wX7_drop cI cL cS cH a_this a_this_now a_this_past a_this_kept a_this_keptPast a_this_plans a_this_plans_search_net a_this_tape a_this_sheets a_this_sheets_e a_this_sheets_items_e q_hasImage q_sheets_lane q_sheets_length) (wX7_drop cI cL cS cH a_this a_this_now a_this_past a_this_kept a_this_keptPast a_this_plans a_this_plans_search_net a_this_tape a_this_sheets a_this_sheets_e a_this_sheets_items_e q_hasImage res.2 q_sheets_length) res.1 := by
  refine Met.ofW (cc := cX7_drop) (maxL := 3) (ret := (some .int)) (by decide) rfl ?_
  intro p e s m args below meth c s₁ B hml hv
  obtain ⟨rfl, hpre⟩ := hv
  obtain rfl := hpre.1
  have C : CallFix p m c cX7_drop 3 s _ wsX7_drop RX7 := ⟨B.exec, B.bytes, hml, findClass_of_methodNamed B.named, atoms_spec (ws := wsX7_drop) B.pre⟩
  have hr := B.returns
  have hlocks := B.notSynchronized
  have w := wd_start hpre
  clear hpre B
  have hl := lv_entry ([.ref a_this, .int x1]) (n := 3) (Nat.le_of_ble_eq_true rfl)
  rw [lg_entry_eq]
  generalize (lg_sl ([.ref a_this, .int x1]) ++ List.replicate (3 - (lg_sl ([.ref a_this, .int x1])).length) Slot.unset).toArray = ls at hl ⊢
  have hl : lv_has ls 3 [(0, .ref a_this), (1, .int x1)] := hl
  unfold fX7_drop at hf
  refine lv_iload_n C.1 C.2.1 dX7_drop_0 rfl (lv_at hl 1 rfl) ?_
  obtain ⟨r1, hc2, hf⟩ := bd hf
  refine call_Si (ws' := (wX7_drop cI cL cS cH a_this a_this_now a_this_past a_this_kept a_this_keptPast a_this_plans a_this_plans_search_net a_this_tape a_this_sheets a_this_sheets_e a_this_sheets_items_e q_hasImage q_sheets_lane q_sheets_length)) (rest := []) C w (mX7_isSheet l D cI cL cS cH _ x1 hc2) (va_cwS 1 C.2.2.2.2 gX7_drop_X7_isSheet rfl rfl rfl (by decide +kernel) ⟨Nat.le_of_ble_eq_true rfl, Nat.le_of_ble_eq_true rfl⟩) [] [0, 1, 2, 3, 4, 5] 6 trivial trivial ⟨⟨_, rfl, rfl⟩, ⟨_, rfl, rfl⟩, ⟨_, rfl, rfl⟩, ⟨_, rfl, rfl⟩, ⟨_, rfl, rfl⟩, ⟨_, rfl, rfl⟩, trivial⟩ rfl (by decide) (by decide) rfl hl.1 rfl (lv_room (Nat.le_of_ble_eq_true rfl)) dX7_drop_1 ⟨Nat.zero_le _, Nat.zero_le _⟩ (fun H locs w => ?_)
  refine lv_if_ne (tgt := 9) C.1 C.2.1 dX7_drop_4 (by decide) (fun hq3 => ?_) (fun hq3 => ?_)
  · have hf := ite_f hf hq3
    refine lv_aload_n C.1 C.2.1 dX7_drop_9 rfl (lv_at hl 0 rfl) ?_
    refine r_get C w inX7_drop_X7 0 rfl rfl 8 (by decide) lkX7_drop_54 rfl dX7_drop_10 ?_
    refine lv_iload_n C.1 C.2.1 dX7_drop_13 rfl (lv_at hl 1 rfl) ?_
    rcases sel4_in hf with ⟨hx14, hf⟩ | ⟨hx14, hf⟩ | ⟨hx14, hf⟩ | ⟨hx14, hf⟩
    · refine r_aald (v := (a_this_sheets_e 0)) C w 1 3 rfl rfl (by rw [hx14]; exact ⟨inb_in (by decide), rfl⟩) dX7_drop_14 ?_
      refine lv_astore_n (lv' := [(2, .ref (a_this_sheets_e 0)), (0, .ref a_this), (1, .int x1)]) C.1 C.2.1 dX7_drop_15 rfl hl (by decide) rfl (fun ls hl => ?_)
      refine lv_aload_n C.1 C.2.1 dX7_drop_16 rfl (lv_at hl 0 rfl) ?_
      obtain ⟨r4, hc5, hf⟩ := bd hf
      refine call_Vi (ws' := (wX7_drop cI cL cS cH a_this a_this_now a_this_past a_this_kept a_this_keptPast a_this_plans a_this_plans_search_net a_this_tape a_this_sheets a_this_sheets_e a_this_sheets_items_e q_hasImage q_sheets_lane q_sheets_length)) (rest := []) C w (mX4_isMissing l D cI cL cS cH _ (a_this_sheets_e 0) (a_this_sheets_items_e 0) (q_sheets_lane 0) (q_sheets_length 0) hc5) (cwV 0 C.2.2.2.2 gX7_drop_X4_isMissing rfl rfl rfl (by decide +kernel) ⟨Nat.le_of_ble_eq_true rfl, Nat.le_of_ble_eq_true rfl⟩) [2] [0, 1, 3, 4, 5] 6 ⟨rfl, trivial⟩ ⟨rfl, trivial⟩ ⟨⟨_, rfl, rfl⟩, ⟨_, rfl, rfl⟩, ⟨_, rfl, rfl⟩, ⟨_, rfl, rfl⟩, ⟨_, rfl, rfl⟩, trivial⟩ rfl (by decide) (by decide) (ci := 4) (q0 := 2) rfl rfl rfl hl.1 rfl (lv_room (Nat.le_of_ble_eq_true rfl)) dX7_drop_17 ⟨Nat.zero_le _, Nat.zero_le _⟩ (fun H locs w => ?_)
      refine lv_if_eq (tgt := 26) C.1 C.2.1 dX7_drop_20 (by decide) (fun hq6 => ?_) (fun hq6 => ?_)
      · have hf := ite_t hf hq6
        refine lv_aload_n C.1 C.2.1 dX7_drop_26 rfl (lv_at hl 0 rfl) ?_
        refine lv_iconst (v := (-1 : Int32)) C.1 C.2.1 dX7_drop_27 (by decide) ?_
        refine r_put (ws' := (wX7_drop cI cL cS cH a_this a_this_now a_this_past a_this_kept a_this_keptPast a_this_plans a_this_plans_search_net a_this_tape a_this_sheets a_this_sheets_e a_this_sheets_items_e q_hasImage (va_up q_sheets_lane 0 (-1 : Int32)) q_sheets_length)) C w inX7_drop_X4 tyX4 tyX4_ok nmX4 2 rfl rfl 0 (by decide) lkX7_drop_231 rfl rfl rfl (Nat.le_of_ble_eq_true rfl) rfl dX7_drop_28 (fun H locs w => ?_)
        refine lv_aload_n C.1 C.2.1 dX7_drop_31 rfl (lv_at hl 0 rfl) ?_
        refine r_get C w inX7_drop_X4 2 rfl rfl 1 (by decide) lkX7_drop_234 rfl dX7_drop_32 ?_
        have hres := Option.some.inj hf
        subst hres
        exact ret_i C hr hlocks w rfl dX7_drop_35
      · have hf := ite_f hf hq6
        refine lv_bipush (v := (-11 : Int32)) C.1 C.2.1 dX7_drop_23 (by decide) ?_
        have hres := Option.some.inj hf
        subst hres
        exact ret_i C hr hlocks w rfl dX7_drop_25
    · refine r_aald (v := (a_this_sheets_e 1)) C w 1 3 rfl rfl (by rw [hx14]; exact ⟨inb_in (by decide), rfl⟩) dX7_drop_14 ?_
      refine lv_astore_n (lv' := [(2, .ref (a_this_sheets_e 1)), (0, .ref a_this), (1, .int x1)]) C.1 C.2.1 dX7_drop_15 rfl hl (by decide) rfl (fun ls hl => ?_)
      refine lv_aload_n C.1 C.2.1 dX7_drop_16 rfl (lv_at hl 0 rfl) ?_
      obtain ⟨r4, hc5, hf⟩ := bd hf
      refine call_Vi (ws' := (wX7_drop cI cL cS cH a_this a_this_now a_this_past a_this_kept a_this_keptPast a_this_plans a_this_plans_search_net a_this_tape a_this_sheets a_this_sheets_e a_this_sheets_items_e q_hasImage q_sheets_lane q_sheets_length)) (rest := []) C w (mX4_isMissing l D cI cL cS cH _ (a_this_sheets_e 1) (a_this_sheets_items_e 1) (q_sheets_lane 1) (q_sheets_length 1) hc5) (cwV 0 C.2.2.2.2 gX7_drop_X4_isMissing rfl rfl rfl (by decide +kernel) ⟨Nat.le_of_ble_eq_true rfl, Nat.le_of_ble_eq_true rfl⟩) [3] [0, 1, 2, 4, 5] 6 ⟨rfl, trivial⟩ ⟨rfl, trivial⟩ ⟨⟨_, rfl, rfl⟩, ⟨_, rfl, rfl⟩, ⟨_, rfl, rfl⟩, ⟨_, rfl, rfl⟩, ⟨_, rfl, rfl⟩, trivial⟩ rfl (by decide) (by decide) (ci := 4) (q0 := 3) rfl rfl rfl hl.1 rfl (lv_room (Nat.le_of_ble_eq_true rfl)) dX7_drop_17 ⟨Nat.zero_le _, Nat.zero_le _⟩ (fun H locs w => ?_)
      refine lv_if_eq (tgt := 26) C.1 C.2.1 dX7_drop_20 (by decide) (fun hq6 => ?_) (fun hq6 => ?_)
      · have hf := ite_t hf hq6
        refine lv_aload_n C.1 C.2.1 dX7_drop_26 rfl (lv_at hl 0 rfl) ?_
        refine lv_iconst (v := (-1 : Int32)) C.1 C.2.1 dX7_drop_27 (by decide) ?_
        refine r_put (ws' := (wX7_drop cI cL cS cH a_this a_this_now a_this_past a_this_kept a_this_keptPast a_this_plans a_this_plans_search_net a_this_tape a_this_sheets a_this_sheets_e a_this_sheets_items_e q_hasImage (va_up q_sheets_lane 1 (-1 : Int32)) q_sheets_length)) C w inX7_drop_X4 tyX4 tyX4_ok nmX4 3 rfl rfl 0 (by decide) lkX7_drop_231 rfl rfl rfl (Nat.le_of_ble_eq_true rfl) rfl dX7_drop_28 (fun H locs w => ?_)
        refine lv_aload_n C.1 C.2.1 dX7_drop_31 rfl (lv_at hl 0 rfl) ?_
        refine r_get C w inX7_drop_X4 3 rfl rfl 1 (by decide) lkX7_drop_234 rfl dX7_drop_32 ?_
        have hres := Option.some.inj hf
        subst hres
        exact ret_i C hr hlocks w rfl dX7_drop_35
      · have hf := ite_f hf hq6
        refine lv_bipush (v := (-11 : Int32)) C.1 C.2.1 dX7_drop_23 (by decide) ?_
        have hres := Option.some.inj hf
        subst hres
        exact ret_i C hr hlocks w rfl dX7_drop_25
    · refine r_aald (v := (a_this_sheets_e 2)) C w 1 3 rfl rfl (by rw [hx14]; exact ⟨inb_in (by decide), rfl⟩) dX7_drop_14 ?_
      refine lv_astore_n (lv' := [(2, .ref (a_this_sheets_e 2)), (0, .ref a_this), (1, .int x1)]) C.1 C.2.1 dX7_drop_15 rfl hl (by decide) rfl (fun ls hl => ?_)
      refine lv_aload_n C.1 C.2.1 dX7_drop_16 rfl (lv_at hl 0 rfl) ?_
      obtain ⟨r4, hc5, hf⟩ := bd hf
      refine call_Vi (ws' := (wX7_drop cI cL cS cH a_this a_this_now a_this_past a_this_kept a_this_keptPast a_this_plans a_this_plans_search_net a_this_tape a_this_sheets a_this_sheets_e a_this_sheets_items_e q_hasImage q_sheets_lane q_sheets_length)) (rest := []) C w (mX4_isMissing l D cI cL cS cH _ (a_this_sheets_e 2) (a_this_sheets_items_e 2) (q_sheets_lane 2) (q_sheets_length 2) hc5) (cwV 0 C.2.2.2.2 gX7_drop_X4_isMissing rfl rfl rfl (by decide +kernel) ⟨Nat.le_of_ble_eq_true rfl, Nat.le_of_ble_eq_true rfl⟩) [4] [0, 1, 2, 3, 5] 6 ⟨rfl, trivial⟩ ⟨rfl, trivial⟩ ⟨⟨_, rfl, rfl⟩, ⟨_, rfl, rfl⟩, ⟨_, rfl, rfl⟩, ⟨_, rfl, rfl⟩, ⟨_, rfl, rfl⟩, trivial⟩ rfl (by decide) (by decide) (ci := 4) (q0 := 4) rfl rfl rfl hl.1 rfl (lv_room (Nat.le_of_ble_eq_true rfl)) dX7_drop_17 ⟨Nat.zero_le _, Nat.zero_le _⟩ (fun H locs w => ?_)
      refine lv_if_eq (tgt := 26) C.1 C.2.1 dX7_drop_20 (by decide) (fun hq6 => ?_) (fun hq6 => ?_)
      · have hf := ite_t hf hq6
        refine lv_aload_n C.1 C.2.1 dX7_drop_26 rfl (lv_at hl 0 rfl) ?_
        refine lv_iconst (v := (-1 : Int32)) C.1 C.2.1 dX7_drop_27 (by decide) ?_
        refine r_put (ws' := (wX7_drop cI cL cS cH a_this a_this_now a_this_past a_this_kept a_this_keptPast a_this_plans a_this_plans_search_net a_this_tape a_this_sheets a_this_sheets_e a_this_sheets_items_e q_hasImage (va_up q_sheets_lane 2 (-1 : Int32)) q_sheets_length)) C w inX7_drop_X4 tyX4 tyX4_ok nmX4 4 rfl rfl 0 (by decide) lkX7_drop_231 rfl rfl rfl (Nat.le_of_ble_eq_true rfl) rfl dX7_drop_28 (fun H locs w => ?_)
        refine lv_aload_n C.1 C.2.1 dX7_drop_31 rfl (lv_at hl 0 rfl) ?_
        refine r_get C w inX7_drop_X4 4 rfl rfl 1 (by decide) lkX7_drop_234 rfl dX7_drop_32 ?_
        have hres := Option.some.inj hf
        subst hres
        exact ret_i C hr hlocks w rfl dX7_drop_35
      · have hf := ite_f hf hq6
        refine lv_bipush (v := (-11 : Int32)) C.1 C.2.1 dX7_drop_23 (by decide) ?_
        have hres := Option.some.inj hf
        subst hres
        exact ret_i C hr hlocks w rfl dX7_drop_25
    · refine r_aald (v := (a_this_sheets_e 3)) C w 1 3 rfl rfl (by rw [hx14]; exact ⟨inb_in (by decide), rfl⟩) dX7_drop_14 ?_
      refine lv_astore_n (lv' := [(2, .ref (a_this_sheets_e 3)), (0, .ref a_this), (1, .int x1)]) C.1 C.2.1 dX7_drop_15 rfl hl (by decide) rfl (fun ls hl => ?_)
      refine lv_aload_n C.1 C.2.1 dX7_drop_16 rfl (lv_at hl 0 rfl) ?_
      obtain ⟨r4, hc5, hf⟩ := bd hf
      refine call_Vi (ws' := (wX7_drop cI cL cS cH a_this a_this_now a_this_past a_this_kept a_this_keptPast a_this_plans a_this_plans_search_net a_this_tape a_this_sheets a_this_sheets_e a_this_sheets_items_e q_hasImage q_sheets_lane q_sheets_length)) (rest := []) C w (mX4_isMissing l D cI cL cS cH _ (a_this_sheets_e 3) (a_this_sheets_items_e 3) (q_sheets_lane 3) (q_sheets_length 3) hc5) (cwV 0 C.2.2.2.2 gX7_drop_X4_isMissing rfl rfl rfl (by decide +kernel) ⟨Nat.le_of_ble_eq_true rfl, Nat.le_of_ble_eq_true rfl⟩) [5] [0, 1, 2, 3, 4] 6 ⟨rfl, trivial⟩ ⟨rfl, trivial⟩ ⟨⟨_, rfl, rfl⟩, ⟨_, rfl, rfl⟩, ⟨_, rfl, rfl⟩, ⟨_, rfl, rfl⟩, ⟨_, rfl, rfl⟩, trivial⟩ rfl (by decide) (by decide) (ci := 4) (q0 := 5) rfl rfl rfl hl.1 rfl (lv_room (Nat.le_of_ble_eq_true rfl)) dX7_drop_17 ⟨Nat.zero_le _, Nat.zero_le _⟩ (fun H locs w => ?_)
      refine lv_if_eq (tgt := 26) C.1 C.2.1 dX7_drop_20 (by decide) (fun hq6 => ?_) (fun hq6 => ?_)
      · have hf := ite_t hf hq6
        refine lv_aload_n C.1 C.2.1 dX7_drop_26 rfl (lv_at hl 0 rfl) ?_
        refine lv_iconst (v := (-1 : Int32)) C.1 C.2.1 dX7_drop_27 (by decide) ?_
        refine r_put (ws' := (wX7_drop cI cL cS cH a_this a_this_now a_this_past a_this_kept a_this_keptPast a_this_plans a_this_plans_search_net a_this_tape a_this_sheets a_this_sheets_e a_this_sheets_items_e q_hasImage (va_up q_sheets_lane 3 (-1 : Int32)) q_sheets_length)) C w inX7_drop_X4 tyX4 tyX4_ok nmX4 5 rfl rfl 0 (by decide) lkX7_drop_231 rfl rfl rfl (Nat.le_of_ble_eq_true rfl) rfl dX7_drop_28 (fun H locs w => ?_)
        refine lv_aload_n C.1 C.2.1 dX7_drop_31 rfl (lv_at hl 0 rfl) ?_
        refine r_get C w inX7_drop_X4 5 rfl rfl 1 (by decide) lkX7_drop_234 rfl dX7_drop_32 ?_
        have hres := Option.some.inj hf
        subst hres
        exact ret_i C hr hlocks w rfl dX7_drop_35
      · have hf := ite_f hf hq6
        refine lv_bipush (v := (-11 : Int32)) C.1 C.2.1 dX7_drop_23 (by decide) ?_
        have hres := Option.some.inj hf
        subst hres
        exact ret_i C hr hlocks w rfl dX7_drop_25
  · have hf := ite_t hf hq3
    refine lv_iconst (v := (-1 : Int32)) C.1 C.2.1 dX7_drop_7 (by decide) ?_
    have hres := Option.some.inj hf
    subst hres
    exact ret_i C hr hlocks w rfl dX7_drop_8
