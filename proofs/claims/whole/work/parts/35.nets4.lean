set_option maxRecDepth 100000 in
theorem inX7_item_X7 : ∀ w ∈ u_ws RX7 TX7 9, w ∈ wsX7_item := by decide +kernel
set_option maxRecDepth 100000 in
theorem lkX7_item_54 : Cond.fieldLink RX7 54 "CleanNets" "sheets" "[LCleanNets$Sheet;" ∈ wsX7_item := by decide +kernel
set_option maxRecDepth 100000 in
theorem inX7_item_X4 : ∀ w ∈ u_ws RX4 TX4 3, w ∈ wsX7_item := by decide +kernel
set_option maxRecDepth 100000 in
theorem lkX7_item_212 : Cond.fieldLink RX7 212 "CleanNets$Sheet" "items" "[J" ∈ wsX7_item := by decide +kernel
abbrev wX7_item (cI cL cS cH : ClassId) (a_this : Nat) (a_this_now : Nat) (a_this_past : Nat) (a_this_kept : Nat) (a_this_keptPast : Nat) (a_this_plans : Nat) (a_this_plans_search_net : Nat) (a_this_tape : Nat) (a_this_sheets : Nat) (a_this_sheets_e : Nat → Nat) (a_this_sheets_items_e : Nat → Nat) (q_hasImage : Int32) (q_sheets_lane : Nat → Int32) (q_sheets_length : Nat → Int32) (q_sheets_items : Nat → Nat → Int64) : va_W := [(a_this, .inr (7, [.ref a_this_now, .ref a_this_past, .ref a_this_kept, .ref a_this_keptPast, .int q_hasImage, .ref a_this_plans, .ref a_this_plans_search_net, .ref a_this_tape, .ref a_this_sheets])),
  (a_this_sheets, .inl (cH, 4, .inr (.inr (.inr (.inr (fun k => some (a_this_sheets_e k))))))),
  ((a_this_sheets_e 0), .inr (4, [.int (q_sheets_lane 0), .int (q_sheets_length 0), .ref (a_this_sheets_items_e 0)])),
  ((a_this_sheets_items_e 0), .inl (cL, 24, .inr (.inl (q_sheets_items 0)))),
  ((a_this_sheets_e 1), .inr (4, [.int (q_sheets_lane 1), .int (q_sheets_length 1), .ref (a_this_sheets_items_e 1)])),
  ((a_this_sheets_items_e 1), .inl (cL, 24, .inr (.inl (q_sheets_items 1)))),
  ((a_this_sheets_e 2), .inr (4, [.int (q_sheets_lane 2), .int (q_sheets_length 2), .ref (a_this_sheets_items_e 2)])),
  ((a_this_sheets_items_e 2), .inl (cL, 24, .inr (.inl (q_sheets_items 2)))),
  ((a_this_sheets_e 3), .inr (4, [.int (q_sheets_lane 3), .int (q_sheets_length 3), .ref (a_this_sheets_items_e 3)])),
  ((a_this_sheets_items_e 3), .inl (cL, 24, .inr (.inl (q_sheets_items 3))))]
def fX7_item (q_sheets_lane : Nat → Int32) (q_sheets_length : Nat → Int32) (q_sheets_items : Nat → Nat → Int64) (x1 : Int32) (x2 : Int32) (x3 : Int32) (x4 : Int64) : Option (Int32 × (Nat → Nat → Int64)) := Option.bind (fX7_isSheet x1) (fun r1 => (if r1 = 0 then some ((-1 : Int32), q_sheets_items) else Option.bind (fX7_isLane x2) (fun r4 => (if r4 = 0 then some ((-1 : Int32), q_sheets_items) else sel4 x1 (fun k21 => Option.bind (fX4_wrongAs (q_sheets_lane k21) (q_sheets_length k21) x2 x3 (1 : Int32)) (fun r7 => (if r7 = 0 then Option.bind (fX4_lowestBits x2 x4) (fun r10 => Option.bind (wl (q_sheets_items k21) 24 x3 r10) (fun g12 => some ((1 : Int32), (va_up q_sheets_items k21 g12)))) else some (r7, q_sheets_items))))))))
set_option maxHeartbeats 4000000 in
set_option maxRecDepth 100000 in
theorem mX7_item (l : Launch) (D : vg) (cI cL cS cH : ClassId) (sz : Nat) (a_this : Nat) (a_this_now : Nat) (a_this_past : Nat) (a_this_kept : Nat) (a_this_keptPast : Nat) (a_this_plans : Nat) (a_this_plans_search_net : Nat) (a_this_tape : Nat) (a_this_sheets : Nat) (a_this_sheets_e : Nat → Nat) (a_this_sheets_items_e : Nat → Nat) (q_hasImage : Int32) (q_sheets_lane : Nat → Int32) (q_sheets_length : Nat → Int32) (q_sheets_items : Nat → Nat → Int64) (x1 : Int32) (x2 : Int32) (x3 : Int32) (x4 : Int64) {res : Int32 × (Nat → Nat → Int64)} (hf : fX7_item q_sheets_lane q_sheets_length q_sheets_items x1 x2 x3 x4 = some res) : cti l yX7_item wsX7_item ({ frames := 2, cells := 0, slots := 0, locals := 45 }) D (ty4 cI cL cS cH) sz [.ref a_this, .int x1, .int x2, .int x3, .long x4] (wX7_item cI cL cS cH a_this a_this_now a_this_past a_this_kept a_this_keptPast a_this_plans a_this_plans_search_net a_this_tape a_this_sheets a_this_sheets_e a_this_sheets_items_e q_hasImage q_sheets_lane q_sheets_length q_sheets_items) (wX7_item cI cL cS cH a_this a_this_now a_this_past a_this_kept a_this_keptPast a_this_plans a_this_plans_search_net a_this_tape a_this_sheets a_this_sheets_e a_this_sheets_items_e q_hasImage q_sheets_lane q_sheets_length res.2) res.1 := by
  refine Met.ofW (cc := cX7_item) (maxL := 8) (ret := (some .int)) (by decide) rfl ?_
  intro p e s m args below meth c s₁ B hml hv
  obtain ⟨rfl, hpre⟩ := hv
  obtain rfl := hpre.1
  have C : CallFix p m c cX7_item 8 s _ wsX7_item RX7 := ⟨B.exec, B.bytes, hml, findClass_of_methodNamed B.named, atoms_spec (ws := wsX7_item) B.pre⟩
  have hr := B.returns
  have hlocks := B.notSynchronized
  have w := wd_start hpre
  clear hpre B
  have hl := lv_entry ([.ref a_this, .int x1, .int x2, .int x3, .long x4]) (n := 8) (Nat.le_of_ble_eq_true rfl)
  rw [lg_entry_eq]
  generalize (lg_sl ([.ref a_this, .int x1, .int x2, .int x3, .long x4]) ++ List.replicate (8 - (lg_sl ([.ref a_this, .int x1, .int x2, .int x3, .long x4])).length) Slot.unset).toArray = ls at hl ⊢
  have hl : lv_has ls 8 [(0, .ref a_this), (1, .int x1), (2, .int x2), (3, .int x3), (4, .long x4)] := hl
  unfold fX7_item at hf
  refine lv_iload_n C.1 C.2.1 dX7_item_0 rfl (lv_at hl 1 rfl) ?_
  obtain ⟨r1, hc2, hf⟩ := bd hf
  refine call_Si (ws' := (wX7_item cI cL cS cH a_this a_this_now a_this_past a_this_kept a_this_keptPast a_this_plans a_this_plans_search_net a_this_tape a_this_sheets a_this_sheets_e a_this_sheets_items_e q_hasImage q_sheets_lane q_sheets_length q_sheets_items)) (rest := []) C w (mX7_isSheet l D cI cL cS cH _ x1 hc2) (va_cwS 1 C.2.2.2.2 gX7_item_X7_isSheet rfl rfl rfl (by decide +kernel) ⟨Nat.le_of_ble_eq_true rfl, Nat.le_of_ble_eq_true rfl⟩) [] [0, 1, 2, 3, 4, 5, 6, 7, 8, 9] 10 trivial trivial ⟨⟨_, rfl, rfl⟩, ⟨_, rfl, rfl⟩, ⟨_, rfl, rfl⟩, ⟨_, rfl, rfl⟩, ⟨_, rfl, rfl⟩, ⟨_, rfl, rfl⟩, ⟨_, rfl, rfl⟩, ⟨_, rfl, rfl⟩, ⟨_, rfl, rfl⟩, ⟨_, rfl, rfl⟩, trivial⟩ rfl (by decide) (by decide) rfl hl.1 rfl (lv_room (Nat.le_of_ble_eq_true rfl)) dX7_item_1 ⟨Nat.zero_le _, Nat.zero_le _⟩ (fun H locs w => ?_)
  refine lv_if_eq (tgt := 14) C.1 C.2.1 dX7_item_4 (by decide) (fun hq3 => ?_) (fun hq3 => ?_)
  · have hf := ite_t hf hq3
    refine lv_iconst (v := (-1 : Int32)) C.1 C.2.1 dX7_item_14 (by decide) ?_
    have hres := Option.some.inj hf
    subst hres
    exact ret_i C hr hlocks w rfl dX7_item_15
  · have hf := ite_f hf hq3
    refine lv_iload_n C.1 C.2.1 dX7_item_7 rfl (lv_at hl 2 rfl) ?_
    obtain ⟨r4, hc5, hf⟩ := bd hf
    refine call_Si (ws' := (wX7_item cI cL cS cH a_this a_this_now a_this_past a_this_kept a_this_keptPast a_this_plans a_this_plans_search_net a_this_tape a_this_sheets a_this_sheets_e a_this_sheets_items_e q_hasImage q_sheets_lane q_sheets_length q_sheets_items)) (rest := []) C w (mX7_isLane l D cI cL cS cH _ x2 hc5) (va_cwS 1 C.2.2.2.2 gX7_item_X7_isLane rfl rfl rfl (by decide +kernel) ⟨Nat.le_of_ble_eq_true rfl, Nat.le_of_ble_eq_true rfl⟩) [] [0, 1, 2, 3, 4, 5, 6, 7, 8, 9] 10 trivial trivial ⟨⟨_, rfl, rfl⟩, ⟨_, rfl, rfl⟩, ⟨_, rfl, rfl⟩, ⟨_, rfl, rfl⟩, ⟨_, rfl, rfl⟩, ⟨_, rfl, rfl⟩, ⟨_, rfl, rfl⟩, ⟨_, rfl, rfl⟩, ⟨_, rfl, rfl⟩, ⟨_, rfl, rfl⟩, trivial⟩ rfl (by decide) (by decide) rfl hl.1 rfl (lv_room (Nat.le_of_ble_eq_true rfl)) dX7_item_8 ⟨Nat.zero_le _, Nat.zero_le _⟩ (fun H locs w => ?_)
    refine lv_if_ne (tgt := 16) C.1 C.2.1 dX7_item_11 (by decide) (fun hq6 => ?_) (fun hq6 => ?_)
    · have hf := ite_f hf hq6
      refine lv_aload_n C.1 C.2.1 dX7_item_16 rfl (lv_at hl 0 rfl) ?_
      refine r_get C w inX7_item_X7 0 rfl rfl 8 (by decide) lkX7_item_54 rfl dX7_item_17 ?_
      refine lv_iload_n C.1 C.2.1 dX7_item_20 rfl (lv_at hl 1 rfl) ?_
      rcases sel4_in hf with ⟨hx21, hf⟩ | ⟨hx21, hf⟩ | ⟨hx21, hf⟩ | ⟨hx21, hf⟩
      · refine r_aald (v := (a_this_sheets_e 0)) C w 1 3 rfl rfl (by rw [hx21]; exact ⟨inb_in (by decide), rfl⟩) dX7_item_21 ?_
        refine lv_astore (lv' := [(6, .ref (a_this_sheets_e 0)), (0, .ref a_this), (1, .int x1), (2, .int x2), (3, .int x3), (4, .long x4)]) C.1 C.2.1 dX7_item_22 hl (by decide) rfl (fun ls hl => ?_)
        refine lv_aload C.1 C.2.1 dX7_item_24 (lv_at hl 0 rfl) ?_
        refine lv_iload_n C.1 C.2.1 dX7_item_26 rfl (lv_at hl 3 rfl) ?_
        refine lv_iload_n C.1 C.2.1 dX7_item_27 rfl (lv_at hl 4 rfl) ?_
        refine lv_iconst (v := (1 : Int32)) C.1 C.2.1 dX7_item_28 (by decide) ?_
        obtain ⟨r7, hc8, hf⟩ := bd hf
        refine call_Vi (ws' := (wX7_item cI cL cS cH a_this a_this_now a_this_past a_this_kept a_this_keptPast a_this_plans a_this_plans_search_net a_this_tape a_this_sheets a_this_sheets_e a_this_sheets_items_e q_hasImage q_sheets_lane q_sheets_length q_sheets_items)) (rest := []) C w (mX4_wrongAs l D cI cL cS cH _ (a_this_sheets_e 0) (a_this_sheets_items_e 0) (q_sheets_lane 0) (q_sheets_length 0) x2 x3 (1 : Int32) hc8) (cwV 3 C.2.2.2.2 gX7_item_X4_wrongAs rfl rfl rfl (by decide +kernel) ⟨Nat.le_of_ble_eq_true rfl, Nat.le_of_ble_eq_true rfl⟩) [2] [0, 1, 3, 4, 5, 6, 7, 8, 9] 10 ⟨rfl, trivial⟩ ⟨rfl, trivial⟩ ⟨⟨_, rfl, rfl⟩, ⟨_, rfl, rfl⟩, ⟨_, rfl, rfl⟩, ⟨_, rfl, rfl⟩, ⟨_, rfl, rfl⟩, ⟨_, rfl, rfl⟩, ⟨_, rfl, rfl⟩, ⟨_, rfl, rfl⟩, ⟨_, rfl, rfl⟩, trivial⟩ rfl (by decide) (by decide) (ci := 4) (q0 := 2) rfl rfl rfl hl.1 rfl (lv_room (Nat.le_of_ble_eq_true rfl)) dX7_item_29 ⟨Nat.zero_le _, Nat.zero_le _⟩ (fun H locs w => ?_)
        refine lv_istore (lv' := [(7, .int r7), (6, .ref (a_this_sheets_e 0)), (0, .ref a_this), (1, .int x1), (2, .int x2), (3, .int x3), (4, .long x4)]) C.1 C.2.1 dX7_item_32 hl (by decide) rfl (fun ls hl => ?_)
        refine lv_iload C.1 C.2.1 dX7_item_34 (lv_at hl 0 rfl) ?_
        refine lv_if_eq (tgt := 42) C.1 C.2.1 dX7_item_36 (by decide) (fun hq9 => ?_) (fun hq9 => ?_)
        · have hf := ite_t hf hq9
          refine lv_aload C.1 C.2.1 dX7_item_42 (lv_at hl 1 rfl) ?_
          refine r_get C w inX7_item_X4 2 rfl rfl 2 (by decide) lkX7_item_212 rfl dX7_item_44 ?_
          refine lv_iload_n C.1 C.2.1 dX7_item_47 rfl (lv_at hl 5 rfl) ?_
          refine lv_iload_n C.1 C.2.1 dX7_item_48 rfl (lv_at hl 4 rfl) ?_
          refine lv_lload C.1 C.2.1 dX7_item_49 (lv_at hl 6 rfl) ?_
          obtain ⟨r10, hc11, hf⟩ := bd hf
          refine call_Sl (ws' := (wX7_item cI cL cS cH a_this a_this_now a_this_past a_this_kept a_this_keptPast a_this_plans a_this_plans_search_net a_this_tape a_this_sheets a_this_sheets_e a_this_sheets_items_e q_hasImage q_sheets_lane q_sheets_length q_sheets_items)) (rest := [.int x3, .ref (a_this_sheets_items_e 0)]) C w (mX4_lowestBits l D cI cL cS cH _ x2 x4 hc11) (va_cwS 2 C.2.2.2.2 gX7_item_X4_lowestBits rfl rfl rfl (by decide +kernel) ⟨Nat.le_of_ble_eq_true rfl, Nat.le_of_ble_eq_true rfl⟩) [] [0, 1, 2, 3, 4, 5, 6, 7, 8, 9] 10 trivial trivial ⟨⟨_, rfl, rfl⟩, ⟨_, rfl, rfl⟩, ⟨_, rfl, rfl⟩, ⟨_, rfl, rfl⟩, ⟨_, rfl, rfl⟩, ⟨_, rfl, rfl⟩, ⟨_, rfl, rfl⟩, ⟨_, rfl, rfl⟩, ⟨_, rfl, rfl⟩, ⟨_, rfl, rfl⟩, trivial⟩ rfl (by decide) (by decide) rfl hl.1 rfl (lv_room (Nat.le_of_ble_eq_true rfl)) dX7_item_51 ⟨Nat.zero_le _, Nat.zero_le _⟩ (fun H locs w => ?_)
          obtain ⟨g12, hg13, hf⟩ := bd hf
          refine r_last (ws' := (wX7_item cI cL cS cH a_this a_this_now a_this_past a_this_kept a_this_keptPast a_this_plans a_this_plans_search_net a_this_tape a_this_sheets a_this_sheets_e a_this_sheets_items_e q_hasImage q_sheets_lane q_sheets_length (va_up q_sheets_items 0 g12))) C w 3 1 rfl rfl (wl_in hg13) rfl dX7_item_54 (fun H locs w => ?_)
          refine lv_iconst (v := (1 : Int32)) C.1 C.2.1 dX7_item_55 (by decide) ?_
          have hres := Option.some.inj hf
          subst hres
          exact ret_i C hr hlocks w rfl dX7_item_56
        · have hf := ite_f hf hq9
          refine lv_iload C.1 C.2.1 dX7_item_39 (lv_at hl 0 rfl) ?_
          have hres := Option.some.inj hf
          subst hres
          exact ret_i C hr hlocks w rfl dX7_item_41
      · refine r_aald (v := (a_this_sheets_e 1)) C w 1 3 rfl rfl (by rw [hx21]; exact ⟨inb_in (by decide), rfl⟩) dX7_item_21 ?_
        refine lv_astore (lv' := [(6, .ref (a_this_sheets_e 1)), (0, .ref a_this), (1, .int x1), (2, .int x2), (3, .int x3), (4, .long x4)]) C.1 C.2.1 dX7_item_22 hl (by decide) rfl (fun ls hl => ?_)
        refine lv_aload C.1 C.2.1 dX7_item_24 (lv_at hl 0 rfl) ?_
        refine lv_iload_n C.1 C.2.1 dX7_item_26 rfl (lv_at hl 3 rfl) ?_
        refine lv_iload_n C.1 C.2.1 dX7_item_27 rfl (lv_at hl 4 rfl) ?_
        refine lv_iconst (v := (1 : Int32)) C.1 C.2.1 dX7_item_28 (by decide) ?_
        obtain ⟨r7, hc8, hf⟩ := bd hf
        refine call_Vi (ws' := (wX7_item cI cL cS cH a_this a_this_now a_this_past a_this_kept a_this_keptPast a_this_plans a_this_plans_search_net a_this_tape a_this_sheets a_this_sheets_e a_this_sheets_items_e q_hasImage q_sheets_lane q_sheets_length q_sheets_items)) (rest := []) C w (mX4_wrongAs l D cI cL cS cH _ (a_this_sheets_e 1) (a_this_sheets_items_e 1) (q_sheets_lane 1) (q_sheets_length 1) x2 x3 (1 : Int32) hc8) (cwV 3 C.2.2.2.2 gX7_item_X4_wrongAs rfl rfl rfl (by decide +kernel) ⟨Nat.le_of_ble_eq_true rfl, Nat.le_of_ble_eq_true rfl⟩) [4] [0, 1, 2, 3, 5, 6, 7, 8, 9] 10 ⟨rfl, trivial⟩ ⟨rfl, trivial⟩ ⟨⟨_, rfl, rfl⟩, ⟨_, rfl, rfl⟩, ⟨_, rfl, rfl⟩, ⟨_, rfl, rfl⟩, ⟨_, rfl, rfl⟩, ⟨_, rfl, rfl⟩, ⟨_, rfl, rfl⟩, ⟨_, rfl, rfl⟩, ⟨_, rfl, rfl⟩, trivial⟩ rfl (by decide) (by decide) (ci := 4) (q0 := 4) rfl rfl rfl hl.1 rfl (lv_room (Nat.le_of_ble_eq_true rfl)) dX7_item_29 ⟨Nat.zero_le _, Nat.zero_le _⟩ (fun H locs w => ?_)
        refine lv_istore (lv' := [(7, .int r7), (6, .ref (a_this_sheets_e 1)), (0, .ref a_this), (1, .int x1), (2, .int x2), (3, .int x3), (4, .long x4)]) C.1 C.2.1 dX7_item_32 hl (by decide) rfl (fun ls hl => ?_)
        refine lv_iload C.1 C.2.1 dX7_item_34 (lv_at hl 0 rfl) ?_
        refine lv_if_eq (tgt := 42) C.1 C.2.1 dX7_item_36 (by decide) (fun hq9 => ?_) (fun hq9 => ?_)
        · have hf := ite_t hf hq9
          refine lv_aload C.1 C.2.1 dX7_item_42 (lv_at hl 1 rfl) ?_
          refine r_get C w inX7_item_X4 4 rfl rfl 2 (by decide) lkX7_item_212 rfl dX7_item_44 ?_
          refine lv_iload_n C.1 C.2.1 dX7_item_47 rfl (lv_at hl 5 rfl) ?_
          refine lv_iload_n C.1 C.2.1 dX7_item_48 rfl (lv_at hl 4 rfl) ?_
          refine lv_lload C.1 C.2.1 dX7_item_49 (lv_at hl 6 rfl) ?_
          obtain ⟨r10, hc11, hf⟩ := bd hf
          refine call_Sl (ws' := (wX7_item cI cL cS cH a_this a_this_now a_this_past a_this_kept a_this_keptPast a_this_plans a_this_plans_search_net a_this_tape a_this_sheets a_this_sheets_e a_this_sheets_items_e q_hasImage q_sheets_lane q_sheets_length q_sheets_items)) (rest := [.int x3, .ref (a_this_sheets_items_e 1)]) C w (mX4_lowestBits l D cI cL cS cH _ x2 x4 hc11) (va_cwS 2 C.2.2.2.2 gX7_item_X4_lowestBits rfl rfl rfl (by decide +kernel) ⟨Nat.le_of_ble_eq_true rfl, Nat.le_of_ble_eq_true rfl⟩) [] [0, 1, 2, 3, 4, 5, 6, 7, 8, 9] 10 trivial trivial ⟨⟨_, rfl, rfl⟩, ⟨_, rfl, rfl⟩, ⟨_, rfl, rfl⟩, ⟨_, rfl, rfl⟩, ⟨_, rfl, rfl⟩, ⟨_, rfl, rfl⟩, ⟨_, rfl, rfl⟩, ⟨_, rfl, rfl⟩, ⟨_, rfl, rfl⟩, ⟨_, rfl, rfl⟩, trivial⟩ rfl (by decide) (by decide) rfl hl.1 rfl (lv_room (Nat.le_of_ble_eq_true rfl)) dX7_item_51 ⟨Nat.zero_le _, Nat.zero_le _⟩ (fun H locs w => ?_)
          obtain ⟨g12, hg13, hf⟩ := bd hf
          refine r_last (ws' := (wX7_item cI cL cS cH a_this a_this_now a_this_past a_this_kept a_this_keptPast a_this_plans a_this_plans_search_net a_this_tape a_this_sheets a_this_sheets_e a_this_sheets_items_e q_hasImage q_sheets_lane q_sheets_length (va_up q_sheets_items 1 g12))) C w 5 1 rfl rfl (wl_in hg13) rfl dX7_item_54 (fun H locs w => ?_)
          refine lv_iconst (v := (1 : Int32)) C.1 C.2.1 dX7_item_55 (by decide) ?_
          have hres := Option.some.inj hf
          subst hres
          exact ret_i C hr hlocks w rfl dX7_item_56
        · have hf := ite_f hf hq9
          refine lv_iload C.1 C.2.1 dX7_item_39 (lv_at hl 0 rfl) ?_
          have hres := Option.some.inj hf
          subst hres
          exact ret_i C hr hlocks w rfl dX7_item_41
      · refine r_aald (v := (a_this_sheets_e 2)) C w 1 3 rfl rfl (by rw [hx21]; exact ⟨inb_in (by decide), rfl⟩) dX7_item_21 ?_
        refine lv_astore (lv' := [(6, .ref (a_this_sheets_e 2)), (0, .ref a_this), (1, .int x1), (2, .int x2), (3, .int x3), (4, .long x4)]) C.1 C.2.1 dX7_item_22 hl (by decide) rfl (fun ls hl => ?_)
        refine lv_aload C.1 C.2.1 dX7_item_24 (lv_at hl 0 rfl) ?_
        refine lv_iload_n C.1 C.2.1 dX7_item_26 rfl (lv_at hl 3 rfl) ?_
        refine lv_iload_n C.1 C.2.1 dX7_item_27 rfl (lv_at hl 4 rfl) ?_
        refine lv_iconst (v := (1 : Int32)) C.1 C.2.1 dX7_item_28 (by decide) ?_
        obtain ⟨r7, hc8, hf⟩ := bd hf
        refine call_Vi (ws' := (wX7_item cI cL cS cH a_this a_this_now a_this_past a_this_kept a_this_keptPast a_this_plans a_this_plans_search_net a_this_tape a_this_sheets a_this_sheets_e a_this_sheets_items_e q_hasImage q_sheets_lane q_sheets_length q_sheets_items)) (rest := []) C w (mX4_wrongAs l D cI cL cS cH _ (a_this_sheets_e 2) (a_this_sheets_items_e 2) (q_sheets_lane 2) (q_sheets_length 2) x2 x3 (1 : Int32) hc8) (cwV 3 C.2.2.2.2 gX7_item_X4_wrongAs rfl rfl rfl (by decide +kernel) ⟨Nat.le_of_ble_eq_true rfl, Nat.le_of_ble_eq_true rfl⟩) [6] [0, 1, 2, 3, 4, 5, 7, 8, 9] 10 ⟨rfl, trivial⟩ ⟨rfl, trivial⟩ ⟨⟨_, rfl, rfl⟩, ⟨_, rfl, rfl⟩, ⟨_, rfl, rfl⟩, ⟨_, rfl, rfl⟩, ⟨_, rfl, rfl⟩, ⟨_, rfl, rfl⟩, ⟨_, rfl, rfl⟩, ⟨_, rfl, rfl⟩, ⟨_, rfl, rfl⟩, trivial⟩ rfl (by decide) (by decide) (ci := 4) (q0 := 6) rfl rfl rfl hl.1 rfl (lv_room (Nat.le_of_ble_eq_true rfl)) dX7_item_29 ⟨Nat.zero_le _, Nat.zero_le _⟩ (fun H locs w => ?_)
        refine lv_istore (lv' := [(7, .int r7), (6, .ref (a_this_sheets_e 2)), (0, .ref a_this), (1, .int x1), (2, .int x2), (3, .int x3), (4, .long x4)]) C.1 C.2.1 dX7_item_32 hl (by decide) rfl (fun ls hl => ?_)
        refine lv_iload C.1 C.2.1 dX7_item_34 (lv_at hl 0 rfl) ?_
        refine lv_if_eq (tgt := 42) C.1 C.2.1 dX7_item_36 (by decide) (fun hq9 => ?_) (fun hq9 => ?_)
        · have hf := ite_t hf hq9
          refine lv_aload C.1 C.2.1 dX7_item_42 (lv_at hl 1 rfl) ?_
          refine r_get C w inX7_item_X4 6 rfl rfl 2 (by decide) lkX7_item_212 rfl dX7_item_44 ?_
          refine lv_iload_n C.1 C.2.1 dX7_item_47 rfl (lv_at hl 5 rfl) ?_
          refine lv_iload_n C.1 C.2.1 dX7_item_48 rfl (lv_at hl 4 rfl) ?_
          refine lv_lload C.1 C.2.1 dX7_item_49 (lv_at hl 6 rfl) ?_
          obtain ⟨r10, hc11, hf⟩ := bd hf
          refine call_Sl (ws' := (wX7_item cI cL cS cH a_this a_this_now a_this_past a_this_kept a_this_keptPast a_this_plans a_this_plans_search_net a_this_tape a_this_sheets a_this_sheets_e a_this_sheets_items_e q_hasImage q_sheets_lane q_sheets_length q_sheets_items)) (rest := [.int x3, .ref (a_this_sheets_items_e 2)]) C w (mX4_lowestBits l D cI cL cS cH _ x2 x4 hc11) (va_cwS 2 C.2.2.2.2 gX7_item_X4_lowestBits rfl rfl rfl (by decide +kernel) ⟨Nat.le_of_ble_eq_true rfl, Nat.le_of_ble_eq_true rfl⟩) [] [0, 1, 2, 3, 4, 5, 6, 7, 8, 9] 10 trivial trivial ⟨⟨_, rfl, rfl⟩, ⟨_, rfl, rfl⟩, ⟨_, rfl, rfl⟩, ⟨_, rfl, rfl⟩, ⟨_, rfl, rfl⟩, ⟨_, rfl, rfl⟩, ⟨_, rfl, rfl⟩, ⟨_, rfl, rfl⟩, ⟨_, rfl, rfl⟩, ⟨_, rfl, rfl⟩, trivial⟩ rfl (by decide) (by decide) rfl hl.1 rfl (lv_room (Nat.le_of_ble_eq_true rfl)) dX7_item_51 ⟨Nat.zero_le _, Nat.zero_le _⟩ (fun H locs w => ?_)
          obtain ⟨g12, hg13, hf⟩ := bd hf
          refine r_last (ws' := (wX7_item cI cL cS cH a_this a_this_now a_this_past a_this_kept a_this_keptPast a_this_plans a_this_plans_search_net a_this_tape a_this_sheets a_this_sheets_e a_this_sheets_items_e q_hasImage q_sheets_lane q_sheets_length (va_up q_sheets_items 2 g12))) C w 7 1 rfl rfl (wl_in hg13) rfl dX7_item_54 (fun H locs w => ?_)
          refine lv_iconst (v := (1 : Int32)) C.1 C.2.1 dX7_item_55 (by decide) ?_
          have hres := Option.some.inj hf
          subst hres
          exact ret_i C hr hlocks w rfl dX7_item_56
        · have hf := ite_f hf hq9
          refine lv_iload C.1 C.2.1 dX7_item_39 (lv_at hl 0 rfl) ?_
          have hres := Option.some.inj hf
          subst hres
          exact ret_i C hr hlocks w rfl dX7_item_41
      · refine r_aald (v := (a_this_sheets_e 3)) C w 1 3 rfl rfl (by rw [hx21]; exact ⟨inb_in (by decide), rfl⟩) dX7_item_21 ?_
        refine lv_astore (lv' := [(6, .ref (a_this_sheets_e 3)), (0, .ref a_this), (1, .int x1), (2, .int x2), (3, .int x3), (4, .long x4)]) C.1 C.2.1 dX7_item_22 hl (by decide) rfl (fun ls hl => ?_)
        refine lv_aload C.1 C.2.1 dX7_item_24 (lv_at hl 0 rfl) ?_
        refine lv_iload_n C.1 C.2.1 dX7_item_26 rfl (lv_at hl 3 rfl) ?_
        refine lv_iload_n C.1 C.2.1 dX7_item_27 rfl (lv_at hl 4 rfl) ?_
        refine lv_iconst (v := (1 : Int32)) C.1 C.2.1 dX7_item_28 (by decide) ?_
        obtain ⟨r7, hc8, hf⟩ := bd hf
        refine call_Vi (ws' := (wX7_item cI cL cS cH a_this a_this_now a_this_past a_this_kept a_this_keptPast a_this_plans a_this_plans_search_net a_this_tape a_this_sheets a_this_sheets_e a_this_sheets_items_e q_hasImage q_sheets_lane q_sheets_length q_sheets_items)) (rest := []) C w (mX4_wrongAs l D cI cL cS cH _ (a_this_sheets_e 3) (a_this_sheets_items_e 3) (q_sheets_lane 3) (q_sheets_length 3) x2 x3 (1 : Int32) hc8) (cwV 3 C.2.2.2.2 gX7_item_X4_wrongAs rfl rfl rfl (by decide +kernel) ⟨Nat.le_of_ble_eq_true rfl, Nat.le_of_ble_eq_true rfl⟩) [8] [0, 1, 2, 3, 4, 5, 6, 7, 9] 10 ⟨rfl, trivial⟩ ⟨rfl, trivial⟩ ⟨⟨_, rfl, rfl⟩, ⟨_, rfl, rfl⟩, ⟨_, rfl, rfl⟩, ⟨_, rfl, rfl⟩, ⟨_, rfl, rfl⟩, ⟨_, rfl, rfl⟩, ⟨_, rfl, rfl⟩, ⟨_, rfl, rfl⟩, ⟨_, rfl, rfl⟩, trivial⟩ rfl (by decide) (by decide) (ci := 4) (q0 := 8) rfl rfl rfl hl.1 rfl (lv_room (Nat.le_of_ble_eq_true rfl)) dX7_item_29 ⟨Nat.zero_le _, Nat.zero_le _⟩ (fun H locs w => ?_)
        refine lv_istore (lv' := [(7, .int r7), (6, .ref (a_this_sheets_e 3)), (0, .ref a_this), (1, .int x1), (2, .int x2), (3, .int x3), (4, .long x4)]) C.1 C.2.1 dX7_item_32 hl (by decide) rfl (fun ls hl => ?_)
        refine lv_iload C.1 C.2.1 dX7_item_34 (lv_at hl 0 rfl) ?_
        refine lv_if_eq (tgt := 42) C.1 C.2.1 dX7_item_36 (by decide) (fun hq9 => ?_) (fun hq9 => ?_)
        · have hf := ite_t hf hq9
          refine lv_aload C.1 C.2.1 dX7_item_42 (lv_at hl 1 rfl) ?_
          refine r_get C w inX7_item_X4 8 rfl rfl 2 (by decide) lkX7_item_212 rfl dX7_item_44 ?_
          refine lv_iload_n C.1 C.2.1 dX7_item_47 rfl (lv_at hl 5 rfl) ?_
          refine lv_iload_n C.1 C.2.1 dX7_item_48 rfl (lv_at hl 4 rfl) ?_
          refine lv_lload C.1 C.2.1 dX7_item_49 (lv_at hl 6 rfl) ?_
          obtain ⟨r10, hc11, hf⟩ := bd hf
          refine call_Sl (ws' := (wX7_item cI cL cS cH a_this a_this_now a_this_past a_this_kept a_this_keptPast a_this_plans a_this_plans_search_net a_this_tape a_this_sheets a_this_sheets_e a_this_sheets_items_e q_hasImage q_sheets_lane q_sheets_length q_sheets_items)) (rest := [.int x3, .ref (a_this_sheets_items_e 3)]) C w (mX4_lowestBits l D cI cL cS cH _ x2 x4 hc11) (va_cwS 2 C.2.2.2.2 gX7_item_X4_lowestBits rfl rfl rfl (by decide +kernel) ⟨Nat.le_of_ble_eq_true rfl, Nat.le_of_ble_eq_true rfl⟩) [] [0, 1, 2, 3, 4, 5, 6, 7, 8, 9] 10 trivial trivial ⟨⟨_, rfl, rfl⟩, ⟨_, rfl, rfl⟩, ⟨_, rfl, rfl⟩, ⟨_, rfl, rfl⟩, ⟨_, rfl, rfl⟩, ⟨_, rfl, rfl⟩, ⟨_, rfl, rfl⟩, ⟨_, rfl, rfl⟩, ⟨_, rfl, rfl⟩, ⟨_, rfl, rfl⟩, trivial⟩ rfl (by decide) (by decide) rfl hl.1 rfl (lv_room (Nat.le_of_ble_eq_true rfl)) dX7_item_51 ⟨Nat.zero_le _, Nat.zero_le _⟩ (fun H locs w => ?_)
          obtain ⟨g12, hg13, hf⟩ := bd hf
          refine r_last (ws' := (wX7_item cI cL cS cH a_this a_this_now a_this_past a_this_kept a_this_keptPast a_this_plans a_this_plans_search_net a_this_tape a_this_sheets a_this_sheets_e a_this_sheets_items_e q_hasImage q_sheets_lane q_sheets_length (va_up q_sheets_items 3 g12))) C w 9 1 rfl rfl (wl_in hg13) rfl dX7_item_54 (fun H locs w => ?_)
          refine lv_iconst (v := (1 : Int32)) C.1 C.2.1 dX7_item_55 (by decide) ?_
          have hres := Option.some.inj hf
          subst hres
          exact ret_i C hr hlocks w rfl dX7_item_56
        · have hf := ite_f hf hq9
          refine lv_iload C.1 C.2.1 dX7_item_39 (lv_at hl 0 rfl) ?_
          have hres := Option.some.inj hf
          subst hres
          exact ret_i C hr hlocks w rfl dX7_item_41
    · have hf := ite_t hf hq6
      refine lv_iconst (v := (-1 : Int32)) C.1 C.2.1 dX7_item_14 (by decide) ?_
      have hres := Option.some.inj hf
      subst hres
      exact ret_i C hr hlocks w rfl dX7_item_15

set_option maxRecDepth 100000 in
theorem inX7_copy_X7 : ∀ w ∈ u_ws RX7 TX7 9, w ∈ wsX7_copy := by decide +kernel
set_option maxRecDepth 100000 in
theorem lkX7_copy_54 : Cond.fieldLink RX7 54 "CleanNets" "sheets" "[LCleanNets$Sheet;" ∈ wsX7_copy := by decide +kernel
set_option maxRecDepth 100000 in
theorem inX7_copy_X4 : ∀ w ∈ u_ws RX4 TX4 3, w ∈ wsX7_copy := by decide +kernel
set_option maxRecDepth 100000 in
theorem lkX7_copy_231 : Cond.fieldLink RX7 231 "CleanNets$Sheet" "lane" "I" ∈ wsX7_copy := by decide +kernel
set_option maxRecDepth 100000 in
theorem lkX7_copy_212 : Cond.fieldLink RX7 212 "CleanNets$Sheet" "items" "[J" ∈ wsX7_copy := by decide +kernel
abbrev wX7_copy (cI cL cS cH : ClassId) (a_this : Nat) (a_this_now : Nat) (a_this_past : Nat) (a_this_kept : Nat) (a_this_keptPast : Nat) (a_this_plans : Nat) (a_this_plans_search_net : Nat) (a_this_tape : Nat) (a_this_sheets : Nat) (a_this_sheets_e : Nat → Nat) (a_this_sheets_items_e : Nat → Nat) (q_hasImage : Int32) (q_sheets_lane : Nat → Int32) (q_sheets_length : Nat → Int32) (q_sheets_items : Nat → Nat → Int64) : va_W := [(a_this, .inr (7, [.ref a_this_now, .ref a_this_past, .ref a_this_kept, .ref a_this_keptPast, .int q_hasImage, .ref a_this_plans, .ref a_this_plans_search_net, .ref a_this_tape, .ref a_this_sheets])),
  (a_this_sheets, .inl (cH, 4, .inr (.inr (.inr (.inr (fun k => some (a_this_sheets_e k))))))),
  ((a_this_sheets_e 0), .inr (4, [.int (q_sheets_lane 0), .int (q_sheets_length 0), .ref (a_this_sheets_items_e 0)])),
  ((a_this_sheets_items_e 0), .inl (cL, 24, .inr (.inl (q_sheets_items 0)))),
  ((a_this_sheets_e 1), .inr (4, [.int (q_sheets_lane 1), .int (q_sheets_length 1), .ref (a_this_sheets_items_e 1)])),
  ((a_this_sheets_items_e 1), .inl (cL, 24, .inr (.inl (q_sheets_items 1)))),
  ((a_this_sheets_e 2), .inr (4, [.int (q_sheets_lane 2), .int (q_sheets_length 2), .ref (a_this_sheets_items_e 2)])),
  ((a_this_sheets_items_e 2), .inl (cL, 24, .inr (.inl (q_sheets_items 2)))),
  ((a_this_sheets_e 3), .inr (4, [.int (q_sheets_lane 3), .int (q_sheets_length 3), .ref (a_this_sheets_items_e 3)])),
  ((a_this_sheets_items_e 3), .inl (cL, 24, .inr (.inl (q_sheets_items 3))))]
def fX7_copy (q_sheets_lane : Nat → Int32) (q_sheets_length : Nat → Int32) (q_sheets_items : Nat → Nat → Int64) (x1 : Int32) (x2 : Int32) (x3 : Int32) (x4 : Int32) (x5 : Int32) : Option (Int32 × (Nat → Nat → Int64)) := Option.bind (fX7_isSheet x1) (fun r1 => (if r1 = 0 then some ((-1 : Int32), q_sheets_items) else Option.bind (fX7_isSheet x3) (fun r4 => (if r4 = 0 then some ((-1 : Int32), q_sheets_items) else sel4 x1 (fun k21 => sel4 x3 (fun k29 => Option.bind (fX4_isMissing (q_sheets_lane k21)) (fun r7 => (if r7 = 0 then Option.bind (fX4_isMissing (q_sheets_lane k29)) (fun r10 => (if r10 = 0 then (if (q_sheets_lane k21) = (q_sheets_lane k29) then Option.bind (fX4_holds (q_sheets_length k21) x2 x5) (fun r14 => (if r14 = 0 then some ((-13 : Int32), q_sheets_items) else Option.bind (fX4_holds (q_sheets_length k29) x4 x5) (fun r17 => (if r17 = 0 then some ((-13 : Int32), q_sheets_items) else Option.bind (cpy (q_sheets_items k21) (q_sheets_items k29) 24 24 x2 x4 x5) (fun g20 => some (x5, (va_up q_sheets_items k29 g20))))))) else some ((-12 : Int32), q_sheets_items)) else some ((-11 : Int32), q_sheets_items))) else some ((-11 : Int32), q_sheets_items)))))))))
set_option maxHeartbeats 4000000 in
set_option maxRecDepth 100000 in
theorem mX7_copy (l : Launch) (D : vg) (cI cL cS cH : ClassId) (sz : Nat) (a_this : Nat) (a_this_now : Nat) (a_this_past : Nat) (a_this_kept : Nat) (a_this_keptPast : Nat) (a_this_plans : Nat) (a_this_plans_search_net : Nat) (a_this_tape : Nat) (a_this_sheets : Nat) (a_this_sheets_e : Nat → Nat) (a_this_sheets_items_e : Nat → Nat) (q_hasImage : Int32) (q_sheets_lane : Nat → Int32) (q_sheets_length : Nat → Int32) (q_sheets_items : Nat → Nat → Int64) (x1 : Int32) (x2 : Int32) (x3 : Int32) (x4 : Int32) (x5 : Int32) {res : Int32 × (Nat → Nat → Int64)} (hf : fX7_copy q_sheets_lane q_sheets_length q_sheets_items x1 x2 x3 x4 x5 = some res) : cti l yX7_copy wsX7_copy ({ frames := 1, cells := 0, slots := 0, locals := 40 }) D (ty4 cI cL cS cH) sz [.ref a_this, .int x1, .int x2, .int x3, .int x4, .int x5] (wX7_copy cI cL cS cH a_this a_this_now a_this_past a_this_kept a_this_keptPast a_this_plans a_this_plans_search_net a_this_tape a_this_sheets a_this_sheets_e a_this_sheets_items_e q_hasImage q_sheets_lane q_sheets_length q_sheets_items) (wX7_copy cI cL cS cH a_this a_this_now a_this_past a_this_kept a_this_keptPast a_this_plans a_this_plans_search_net a_this_tape a_this_sheets a_this_sheets_e a_this_sheets_items_e q_hasImage q_sheets_lane q_sheets_length res.2) res.1 := by
  refine Met.ofW (cc := cX7_copy) (maxL := 8) (ret := (some .int)) (by decide) rfl ?_
  intro p e s m args below meth c s₁ B hml hv
  obtain ⟨rfl, hpre⟩ := hv
  obtain rfl := hpre.1
  have C : CallFix p m c cX7_copy 8 s _ wsX7_copy RX7 := ⟨B.exec, B.bytes, hml, findClass_of_methodNamed B.named, atoms_spec (ws := wsX7_copy) B.pre⟩
  have hr := B.returns
  have hlocks := B.notSynchronized
  have w := wd_start hpre
  clear hpre B
  have hl := lv_entry ([.ref a_this, .int x1, .int x2, .int x3, .int x4, .int x5]) (n := 8) (Nat.le_of_ble_eq_true rfl)
  rw [lg_entry_eq]
  generalize (lg_sl ([.ref a_this, .int x1, .int x2, .int x3, .int x4, .int x5]) ++ List.replicate (8 - (lg_sl ([.ref a_this, .int x1, .int x2, .int x3, .int x4, .int x5])).length) Slot.unset).toArray = ls at hl ⊢
  have hl : lv_has ls 8 [(0, .ref a_this), (1, .int x1), (2, .int x2), (3, .int x3), (4, .int x4), (5, .int x5)] := hl
  unfold fX7_copy at hf
  refine lv_iload_n C.1 C.2.1 dX7_copy_0 rfl (lv_at hl 1 rfl) ?_
  obtain ⟨r1, hc2, hf⟩ := bd hf
  refine call_Si (ws' := (wX7_copy cI cL cS cH a_this a_this_now a_this_past a_this_kept a_this_keptPast a_this_plans a_this_plans_search_net a_this_tape a_this_sheets a_this_sheets_e a_this_sheets_items_e q_hasImage q_sheets_lane q_sheets_length q_sheets_items)) (rest := []) C w (mX7_isSheet l D cI cL cS cH _ x1 hc2) (va_cwS 1 C.2.2.2.2 gX7_copy_X7_isSheet rfl rfl rfl (by decide +kernel) ⟨Nat.le_of_ble_eq_true rfl, Nat.le_of_ble_eq_true rfl⟩) [] [0, 1, 2, 3, 4, 5, 6, 7, 8, 9] 10 trivial trivial ⟨⟨_, rfl, rfl⟩, ⟨_, rfl, rfl⟩, ⟨_, rfl, rfl⟩, ⟨_, rfl, rfl⟩, ⟨_, rfl, rfl⟩, ⟨_, rfl, rfl⟩, ⟨_, rfl, rfl⟩, ⟨_, rfl, rfl⟩, ⟨_, rfl, rfl⟩, ⟨_, rfl, rfl⟩, trivial⟩ rfl (by decide) (by decide) rfl hl.1 rfl (lv_room (Nat.le_of_ble_eq_true rfl)) dX7_copy_1 ⟨Nat.zero_le _, Nat.zero_le _⟩ (fun H locs w => ?_)
  refine lv_if_eq (tgt := 14) C.1 C.2.1 dX7_copy_4 (by decide) (fun hq3 => ?_) (fun hq3 => ?_)
  · have hf := ite_t hf hq3
    refine lv_iconst (v := (-1 : Int32)) C.1 C.2.1 dX7_copy_14 (by decide) ?_
    have hres := Option.some.inj hf
    subst hres
    exact ret_i C hr hlocks w rfl dX7_copy_15
  · have hf := ite_f hf hq3
    refine lv_iload_n C.1 C.2.1 dX7_copy_7 rfl (lv_at hl 3 rfl) ?_
    obtain ⟨r4, hc5, hf⟩ := bd hf
    refine call_Si (ws' := (wX7_copy cI cL cS cH a_this a_this_now a_this_past a_this_kept a_this_keptPast a_this_plans a_this_plans_search_net a_this_tape a_this_sheets a_this_sheets_e a_this_sheets_items_e q_hasImage q_sheets_lane q_sheets_length q_sheets_items)) (rest := []) C w (mX7_isSheet l D cI cL cS cH _ x3 hc5) (va_cwS 1 C.2.2.2.2 gX7_copy_X7_isSheet rfl rfl rfl (by decide +kernel) ⟨Nat.le_of_ble_eq_true rfl, Nat.le_of_ble_eq_true rfl⟩) [] [0, 1, 2, 3, 4, 5, 6, 7, 8, 9] 10 trivial trivial ⟨⟨_, rfl, rfl⟩, ⟨_, rfl, rfl⟩, ⟨_, rfl, rfl⟩, ⟨_, rfl, rfl⟩, ⟨_, rfl, rfl⟩, ⟨_, rfl, rfl⟩, ⟨_, rfl, rfl⟩, ⟨_, rfl, rfl⟩, ⟨_, rfl, rfl⟩, ⟨_, rfl, rfl⟩, trivial⟩ rfl (by decide) (by decide) rfl hl.1 rfl (lv_room (Nat.le_of_ble_eq_true rfl)) dX7_copy_8 ⟨Nat.zero_le _, Nat.zero_le _⟩ (fun H locs w => ?_)
    refine lv_if_ne (tgt := 16) C.1 C.2.1 dX7_copy_11 (by decide) (fun hq6 => ?_) (fun hq6 => ?_)
    · have hf := ite_f hf hq6
      refine lv_aload_n C.1 C.2.1 dX7_copy_16 rfl (lv_at hl 0 rfl) ?_
      refine r_get C w inX7_copy_X7 0 rfl rfl 8 (by decide) lkX7_copy_54 rfl dX7_copy_17 ?_
      refine lv_iload_n C.1 C.2.1 dX7_copy_20 rfl (lv_at hl 1 rfl) ?_
      rcases sel4_in hf with ⟨hx21, hf⟩ | ⟨hx21, hf⟩ | ⟨hx21, hf⟩ | ⟨hx21, hf⟩
      · refine r_aald (v := (a_this_sheets_e 0)) C w 1 3 rfl rfl (by rw [hx21]; exact ⟨inb_in (by decide), rfl⟩) dX7_copy_21 ?_
        refine lv_astore (lv' := [(6, .ref (a_this_sheets_e 0)), (0, .ref a_this), (1, .int x1), (2, .int x2), (3, .int x3), (4, .int x4), (5, .int x5)]) C.1 C.2.1 dX7_copy_22 hl (by decide) rfl (fun ls hl => ?_)
        refine lv_aload_n C.1 C.2.1 dX7_copy_24 rfl (lv_at hl 1 rfl) ?_
        refine r_get C w inX7_copy_X7 0 rfl rfl 8 (by decide) lkX7_copy_54 rfl dX7_copy_25 ?_
        refine lv_iload_n C.1 C.2.1 dX7_copy_28 rfl (lv_at hl 4 rfl) ?_
        rcases sel4_in hf with ⟨hx29, hf⟩ | ⟨hx29, hf⟩ | ⟨hx29, hf⟩ | ⟨hx29, hf⟩
        · refine r_aald (v := (a_this_sheets_e 0)) C w 1 3 rfl rfl (by rw [hx29]; exact ⟨inb_in (by decide), rfl⟩) dX7_copy_29 ?_
          refine lv_astore (lv' := [(7, .ref (a_this_sheets_e 0)), (6, .ref (a_this_sheets_e 0)), (0, .ref a_this), (1, .int x1), (2, .int x2), (3, .int x3), (4, .int x4), (5, .int x5)]) C.1 C.2.1 dX7_copy_30 hl (by decide) rfl (fun ls hl => ?_)
          refine lv_aload C.1 C.2.1 dX7_copy_32 (lv_at hl 1 rfl) ?_
          obtain ⟨r7, hc8, hf⟩ := bd hf
          refine call_Vi (ws' := (wX7_copy cI cL cS cH a_this a_this_now a_this_past a_this_kept a_this_keptPast a_this_plans a_this_plans_search_net a_this_tape a_this_sheets a_this_sheets_e a_this_sheets_items_e q_hasImage q_sheets_lane q_sheets_length q_sheets_items)) (rest := []) C w (mX4_isMissing l D cI cL cS cH _ (a_this_sheets_e 0) (a_this_sheets_items_e 0) (q_sheets_lane 0) (q_sheets_length 0) hc8) (cwV 0 C.2.2.2.2 gX7_copy_X4_isMissing rfl rfl rfl (by decide +kernel) ⟨Nat.le_of_ble_eq_true rfl, Nat.le_of_ble_eq_true rfl⟩) [2] [0, 1, 3, 4, 5, 6, 7, 8, 9] 10 ⟨rfl, trivial⟩ ⟨rfl, trivial⟩ ⟨⟨_, rfl, rfl⟩, ⟨_, rfl, rfl⟩, ⟨_, rfl, rfl⟩, ⟨_, rfl, rfl⟩, ⟨_, rfl, rfl⟩, ⟨_, rfl, rfl⟩, ⟨_, rfl, rfl⟩, ⟨_, rfl, rfl⟩, ⟨_, rfl, rfl⟩, trivial⟩ rfl (by decide) (by decide) (ci := 4) (q0 := 2) rfl rfl rfl hl.1 rfl (lv_room (Nat.le_of_ble_eq_true rfl)) dX7_copy_34 ⟨Nat.zero_le _, Nat.zero_le _⟩ (fun H locs w => ?_)
          refine lv_if_ne (tgt := 48) C.1 C.2.1 dX7_copy_37 (by decide) (fun hq9 => ?_) (fun hq9 => ?_)
          · have hf := ite_f hf hq9
            refine lv_bipush (v := (-11 : Int32)) C.1 C.2.1 dX7_copy_48 (by decide) ?_
            have hres := Option.some.inj hf
            subst hres
            exact ret_i C hr hlocks w rfl dX7_copy_50
          · have hf := ite_t hf hq9
            refine lv_aload C.1 C.2.1 dX7_copy_40 (lv_at hl 0 rfl) ?_
            obtain ⟨r10, hc11, hf⟩ := bd hf
            refine call_Vi (ws' := (wX7_copy cI cL cS cH a_this a_this_now a_this_past a_this_kept a_this_keptPast a_this_plans a_this_plans_search_net a_this_tape a_this_sheets a_this_sheets_e a_this_sheets_items_e q_hasImage q_sheets_lane q_sheets_length q_sheets_items)) (rest := []) C w (mX4_isMissing l D cI cL cS cH _ (a_this_sheets_e 0) (a_this_sheets_items_e 0) (q_sheets_lane 0) (q_sheets_length 0) hc11) (cwV 0 C.2.2.2.2 gX7_copy_X4_isMissing rfl rfl rfl (by decide +kernel) ⟨Nat.le_of_ble_eq_true rfl, Nat.le_of_ble_eq_true rfl⟩) [2] [0, 1, 3, 4, 5, 6, 7, 8, 9] 10 ⟨rfl, trivial⟩ ⟨rfl, trivial⟩ ⟨⟨_, rfl, rfl⟩, ⟨_, rfl, rfl⟩, ⟨_, rfl, rfl⟩, ⟨_, rfl, rfl⟩, ⟨_, rfl, rfl⟩, ⟨_, rfl, rfl⟩, ⟨_, rfl, rfl⟩, ⟨_, rfl, rfl⟩, ⟨_, rfl, rfl⟩, trivial⟩ rfl (by decide) (by decide) (ci := 4) (q0 := 2) rfl rfl rfl hl.1 rfl (lv_room (Nat.le_of_ble_eq_true rfl)) dX7_copy_42 ⟨Nat.zero_le _, Nat.zero_le _⟩ (fun H locs w => ?_)
            refine lv_if_eq (tgt := 51) C.1 C.2.1 dX7_copy_45 (by decide) (fun hq12 => ?_) (fun hq12 => ?_)
            · have hf := ite_t hf hq12
              refine lv_aload C.1 C.2.1 dX7_copy_51 (lv_at hl 1 rfl) ?_
              refine r_get C w inX7_copy_X4 2 rfl rfl 0 (by decide) lkX7_copy_231 rfl dX7_copy_53 ?_
              refine lv_aload C.1 C.2.1 dX7_copy_56 (lv_at hl 0 rfl) ?_
              refine r_get C w inX7_copy_X4 2 rfl rfl 0 (by decide) lkX7_copy_231 rfl dX7_copy_58 ?_
              refine lv_icmp_eq (tgt := 67) C.1 C.2.1 dX7_copy_61 (by decide) (fun hq13 => ?_) (fun hq13 => ?_)
              · have hf := ite_t hf hq13
                refine lv_aload C.1 C.2.1 dX7_copy_67 (lv_at hl 1 rfl) ?_
                refine lv_iload_n C.1 C.2.1 dX7_copy_69 rfl (lv_at hl 4 rfl) ?_
                refine lv_iload C.1 C.2.1 dX7_copy_70 (lv_at hl 7 rfl) ?_
                obtain ⟨r14, hc15, hf⟩ := bd hf
                refine call_Vi (ws' := (wX7_copy cI cL cS cH a_this a_this_now a_this_past a_this_kept a_this_keptPast a_this_plans a_this_plans_search_net a_this_tape a_this_sheets a_this_sheets_e a_this_sheets_items_e q_hasImage q_sheets_lane q_sheets_length q_sheets_items)) (rest := []) C w (mX4_holds l D cI cL cS cH _ (a_this_sheets_e 0) (a_this_sheets_items_e 0) (q_sheets_lane 0) (q_sheets_length 0) x2 x5 hc15) (cwV 2 C.2.2.2.2 gX7_copy_X4_holds rfl rfl rfl (by decide +kernel) ⟨Nat.le_of_ble_eq_true rfl, Nat.le_of_ble_eq_true rfl⟩) [2] [0, 1, 3, 4, 5, 6, 7, 8, 9] 10 ⟨rfl, trivial⟩ ⟨rfl, trivial⟩ ⟨⟨_, rfl, rfl⟩, ⟨_, rfl, rfl⟩, ⟨_, rfl, rfl⟩, ⟨_, rfl, rfl⟩, ⟨_, rfl, rfl⟩, ⟨_, rfl, rfl⟩, ⟨_, rfl, rfl⟩, ⟨_, rfl, rfl⟩, ⟨_, rfl, rfl⟩, trivial⟩ rfl (by decide) (by decide) (ci := 4) (q0 := 2) rfl rfl rfl hl.1 rfl (lv_room (Nat.le_of_ble_eq_true rfl)) dX7_copy_72 ⟨Nat.zero_le _, Nat.zero_le _⟩ (fun H locs w => ?_)
                refine lv_if_eq (tgt := 90) C.1 C.2.1 dX7_copy_75 (by decide) (fun hq16 => ?_) (fun hq16 => ?_)
                · have hf := ite_t hf hq16
                  refine lv_bipush (v := (-13 : Int32)) C.1 C.2.1 dX7_copy_90 (by decide) ?_
                  have hres := Option.some.inj hf
                  subst hres
                  exact ret_i C hr hlocks w rfl dX7_copy_92
                · have hf := ite_f hf hq16
                  refine lv_aload C.1 C.2.1 dX7_copy_78 (lv_at hl 0 rfl) ?_
                  refine lv_iload C.1 C.2.1 dX7_copy_80 (lv_at hl 6 rfl) ?_
                  refine lv_iload C.1 C.2.1 dX7_copy_82 (lv_at hl 7 rfl) ?_
                  obtain ⟨r17, hc18, hf⟩ := bd hf
                  refine call_Vi (ws' := (wX7_copy cI cL cS cH a_this a_this_now a_this_past a_this_kept a_this_keptPast a_this_plans a_this_plans_search_net a_this_tape a_this_sheets a_this_sheets_e a_this_sheets_items_e q_hasImage q_sheets_lane q_sheets_length q_sheets_items)) (rest := []) C w (mX4_holds l D cI cL cS cH _ (a_this_sheets_e 0) (a_this_sheets_items_e 0) (q_sheets_lane 0) (q_sheets_length 0) x4 x5 hc18) (cwV 2 C.2.2.2.2 gX7_copy_X4_holds rfl rfl rfl (by decide +kernel) ⟨Nat.le_of_ble_eq_true rfl, Nat.le_of_ble_eq_true rfl⟩) [2] [0, 1, 3, 4, 5, 6, 7, 8, 9] 10 ⟨rfl, trivial⟩ ⟨rfl, trivial⟩ ⟨⟨_, rfl, rfl⟩, ⟨_, rfl, rfl⟩, ⟨_, rfl, rfl⟩, ⟨_, rfl, rfl⟩, ⟨_, rfl, rfl⟩, ⟨_, rfl, rfl⟩, ⟨_, rfl, rfl⟩, ⟨_, rfl, rfl⟩, ⟨_, rfl, rfl⟩, trivial⟩ rfl (by decide) (by decide) (ci := 4) (q0 := 2) rfl rfl rfl hl.1 rfl (lv_room (Nat.le_of_ble_eq_true rfl)) dX7_copy_84 ⟨Nat.zero_le _, Nat.zero_le _⟩ (fun H locs w => ?_)
                  refine lv_if_ne (tgt := 93) C.1 C.2.1 dX7_copy_87 (by decide) (fun hq19 => ?_) (fun hq19 => ?_)
                  · have hf := ite_f hf hq19
                    refine lv_aload C.1 C.2.1 dX7_copy_93 (lv_at hl 1 rfl) ?_
                    refine r_get C w inX7_copy_X4 2 rfl rfl 2 (by decide) lkX7_copy_212 rfl dX7_copy_95 ?_
                    refine lv_iload_n C.1 C.2.1 dX7_copy_98 rfl (lv_at hl 4 rfl) ?_
                    refine lv_aload C.1 C.2.1 dX7_copy_99 (lv_at hl 0 rfl) ?_
                    refine r_get C w inX7_copy_X4 2 rfl rfl 2 (by decide) lkX7_copy_212 rfl dX7_copy_101 ?_
                    refine lv_iload C.1 C.2.1 dX7_copy_104 (lv_at hl 6 rfl) ?_
                    refine lv_iload C.1 C.2.1 dX7_copy_106 (lv_at hl 7 rfl) ?_
                    obtain ⟨g20, hg21, hf⟩ := bd hf
                    refine r_copyl (ws' := (wX7_copy cI cL cS cH a_this a_this_now a_this_past a_this_kept a_this_keptPast a_this_plans a_this_plans_search_net a_this_tape a_this_sheets a_this_sheets_e a_this_sheets_items_e q_hasImage q_sheets_lane q_sheets_length (va_up q_sheets_items 0 g20))) C w hl.1 (by decide +kernel) (by decide +kernel) (by decide +kernel) (by decide +kernel) 3 3 1 rfl rfl rfl (cpy_in hg21) rfl (Nat.le_of_ble_eq_true rfl) (Nat.le_of_ble_eq_true rfl) dX7_copy_108 (fun H locs w => ?_)
                    refine lv_iload C.1 C.2.1 dX7_copy_111 (lv_at hl 7 rfl) ?_
                    have hres := Option.some.inj hf
                    subst hres
                    exact ret_i C hr hlocks w rfl dX7_copy_113
                  · have hf := ite_t hf hq19
                    refine lv_bipush (v := (-13 : Int32)) C.1 C.2.1 dX7_copy_90 (by decide) ?_
                    have hres := Option.some.inj hf
                    subst hres
                    exact ret_i C hr hlocks w rfl dX7_copy_92
              · have hf := ite_f hf hq13
                refine lv_bipush (v := (-12 : Int32)) C.1 C.2.1 dX7_copy_64 (by decide) ?_
                have hres := Option.some.inj hf
                subst hres
                exact ret_i C hr hlocks w rfl dX7_copy_66
            · have hf := ite_f hf hq12
              refine lv_bipush (v := (-11 : Int32)) C.1 C.2.1 dX7_copy_48 (by decide) ?_
              have hres := Option.some.inj hf
              subst hres
              exact ret_i C hr hlocks w rfl dX7_copy_50
        · refine r_aald (v := (a_this_sheets_e 1)) C w 1 3 rfl rfl (by rw [hx29]; exact ⟨inb_in (by decide), rfl⟩) dX7_copy_29 ?_
          refine lv_astore (lv' := [(7, .ref (a_this_sheets_e 1)), (6, .ref (a_this_sheets_e 0)), (0, .ref a_this), (1, .int x1), (2, .int x2), (3, .int x3), (4, .int x4), (5, .int x5)]) C.1 C.2.1 dX7_copy_30 hl (by decide) rfl (fun ls hl => ?_)
          refine lv_aload C.1 C.2.1 dX7_copy_32 (lv_at hl 1 rfl) ?_
          obtain ⟨r7, hc8, hf⟩ := bd hf
          refine call_Vi (ws' := (wX7_copy cI cL cS cH a_this a_this_now a_this_past a_this_kept a_this_keptPast a_this_plans a_this_plans_search_net a_this_tape a_this_sheets a_this_sheets_e a_this_sheets_items_e q_hasImage q_sheets_lane q_sheets_length q_sheets_items)) (rest := []) C w (mX4_isMissing l D cI cL cS cH _ (a_this_sheets_e 0) (a_this_sheets_items_e 0) (q_sheets_lane 0) (q_sheets_length 0) hc8) (cwV 0 C.2.2.2.2 gX7_copy_X4_isMissing rfl rfl rfl (by decide +kernel) ⟨Nat.le_of_ble_eq_true rfl, Nat.le_of_ble_eq_true rfl⟩) [2] [0, 1, 3, 4, 5, 6, 7, 8, 9] 10 ⟨rfl, trivial⟩ ⟨rfl, trivial⟩ ⟨⟨_, rfl, rfl⟩, ⟨_, rfl, rfl⟩, ⟨_, rfl, rfl⟩, ⟨_, rfl, rfl⟩, ⟨_, rfl, rfl⟩, ⟨_, rfl, rfl⟩, ⟨_, rfl, rfl⟩, ⟨_, rfl, rfl⟩, ⟨_, rfl, rfl⟩, trivial⟩ rfl (by decide) (by decide) (ci := 4) (q0 := 2) rfl rfl rfl hl.1 rfl (lv_room (Nat.le_of_ble_eq_true rfl)) dX7_copy_34 ⟨Nat.zero_le _, Nat.zero_le _⟩ (fun H locs w => ?_)
          refine lv_if_ne (tgt := 48) C.1 C.2.1 dX7_copy_37 (by decide) (fun hq9 => ?_) (fun hq9 => ?_)
          · have hf := ite_f hf hq9
            refine lv_bipush (v := (-11 : Int32)) C.1 C.2.1 dX7_copy_48 (by decide) ?_
            have hres := Option.some.inj hf
            subst hres
            exact ret_i C hr hlocks w rfl dX7_copy_50
          · have hf := ite_t hf hq9
            refine lv_aload C.1 C.2.1 dX7_copy_40 (lv_at hl 0 rfl) ?_
            obtain ⟨r10, hc11, hf⟩ := bd hf
            refine call_Vi (ws' := (wX7_copy cI cL cS cH a_this a_this_now a_this_past a_this_kept a_this_keptPast a_this_plans a_this_plans_search_net a_this_tape a_this_sheets a_this_sheets_e a_this_sheets_items_e q_hasImage q_sheets_lane q_sheets_length q_sheets_items)) (rest := []) C w (mX4_isMissing l D cI cL cS cH _ (a_this_sheets_e 1) (a_this_sheets_items_e 1) (q_sheets_lane 1) (q_sheets_length 1) hc11) (cwV 0 C.2.2.2.2 gX7_copy_X4_isMissing rfl rfl rfl (by decide +kernel) ⟨Nat.le_of_ble_eq_true rfl, Nat.le_of_ble_eq_true rfl⟩) [4] [0, 1, 2, 3, 5, 6, 7, 8, 9] 10 ⟨rfl, trivial⟩ ⟨rfl, trivial⟩ ⟨⟨_, rfl, rfl⟩, ⟨_, rfl, rfl⟩, ⟨_, rfl, rfl⟩, ⟨_, rfl, rfl⟩, ⟨_, rfl, rfl⟩, ⟨_, rfl, rfl⟩, ⟨_, rfl, rfl⟩, ⟨_, rfl, rfl⟩, ⟨_, rfl, rfl⟩, trivial⟩ rfl (by decide) (by decide) (ci := 4) (q0 := 4) rfl rfl rfl hl.1 rfl (lv_room (Nat.le_of_ble_eq_true rfl)) dX7_copy_42 ⟨Nat.zero_le _, Nat.zero_le _⟩ (fun H locs w => ?_)
            refine lv_if_eq (tgt := 51) C.1 C.2.1 dX7_copy_45 (by decide) (fun hq12 => ?_) (fun hq12 => ?_)
            · have hf := ite_t hf hq12
              refine lv_aload C.1 C.2.1 dX7_copy_51 (lv_at hl 1 rfl) ?_
              refine r_get C w inX7_copy_X4 2 rfl rfl 0 (by decide) lkX7_copy_231 rfl dX7_copy_53 ?_
              refine lv_aload C.1 C.2.1 dX7_copy_56 (lv_at hl 0 rfl) ?_
              refine r_get C w inX7_copy_X4 4 rfl rfl 0 (by decide) lkX7_copy_231 rfl dX7_copy_58 ?_
              refine lv_icmp_eq (tgt := 67) C.1 C.2.1 dX7_copy_61 (by decide) (fun hq13 => ?_) (fun hq13 => ?_)
              · have hf := ite_t hf hq13
                refine lv_aload C.1 C.2.1 dX7_copy_67 (lv_at hl 1 rfl) ?_
                refine lv_iload_n C.1 C.2.1 dX7_copy_69 rfl (lv_at hl 4 rfl) ?_
                refine lv_iload C.1 C.2.1 dX7_copy_70 (lv_at hl 7 rfl) ?_
                obtain ⟨r14, hc15, hf⟩ := bd hf
                refine call_Vi (ws' := (wX7_copy cI cL cS cH a_this a_this_now a_this_past a_this_kept a_this_keptPast a_this_plans a_this_plans_search_net a_this_tape a_this_sheets a_this_sheets_e a_this_sheets_items_e q_hasImage q_sheets_lane q_sheets_length q_sheets_items)) (rest := []) C w (mX4_holds l D cI cL cS cH _ (a_this_sheets_e 0) (a_this_sheets_items_e 0) (q_sheets_lane 0) (q_sheets_length 0) x2 x5 hc15) (cwV 2 C.2.2.2.2 gX7_copy_X4_holds rfl rfl rfl (by decide +kernel) ⟨Nat.le_of_ble_eq_true rfl, Nat.le_of_ble_eq_true rfl⟩) [2] [0, 1, 3, 4, 5, 6, 7, 8, 9] 10 ⟨rfl, trivial⟩ ⟨rfl, trivial⟩ ⟨⟨_, rfl, rfl⟩, ⟨_, rfl, rfl⟩, ⟨_, rfl, rfl⟩, ⟨_, rfl, rfl⟩, ⟨_, rfl, rfl⟩, ⟨_, rfl, rfl⟩, ⟨_, rfl, rfl⟩, ⟨_, rfl, rfl⟩, ⟨_, rfl, rfl⟩, trivial⟩ rfl (by decide) (by decide) (ci := 4) (q0 := 2) rfl rfl rfl hl.1 rfl (lv_room (Nat.le_of_ble_eq_true rfl)) dX7_copy_72 ⟨Nat.zero_le _, Nat.zero_le _⟩ (fun H locs w => ?_)
                refine lv_if_eq (tgt := 90) C.1 C.2.1 dX7_copy_75 (by decide) (fun hq16 => ?_) (fun hq16 => ?_)
                · have hf := ite_t hf hq16
                  refine lv_bipush (v := (-13 : Int32)) C.1 C.2.1 dX7_copy_90 (by decide) ?_
                  have hres := Option.some.inj hf
                  subst hres
                  exact ret_i C hr hlocks w rfl dX7_copy_92
                · have hf := ite_f hf hq16
                  refine lv_aload C.1 C.2.1 dX7_copy_78 (lv_at hl 0 rfl) ?_
                  refine lv_iload C.1 C.2.1 dX7_copy_80 (lv_at hl 6 rfl) ?_
                  refine lv_iload C.1 C.2.1 dX7_copy_82 (lv_at hl 7 rfl) ?_
                  obtain ⟨r17, hc18, hf⟩ := bd hf
                  refine call_Vi (ws' := (wX7_copy cI cL cS cH a_this a_this_now a_this_past a_this_kept a_this_keptPast a_this_plans a_this_plans_search_net a_this_tape a_this_sheets a_this_sheets_e a_this_sheets_items_e q_hasImage q_sheets_lane q_sheets_length q_sheets_items)) (rest := []) C w (mX4_holds l D cI cL cS cH _ (a_this_sheets_e 1) (a_this_sheets_items_e 1) (q_sheets_lane 1) (q_sheets_length 1) x4 x5 hc18) (cwV 2 C.2.2.2.2 gX7_copy_X4_holds rfl rfl rfl (by decide +kernel) ⟨Nat.le_of_ble_eq_true rfl, Nat.le_of_ble_eq_true rfl⟩) [4] [0, 1, 2, 3, 5, 6, 7, 8, 9] 10 ⟨rfl, trivial⟩ ⟨rfl, trivial⟩ ⟨⟨_, rfl, rfl⟩, ⟨_, rfl, rfl⟩, ⟨_, rfl, rfl⟩, ⟨_, rfl, rfl⟩, ⟨_, rfl, rfl⟩, ⟨_, rfl, rfl⟩, ⟨_, rfl, rfl⟩, ⟨_, rfl, rfl⟩, ⟨_, rfl, rfl⟩, trivial⟩ rfl (by decide) (by decide) (ci := 4) (q0 := 4) rfl rfl rfl hl.1 rfl (lv_room (Nat.le_of_ble_eq_true rfl)) dX7_copy_84 ⟨Nat.zero_le _, Nat.zero_le _⟩ (fun H locs w => ?_)
                  refine lv_if_ne (tgt := 93) C.1 C.2.1 dX7_copy_87 (by decide) (fun hq19 => ?_) (fun hq19 => ?_)
                  · have hf := ite_f hf hq19
                    refine lv_aload C.1 C.2.1 dX7_copy_93 (lv_at hl 1 rfl) ?_
                    refine r_get C w inX7_copy_X4 2 rfl rfl 2 (by decide) lkX7_copy_212 rfl dX7_copy_95 ?_
                    refine lv_iload_n C.1 C.2.1 dX7_copy_98 rfl (lv_at hl 4 rfl) ?_
                    refine lv_aload C.1 C.2.1 dX7_copy_99 (lv_at hl 0 rfl) ?_
                    refine r_get C w inX7_copy_X4 4 rfl rfl 2 (by decide) lkX7_copy_212 rfl dX7_copy_101 ?_
                    refine lv_iload C.1 C.2.1 dX7_copy_104 (lv_at hl 6 rfl) ?_
                    refine lv_iload C.1 C.2.1 dX7_copy_106 (lv_at hl 7 rfl) ?_
                    obtain ⟨g20, hg21, hf⟩ := bd hf
                    refine r_copyl (ws' := (wX7_copy cI cL cS cH a_this a_this_now a_this_past a_this_kept a_this_keptPast a_this_plans a_this_plans_search_net a_this_tape a_this_sheets a_this_sheets_e a_this_sheets_items_e q_hasImage q_sheets_lane q_sheets_length (va_up q_sheets_items 1 g20))) C w hl.1 (by decide +kernel) (by decide +kernel) (by decide +kernel) (by decide +kernel) 3 5 1 rfl rfl rfl (cpy_in hg21) rfl (Nat.le_of_ble_eq_true rfl) (Nat.le_of_ble_eq_true rfl) dX7_copy_108 (fun H locs w => ?_)
                    refine lv_iload C.1 C.2.1 dX7_copy_111 (lv_at hl 7 rfl) ?_
                    have hres := Option.some.inj hf
                    subst hres
                    exact ret_i C hr hlocks w rfl dX7_copy_113
                  · have hf := ite_t hf hq19
                    refine lv_bipush (v := (-13 : Int32)) C.1 C.2.1 dX7_copy_90 (by decide) ?_
                    have hres := Option.some.inj hf
                    subst hres
                    exact ret_i C hr hlocks w rfl dX7_copy_92
              · have hf := ite_f hf hq13
                refine lv_bipush (v := (-12 : Int32)) C.1 C.2.1 dX7_copy_64 (by decide) ?_
                have hres := Option.some.inj hf
                subst hres
                exact ret_i C hr hlocks w rfl dX7_copy_66
            · have hf := ite_f hf hq12
              refine lv_bipush (v := (-11 : Int32)) C.1 C.2.1 dX7_copy_48 (by decide) ?_
              have hres := Option.some.inj hf
              subst hres
              exact ret_i C hr hlocks w rfl dX7_copy_50
        · refine r_aald (v := (a_this_sheets_e 2)) C w 1 3 rfl rfl (by rw [hx29]; exact ⟨inb_in (by decide), rfl⟩) dX7_copy_29 ?_
          refine lv_astore (lv' := [(7, .ref (a_this_sheets_e 2)), (6, .ref (a_this_sheets_e 0)), (0, .ref a_this), (1, .int x1), (2, .int x2), (3, .int x3), (4, .int x4), (5, .int x5)]) C.1 C.2.1 dX7_copy_30 hl (by decide) rfl (fun ls hl => ?_)
          refine lv_aload C.1 C.2.1 dX7_copy_32 (lv_at hl 1 rfl) ?_
          obtain ⟨r7, hc8, hf⟩ := bd hf
          refine call_Vi (ws' := (wX7_copy cI cL cS cH a_this a_this_now a_this_past a_this_kept a_this_keptPast a_this_plans a_this_plans_search_net a_this_tape a_this_sheets a_this_sheets_e a_this_sheets_items_e q_hasImage q_sheets_lane q_sheets_length q_sheets_items)) (rest := []) C w (mX4_isMissing l D cI cL cS cH _ (a_this_sheets_e 0) (a_this_sheets_items_e 0) (q_sheets_lane 0) (q_sheets_length 0) hc8) (cwV 0 C.2.2.2.2 gX7_copy_X4_isMissing rfl rfl rfl (by decide +kernel) ⟨Nat.le_of_ble_eq_true rfl, Nat.le_of_ble_eq_true rfl⟩) [2] [0, 1, 3, 4, 5, 6, 7, 8, 9] 10 ⟨rfl, trivial⟩ ⟨rfl, trivial⟩ ⟨⟨_, rfl, rfl⟩, ⟨_, rfl, rfl⟩, ⟨_, rfl, rfl⟩, ⟨_, rfl, rfl⟩, ⟨_, rfl, rfl⟩, ⟨_, rfl, rfl⟩, ⟨_, rfl, rfl⟩, ⟨_, rfl, rfl⟩, ⟨_, rfl, rfl⟩, trivial⟩ rfl (by decide) (by decide) (ci := 4) (q0 := 2) rfl rfl rfl hl.1 rfl (lv_room (Nat.le_of_ble_eq_true rfl)) dX7_copy_34 ⟨Nat.zero_le _, Nat.zero_le _⟩ (fun H locs w => ?_)
          refine lv_if_ne (tgt := 48) C.1 C.2.1 dX7_copy_37 (by decide) (fun hq9 => ?_) (fun hq9 => ?_)
          · have hf := ite_f hf hq9
            refine lv_bipush (v := (-11 : Int32)) C.1 C.2.1 dX7_copy_48 (by decide) ?_
            have hres := Option.some.inj hf
            subst hres
            exact ret_i C hr hlocks w rfl dX7_copy_50
          · have hf := ite_t hf hq9
            refine lv_aload C.1 C.2.1 dX7_copy_40 (lv_at hl 0 rfl) ?_
            obtain ⟨r10, hc11, hf⟩ := bd hf
            refine call_Vi (ws' := (wX7_copy cI cL cS cH a_this a_this_now a_this_past a_this_kept a_this_keptPast a_this_plans a_this_plans_search_net a_this_tape a_this_sheets a_this_sheets_e a_this_sheets_items_e q_hasImage q_sheets_lane q_sheets_length q_sheets_items)) (rest := []) C w (mX4_isMissing l D cI cL cS cH _ (a_this_sheets_e 2) (a_this_sheets_items_e 2) (q_sheets_lane 2) (q_sheets_length 2) hc11) (cwV 0 C.2.2.2.2 gX7_copy_X4_isMissing rfl rfl rfl (by decide +kernel) ⟨Nat.le_of_ble_eq_true rfl, Nat.le_of_ble_eq_true rfl⟩) [6] [0, 1, 2, 3, 4, 5, 7, 8, 9] 10 ⟨rfl, trivial⟩ ⟨rfl, trivial⟩ ⟨⟨_, rfl, rfl⟩, ⟨_, rfl, rfl⟩, ⟨_, rfl, rfl⟩, ⟨_, rfl, rfl⟩, ⟨_, rfl, rfl⟩, ⟨_, rfl, rfl⟩, ⟨_, rfl, rfl⟩, ⟨_, rfl, rfl⟩, ⟨_, rfl, rfl⟩, trivial⟩ rfl (by decide) (by decide) (ci := 4) (q0 := 6) rfl rfl rfl hl.1 rfl (lv_room (Nat.le_of_ble_eq_true rfl)) dX7_copy_42 ⟨Nat.zero_le _, Nat.zero_le _⟩ (fun H locs w => ?_)
            refine lv_if_eq (tgt := 51) C.1 C.2.1 dX7_copy_45 (by decide) (fun hq12 => ?_) (fun hq12 => ?_)
            · have hf := ite_t hf hq12
              refine lv_aload C.1 C.2.1 dX7_copy_51 (lv_at hl 1 rfl) ?_
              refine r_get C w inX7_copy_X4 2 rfl rfl 0 (by decide) lkX7_copy_231 rfl dX7_copy_53 ?_
              refine lv_aload C.1 C.2.1 dX7_copy_56 (lv_at hl 0 rfl) ?_
              refine r_get C w inX7_copy_X4 6 rfl rfl 0 (by decide) lkX7_copy_231 rfl dX7_copy_58 ?_
              refine lv_icmp_eq (tgt := 67) C.1 C.2.1 dX7_copy_61 (by decide) (fun hq13 => ?_) (fun hq13 => ?_)
              · have hf := ite_t hf hq13
                refine lv_aload C.1 C.2.1 dX7_copy_67 (lv_at hl 1 rfl) ?_
                refine lv_iload_n C.1 C.2.1 dX7_copy_69 rfl (lv_at hl 4 rfl) ?_
                refine lv_iload C.1 C.2.1 dX7_copy_70 (lv_at hl 7 rfl) ?_
                obtain ⟨r14, hc15, hf⟩ := bd hf
                refine call_Vi (ws' := (wX7_copy cI cL cS cH a_this a_this_now a_this_past a_this_kept a_this_keptPast a_this_plans a_this_plans_search_net a_this_tape a_this_sheets a_this_sheets_e a_this_sheets_items_e q_hasImage q_sheets_lane q_sheets_length q_sheets_items)) (rest := []) C w (mX4_holds l D cI cL cS cH _ (a_this_sheets_e 0) (a_this_sheets_items_e 0) (q_sheets_lane 0) (q_sheets_length 0) x2 x5 hc15) (cwV 2 C.2.2.2.2 gX7_copy_X4_holds rfl rfl rfl (by decide +kernel) ⟨Nat.le_of_ble_eq_true rfl, Nat.le_of_ble_eq_true rfl⟩) [2] [0, 1, 3, 4, 5, 6, 7, 8, 9] 10 ⟨rfl, trivial⟩ ⟨rfl, trivial⟩ ⟨⟨_, rfl, rfl⟩, ⟨_, rfl, rfl⟩, ⟨_, rfl, rfl⟩, ⟨_, rfl, rfl⟩, ⟨_, rfl, rfl⟩, ⟨_, rfl, rfl⟩, ⟨_, rfl, rfl⟩, ⟨_, rfl, rfl⟩, ⟨_, rfl, rfl⟩, trivial⟩ rfl (by decide) (by decide) (ci := 4) (q0 := 2) rfl rfl rfl hl.1 rfl (lv_room (Nat.le_of_ble_eq_true rfl)) dX7_copy_72 ⟨Nat.zero_le _, Nat.zero_le _⟩ (fun H locs w => ?_)
                refine lv_if_eq (tgt := 90) C.1 C.2.1 dX7_copy_75 (by decide) (fun hq16 => ?_) (fun hq16 => ?_)
                · have hf := ite_t hf hq16
                  refine lv_bipush (v := (-13 : Int32)) C.1 C.2.1 dX7_copy_90 (by decide) ?_
                  have hres := Option.some.inj hf
                  subst hres
                  exact ret_i C hr hlocks w rfl dX7_copy_92
                · have hf := ite_f hf hq16
                  refine lv_aload C.1 C.2.1 dX7_copy_78 (lv_at hl 0 rfl) ?_
                  refine lv_iload C.1 C.2.1 dX7_copy_80 (lv_at hl 6 rfl) ?_
                  refine lv_iload C.1 C.2.1 dX7_copy_82 (lv_at hl 7 rfl) ?_
                  obtain ⟨r17, hc18, hf⟩ := bd hf
                  refine call_Vi (ws' := (wX7_copy cI cL cS cH a_this a_this_now a_this_past a_this_kept a_this_keptPast a_this_plans a_this_plans_search_net a_this_tape a_this_sheets a_this_sheets_e a_this_sheets_items_e q_hasImage q_sheets_lane q_sheets_length q_sheets_items)) (rest := []) C w (mX4_holds l D cI cL cS cH _ (a_this_sheets_e 2) (a_this_sheets_items_e 2) (q_sheets_lane 2) (q_sheets_length 2) x4 x5 hc18) (cwV 2 C.2.2.2.2 gX7_copy_X4_holds rfl rfl rfl (by decide +kernel) ⟨Nat.le_of_ble_eq_true rfl, Nat.le_of_ble_eq_true rfl⟩) [6] [0, 1, 2, 3, 4, 5, 7, 8, 9] 10 ⟨rfl, trivial⟩ ⟨rfl, trivial⟩ ⟨⟨_, rfl, rfl⟩, ⟨_, rfl, rfl⟩, ⟨_, rfl, rfl⟩, ⟨_, rfl, rfl⟩, ⟨_, rfl, rfl⟩, ⟨_, rfl, rfl⟩, ⟨_, rfl, rfl⟩, ⟨_, rfl, rfl⟩, ⟨_, rfl, rfl⟩, trivial⟩ rfl (by decide) (by decide) (ci := 4) (q0 := 6) rfl rfl rfl hl.1 rfl (lv_room (Nat.le_of_ble_eq_true rfl)) dX7_copy_84 ⟨Nat.zero_le _, Nat.zero_le _⟩ (fun H locs w => ?_)
                  refine lv_if_ne (tgt := 93) C.1 C.2.1 dX7_copy_87 (by decide) (fun hq19 => ?_) (fun hq19 => ?_)
                  · have hf := ite_f hf hq19
                    refine lv_aload C.1 C.2.1 dX7_copy_93 (lv_at hl 1 rfl) ?_
                    refine r_get C w inX7_copy_X4 2 rfl rfl 2 (by decide) lkX7_copy_212 rfl dX7_copy_95 ?_
                    refine lv_iload_n C.1 C.2.1 dX7_copy_98 rfl (lv_at hl 4 rfl) ?_
                    refine lv_aload C.1 C.2.1 dX7_copy_99 (lv_at hl 0 rfl) ?_
                    refine r_get C w inX7_copy_X4 6 rfl rfl 2 (by decide) lkX7_copy_212 rfl dX7_copy_101 ?_
                    refine lv_iload C.1 C.2.1 dX7_copy_104 (lv_at hl 6 rfl) ?_
                    refine lv_iload C.1 C.2.1 dX7_copy_106 (lv_at hl 7 rfl) ?_
                    obtain ⟨g20, hg21, hf⟩ := bd hf
                    refine r_copyl (ws' := (wX7_copy cI cL cS cH a_this a_this_now a_this_past a_this_kept a_this_keptPast a_this_plans a_this_plans_search_net a_this_tape a_this_sheets a_this_sheets_e a_this_sheets_items_e q_hasImage q_sheets_lane q_sheets_length (va_up q_sheets_items 2 g20))) C w hl.1 (by decide +kernel) (by decide +kernel) (by decide +kernel) (by decide +kernel) 3 7 1 rfl rfl rfl (cpy_in hg21) rfl (Nat.le_of_ble_eq_true rfl) (Nat.le_of_ble_eq_true rfl) dX7_copy_108 (fun H locs w => ?_)
                    refine lv_iload C.1 C.2.1 dX7_copy_111 (lv_at hl 7 rfl) ?_
                    have hres := Option.some.inj hf
                    subst hres
                    exact ret_i C hr hlocks w rfl dX7_copy_113
                  · have hf := ite_t hf hq19
                    refine lv_bipush (v := (-13 : Int32)) C.1 C.2.1 dX7_copy_90 (by decide) ?_
                    have hres := Option.some.inj hf
                    subst hres
                    exact ret_i C hr hlocks w rfl dX7_copy_92
              · have hf := ite_f hf hq13
                refine lv_bipush (v := (-12 : Int32)) C.1 C.2.1 dX7_copy_64 (by decide) ?_
                have hres := Option.some.inj hf
                subst hres
                exact ret_i C hr hlocks w rfl dX7_copy_66
            · have hf := ite_f hf hq12
              refine lv_bipush (v := (-11 : Int32)) C.1 C.2.1 dX7_copy_48 (by decide) ?_
              have hres := Option.some.inj hf
              subst hres
              exact ret_i C hr hlocks w rfl dX7_copy_50
        · refine r_aald (v := (a_this_sheets_e 3)) C w 1 3 rfl rfl (by rw [hx29]; exact ⟨inb_in (by decide), rfl⟩) dX7_copy_29 ?_
          refine lv_astore (lv' := [(7, .ref (a_this_sheets_e 3)), (6, .ref (a_this_sheets_e 0)), (0, .ref a_this), (1, .int x1), (2, .int x2), (3, .int x3), (4, .int x4), (5, .int x5)]) C.1 C.2.1 dX7_copy_30 hl (by decide) rfl (fun ls hl => ?_)
          refine lv_aload C.1 C.2.1 dX7_copy_32 (lv_at hl 1 rfl) ?_
          obtain ⟨r7, hc8, hf⟩ := bd hf
          refine call_Vi (ws' := (wX7_copy cI cL cS cH a_this a_this_now a_this_past a_this_kept a_this_keptPast a_this_plans a_this_plans_search_net a_this_tape a_this_sheets a_this_sheets_e a_this_sheets_items_e q_hasImage q_sheets_lane q_sheets_length q_sheets_items)) (rest := []) C w (mX4_isMissing l D cI cL cS cH _ (a_this_sheets_e 0) (a_this_sheets_items_e 0) (q_sheets_lane 0) (q_sheets_length 0) hc8) (cwV 0 C.2.2.2.2 gX7_copy_X4_isMissing rfl rfl rfl (by decide +kernel) ⟨Nat.le_of_ble_eq_true rfl, Nat.le_of_ble_eq_true rfl⟩) [2] [0, 1, 3, 4, 5, 6, 7, 8, 9] 10 ⟨rfl, trivial⟩ ⟨rfl, trivial⟩ ⟨⟨_, rfl, rfl⟩, ⟨_, rfl, rfl⟩, ⟨_, rfl, rfl⟩, ⟨_, rfl, rfl⟩, ⟨_, rfl, rfl⟩, ⟨_, rfl, rfl⟩, ⟨_, rfl, rfl⟩, ⟨_, rfl, rfl⟩, ⟨_, rfl, rfl⟩, trivial⟩ rfl (by decide) (by decide) (ci := 4) (q0 := 2) rfl rfl rfl hl.1 rfl (lv_room (Nat.le_of_ble_eq_true rfl)) dX7_copy_34 ⟨Nat.zero_le _, Nat.zero_le _⟩ (fun H locs w => ?_)
          refine lv_if_ne (tgt := 48) C.1 C.2.1 dX7_copy_37 (by decide) (fun hq9 => ?_) (fun hq9 => ?_)
          · have hf := ite_f hf hq9
            refine lv_bipush (v := (-11 : Int32)) C.1 C.2.1 dX7_copy_48 (by decide) ?_
            have hres := Option.some.inj hf
            subst hres
            exact ret_i C hr hlocks w rfl dX7_copy_50
          · have hf := ite_t hf hq9
            refine lv_aload C.1 C.2.1 dX7_copy_40 (lv_at hl 0 rfl) ?_
            obtain ⟨r10, hc11, hf⟩ := bd hf
            refine call_Vi (ws' := (wX7_copy cI cL cS cH a_this a_this_now a_this_past a_this_kept a_this_keptPast a_this_plans a_this_plans_search_net a_this_tape a_this_sheets a_this_sheets_e a_this_sheets_items_e q_hasImage q_sheets_lane q_sheets_length q_sheets_items)) (rest := []) C w (mX4_isMissing l D cI cL cS cH _ (a_this_sheets_e 3) (a_this_sheets_items_e 3) (q_sheets_lane 3) (q_sheets_length 3) hc11) (cwV 0 C.2.2.2.2 gX7_copy_X4_isMissing rfl rfl rfl (by decide +kernel) ⟨Nat.le_of_ble_eq_true rfl, Nat.le_of_ble_eq_true rfl⟩) [8] [0, 1, 2, 3, 4, 5, 6, 7, 9] 10 ⟨rfl, trivial⟩ ⟨rfl, trivial⟩ ⟨⟨_, rfl, rfl⟩, ⟨_, rfl, rfl⟩, ⟨_, rfl, rfl⟩, ⟨_, rfl, rfl⟩, ⟨_, rfl, rfl⟩, ⟨_, rfl, rfl⟩, ⟨_, rfl, rfl⟩, ⟨_, rfl, rfl⟩, ⟨_, rfl, rfl⟩, trivial⟩ rfl (by decide) (by decide) (ci := 4) (q0 := 8) rfl rfl rfl hl.1 rfl (lv_room (Nat.le_of_ble_eq_true rfl)) dX7_copy_42 ⟨Nat.zero_le _, Nat.zero_le _⟩ (fun H locs w => ?_)
            refine lv_if_eq (tgt := 51) C.1 C.2.1 dX7_copy_45 (by decide) (fun hq12 => ?_) (fun hq12 => ?_)
            · have hf := ite_t hf hq12
              refine lv_aload C.1 C.2.1 dX7_copy_51 (lv_at hl 1 rfl) ?_
              refine r_get C w inX7_copy_X4 2 rfl rfl 0 (by decide) lkX7_copy_231 rfl dX7_copy_53 ?_
              refine lv_aload C.1 C.2.1 dX7_copy_56 (lv_at hl 0 rfl) ?_
              refine r_get C w inX7_copy_X4 8 rfl rfl 0 (by decide) lkX7_copy_231 rfl dX7_copy_58 ?_
              refine lv_icmp_eq (tgt := 67) C.1 C.2.1 dX7_copy_61 (by decide) (fun hq13 => ?_) (fun hq13 => ?_)
              · have hf := ite_t hf hq13
                refine lv_aload C.1 C.2.1 dX7_copy_67 (lv_at hl 1 rfl) ?_
                refine lv_iload_n C.1 C.2.1 dX7_copy_69 rfl (lv_at hl 4 rfl) ?_
                refine lv_iload C.1 C.2.1 dX7_copy_70 (lv_at hl 7 rfl) ?_
                obtain ⟨r14, hc15, hf⟩ := bd hf
                refine call_Vi (ws' := (wX7_copy cI cL cS cH a_this a_this_now a_this_past a_this_kept a_this_keptPast a_this_plans a_this_plans_search_net a_this_tape a_this_sheets a_this_sheets_e a_this_sheets_items_e q_hasImage q_sheets_lane q_sheets_length q_sheets_items)) (rest := []) C w (mX4_holds l D cI cL cS cH _ (a_this_sheets_e 0) (a_this_sheets_items_e 0) (q_sheets_lane 0) (q_sheets_length 0) x2 x5 hc15) (cwV 2 C.2.2.2.2 gX7_copy_X4_holds rfl rfl rfl (by decide +kernel) ⟨Nat.le_of_ble_eq_true rfl, Nat.le_of_ble_eq_true rfl⟩) [2] [0, 1, 3, 4, 5, 6, 7, 8, 9] 10 ⟨rfl, trivial⟩ ⟨rfl, trivial⟩ ⟨⟨_, rfl, rfl⟩, ⟨_, rfl, rfl⟩, ⟨_, rfl, rfl⟩, ⟨_, rfl, rfl⟩, ⟨_, rfl, rfl⟩, ⟨_, rfl, rfl⟩, ⟨_, rfl, rfl⟩, ⟨_, rfl, rfl⟩, ⟨_, rfl, rfl⟩, trivial⟩ rfl (by decide) (by decide) (ci := 4) (q0 := 2) rfl rfl rfl hl.1 rfl (lv_room (Nat.le_of_ble_eq_true rfl)) dX7_copy_72 ⟨Nat.zero_le _, Nat.zero_le _⟩ (fun H locs w => ?_)
                refine lv_if_eq (tgt := 90) C.1 C.2.1 dX7_copy_75 (by decide) (fun hq16 => ?_) (fun hq16 => ?_)
                · have hf := ite_t hf hq16
                  refine lv_bipush (v := (-13 : Int32)) C.1 C.2.1 dX7_copy_90 (by decide) ?_
                  have hres := Option.some.inj hf
                  subst hres
                  exact ret_i C hr hlocks w rfl dX7_copy_92
                · have hf := ite_f hf hq16
                  refine lv_aload C.1 C.2.1 dX7_copy_78 (lv_at hl 0 rfl) ?_
                  refine lv_iload C.1 C.2.1 dX7_copy_80 (lv_at hl 6 rfl) ?_
                  refine lv_iload C.1 C.2.1 dX7_copy_82 (lv_at hl 7 rfl) ?_
                  obtain ⟨r17, hc18, hf⟩ := bd hf
                  refine call_Vi (ws' := (wX7_copy cI cL cS cH a_this a_this_now a_this_past a_this_kept a_this_keptPast a_this_plans a_this_plans_search_net a_this_tape a_this_sheets a_this_sheets_e a_this_sheets_items_e q_hasImage q_sheets_lane q_sheets_length q_sheets_items)) (rest := []) C w (mX4_holds l D cI cL cS cH _ (a_this_sheets_e 3) (a_this_sheets_items_e 3) (q_sheets_lane 3) (q_sheets_length 3) x4 x5 hc18) (cwV 2 C.2.2.2.2 gX7_copy_X4_holds rfl rfl rfl (by decide +kernel) ⟨Nat.le_of_ble_eq_true rfl, Nat.le_of_ble_eq_true rfl⟩) [8] [0, 1, 2, 3, 4, 5, 6, 7, 9] 10 ⟨rfl, trivial⟩ ⟨rfl, trivial⟩ ⟨⟨_, rfl, rfl⟩, ⟨_, rfl, rfl⟩, ⟨_, rfl, rfl⟩, ⟨_, rfl, rfl⟩, ⟨_, rfl, rfl⟩, ⟨_, rfl, rfl⟩, ⟨_, rfl, rfl⟩, ⟨_, rfl, rfl⟩, ⟨_, rfl, rfl⟩, trivial⟩ rfl (by decide) (by decide) (ci := 4) (q0 := 8) rfl rfl rfl hl.1 rfl (lv_room (Nat.le_of_ble_eq_true rfl)) dX7_copy_84 ⟨Nat.zero_le _, Nat.zero_le _⟩ (fun H locs w => ?_)
                  refine lv_if_ne (tgt := 93) C.1 C.2.1 dX7_copy_87 (by decide) (fun hq19 => ?_) (fun hq19 => ?_)
                  · have hf := ite_f hf hq19
                    refine lv_aload C.1 C.2.1 dX7_copy_93 (lv_at hl 1 rfl) ?_
                    refine r_get C w inX7_copy_X4 2 rfl rfl 2 (by decide) lkX7_copy_212 rfl dX7_copy_95 ?_
                    refine lv_iload_n C.1 C.2.1 dX7_copy_98 rfl (lv_at hl 4 rfl) ?_
                    refine lv_aload C.1 C.2.1 dX7_copy_99 (lv_at hl 0 rfl) ?_
                    refine r_get C w inX7_copy_X4 8 rfl rfl 2 (by decide) lkX7_copy_212 rfl dX7_copy_101 ?_
                    refine lv_iload C.1 C.2.1 dX7_copy_104 (lv_at hl 6 rfl) ?_
                    refine lv_iload C.1 C.2.1 dX7_copy_106 (lv_at hl 7 rfl) ?_
                    obtain ⟨g20, hg21, hf⟩ := bd hf
                    refine r_copyl (ws' := (wX7_copy cI cL cS cH a_this a_this_now a_this_past a_this_kept a_this_keptPast a_this_plans a_this_plans_search_net a_this_tape a_this_sheets a_this_sheets_e a_this_sheets_items_e q_hasImage q_sheets_lane q_sheets_length (va_up q_sheets_items 3 g20))) C w hl.1 (by decide +kernel) (by decide +kernel) (by decide +kernel) (by decide +kernel) 3 9 1 rfl rfl rfl (cpy_in hg21) rfl (Nat.le_of_ble_eq_true rfl) (Nat.le_of_ble_eq_true rfl) dX7_copy_108 (fun H locs w => ?_)
                    refine lv_iload C.1 C.2.1 dX7_copy_111 (lv_at hl 7 rfl) ?_
                    have hres := Option.some.inj hf
                    subst hres
                    exact ret_i C hr hlocks w rfl dX7_copy_113
                  · have hf := ite_t hf hq19
                    refine lv_bipush (v := (-13 : Int32)) C.1 C.2.1 dX7_copy_90 (by decide) ?_
                    have hres := Option.some.inj hf
                    subst hres
                    exact ret_i C hr hlocks w rfl dX7_copy_92
              · have hf := ite_f hf hq13
                refine lv_bipush (v := (-12 : Int32)) C.1 C.2.1 dX7_copy_64 (by decide) ?_
                have hres := Option.some.inj hf
                subst hres
                exact ret_i C hr hlocks w rfl dX7_copy_66
            · have hf := ite_f hf hq12
              refine lv_bipush (v := (-11 : Int32)) C.1 C.2.1 dX7_copy_48 (by decide) ?_
              have hres := Option.some.inj hf
              subst hres
              exact ret_i C hr hlocks w rfl dX7_copy_50
      · refine r_aald (v := (a_this_sheets_e 1)) C w 1 3 rfl rfl (by rw [hx21]; exact ⟨inb_in (by decide), rfl⟩) dX7_copy_21 ?_
        refine lv_astore (lv' := [(6, .ref (a_this_sheets_e 1)), (0, .ref a_this), (1, .int x1), (2, .int x2), (3, .int x3), (4, .int x4), (5, .int x5)]) C.1 C.2.1 dX7_copy_22 hl (by decide) rfl (fun ls hl => ?_)
        refine lv_aload_n C.1 C.2.1 dX7_copy_24 rfl (lv_at hl 1 rfl) ?_
        refine r_get C w inX7_copy_X7 0 rfl rfl 8 (by decide) lkX7_copy_54 rfl dX7_copy_25 ?_
        refine lv_iload_n C.1 C.2.1 dX7_copy_28 rfl (lv_at hl 4 rfl) ?_
        rcases sel4_in hf with ⟨hx29, hf⟩ | ⟨hx29, hf⟩ | ⟨hx29, hf⟩ | ⟨hx29, hf⟩
        · refine r_aald (v := (a_this_sheets_e 0)) C w 1 3 rfl rfl (by rw [hx29]; exact ⟨inb_in (by decide), rfl⟩) dX7_copy_29 ?_
          refine lv_astore (lv' := [(7, .ref (a_this_sheets_e 0)), (6, .ref (a_this_sheets_e 1)), (0, .ref a_this), (1, .int x1), (2, .int x2), (3, .int x3), (4, .int x4), (5, .int x5)]) C.1 C.2.1 dX7_copy_30 hl (by decide) rfl (fun ls hl => ?_)
          refine lv_aload C.1 C.2.1 dX7_copy_32 (lv_at hl 1 rfl) ?_
          obtain ⟨r7, hc8, hf⟩ := bd hf
          refine call_Vi (ws' := (wX7_copy cI cL cS cH a_this a_this_now a_this_past a_this_kept a_this_keptPast a_this_plans a_this_plans_search_net a_this_tape a_this_sheets a_this_sheets_e a_this_sheets_items_e q_hasImage q_sheets_lane q_sheets_length q_sheets_items)) (rest := []) C w (mX4_isMissing l D cI cL cS cH _ (a_this_sheets_e 1) (a_this_sheets_items_e 1) (q_sheets_lane 1) (q_sheets_length 1) hc8) (cwV 0 C.2.2.2.2 gX7_copy_X4_isMissing rfl rfl rfl (by decide +kernel) ⟨Nat.le_of_ble_eq_true rfl, Nat.le_of_ble_eq_true rfl⟩) [4] [0, 1, 2, 3, 5, 6, 7, 8, 9] 10 ⟨rfl, trivial⟩ ⟨rfl, trivial⟩ ⟨⟨_, rfl, rfl⟩, ⟨_, rfl, rfl⟩, ⟨_, rfl, rfl⟩, ⟨_, rfl, rfl⟩, ⟨_, rfl, rfl⟩, ⟨_, rfl, rfl⟩, ⟨_, rfl, rfl⟩, ⟨_, rfl, rfl⟩, ⟨_, rfl, rfl⟩, trivial⟩ rfl (by decide) (by decide) (ci := 4) (q0 := 4) rfl rfl rfl hl.1 rfl (lv_room (Nat.le_of_ble_eq_true rfl)) dX7_copy_34 ⟨Nat.zero_le _, Nat.zero_le _⟩ (fun H locs w => ?_)
          refine lv_if_ne (tgt := 48) C.1 C.2.1 dX7_copy_37 (by decide) (fun hq9 => ?_) (fun hq9 => ?_)
          · have hf := ite_f hf hq9
            refine lv_bipush (v := (-11 : Int32)) C.1 C.2.1 dX7_copy_48 (by decide) ?_
            have hres := Option.some.inj hf
            subst hres
            exact ret_i C hr hlocks w rfl dX7_copy_50
          · have hf := ite_t hf hq9
            refine lv_aload C.1 C.2.1 dX7_copy_40 (lv_at hl 0 rfl) ?_
            obtain ⟨r10, hc11, hf⟩ := bd hf
            refine call_Vi (ws' := (wX7_copy cI cL cS cH a_this a_this_now a_this_past a_this_kept a_this_keptPast a_this_plans a_this_plans_search_net a_this_tape a_this_sheets a_this_sheets_e a_this_sheets_items_e q_hasImage q_sheets_lane q_sheets_length q_sheets_items)) (rest := []) C w (mX4_isMissing l D cI cL cS cH _ (a_this_sheets_e 0) (a_this_sheets_items_e 0) (q_sheets_lane 0) (q_sheets_length 0) hc11) (cwV 0 C.2.2.2.2 gX7_copy_X4_isMissing rfl rfl rfl (by decide +kernel) ⟨Nat.le_of_ble_eq_true rfl, Nat.le_of_ble_eq_true rfl⟩) [2] [0, 1, 3, 4, 5, 6, 7, 8, 9] 10 ⟨rfl, trivial⟩ ⟨rfl, trivial⟩ ⟨⟨_, rfl, rfl⟩, ⟨_, rfl, rfl⟩, ⟨_, rfl, rfl⟩, ⟨_, rfl, rfl⟩, ⟨_, rfl, rfl⟩, ⟨_, rfl, rfl⟩, ⟨_, rfl, rfl⟩, ⟨_, rfl, rfl⟩, ⟨_, rfl, rfl⟩, trivial⟩ rfl (by decide) (by decide) (ci := 4) (q0 := 2) rfl rfl rfl hl.1 rfl (lv_room (Nat.le_of_ble_eq_true rfl)) dX7_copy_42 ⟨Nat.zero_le _, Nat.zero_le _⟩ (fun H locs w => ?_)
            refine lv_if_eq (tgt := 51) C.1 C.2.1 dX7_copy_45 (by decide) (fun hq12 => ?_) (fun hq12 => ?_)
            · have hf := ite_t hf hq12
              refine lv_aload C.1 C.2.1 dX7_copy_51 (lv_at hl 1 rfl) ?_
              refine r_get C w inX7_copy_X4 4 rfl rfl 0 (by decide) lkX7_copy_231 rfl dX7_copy_53 ?_
              refine lv_aload C.1 C.2.1 dX7_copy_56 (lv_at hl 0 rfl) ?_
              refine r_get C w inX7_copy_X4 2 rfl rfl 0 (by decide) lkX7_copy_231 rfl dX7_copy_58 ?_
              refine lv_icmp_eq (tgt := 67) C.1 C.2.1 dX7_copy_61 (by decide) (fun hq13 => ?_) (fun hq13 => ?_)
              · have hf := ite_t hf hq13
                refine lv_aload C.1 C.2.1 dX7_copy_67 (lv_at hl 1 rfl) ?_
                refine lv_iload_n C.1 C.2.1 dX7_copy_69 rfl (lv_at hl 4 rfl) ?_
                refine lv_iload C.1 C.2.1 dX7_copy_70 (lv_at hl 7 rfl) ?_
                obtain ⟨r14, hc15, hf⟩ := bd hf
                refine call_Vi (ws' := (wX7_copy cI cL cS cH a_this a_this_now a_this_past a_this_kept a_this_keptPast a_this_plans a_this_plans_search_net a_this_tape a_this_sheets a_this_sheets_e a_this_sheets_items_e q_hasImage q_sheets_lane q_sheets_length q_sheets_items)) (rest := []) C w (mX4_holds l D cI cL cS cH _ (a_this_sheets_e 1) (a_this_sheets_items_e 1) (q_sheets_lane 1) (q_sheets_length 1) x2 x5 hc15) (cwV 2 C.2.2.2.2 gX7_copy_X4_holds rfl rfl rfl (by decide +kernel) ⟨Nat.le_of_ble_eq_true rfl, Nat.le_of_ble_eq_true rfl⟩) [4] [0, 1, 2, 3, 5, 6, 7, 8, 9] 10 ⟨rfl, trivial⟩ ⟨rfl, trivial⟩ ⟨⟨_, rfl, rfl⟩, ⟨_, rfl, rfl⟩, ⟨_, rfl, rfl⟩, ⟨_, rfl, rfl⟩, ⟨_, rfl, rfl⟩, ⟨_, rfl, rfl⟩, ⟨_, rfl, rfl⟩, ⟨_, rfl, rfl⟩, ⟨_, rfl, rfl⟩, trivial⟩ rfl (by decide) (by decide) (ci := 4) (q0 := 4) rfl rfl rfl hl.1 rfl (lv_room (Nat.le_of_ble_eq_true rfl)) dX7_copy_72 ⟨Nat.zero_le _, Nat.zero_le _⟩ (fun H locs w => ?_)
                refine lv_if_eq (tgt := 90) C.1 C.2.1 dX7_copy_75 (by decide) (fun hq16 => ?_) (fun hq16 => ?_)
                · have hf := ite_t hf hq16
                  refine lv_bipush (v := (-13 : Int32)) C.1 C.2.1 dX7_copy_90 (by decide) ?_
                  have hres := Option.some.inj hf
                  subst hres
                  exact ret_i C hr hlocks w rfl dX7_copy_92
                · have hf := ite_f hf hq16
                  refine lv_aload C.1 C.2.1 dX7_copy_78 (lv_at hl 0 rfl) ?_
                  refine lv_iload C.1 C.2.1 dX7_copy_80 (lv_at hl 6 rfl) ?_
                  refine lv_iload C.1 C.2.1 dX7_copy_82 (lv_at hl 7 rfl) ?_
                  obtain ⟨r17, hc18, hf⟩ := bd hf
                  refine call_Vi (ws' := (wX7_copy cI cL cS cH a_this a_this_now a_this_past a_this_kept a_this_keptPast a_this_plans a_this_plans_search_net a_this_tape a_this_sheets a_this_sheets_e a_this_sheets_items_e q_hasImage q_sheets_lane q_sheets_length q_sheets_items)) (rest := []) C w (mX4_holds l D cI cL cS cH _ (a_this_sheets_e 0) (a_this_sheets_items_e 0) (q_sheets_lane 0) (q_sheets_length 0) x4 x5 hc18) (cwV 2 C.2.2.2.2 gX7_copy_X4_holds rfl rfl rfl (by decide +kernel) ⟨Nat.le_of_ble_eq_true rfl, Nat.le_of_ble_eq_true rfl⟩) [2] [0, 1, 3, 4, 5, 6, 7, 8, 9] 10 ⟨rfl, trivial⟩ ⟨rfl, trivial⟩ ⟨⟨_, rfl, rfl⟩, ⟨_, rfl, rfl⟩, ⟨_, rfl, rfl⟩, ⟨_, rfl, rfl⟩, ⟨_, rfl, rfl⟩, ⟨_, rfl, rfl⟩, ⟨_, rfl, rfl⟩, ⟨_, rfl, rfl⟩, ⟨_, rfl, rfl⟩, trivial⟩ rfl (by decide) (by decide) (ci := 4) (q0 := 2) rfl rfl rfl hl.1 rfl (lv_room (Nat.le_of_ble_eq_true rfl)) dX7_copy_84 ⟨Nat.zero_le _, Nat.zero_le _⟩ (fun H locs w => ?_)
                  refine lv_if_ne (tgt := 93) C.1 C.2.1 dX7_copy_87 (by decide) (fun hq19 => ?_) (fun hq19 => ?_)
                  · have hf := ite_f hf hq19
                    refine lv_aload C.1 C.2.1 dX7_copy_93 (lv_at hl 1 rfl) ?_
                    refine r_get C w inX7_copy_X4 4 rfl rfl 2 (by decide) lkX7_copy_212 rfl dX7_copy_95 ?_
                    refine lv_iload_n C.1 C.2.1 dX7_copy_98 rfl (lv_at hl 4 rfl) ?_
                    refine lv_aload C.1 C.2.1 dX7_copy_99 (lv_at hl 0 rfl) ?_
                    refine r_get C w inX7_copy_X4 2 rfl rfl 2 (by decide) lkX7_copy_212 rfl dX7_copy_101 ?_
                    refine lv_iload C.1 C.2.1 dX7_copy_104 (lv_at hl 6 rfl) ?_
                    refine lv_iload C.1 C.2.1 dX7_copy_106 (lv_at hl 7 rfl) ?_
                    obtain ⟨g20, hg21, hf⟩ := bd hf
                    refine r_copyl (ws' := (wX7_copy cI cL cS cH a_this a_this_now a_this_past a_this_kept a_this_keptPast a_this_plans a_this_plans_search_net a_this_tape a_this_sheets a_this_sheets_e a_this_sheets_items_e q_hasImage q_sheets_lane q_sheets_length (va_up q_sheets_items 0 g20))) C w hl.1 (by decide +kernel) (by decide +kernel) (by decide +kernel) (by decide +kernel) 5 3 1 rfl rfl rfl (cpy_in hg21) rfl (Nat.le_of_ble_eq_true rfl) (Nat.le_of_ble_eq_true rfl) dX7_copy_108 (fun H locs w => ?_)
                    refine lv_iload C.1 C.2.1 dX7_copy_111 (lv_at hl 7 rfl) ?_
                    have hres := Option.some.inj hf
                    subst hres
                    exact ret_i C hr hlocks w rfl dX7_copy_113
                  · have hf := ite_t hf hq19
                    refine lv_bipush (v := (-13 : Int32)) C.1 C.2.1 dX7_copy_90 (by decide) ?_
                    have hres := Option.some.inj hf
                    subst hres
                    exact ret_i C hr hlocks w rfl dX7_copy_92
              · have hf := ite_f hf hq13
                refine lv_bipush (v := (-12 : Int32)) C.1 C.2.1 dX7_copy_64 (by decide) ?_
                have hres := Option.some.inj hf
                subst hres
                exact ret_i C hr hlocks w rfl dX7_copy_66
            · have hf := ite_f hf hq12
              refine lv_bipush (v := (-11 : Int32)) C.1 C.2.1 dX7_copy_48 (by decide) ?_
              have hres := Option.some.inj hf
              subst hres
              exact ret_i C hr hlocks w rfl dX7_copy_50
        · refine r_aald (v := (a_this_sheets_e 1)) C w 1 3 rfl rfl (by rw [hx29]; exact ⟨inb_in (by decide), rfl⟩) dX7_copy_29 ?_
          refine lv_astore (lv' := [(7, .ref (a_this_sheets_e 1)), (6, .ref (a_this_sheets_e 1)), (0, .ref a_this), (1, .int x1), (2, .int x2), (3, .int x3), (4, .int x4), (5, .int x5)]) C.1 C.2.1 dX7_copy_30 hl (by decide) rfl (fun ls hl => ?_)
          refine lv_aload C.1 C.2.1 dX7_copy_32 (lv_at hl 1 rfl) ?_
          obtain ⟨r7, hc8, hf⟩ := bd hf
          refine call_Vi (ws' := (wX7_copy cI cL cS cH a_this a_this_now a_this_past a_this_kept a_this_keptPast a_this_plans a_this_plans_search_net a_this_tape a_this_sheets a_this_sheets_e a_this_sheets_items_e q_hasImage q_sheets_lane q_sheets_length q_sheets_items)) (rest := []) C w (mX4_isMissing l D cI cL cS cH _ (a_this_sheets_e 1) (a_this_sheets_items_e 1) (q_sheets_lane 1) (q_sheets_length 1) hc8) (cwV 0 C.2.2.2.2 gX7_copy_X4_isMissing rfl rfl rfl (by decide +kernel) ⟨Nat.le_of_ble_eq_true rfl, Nat.le_of_ble_eq_true rfl⟩) [4] [0, 1, 2, 3, 5, 6, 7, 8, 9] 10 ⟨rfl, trivial⟩ ⟨rfl, trivial⟩ ⟨⟨_, rfl, rfl⟩, ⟨_, rfl, rfl⟩, ⟨_, rfl, rfl⟩, ⟨_, rfl, rfl⟩, ⟨_, rfl, rfl⟩, ⟨_, rfl, rfl⟩, ⟨_, rfl, rfl⟩, ⟨_, rfl, rfl⟩, ⟨_, rfl, rfl⟩, trivial⟩ rfl (by decide) (by decide) (ci := 4) (q0 := 4) rfl rfl rfl hl.1 rfl (lv_room (Nat.le_of_ble_eq_true rfl)) dX7_copy_34 ⟨Nat.zero_le _, Nat.zero_le _⟩ (fun H locs w => ?_)
          refine lv_if_ne (tgt := 48) C.1 C.2.1 dX7_copy_37 (by decide) (fun hq9 => ?_) (fun hq9 => ?_)
          · have hf := ite_f hf hq9
            refine lv_bipush (v := (-11 : Int32)) C.1 C.2.1 dX7_copy_48 (by decide) ?_
            have hres := Option.some.inj hf
            subst hres
            exact ret_i C hr hlocks w rfl dX7_copy_50
          · have hf := ite_t hf hq9
            refine lv_aload C.1 C.2.1 dX7_copy_40 (lv_at hl 0 rfl) ?_
            obtain ⟨r10, hc11, hf⟩ := bd hf
            refine call_Vi (ws' := (wX7_copy cI cL cS cH a_this a_this_now a_this_past a_this_kept a_this_keptPast a_this_plans a_this_plans_search_net a_this_tape a_this_sheets a_this_sheets_e a_this_sheets_items_e q_hasImage q_sheets_lane q_sheets_length q_sheets_items)) (rest := []) C w (mX4_isMissing l D cI cL cS cH _ (a_this_sheets_e 1) (a_this_sheets_items_e 1) (q_sheets_lane 1) (q_sheets_length 1) hc11) (cwV 0 C.2.2.2.2 gX7_copy_X4_isMissing rfl rfl rfl (by decide +kernel) ⟨Nat.le_of_ble_eq_true rfl, Nat.le_of_ble_eq_true rfl⟩) [4] [0, 1, 2, 3, 5, 6, 7, 8, 9] 10 ⟨rfl, trivial⟩ ⟨rfl, trivial⟩ ⟨⟨_, rfl, rfl⟩, ⟨_, rfl, rfl⟩, ⟨_, rfl, rfl⟩, ⟨_, rfl, rfl⟩, ⟨_, rfl, rfl⟩, ⟨_, rfl, rfl⟩, ⟨_, rfl, rfl⟩, ⟨_, rfl, rfl⟩, ⟨_, rfl, rfl⟩, trivial⟩ rfl (by decide) (by decide) (ci := 4) (q0 := 4) rfl rfl rfl hl.1 rfl (lv_room (Nat.le_of_ble_eq_true rfl)) dX7_copy_42 ⟨Nat.zero_le _, Nat.zero_le _⟩ (fun H locs w => ?_)
            refine lv_if_eq (tgt := 51) C.1 C.2.1 dX7_copy_45 (by decide) (fun hq12 => ?_) (fun hq12 => ?_)
            · have hf := ite_t hf hq12
              refine lv_aload C.1 C.2.1 dX7_copy_51 (lv_at hl 1 rfl) ?_
              refine r_get C w inX7_copy_X4 4 rfl rfl 0 (by decide) lkX7_copy_231 rfl dX7_copy_53 ?_
              refine lv_aload C.1 C.2.1 dX7_copy_56 (lv_at hl 0 rfl) ?_
              refine r_get C w inX7_copy_X4 4 rfl rfl 0 (by decide) lkX7_copy_231 rfl dX7_copy_58 ?_
              refine lv_icmp_eq (tgt := 67) C.1 C.2.1 dX7_copy_61 (by decide) (fun hq13 => ?_) (fun hq13 => ?_)
              · have hf := ite_t hf hq13
                refine lv_aload C.1 C.2.1 dX7_copy_67 (lv_at hl 1 rfl) ?_
                refine lv_iload_n C.1 C.2.1 dX7_copy_69 rfl (lv_at hl 4 rfl) ?_
                refine lv_iload C.1 C.2.1 dX7_copy_70 (lv_at hl 7 rfl) ?_
                obtain ⟨r14, hc15, hf⟩ := bd hf
                refine call_Vi (ws' := (wX7_copy cI cL cS cH a_this a_this_now a_this_past a_this_kept a_this_keptPast a_this_plans a_this_plans_search_net a_this_tape a_this_sheets a_this_sheets_e a_this_sheets_items_e q_hasImage q_sheets_lane q_sheets_length q_sheets_items)) (rest := []) C w (mX4_holds l D cI cL cS cH _ (a_this_sheets_e 1) (a_this_sheets_items_e 1) (q_sheets_lane 1) (q_sheets_length 1) x2 x5 hc15) (cwV 2 C.2.2.2.2 gX7_copy_X4_holds rfl rfl rfl (by decide +kernel) ⟨Nat.le_of_ble_eq_true rfl, Nat.le_of_ble_eq_true rfl⟩) [4] [0, 1, 2, 3, 5, 6, 7, 8, 9] 10 ⟨rfl, trivial⟩ ⟨rfl, trivial⟩ ⟨⟨_, rfl, rfl⟩, ⟨_, rfl, rfl⟩, ⟨_, rfl, rfl⟩, ⟨_, rfl, rfl⟩, ⟨_, rfl, rfl⟩, ⟨_, rfl, rfl⟩, ⟨_, rfl, rfl⟩, ⟨_, rfl, rfl⟩, ⟨_, rfl, rfl⟩, trivial⟩ rfl (by decide) (by decide) (ci := 4) (q0 := 4) rfl rfl rfl hl.1 rfl (lv_room (Nat.le_of_ble_eq_true rfl)) dX7_copy_72 ⟨Nat.zero_le _, Nat.zero_le _⟩ (fun H locs w => ?_)
                refine lv_if_eq (tgt := 90) C.1 C.2.1 dX7_copy_75 (by decide) (fun hq16 => ?_) (fun hq16 => ?_)
                · have hf := ite_t hf hq16
                  refine lv_bipush (v := (-13 : Int32)) C.1 C.2.1 dX7_copy_90 (by decide) ?_
                  have hres := Option.some.inj hf
                  subst hres
                  exact ret_i C hr hlocks w rfl dX7_copy_92
                · have hf := ite_f hf hq16
                  refine lv_aload C.1 C.2.1 dX7_copy_78 (lv_at hl 0 rfl) ?_
                  refine lv_iload C.1 C.2.1 dX7_copy_80 (lv_at hl 6 rfl) ?_
                  refine lv_iload C.1 C.2.1 dX7_copy_82 (lv_at hl 7 rfl) ?_
                  obtain ⟨r17, hc18, hf⟩ := bd hf
                  refine call_Vi (ws' := (wX7_copy cI cL cS cH a_this a_this_now a_this_past a_this_kept a_this_keptPast a_this_plans a_this_plans_search_net a_this_tape a_this_sheets a_this_sheets_e a_this_sheets_items_e q_hasImage q_sheets_lane q_sheets_length q_sheets_items)) (rest := []) C w (mX4_holds l D cI cL cS cH _ (a_this_sheets_e 1) (a_this_sheets_items_e 1) (q_sheets_lane 1) (q_sheets_length 1) x4 x5 hc18) (cwV 2 C.2.2.2.2 gX7_copy_X4_holds rfl rfl rfl (by decide +kernel) ⟨Nat.le_of_ble_eq_true rfl, Nat.le_of_ble_eq_true rfl⟩) [4] [0, 1, 2, 3, 5, 6, 7, 8, 9] 10 ⟨rfl, trivial⟩ ⟨rfl, trivial⟩ ⟨⟨_, rfl, rfl⟩, ⟨_, rfl, rfl⟩, ⟨_, rfl, rfl⟩, ⟨_, rfl, rfl⟩, ⟨_, rfl, rfl⟩, ⟨_, rfl, rfl⟩, ⟨_, rfl, rfl⟩, ⟨_, rfl, rfl⟩, ⟨_, rfl, rfl⟩, trivial⟩ rfl (by decide) (by decide) (ci := 4) (q0 := 4) rfl rfl rfl hl.1 rfl (lv_room (Nat.le_of_ble_eq_true rfl)) dX7_copy_84 ⟨Nat.zero_le _, Nat.zero_le _⟩ (fun H locs w => ?_)
                  refine lv_if_ne (tgt := 93) C.1 C.2.1 dX7_copy_87 (by decide) (fun hq19 => ?_) (fun hq19 => ?_)
                  · have hf := ite_f hf hq19
                    refine lv_aload C.1 C.2.1 dX7_copy_93 (lv_at hl 1 rfl) ?_
                    refine r_get C w inX7_copy_X4 4 rfl rfl 2 (by decide) lkX7_copy_212 rfl dX7_copy_95 ?_
                    refine lv_iload_n C.1 C.2.1 dX7_copy_98 rfl (lv_at hl 4 rfl) ?_
                    refine lv_aload C.1 C.2.1 dX7_copy_99 (lv_at hl 0 rfl) ?_
                    refine r_get C w inX7_copy_X4 4 rfl rfl 2 (by decide) lkX7_copy_212 rfl dX7_copy_101 ?_
                    refine lv_iload C.1 C.2.1 dX7_copy_104 (lv_at hl 6 rfl) ?_
                    refine lv_iload C.1 C.2.1 dX7_copy_106 (lv_at hl 7 rfl) ?_
                    obtain ⟨g20, hg21, hf⟩ := bd hf
                    refine r_copyl (ws' := (wX7_copy cI cL cS cH a_this a_this_now a_this_past a_this_kept a_this_keptPast a_this_plans a_this_plans_search_net a_this_tape a_this_sheets a_this_sheets_e a_this_sheets_items_e q_hasImage q_sheets_lane q_sheets_length (va_up q_sheets_items 1 g20))) C w hl.1 (by decide +kernel) (by decide +kernel) (by decide +kernel) (by decide +kernel) 5 5 1 rfl rfl rfl (cpy_in hg21) rfl (Nat.le_of_ble_eq_true rfl) (Nat.le_of_ble_eq_true rfl) dX7_copy_108 (fun H locs w => ?_)
                    refine lv_iload C.1 C.2.1 dX7_copy_111 (lv_at hl 7 rfl) ?_
                    have hres := Option.some.inj hf
                    subst hres
                    exact ret_i C hr hlocks w rfl dX7_copy_113
                  · have hf := ite_t hf hq19
                    refine lv_bipush (v := (-13 : Int32)) C.1 C.2.1 dX7_copy_90 (by decide) ?_
                    have hres := Option.some.inj hf
                    subst hres
                    exact ret_i C hr hlocks w rfl dX7_copy_92
              · have hf := ite_f hf hq13
                refine lv_bipush (v := (-12 : Int32)) C.1 C.2.1 dX7_copy_64 (by decide) ?_
                have hres := Option.some.inj hf
                subst hres
                exact ret_i C hr hlocks w rfl dX7_copy_66
            · have hf := ite_f hf hq12
              refine lv_bipush (v := (-11 : Int32)) C.1 C.2.1 dX7_copy_48 (by decide) ?_
              have hres := Option.some.inj hf
              subst hres
              exact ret_i C hr hlocks w rfl dX7_copy_50
        · refine r_aald (v := (a_this_sheets_e 2)) C w 1 3 rfl rfl (by rw [hx29]; exact ⟨inb_in (by decide), rfl⟩) dX7_copy_29 ?_
          refine lv_astore (lv' := [(7, .ref (a_this_sheets_e 2)), (6, .ref (a_this_sheets_e 1)), (0, .ref a_this), (1, .int x1), (2, .int x2), (3, .int x3), (4, .int x4), (5, .int x5)]) C.1 C.2.1 dX7_copy_30 hl (by decide) rfl (fun ls hl => ?_)
          refine lv_aload C.1 C.2.1 dX7_copy_32 (lv_at hl 1 rfl) ?_
          obtain ⟨r7, hc8, hf⟩ := bd hf
          refine call_Vi (ws' := (wX7_copy cI cL cS cH a_this a_this_now a_this_past a_this_kept a_this_keptPast a_this_plans a_this_plans_search_net a_this_tape a_this_sheets a_this_sheets_e a_this_sheets_items_e q_hasImage q_sheets_lane q_sheets_length q_sheets_items)) (rest := []) C w (mX4_isMissing l D cI cL cS cH _ (a_this_sheets_e 1) (a_this_sheets_items_e 1) (q_sheets_lane 1) (q_sheets_length 1) hc8) (cwV 0 C.2.2.2.2 gX7_copy_X4_isMissing rfl rfl rfl (by decide +kernel) ⟨Nat.le_of_ble_eq_true rfl, Nat.le_of_ble_eq_true rfl⟩) [4] [0, 1, 2, 3, 5, 6, 7, 8, 9] 10 ⟨rfl, trivial⟩ ⟨rfl, trivial⟩ ⟨⟨_, rfl, rfl⟩, ⟨_, rfl, rfl⟩, ⟨_, rfl, rfl⟩, ⟨_, rfl, rfl⟩, ⟨_, rfl, rfl⟩, ⟨_, rfl, rfl⟩, ⟨_, rfl, rfl⟩, ⟨_, rfl, rfl⟩, ⟨_, rfl, rfl⟩, trivial⟩ rfl (by decide) (by decide) (ci := 4) (q0 := 4) rfl rfl rfl hl.1 rfl (lv_room (Nat.le_of_ble_eq_true rfl)) dX7_copy_34 ⟨Nat.zero_le _, Nat.zero_le _⟩ (fun H locs w => ?_)
          refine lv_if_ne (tgt := 48) C.1 C.2.1 dX7_copy_37 (by decide) (fun hq9 => ?_) (fun hq9 => ?_)
          · have hf := ite_f hf hq9
            refine lv_bipush (v := (-11 : Int32)) C.1 C.2.1 dX7_copy_48 (by decide) ?_
            have hres := Option.some.inj hf
            subst hres
            exact ret_i C hr hlocks w rfl dX7_copy_50
          · have hf := ite_t hf hq9
            refine lv_aload C.1 C.2.1 dX7_copy_40 (lv_at hl 0 rfl) ?_
            obtain ⟨r10, hc11, hf⟩ := bd hf
            refine call_Vi (ws' := (wX7_copy cI cL cS cH a_this a_this_now a_this_past a_this_kept a_this_keptPast a_this_plans a_this_plans_search_net a_this_tape a_this_sheets a_this_sheets_e a_this_sheets_items_e q_hasImage q_sheets_lane q_sheets_length q_sheets_items)) (rest := []) C w (mX4_isMissing l D cI cL cS cH _ (a_this_sheets_e 2) (a_this_sheets_items_e 2) (q_sheets_lane 2) (q_sheets_length 2) hc11) (cwV 0 C.2.2.2.2 gX7_copy_X4_isMissing rfl rfl rfl (by decide +kernel) ⟨Nat.le_of_ble_eq_true rfl, Nat.le_of_ble_eq_true rfl⟩) [6] [0, 1, 2, 3, 4, 5, 7, 8, 9] 10 ⟨rfl, trivial⟩ ⟨rfl, trivial⟩ ⟨⟨_, rfl, rfl⟩, ⟨_, rfl, rfl⟩, ⟨_, rfl, rfl⟩, ⟨_, rfl, rfl⟩, ⟨_, rfl, rfl⟩, ⟨_, rfl, rfl⟩, ⟨_, rfl, rfl⟩, ⟨_, rfl, rfl⟩, ⟨_, rfl, rfl⟩, trivial⟩ rfl (by decide) (by decide) (ci := 4) (q0 := 6) rfl rfl rfl hl.1 rfl (lv_room (Nat.le_of_ble_eq_true rfl)) dX7_copy_42 ⟨Nat.zero_le _, Nat.zero_le _⟩ (fun H locs w => ?_)
            refine lv_if_eq (tgt := 51) C.1 C.2.1 dX7_copy_45 (by decide) (fun hq12 => ?_) (fun hq12 => ?_)
            · have hf := ite_t hf hq12
              refine lv_aload C.1 C.2.1 dX7_copy_51 (lv_at hl 1 rfl) ?_
              refine r_get C w inX7_copy_X4 4 rfl rfl 0 (by decide) lkX7_copy_231 rfl dX7_copy_53 ?_
              refine lv_aload C.1 C.2.1 dX7_copy_56 (lv_at hl 0 rfl) ?_
              refine r_get C w inX7_copy_X4 6 rfl rfl 0 (by decide) lkX7_copy_231 rfl dX7_copy_58 ?_
              refine lv_icmp_eq (tgt := 67) C.1 C.2.1 dX7_copy_61 (by decide) (fun hq13 => ?_) (fun hq13 => ?_)
              · have hf := ite_t hf hq13
                refine lv_aload C.1 C.2.1 dX7_copy_67 (lv_at hl 1 rfl) ?_
                refine lv_iload_n C.1 C.2.1 dX7_copy_69 rfl (lv_at hl 4 rfl) ?_
                refine lv_iload C.1 C.2.1 dX7_copy_70 (lv_at hl 7 rfl) ?_
                obtain ⟨r14, hc15, hf⟩ := bd hf
                refine call_Vi (ws' := (wX7_copy cI cL cS cH a_this a_this_now a_this_past a_this_kept a_this_keptPast a_this_plans a_this_plans_search_net a_this_tape a_this_sheets a_this_sheets_e a_this_sheets_items_e q_hasImage q_sheets_lane q_sheets_length q_sheets_items)) (rest := []) C w (mX4_holds l D cI cL cS cH _ (a_this_sheets_e 1) (a_this_sheets_items_e 1) (q_sheets_lane 1) (q_sheets_length 1) x2 x5 hc15) (cwV 2 C.2.2.2.2 gX7_copy_X4_holds rfl rfl rfl (by decide +kernel) ⟨Nat.le_of_ble_eq_true rfl, Nat.le_of_ble_eq_true rfl⟩) [4] [0, 1, 2, 3, 5, 6, 7, 8, 9] 10 ⟨rfl, trivial⟩ ⟨rfl, trivial⟩ ⟨⟨_, rfl, rfl⟩, ⟨_, rfl, rfl⟩, ⟨_, rfl, rfl⟩, ⟨_, rfl, rfl⟩, ⟨_, rfl, rfl⟩, ⟨_, rfl, rfl⟩, ⟨_, rfl, rfl⟩, ⟨_, rfl, rfl⟩, ⟨_, rfl, rfl⟩, trivial⟩ rfl (by decide) (by decide) (ci := 4) (q0 := 4) rfl rfl rfl hl.1 rfl (lv_room (Nat.le_of_ble_eq_true rfl)) dX7_copy_72 ⟨Nat.zero_le _, Nat.zero_le _⟩ (fun H locs w => ?_)
                refine lv_if_eq (tgt := 90) C.1 C.2.1 dX7_copy_75 (by decide) (fun hq16 => ?_) (fun hq16 => ?_)
                · have hf := ite_t hf hq16
                  refine lv_bipush (v := (-13 : Int32)) C.1 C.2.1 dX7_copy_90 (by decide) ?_
                  have hres := Option.some.inj hf
                  subst hres
                  exact ret_i C hr hlocks w rfl dX7_copy_92
                · have hf := ite_f hf hq16
                  refine lv_aload C.1 C.2.1 dX7_copy_78 (lv_at hl 0 rfl) ?_
                  refine lv_iload C.1 C.2.1 dX7_copy_80 (lv_at hl 6 rfl) ?_
                  refine lv_iload C.1 C.2.1 dX7_copy_82 (lv_at hl 7 rfl) ?_
                  obtain ⟨r17, hc18, hf⟩ := bd hf
                  refine call_Vi (ws' := (wX7_copy cI cL cS cH a_this a_this_now a_this_past a_this_kept a_this_keptPast a_this_plans a_this_plans_search_net a_this_tape a_this_sheets a_this_sheets_e a_this_sheets_items_e q_hasImage q_sheets_lane q_sheets_length q_sheets_items)) (rest := []) C w (mX4_holds l D cI cL cS cH _ (a_this_sheets_e 2) (a_this_sheets_items_e 2) (q_sheets_lane 2) (q_sheets_length 2) x4 x5 hc18) (cwV 2 C.2.2.2.2 gX7_copy_X4_holds rfl rfl rfl (by decide +kernel) ⟨Nat.le_of_ble_eq_true rfl, Nat.le_of_ble_eq_true rfl⟩) [6] [0, 1, 2, 3, 4, 5, 7, 8, 9] 10 ⟨rfl, trivial⟩ ⟨rfl, trivial⟩ ⟨⟨_, rfl, rfl⟩, ⟨_, rfl, rfl⟩, ⟨_, rfl, rfl⟩, ⟨_, rfl, rfl⟩, ⟨_, rfl, rfl⟩, ⟨_, rfl, rfl⟩, ⟨_, rfl, rfl⟩, ⟨_, rfl, rfl⟩, ⟨_, rfl, rfl⟩, trivial⟩ rfl (by decide) (by decide) (ci := 4) (q0 := 6) rfl rfl rfl hl.1 rfl (lv_room (Nat.le_of_ble_eq_true rfl)) dX7_copy_84 ⟨Nat.zero_le _, Nat.zero_le _⟩ (fun H locs w => ?_)
                  refine lv_if_ne (tgt := 93) C.1 C.2.1 dX7_copy_87 (by decide) (fun hq19 => ?_) (fun hq19 => ?_)
                  · have hf := ite_f hf hq19
                    refine lv_aload C.1 C.2.1 dX7_copy_93 (lv_at hl 1 rfl) ?_
                    refine r_get C w inX7_copy_X4 4 rfl rfl 2 (by decide) lkX7_copy_212 rfl dX7_copy_95 ?_
                    refine lv_iload_n C.1 C.2.1 dX7_copy_98 rfl (lv_at hl 4 rfl) ?_
                    refine lv_aload C.1 C.2.1 dX7_copy_99 (lv_at hl 0 rfl) ?_
                    refine r_get C w inX7_copy_X4 6 rfl rfl 2 (by decide) lkX7_copy_212 rfl dX7_copy_101 ?_
                    refine lv_iload C.1 C.2.1 dX7_copy_104 (lv_at hl 6 rfl) ?_
                    refine lv_iload C.1 C.2.1 dX7_copy_106 (lv_at hl 7 rfl) ?_
                    obtain ⟨g20, hg21, hf⟩ := bd hf
                    refine r_copyl (ws' := (wX7_copy cI cL cS cH a_this a_this_now a_this_past a_this_kept a_this_keptPast a_this_plans a_this_plans_search_net a_this_tape a_this_sheets a_this_sheets_e a_this_sheets_items_e q_hasImage q_sheets_lane q_sheets_length (va_up q_sheets_items 2 g20))) C w hl.1 (by decide +kernel) (by decide +kernel) (by decide +kernel) (by decide +kernel) 5 7 1 rfl rfl rfl (cpy_in hg21) rfl (Nat.le_of_ble_eq_true rfl) (Nat.le_of_ble_eq_true rfl) dX7_copy_108 (fun H locs w => ?_)
                    refine lv_iload C.1 C.2.1 dX7_copy_111 (lv_at hl 7 rfl) ?_
                    have hres := Option.some.inj hf
                    subst hres
                    exact ret_i C hr hlocks w rfl dX7_copy_113
                  · have hf := ite_t hf hq19
                    refine lv_bipush (v := (-13 : Int32)) C.1 C.2.1 dX7_copy_90 (by decide) ?_
                    have hres := Option.some.inj hf
                    subst hres
                    exact ret_i C hr hlocks w rfl dX7_copy_92
              · have hf := ite_f hf hq13
                refine lv_bipush (v := (-12 : Int32)) C.1 C.2.1 dX7_copy_64 (by decide) ?_
                have hres := Option.some.inj hf
                subst hres
                exact ret_i C hr hlocks w rfl dX7_copy_66
            · have hf := ite_f hf hq12
              refine lv_bipush (v := (-11 : Int32)) C.1 C.2.1 dX7_copy_48 (by decide) ?_
              have hres := Option.some.inj hf
              subst hres
              exact ret_i C hr hlocks w rfl dX7_copy_50
        · refine r_aald (v := (a_this_sheets_e 3)) C w 1 3 rfl rfl (by rw [hx29]; exact ⟨inb_in (by decide), rfl⟩) dX7_copy_29 ?_
          refine lv_astore (lv' := [(7, .ref (a_this_sheets_e 3)), (6, .ref (a_this_sheets_e 1)), (0, .ref a_this), (1, .int x1), (2, .int x2), (3, .int x3), (4, .int x4), (5, .int x5)]) C.1 C.2.1 dX7_copy_30 hl (by decide) rfl (fun ls hl => ?_)
          refine lv_aload C.1 C.2.1 dX7_copy_32 (lv_at hl 1 rfl) ?_
          obtain ⟨r7, hc8, hf⟩ := bd hf
          refine call_Vi (ws' := (wX7_copy cI cL cS cH a_this a_this_now a_this_past a_this_kept a_this_keptPast a_this_plans a_this_plans_search_net a_this_tape a_this_sheets a_this_sheets_e a_this_sheets_items_e q_hasImage q_sheets_lane q_sheets_length q_sheets_items)) (rest := []) C w (mX4_isMissing l D cI cL cS cH _ (a_this_sheets_e 1) (a_this_sheets_items_e 1) (q_sheets_lane 1) (q_sheets_length 1) hc8) (cwV 0 C.2.2.2.2 gX7_copy_X4_isMissing rfl rfl rfl (by decide +kernel) ⟨Nat.le_of_ble_eq_true rfl, Nat.le_of_ble_eq_true rfl⟩) [4] [0, 1, 2, 3, 5, 6, 7, 8, 9] 10 ⟨rfl, trivial⟩ ⟨rfl, trivial⟩ ⟨⟨_, rfl, rfl⟩, ⟨_, rfl, rfl⟩, ⟨_, rfl, rfl⟩, ⟨_, rfl, rfl⟩, ⟨_, rfl, rfl⟩, ⟨_, rfl, rfl⟩, ⟨_, rfl, rfl⟩, ⟨_, rfl, rfl⟩, ⟨_, rfl, rfl⟩, trivial⟩ rfl (by decide) (by decide) (ci := 4) (q0 := 4) rfl rfl rfl hl.1 rfl (lv_room (Nat.le_of_ble_eq_true rfl)) dX7_copy_34 ⟨Nat.zero_le _, Nat.zero_le _⟩ (fun H locs w => ?_)
          refine lv_if_ne (tgt := 48) C.1 C.2.1 dX7_copy_37 (by decide) (fun hq9 => ?_) (fun hq9 => ?_)
          · have hf := ite_f hf hq9
            refine lv_bipush (v := (-11 : Int32)) C.1 C.2.1 dX7_copy_48 (by decide) ?_
            have hres := Option.some.inj hf
            subst hres
            exact ret_i C hr hlocks w rfl dX7_copy_50
          · have hf := ite_t hf hq9
            refine lv_aload C.1 C.2.1 dX7_copy_40 (lv_at hl 0 rfl) ?_
            obtain ⟨r10, hc11, hf⟩ := bd hf
            refine call_Vi (ws' := (wX7_copy cI cL cS cH a_this a_this_now a_this_past a_this_kept a_this_keptPast a_this_plans a_this_plans_search_net a_this_tape a_this_sheets a_this_sheets_e a_this_sheets_items_e q_hasImage q_sheets_lane q_sheets_length q_sheets_items)) (rest := []) C w (mX4_isMissing l D cI cL cS cH _ (a_this_sheets_e 3) (a_this_sheets_items_e 3) (q_sheets_lane 3) (q_sheets_length 3) hc11) (cwV 0 C.2.2.2.2 gX7_copy_X4_isMissing rfl rfl rfl (by decide +kernel) ⟨Nat.le_of_ble_eq_true rfl, Nat.le_of_ble_eq_true rfl⟩) [8] [0, 1, 2, 3, 4, 5, 6, 7, 9] 10 ⟨rfl, trivial⟩ ⟨rfl, trivial⟩ ⟨⟨_, rfl, rfl⟩, ⟨_, rfl, rfl⟩, ⟨_, rfl, rfl⟩, ⟨_, rfl, rfl⟩, ⟨_, rfl, rfl⟩, ⟨_, rfl, rfl⟩, ⟨_, rfl, rfl⟩, ⟨_, rfl, rfl⟩, ⟨_, rfl, rfl⟩, trivial⟩ rfl (by decide) (by decide) (ci := 4) (q0 := 8) rfl rfl rfl hl.1 rfl (lv_room (Nat.le_of_ble_eq_true rfl)) dX7_copy_42 ⟨Nat.zero_le _, Nat.zero_le _⟩ (fun H locs w => ?_)
            refine lv_if_eq (tgt := 51) C.1 C.2.1 dX7_copy_45 (by decide) (fun hq12 => ?_) (fun hq12 => ?_)
            · have hf := ite_t hf hq12
              refine lv_aload C.1 C.2.1 dX7_copy_51 (lv_at hl 1 rfl) ?_
              refine r_get C w inX7_copy_X4 4 rfl rfl 0 (by decide) lkX7_copy_231 rfl dX7_copy_53 ?_
              refine lv_aload C.1 C.2.1 dX7_copy_56 (lv_at hl 0 rfl) ?_
              refine r_get C w inX7_copy_X4 8 rfl rfl 0 (by decide) lkX7_copy_231 rfl dX7_copy_58 ?_
              refine lv_icmp_eq (tgt := 67) C.1 C.2.1 dX7_copy_61 (by decide) (fun hq13 => ?_) (fun hq13 => ?_)
              · have hf := ite_t hf hq13
                refine lv_aload C.1 C.2.1 dX7_copy_67 (lv_at hl 1 rfl) ?_
                refine lv_iload_n C.1 C.2.1 dX7_copy_69 rfl (lv_at hl 4 rfl) ?_
                refine lv_iload C.1 C.2.1 dX7_copy_70 (lv_at hl 7 rfl) ?_
                obtain ⟨r14, hc15, hf⟩ := bd hf
                refine call_Vi (ws' := (wX7_copy cI cL cS cH a_this a_this_now a_this_past a_this_kept a_this_keptPast a_this_plans a_this_plans_search_net a_this_tape a_this_sheets a_this_sheets_e a_this_sheets_items_e q_hasImage q_sheets_lane q_sheets_length q_sheets_items)) (rest := []) C w (mX4_holds l D cI cL cS cH _ (a_this_sheets_e 1) (a_this_sheets_items_e 1) (q_sheets_lane 1) (q_sheets_length 1) x2 x5 hc15) (cwV 2 C.2.2.2.2 gX7_copy_X4_holds rfl rfl rfl (by decide +kernel) ⟨Nat.le_of_ble_eq_true rfl, Nat.le_of_ble_eq_true rfl⟩) [4] [0, 1, 2, 3, 5, 6, 7, 8, 9] 10 ⟨rfl, trivial⟩ ⟨rfl, trivial⟩ ⟨⟨_, rfl, rfl⟩, ⟨_, rfl, rfl⟩, ⟨_, rfl, rfl⟩, ⟨_, rfl, rfl⟩, ⟨_, rfl, rfl⟩, ⟨_, rfl, rfl⟩, ⟨_, rfl, rfl⟩, ⟨_, rfl, rfl⟩, ⟨_, rfl, rfl⟩, trivial⟩ rfl (by decide) (by decide) (ci := 4) (q0 := 4) rfl rfl rfl hl.1 rfl (lv_room (Nat.le_of_ble_eq_true rfl)) dX7_copy_72 ⟨Nat.zero_le _, Nat.zero_le _⟩ (fun H locs w => ?_)
                refine lv_if_eq (tgt := 90) C.1 C.2.1 dX7_copy_75 (by decide) (fun hq16 => ?_) (fun hq16 => ?_)
                · have hf := ite_t hf hq16
                  refine lv_bipush (v := (-13 : Int32)) C.1 C.2.1 dX7_copy_90 (by decide) ?_
                  have hres := Option.some.inj hf
                  subst hres
                  exact ret_i C hr hlocks w rfl dX7_copy_92
                · have hf := ite_f hf hq16
                  refine lv_aload C.1 C.2.1 dX7_copy_78 (lv_at hl 0 rfl) ?_
                  refine lv_iload C.1 C.2.1 dX7_copy_80 (lv_at hl 6 rfl) ?_
                  refine lv_iload C.1 C.2.1 dX7_copy_82 (lv_at hl 7 rfl) ?_
                  obtain ⟨r17, hc18, hf⟩ := bd hf
                  refine call_Vi (ws' := (wX7_copy cI cL cS cH a_this a_this_now a_this_past a_this_kept a_this_keptPast a_this_plans a_this_plans_search_net a_this_tape a_this_sheets a_this_sheets_e a_this_sheets_items_e q_hasImage q_sheets_lane q_sheets_length q_sheets_items)) (rest := []) C w (mX4_holds l D cI cL cS cH _ (a_this_sheets_e 3) (a_this_sheets_items_e 3) (q_sheets_lane 3) (q_sheets_length 3) x4 x5 hc18) (cwV 2 C.2.2.2.2 gX7_copy_X4_holds rfl rfl rfl (by decide +kernel) ⟨Nat.le_of_ble_eq_true rfl, Nat.le_of_ble_eq_true rfl⟩) [8] [0, 1, 2, 3, 4, 5, 6, 7, 9] 10 ⟨rfl, trivial⟩ ⟨rfl, trivial⟩ ⟨⟨_, rfl, rfl⟩, ⟨_, rfl, rfl⟩, ⟨_, rfl, rfl⟩, ⟨_, rfl, rfl⟩, ⟨_, rfl, rfl⟩, ⟨_, rfl, rfl⟩, ⟨_, rfl, rfl⟩, ⟨_, rfl, rfl⟩, ⟨_, rfl, rfl⟩, trivial⟩ rfl (by decide) (by decide) (ci := 4) (q0 := 8) rfl rfl rfl hl.1 rfl (lv_room (Nat.le_of_ble_eq_true rfl)) dX7_copy_84 ⟨Nat.zero_le _, Nat.zero_le _⟩ (fun H locs w => ?_)
                  refine lv_if_ne (tgt := 93) C.1 C.2.1 dX7_copy_87 (by decide) (fun hq19 => ?_) (fun hq19 => ?_)
                  · have hf := ite_f hf hq19
                    refine lv_aload C.1 C.2.1 dX7_copy_93 (lv_at hl 1 rfl) ?_
                    refine r_get C w inX7_copy_X4 4 rfl rfl 2 (by decide) lkX7_copy_212 rfl dX7_copy_95 ?_
                    refine lv_iload_n C.1 C.2.1 dX7_copy_98 rfl (lv_at hl 4 rfl) ?_
                    refine lv_aload C.1 C.2.1 dX7_copy_99 (lv_at hl 0 rfl) ?_
                    refine r_get C w inX7_copy_X4 8 rfl rfl 2 (by decide) lkX7_copy_212 rfl dX7_copy_101 ?_
                    refine lv_iload C.1 C.2.1 dX7_copy_104 (lv_at hl 6 rfl) ?_
                    refine lv_iload C.1 C.2.1 dX7_copy_106 (lv_at hl 7 rfl) ?_
                    obtain ⟨g20, hg21, hf⟩ := bd hf
                    refine r_copyl (ws' := (wX7_copy cI cL cS cH a_this a_this_now a_this_past a_this_kept a_this_keptPast a_this_plans a_this_plans_search_net a_this_tape a_this_sheets a_this_sheets_e a_this_sheets_items_e q_hasImage q_sheets_lane q_sheets_length (va_up q_sheets_items 3 g20))) C w hl.1 (by decide +kernel) (by decide +kernel) (by decide +kernel) (by decide +kernel) 5 9 1 rfl rfl rfl (cpy_in hg21) rfl (Nat.le_of_ble_eq_true rfl) (Nat.le_of_ble_eq_true rfl) dX7_copy_108 (fun H locs w => ?_)
                    refine lv_iload C.1 C.2.1 dX7_copy_111 (lv_at hl 7 rfl) ?_
                    have hres := Option.some.inj hf
                    subst hres
                    exact ret_i C hr hlocks w rfl dX7_copy_113
                  · have hf := ite_t hf hq19
                    refine lv_bipush (v := (-13 : Int32)) C.1 C.2.1 dX7_copy_90 (by decide) ?_
                    have hres := Option.some.inj hf
                    subst hres
                    exact ret_i C hr hlocks w rfl dX7_copy_92
              · have hf := ite_f hf hq13
                refine lv_bipush (v := (-12 : Int32)) C.1 C.2.1 dX7_copy_64 (by decide) ?_
                have hres := Option.some.inj hf
                subst hres
                exact ret_i C hr hlocks w rfl dX7_copy_66
            · have hf := ite_f hf hq12
              refine lv_bipush (v := (-11 : Int32)) C.1 C.2.1 dX7_copy_48 (by decide) ?_
              have hres := Option.some.inj hf
              subst hres
              exact ret_i C hr hlocks w rfl dX7_copy_50
      · refine r_aald (v := (a_this_sheets_e 2)) C w 1 3 rfl rfl (by rw [hx21]; exact ⟨inb_in (by decide), rfl⟩) dX7_copy_21 ?_
        refine lv_astore (lv' := [(6, .ref (a_this_sheets_e 2)), (0, .ref a_this), (1, .int x1), (2, .int x2), (3, .int x3), (4, .int x4), (5, .int x5)]) C.1 C.2.1 dX7_copy_22 hl (by decide) rfl (fun ls hl => ?_)
        refine lv_aload_n C.1 C.2.1 dX7_copy_24 rfl (lv_at hl 1 rfl) ?_
        refine r_get C w inX7_copy_X7 0 rfl rfl 8 (by decide) lkX7_copy_54 rfl dX7_copy_25 ?_
        refine lv_iload_n C.1 C.2.1 dX7_copy_28 rfl (lv_at hl 4 rfl) ?_
        rcases sel4_in hf with ⟨hx29, hf⟩ | ⟨hx29, hf⟩ | ⟨hx29, hf⟩ | ⟨hx29, hf⟩
        · refine r_aald (v := (a_this_sheets_e 0)) C w 1 3 rfl rfl (by rw [hx29]; exact ⟨inb_in (by decide), rfl⟩) dX7_copy_29 ?_
          refine lv_astore (lv' := [(7, .ref (a_this_sheets_e 0)), (6, .ref (a_this_sheets_e 2)), (0, .ref a_this), (1, .int x1), (2, .int x2), (3, .int x3), (4, .int x4), (5, .int x5)]) C.1 C.2.1 dX7_copy_30 hl (by decide) rfl (fun ls hl => ?_)
          refine lv_aload C.1 C.2.1 dX7_copy_32 (lv_at hl 1 rfl) ?_
          obtain ⟨r7, hc8, hf⟩ := bd hf
          refine call_Vi (ws' := (wX7_copy cI cL cS cH a_this a_this_now a_this_past a_this_kept a_this_keptPast a_this_plans a_this_plans_search_net a_this_tape a_this_sheets a_this_sheets_e a_this_sheets_items_e q_hasImage q_sheets_lane q_sheets_length q_sheets_items)) (rest := []) C w (mX4_isMissing l D cI cL cS cH _ (a_this_sheets_e 2) (a_this_sheets_items_e 2) (q_sheets_lane 2) (q_sheets_length 2) hc8) (cwV 0 C.2.2.2.2 gX7_copy_X4_isMissing rfl rfl rfl (by decide +kernel) ⟨Nat.le_of_ble_eq_true rfl, Nat.le_of_ble_eq_true rfl⟩) [6] [0, 1, 2, 3, 4, 5, 7, 8, 9] 10 ⟨rfl, trivial⟩ ⟨rfl, trivial⟩ ⟨⟨_, rfl, rfl⟩, ⟨_, rfl, rfl⟩, ⟨_, rfl, rfl⟩, ⟨_, rfl, rfl⟩, ⟨_, rfl, rfl⟩, ⟨_, rfl, rfl⟩, ⟨_, rfl, rfl⟩, ⟨_, rfl, rfl⟩, ⟨_, rfl, rfl⟩, trivial⟩ rfl (by decide) (by decide) (ci := 4) (q0 := 6) rfl rfl rfl hl.1 rfl (lv_room (Nat.le_of_ble_eq_true rfl)) dX7_copy_34 ⟨Nat.zero_le _, Nat.zero_le _⟩ (fun H locs w => ?_)
          refine lv_if_ne (tgt := 48) C.1 C.2.1 dX7_copy_37 (by decide) (fun hq9 => ?_) (fun hq9 => ?_)
          · have hf := ite_f hf hq9
            refine lv_bipush (v := (-11 : Int32)) C.1 C.2.1 dX7_copy_48 (by decide) ?_
            have hres := Option.some.inj hf
            subst hres
            exact ret_i C hr hlocks w rfl dX7_copy_50
          · have hf := ite_t hf hq9
            refine lv_aload C.1 C.2.1 dX7_copy_40 (lv_at hl 0 rfl) ?_
            obtain ⟨r10, hc11, hf⟩ := bd hf
            refine call_Vi (ws' := (wX7_copy cI cL cS cH a_this a_this_now a_this_past a_this_kept a_this_keptPast a_this_plans a_this_plans_search_net a_this_tape a_this_sheets a_this_sheets_e a_this_sheets_items_e q_hasImage q_sheets_lane q_sheets_length q_sheets_items)) (rest := []) C w (mX4_isMissing l D cI cL cS cH _ (a_this_sheets_e 0) (a_this_sheets_items_e 0) (q_sheets_lane 0) (q_sheets_length 0) hc11) (cwV 0 C.2.2.2.2 gX7_copy_X4_isMissing rfl rfl rfl (by decide +kernel) ⟨Nat.le_of_ble_eq_true rfl, Nat.le_of_ble_eq_true rfl⟩) [2] [0, 1, 3, 4, 5, 6, 7, 8, 9] 10 ⟨rfl, trivial⟩ ⟨rfl, trivial⟩ ⟨⟨_, rfl, rfl⟩, ⟨_, rfl, rfl⟩, ⟨_, rfl, rfl⟩, ⟨_, rfl, rfl⟩, ⟨_, rfl, rfl⟩, ⟨_, rfl, rfl⟩, ⟨_, rfl, rfl⟩, ⟨_, rfl, rfl⟩, ⟨_, rfl, rfl⟩, trivial⟩ rfl (by decide) (by decide) (ci := 4) (q0 := 2) rfl rfl rfl hl.1 rfl (lv_room (Nat.le_of_ble_eq_true rfl)) dX7_copy_42 ⟨Nat.zero_le _, Nat.zero_le _⟩ (fun H locs w => ?_)
            refine lv_if_eq (tgt := 51) C.1 C.2.1 dX7_copy_45 (by decide) (fun hq12 => ?_) (fun hq12 => ?_)
            · have hf := ite_t hf hq12
              refine lv_aload C.1 C.2.1 dX7_copy_51 (lv_at hl 1 rfl) ?_
              refine r_get C w inX7_copy_X4 6 rfl rfl 0 (by decide) lkX7_copy_231 rfl dX7_copy_53 ?_
              refine lv_aload C.1 C.2.1 dX7_copy_56 (lv_at hl 0 rfl) ?_
              refine r_get C w inX7_copy_X4 2 rfl rfl 0 (by decide) lkX7_copy_231 rfl dX7_copy_58 ?_
              refine lv_icmp_eq (tgt := 67) C.1 C.2.1 dX7_copy_61 (by decide) (fun hq13 => ?_) (fun hq13 => ?_)
              · have hf := ite_t hf hq13
                refine lv_aload C.1 C.2.1 dX7_copy_67 (lv_at hl 1 rfl) ?_
                refine lv_iload_n C.1 C.2.1 dX7_copy_69 rfl (lv_at hl 4 rfl) ?_
                refine lv_iload C.1 C.2.1 dX7_copy_70 (lv_at hl 7 rfl) ?_
                obtain ⟨r14, hc15, hf⟩ := bd hf
                refine call_Vi (ws' := (wX7_copy cI cL cS cH a_this a_this_now a_this_past a_this_kept a_this_keptPast a_this_plans a_this_plans_search_net a_this_tape a_this_sheets a_this_sheets_e a_this_sheets_items_e q_hasImage q_sheets_lane q_sheets_length q_sheets_items)) (rest := []) C w (mX4_holds l D cI cL cS cH _ (a_this_sheets_e 2) (a_this_sheets_items_e 2) (q_sheets_lane 2) (q_sheets_length 2) x2 x5 hc15) (cwV 2 C.2.2.2.2 gX7_copy_X4_holds rfl rfl rfl (by decide +kernel) ⟨Nat.le_of_ble_eq_true rfl, Nat.le_of_ble_eq_true rfl⟩) [6] [0, 1, 2, 3, 4, 5, 7, 8, 9] 10 ⟨rfl, trivial⟩ ⟨rfl, trivial⟩ ⟨⟨_, rfl, rfl⟩, ⟨_, rfl, rfl⟩, ⟨_, rfl, rfl⟩, ⟨_, rfl, rfl⟩, ⟨_, rfl, rfl⟩, ⟨_, rfl, rfl⟩, ⟨_, rfl, rfl⟩, ⟨_, rfl, rfl⟩, ⟨_, rfl, rfl⟩, trivial⟩ rfl (by decide) (by decide) (ci := 4) (q0 := 6) rfl rfl rfl hl.1 rfl (lv_room (Nat.le_of_ble_eq_true rfl)) dX7_copy_72 ⟨Nat.zero_le _, Nat.zero_le _⟩ (fun H locs w => ?_)
                refine lv_if_eq (tgt := 90) C.1 C.2.1 dX7_copy_75 (by decide) (fun hq16 => ?_) (fun hq16 => ?_)
                · have hf := ite_t hf hq16
                  refine lv_bipush (v := (-13 : Int32)) C.1 C.2.1 dX7_copy_90 (by decide) ?_
                  have hres := Option.some.inj hf
                  subst hres
                  exact ret_i C hr hlocks w rfl dX7_copy_92
                · have hf := ite_f hf hq16
                  refine lv_aload C.1 C.2.1 dX7_copy_78 (lv_at hl 0 rfl) ?_
                  refine lv_iload C.1 C.2.1 dX7_copy_80 (lv_at hl 6 rfl) ?_
                  refine lv_iload C.1 C.2.1 dX7_copy_82 (lv_at hl 7 rfl) ?_
                  obtain ⟨r17, hc18, hf⟩ := bd hf
                  refine call_Vi (ws' := (wX7_copy cI cL cS cH a_this a_this_now a_this_past a_this_kept a_this_keptPast a_this_plans a_this_plans_search_net a_this_tape a_this_sheets a_this_sheets_e a_this_sheets_items_e q_hasImage q_sheets_lane q_sheets_length q_sheets_items)) (rest := []) C w (mX4_holds l D cI cL cS cH _ (a_this_sheets_e 0) (a_this_sheets_items_e 0) (q_sheets_lane 0) (q_sheets_length 0) x4 x5 hc18) (cwV 2 C.2.2.2.2 gX7_copy_X4_holds rfl rfl rfl (by decide +kernel) ⟨Nat.le_of_ble_eq_true rfl, Nat.le_of_ble_eq_true rfl⟩) [2] [0, 1, 3, 4, 5, 6, 7, 8, 9] 10 ⟨rfl, trivial⟩ ⟨rfl, trivial⟩ ⟨⟨_, rfl, rfl⟩, ⟨_, rfl, rfl⟩, ⟨_, rfl, rfl⟩, ⟨_, rfl, rfl⟩, ⟨_, rfl, rfl⟩, ⟨_, rfl, rfl⟩, ⟨_, rfl, rfl⟩, ⟨_, rfl, rfl⟩, ⟨_, rfl, rfl⟩, trivial⟩ rfl (by decide) (by decide) (ci := 4) (q0 := 2) rfl rfl rfl hl.1 rfl (lv_room (Nat.le_of_ble_eq_true rfl)) dX7_copy_84 ⟨Nat.zero_le _, Nat.zero_le _⟩ (fun H locs w => ?_)
                  refine lv_if_ne (tgt := 93) C.1 C.2.1 dX7_copy_87 (by decide) (fun hq19 => ?_) (fun hq19 => ?_)
                  · have hf := ite_f hf hq19
                    refine lv_aload C.1 C.2.1 dX7_copy_93 (lv_at hl 1 rfl) ?_
                    refine r_get C w inX7_copy_X4 6 rfl rfl 2 (by decide) lkX7_copy_212 rfl dX7_copy_95 ?_
                    refine lv_iload_n C.1 C.2.1 dX7_copy_98 rfl (lv_at hl 4 rfl) ?_
                    refine lv_aload C.1 C.2.1 dX7_copy_99 (lv_at hl 0 rfl) ?_
                    refine r_get C w inX7_copy_X4 2 rfl rfl 2 (by decide) lkX7_copy_212 rfl dX7_copy_101 ?_
                    refine lv_iload C.1 C.2.1 dX7_copy_104 (lv_at hl 6 rfl) ?_
                    refine lv_iload C.1 C.2.1 dX7_copy_106 (lv_at hl 7 rfl) ?_
                    obtain ⟨g20, hg21, hf⟩ := bd hf
                    refine r_copyl (ws' := (wX7_copy cI cL cS cH a_this a_this_now a_this_past a_this_kept a_this_keptPast a_this_plans a_this_plans_search_net a_this_tape a_this_sheets a_this_sheets_e a_this_sheets_items_e q_hasImage q_sheets_lane q_sheets_length (va_up q_sheets_items 0 g20))) C w hl.1 (by decide +kernel) (by decide +kernel) (by decide +kernel) (by decide +kernel) 7 3 1 rfl rfl rfl (cpy_in hg21) rfl (Nat.le_of_ble_eq_true rfl) (Nat.le_of_ble_eq_true rfl) dX7_copy_108 (fun H locs w => ?_)
                    refine lv_iload C.1 C.2.1 dX7_copy_111 (lv_at hl 7 rfl) ?_
                    have hres := Option.some.inj hf
                    subst hres
                    exact ret_i C hr hlocks w rfl dX7_copy_113
                  · have hf := ite_t hf hq19
                    refine lv_bipush (v := (-13 : Int32)) C.1 C.2.1 dX7_copy_90 (by decide) ?_
                    have hres := Option.some.inj hf
                    subst hres
                    exact ret_i C hr hlocks w rfl dX7_copy_92
              · have hf := ite_f hf hq13
                refine lv_bipush (v := (-12 : Int32)) C.1 C.2.1 dX7_copy_64 (by decide) ?_
                have hres := Option.some.inj hf
                subst hres
                exact ret_i C hr hlocks w rfl dX7_copy_66
            · have hf := ite_f hf hq12
              refine lv_bipush (v := (-11 : Int32)) C.1 C.2.1 dX7_copy_48 (by decide) ?_
              have hres := Option.some.inj hf
              subst hres
              exact ret_i C hr hlocks w rfl dX7_copy_50
        · refine r_aald (v := (a_this_sheets_e 1)) C w 1 3 rfl rfl (by rw [hx29]; exact ⟨inb_in (by decide), rfl⟩) dX7_copy_29 ?_
          refine lv_astore (lv' := [(7, .ref (a_this_sheets_e 1)), (6, .ref (a_this_sheets_e 2)), (0, .ref a_this), (1, .int x1), (2, .int x2), (3, .int x3), (4, .int x4), (5, .int x5)]) C.1 C.2.1 dX7_copy_30 hl (by decide) rfl (fun ls hl => ?_)
          refine lv_aload C.1 C.2.1 dX7_copy_32 (lv_at hl 1 rfl) ?_
          obtain ⟨r7, hc8, hf⟩ := bd hf
          refine call_Vi (ws' := (wX7_copy cI cL cS cH a_this a_this_now a_this_past a_this_kept a_this_keptPast a_this_plans a_this_plans_search_net a_this_tape a_this_sheets a_this_sheets_e a_this_sheets_items_e q_hasImage q_sheets_lane q_sheets_length q_sheets_items)) (rest := []) C w (mX4_isMissing l D cI cL cS cH _ (a_this_sheets_e 2) (a_this_sheets_items_e 2) (q_sheets_lane 2) (q_sheets_length 2) hc8) (cwV 0 C.2.2.2.2 gX7_copy_X4_isMissing rfl rfl rfl (by decide +kernel) ⟨Nat.le_of_ble_eq_true rfl, Nat.le_of_ble_eq_true rfl⟩) [6] [0, 1, 2, 3, 4, 5, 7, 8, 9] 10 ⟨rfl, trivial⟩ ⟨rfl, trivial⟩ ⟨⟨_, rfl, rfl⟩, ⟨_, rfl, rfl⟩, ⟨_, rfl, rfl⟩, ⟨_, rfl, rfl⟩, ⟨_, rfl, rfl⟩, ⟨_, rfl, rfl⟩, ⟨_, rfl, rfl⟩, ⟨_, rfl, rfl⟩, ⟨_, rfl, rfl⟩, trivial⟩ rfl (by decide) (by decide) (ci := 4) (q0 := 6) rfl rfl rfl hl.1 rfl (lv_room (Nat.le_of_ble_eq_true rfl)) dX7_copy_34 ⟨Nat.zero_le _, Nat.zero_le _⟩ (fun H locs w => ?_)
          refine lv_if_ne (tgt := 48) C.1 C.2.1 dX7_copy_37 (by decide) (fun hq9 => ?_) (fun hq9 => ?_)
          · have hf := ite_f hf hq9
            refine lv_bipush (v := (-11 : Int32)) C.1 C.2.1 dX7_copy_48 (by decide) ?_
            have hres := Option.some.inj hf
            subst hres
            exact ret_i C hr hlocks w rfl dX7_copy_50
          · have hf := ite_t hf hq9
            refine lv_aload C.1 C.2.1 dX7_copy_40 (lv_at hl 0 rfl) ?_
            obtain ⟨r10, hc11, hf⟩ := bd hf
            refine call_Vi (ws' := (wX7_copy cI cL cS cH a_this a_this_now a_this_past a_this_kept a_this_keptPast a_this_plans a_this_plans_search_net a_this_tape a_this_sheets a_this_sheets_e a_this_sheets_items_e q_hasImage q_sheets_lane q_sheets_length q_sheets_items)) (rest := []) C w (mX4_isMissing l D cI cL cS cH _ (a_this_sheets_e 1) (a_this_sheets_items_e 1) (q_sheets_lane 1) (q_sheets_length 1) hc11) (cwV 0 C.2.2.2.2 gX7_copy_X4_isMissing rfl rfl rfl (by decide +kernel) ⟨Nat.le_of_ble_eq_true rfl, Nat.le_of_ble_eq_true rfl⟩) [4] [0, 1, 2, 3, 5, 6, 7, 8, 9] 10 ⟨rfl, trivial⟩ ⟨rfl, trivial⟩ ⟨⟨_, rfl, rfl⟩, ⟨_, rfl, rfl⟩, ⟨_, rfl, rfl⟩, ⟨_, rfl, rfl⟩, ⟨_, rfl, rfl⟩, ⟨_, rfl, rfl⟩, ⟨_, rfl, rfl⟩, ⟨_, rfl, rfl⟩, ⟨_, rfl, rfl⟩, trivial⟩ rfl (by decide) (by decide) (ci := 4) (q0 := 4) rfl rfl rfl hl.1 rfl (lv_room (Nat.le_of_ble_eq_true rfl)) dX7_copy_42 ⟨Nat.zero_le _, Nat.zero_le _⟩ (fun H locs w => ?_)
            refine lv_if_eq (tgt := 51) C.1 C.2.1 dX7_copy_45 (by decide) (fun hq12 => ?_) (fun hq12 => ?_)
            · have hf := ite_t hf hq12
              refine lv_aload C.1 C.2.1 dX7_copy_51 (lv_at hl 1 rfl) ?_
              refine r_get C w inX7_copy_X4 6 rfl rfl 0 (by decide) lkX7_copy_231 rfl dX7_copy_53 ?_
              refine lv_aload C.1 C.2.1 dX7_copy_56 (lv_at hl 0 rfl) ?_
              refine r_get C w inX7_copy_X4 4 rfl rfl 0 (by decide) lkX7_copy_231 rfl dX7_copy_58 ?_
              refine lv_icmp_eq (tgt := 67) C.1 C.2.1 dX7_copy_61 (by decide) (fun hq13 => ?_) (fun hq13 => ?_)
              · have hf := ite_t hf hq13
                refine lv_aload C.1 C.2.1 dX7_copy_67 (lv_at hl 1 rfl) ?_
                refine lv_iload_n C.1 C.2.1 dX7_copy_69 rfl (lv_at hl 4 rfl) ?_
                refine lv_iload C.1 C.2.1 dX7_copy_70 (lv_at hl 7 rfl) ?_
                obtain ⟨r14, hc15, hf⟩ := bd hf
                refine call_Vi (ws' := (wX7_copy cI cL cS cH a_this a_this_now a_this_past a_this_kept a_this_keptPast a_this_plans a_this_plans_search_net a_this_tape a_this_sheets a_this_sheets_e a_this_sheets_items_e q_hasImage q_sheets_lane q_sheets_length q_sheets_items)) (rest := []) C w (mX4_holds l D cI cL cS cH _ (a_this_sheets_e 2) (a_this_sheets_items_e 2) (q_sheets_lane 2) (q_sheets_length 2) x2 x5 hc15) (cwV 2 C.2.2.2.2 gX7_copy_X4_holds rfl rfl rfl (by decide +kernel) ⟨Nat.le_of_ble_eq_true rfl, Nat.le_of_ble_eq_true rfl⟩) [6] [0, 1, 2, 3, 4, 5, 7, 8, 9] 10 ⟨rfl, trivial⟩ ⟨rfl, trivial⟩ ⟨⟨_, rfl, rfl⟩, ⟨_, rfl, rfl⟩, ⟨_, rfl, rfl⟩, ⟨_, rfl, rfl⟩, ⟨_, rfl, rfl⟩, ⟨_, rfl, rfl⟩, ⟨_, rfl, rfl⟩, ⟨_, rfl, rfl⟩, ⟨_, rfl, rfl⟩, trivial⟩ rfl (by decide) (by decide) (ci := 4) (q0 := 6) rfl rfl rfl hl.1 rfl (lv_room (Nat.le_of_ble_eq_true rfl)) dX7_copy_72 ⟨Nat.zero_le _, Nat.zero_le _⟩ (fun H locs w => ?_)
                refine lv_if_eq (tgt := 90) C.1 C.2.1 dX7_copy_75 (by decide) (fun hq16 => ?_) (fun hq16 => ?_)
                · have hf := ite_t hf hq16
                  refine lv_bipush (v := (-13 : Int32)) C.1 C.2.1 dX7_copy_90 (by decide) ?_
                  have hres := Option.some.inj hf
                  subst hres
                  exact ret_i C hr hlocks w rfl dX7_copy_92
                · have hf := ite_f hf hq16
                  refine lv_aload C.1 C.2.1 dX7_copy_78 (lv_at hl 0 rfl) ?_
                  refine lv_iload C.1 C.2.1 dX7_copy_80 (lv_at hl 6 rfl) ?_
                  refine lv_iload C.1 C.2.1 dX7_copy_82 (lv_at hl 7 rfl) ?_
                  obtain ⟨r17, hc18, hf⟩ := bd hf
                  refine call_Vi (ws' := (wX7_copy cI cL cS cH a_this a_this_now a_this_past a_this_kept a_this_keptPast a_this_plans a_this_plans_search_net a_this_tape a_this_sheets a_this_sheets_e a_this_sheets_items_e q_hasImage q_sheets_lane q_sheets_length q_sheets_items)) (rest := []) C w (mX4_holds l D cI cL cS cH _ (a_this_sheets_e 1) (a_this_sheets_items_e 1) (q_sheets_lane 1) (q_sheets_length 1) x4 x5 hc18) (cwV 2 C.2.2.2.2 gX7_copy_X4_holds rfl rfl rfl (by decide +kernel) ⟨Nat.le_of_ble_eq_true rfl, Nat.le_of_ble_eq_true rfl⟩) [4] [0, 1, 2, 3, 5, 6, 7, 8, 9] 10 ⟨rfl, trivial⟩ ⟨rfl, trivial⟩ ⟨⟨_, rfl, rfl⟩, ⟨_, rfl, rfl⟩, ⟨_, rfl, rfl⟩, ⟨_, rfl, rfl⟩, ⟨_, rfl, rfl⟩, ⟨_, rfl, rfl⟩, ⟨_, rfl, rfl⟩, ⟨_, rfl, rfl⟩, ⟨_, rfl, rfl⟩, trivial⟩ rfl (by decide) (by decide) (ci := 4) (q0 := 4) rfl rfl rfl hl.1 rfl (lv_room (Nat.le_of_ble_eq_true rfl)) dX7_copy_84 ⟨Nat.zero_le _, Nat.zero_le _⟩ (fun H locs w => ?_)
                  refine lv_if_ne (tgt := 93) C.1 C.2.1 dX7_copy_87 (by decide) (fun hq19 => ?_) (fun hq19 => ?_)
                  · have hf := ite_f hf hq19
                    refine lv_aload C.1 C.2.1 dX7_copy_93 (lv_at hl 1 rfl) ?_
                    refine r_get C w inX7_copy_X4 6 rfl rfl 2 (by decide) lkX7_copy_212 rfl dX7_copy_95 ?_
                    refine lv_iload_n C.1 C.2.1 dX7_copy_98 rfl (lv_at hl 4 rfl) ?_
                    refine lv_aload C.1 C.2.1 dX7_copy_99 (lv_at hl 0 rfl) ?_
                    refine r_get C w inX7_copy_X4 4 rfl rfl 2 (by decide) lkX7_copy_212 rfl dX7_copy_101 ?_
                    refine lv_iload C.1 C.2.1 dX7_copy_104 (lv_at hl 6 rfl) ?_
                    refine lv_iload C.1 C.2.1 dX7_copy_106 (lv_at hl 7 rfl) ?_
                    obtain ⟨g20, hg21, hf⟩ := bd hf
                    refine r_copyl (ws' := (wX7_copy cI cL cS cH a_this a_this_now a_this_past a_this_kept a_this_keptPast a_this_plans a_this_plans_search_net a_this_tape a_this_sheets a_this_sheets_e a_this_sheets_items_e q_hasImage q_sheets_lane q_sheets_length (va_up q_sheets_items 1 g20))) C w hl.1 (by decide +kernel) (by decide +kernel) (by decide +kernel) (by decide +kernel) 7 5 1 rfl rfl rfl (cpy_in hg21) rfl (Nat.le_of_ble_eq_true rfl) (Nat.le_of_ble_eq_true rfl) dX7_copy_108 (fun H locs w => ?_)
                    refine lv_iload C.1 C.2.1 dX7_copy_111 (lv_at hl 7 rfl) ?_
                    have hres := Option.some.inj hf
                    subst hres
                    exact ret_i C hr hlocks w rfl dX7_copy_113
                  · have hf := ite_t hf hq19
                    refine lv_bipush (v := (-13 : Int32)) C.1 C.2.1 dX7_copy_90 (by decide) ?_
                    have hres := Option.some.inj hf
                    subst hres
                    exact ret_i C hr hlocks w rfl dX7_copy_92
              · have hf := ite_f hf hq13
                refine lv_bipush (v := (-12 : Int32)) C.1 C.2.1 dX7_copy_64 (by decide) ?_
                have hres := Option.some.inj hf
                subst hres
                exact ret_i C hr hlocks w rfl dX7_copy_66
            · have hf := ite_f hf hq12
              refine lv_bipush (v := (-11 : Int32)) C.1 C.2.1 dX7_copy_48 (by decide) ?_
              have hres := Option.some.inj hf
              subst hres
              exact ret_i C hr hlocks w rfl dX7_copy_50
        · refine r_aald (v := (a_this_sheets_e 2)) C w 1 3 rfl rfl (by rw [hx29]; exact ⟨inb_in (by decide), rfl⟩) dX7_copy_29 ?_
          refine lv_astore (lv' := [(7, .ref (a_this_sheets_e 2)), (6, .ref (a_this_sheets_e 2)), (0, .ref a_this), (1, .int x1), (2, .int x2), (3, .int x3), (4, .int x4), (5, .int x5)]) C.1 C.2.1 dX7_copy_30 hl (by decide) rfl (fun ls hl => ?_)
          refine lv_aload C.1 C.2.1 dX7_copy_32 (lv_at hl 1 rfl) ?_
          obtain ⟨r7, hc8, hf⟩ := bd hf
          refine call_Vi (ws' := (wX7_copy cI cL cS cH a_this a_this_now a_this_past a_this_kept a_this_keptPast a_this_plans a_this_plans_search_net a_this_tape a_this_sheets a_this_sheets_e a_this_sheets_items_e q_hasImage q_sheets_lane q_sheets_length q_sheets_items)) (rest := []) C w (mX4_isMissing l D cI cL cS cH _ (a_this_sheets_e 2) (a_this_sheets_items_e 2) (q_sheets_lane 2) (q_sheets_length 2) hc8) (cwV 0 C.2.2.2.2 gX7_copy_X4_isMissing rfl rfl rfl (by decide +kernel) ⟨Nat.le_of_ble_eq_true rfl, Nat.le_of_ble_eq_true rfl⟩) [6] [0, 1, 2, 3, 4, 5, 7, 8, 9] 10 ⟨rfl, trivial⟩ ⟨rfl, trivial⟩ ⟨⟨_, rfl, rfl⟩, ⟨_, rfl, rfl⟩, ⟨_, rfl, rfl⟩, ⟨_, rfl, rfl⟩, ⟨_, rfl, rfl⟩, ⟨_, rfl, rfl⟩, ⟨_, rfl, rfl⟩, ⟨_, rfl, rfl⟩, ⟨_, rfl, rfl⟩, trivial⟩ rfl (by decide) (by decide) (ci := 4) (q0 := 6) rfl rfl rfl hl.1 rfl (lv_room (Nat.le_of_ble_eq_true rfl)) dX7_copy_34 ⟨Nat.zero_le _, Nat.zero_le _⟩ (fun H locs w => ?_)
          refine lv_if_ne (tgt := 48) C.1 C.2.1 dX7_copy_37 (by decide) (fun hq9 => ?_) (fun hq9 => ?_)
          · have hf := ite_f hf hq9
            refine lv_bipush (v := (-11 : Int32)) C.1 C.2.1 dX7_copy_48 (by decide) ?_
            have hres := Option.some.inj hf
            subst hres
            exact ret_i C hr hlocks w rfl dX7_copy_50
          · have hf := ite_t hf hq9
            refine lv_aload C.1 C.2.1 dX7_copy_40 (lv_at hl 0 rfl) ?_
            obtain ⟨r10, hc11, hf⟩ := bd hf
            refine call_Vi (ws' := (wX7_copy cI cL cS cH a_this a_this_now a_this_past a_this_kept a_this_keptPast a_this_plans a_this_plans_search_net a_this_tape a_this_sheets a_this_sheets_e a_this_sheets_items_e q_hasImage q_sheets_lane q_sheets_length q_sheets_items)) (rest := []) C w (mX4_isMissing l D cI cL cS cH _ (a_this_sheets_e 2) (a_this_sheets_items_e 2) (q_sheets_lane 2) (q_sheets_length 2) hc11) (cwV 0 C.2.2.2.2 gX7_copy_X4_isMissing rfl rfl rfl (by decide +kernel) ⟨Nat.le_of_ble_eq_true rfl, Nat.le_of_ble_eq_true rfl⟩) [6] [0, 1, 2, 3, 4, 5, 7, 8, 9] 10 ⟨rfl, trivial⟩ ⟨rfl, trivial⟩ ⟨⟨_, rfl, rfl⟩, ⟨_, rfl, rfl⟩, ⟨_, rfl, rfl⟩, ⟨_, rfl, rfl⟩, ⟨_, rfl, rfl⟩, ⟨_, rfl, rfl⟩, ⟨_, rfl, rfl⟩, ⟨_, rfl, rfl⟩, ⟨_, rfl, rfl⟩, trivial⟩ rfl (by decide) (by decide) (ci := 4) (q0 := 6) rfl rfl rfl hl.1 rfl (lv_room (Nat.le_of_ble_eq_true rfl)) dX7_copy_42 ⟨Nat.zero_le _, Nat.zero_le _⟩ (fun H locs w => ?_)
            refine lv_if_eq (tgt := 51) C.1 C.2.1 dX7_copy_45 (by decide) (fun hq12 => ?_) (fun hq12 => ?_)
            · have hf := ite_t hf hq12
              refine lv_aload C.1 C.2.1 dX7_copy_51 (lv_at hl 1 rfl) ?_
              refine r_get C w inX7_copy_X4 6 rfl rfl 0 (by decide) lkX7_copy_231 rfl dX7_copy_53 ?_
              refine lv_aload C.1 C.2.1 dX7_copy_56 (lv_at hl 0 rfl) ?_
              refine r_get C w inX7_copy_X4 6 rfl rfl 0 (by decide) lkX7_copy_231 rfl dX7_copy_58 ?_
              refine lv_icmp_eq (tgt := 67) C.1 C.2.1 dX7_copy_61 (by decide) (fun hq13 => ?_) (fun hq13 => ?_)
              · have hf := ite_t hf hq13
                refine lv_aload C.1 C.2.1 dX7_copy_67 (lv_at hl 1 rfl) ?_
                refine lv_iload_n C.1 C.2.1 dX7_copy_69 rfl (lv_at hl 4 rfl) ?_
                refine lv_iload C.1 C.2.1 dX7_copy_70 (lv_at hl 7 rfl) ?_
                obtain ⟨r14, hc15, hf⟩ := bd hf
                refine call_Vi (ws' := (wX7_copy cI cL cS cH a_this a_this_now a_this_past a_this_kept a_this_keptPast a_this_plans a_this_plans_search_net a_this_tape a_this_sheets a_this_sheets_e a_this_sheets_items_e q_hasImage q_sheets_lane q_sheets_length q_sheets_items)) (rest := []) C w (mX4_holds l D cI cL cS cH _ (a_this_sheets_e 2) (a_this_sheets_items_e 2) (q_sheets_lane 2) (q_sheets_length 2) x2 x5 hc15) (cwV 2 C.2.2.2.2 gX7_copy_X4_holds rfl rfl rfl (by decide +kernel) ⟨Nat.le_of_ble_eq_true rfl, Nat.le_of_ble_eq_true rfl⟩) [6] [0, 1, 2, 3, 4, 5, 7, 8, 9] 10 ⟨rfl, trivial⟩ ⟨rfl, trivial⟩ ⟨⟨_, rfl, rfl⟩, ⟨_, rfl, rfl⟩, ⟨_, rfl, rfl⟩, ⟨_, rfl, rfl⟩, ⟨_, rfl, rfl⟩, ⟨_, rfl, rfl⟩, ⟨_, rfl, rfl⟩, ⟨_, rfl, rfl⟩, ⟨_, rfl, rfl⟩, trivial⟩ rfl (by decide) (by decide) (ci := 4) (q0 := 6) rfl rfl rfl hl.1 rfl (lv_room (Nat.le_of_ble_eq_true rfl)) dX7_copy_72 ⟨Nat.zero_le _, Nat.zero_le _⟩ (fun H locs w => ?_)
                refine lv_if_eq (tgt := 90) C.1 C.2.1 dX7_copy_75 (by decide) (fun hq16 => ?_) (fun hq16 => ?_)
                · have hf := ite_t hf hq16
                  refine lv_bipush (v := (-13 : Int32)) C.1 C.2.1 dX7_copy_90 (by decide) ?_
                  have hres := Option.some.inj hf
                  subst hres
                  exact ret_i C hr hlocks w rfl dX7_copy_92
                · have hf := ite_f hf hq16
                  refine lv_aload C.1 C.2.1 dX7_copy_78 (lv_at hl 0 rfl) ?_
                  refine lv_iload C.1 C.2.1 dX7_copy_80 (lv_at hl 6 rfl) ?_
                  refine lv_iload C.1 C.2.1 dX7_copy_82 (lv_at hl 7 rfl) ?_
                  obtain ⟨r17, hc18, hf⟩ := bd hf
                  refine call_Vi (ws' := (wX7_copy cI cL cS cH a_this a_this_now a_this_past a_this_kept a_this_keptPast a_this_plans a_this_plans_search_net a_this_tape a_this_sheets a_this_sheets_e a_this_sheets_items_e q_hasImage q_sheets_lane q_sheets_length q_sheets_items)) (rest := []) C w (mX4_holds l D cI cL cS cH _ (a_this_sheets_e 2) (a_this_sheets_items_e 2) (q_sheets_lane 2) (q_sheets_length 2) x4 x5 hc18) (cwV 2 C.2.2.2.2 gX7_copy_X4_holds rfl rfl rfl (by decide +kernel) ⟨Nat.le_of_ble_eq_true rfl, Nat.le_of_ble_eq_true rfl⟩) [6] [0, 1, 2, 3, 4, 5, 7, 8, 9] 10 ⟨rfl, trivial⟩ ⟨rfl, trivial⟩ ⟨⟨_, rfl, rfl⟩, ⟨_, rfl, rfl⟩, ⟨_, rfl, rfl⟩, ⟨_, rfl, rfl⟩, ⟨_, rfl, rfl⟩, ⟨_, rfl, rfl⟩, ⟨_, rfl, rfl⟩, ⟨_, rfl, rfl⟩, ⟨_, rfl, rfl⟩, trivial⟩ rfl (by decide) (by decide) (ci := 4) (q0 := 6) rfl rfl rfl hl.1 rfl (lv_room (Nat.le_of_ble_eq_true rfl)) dX7_copy_84 ⟨Nat.zero_le _, Nat.zero_le _⟩ (fun H locs w => ?_)
                  refine lv_if_ne (tgt := 93) C.1 C.2.1 dX7_copy_87 (by decide) (fun hq19 => ?_) (fun hq19 => ?_)
                  · have hf := ite_f hf hq19
                    refine lv_aload C.1 C.2.1 dX7_copy_93 (lv_at hl 1 rfl) ?_
                    refine r_get C w inX7_copy_X4 6 rfl rfl 2 (by decide) lkX7_copy_212 rfl dX7_copy_95 ?_
                    refine lv_iload_n C.1 C.2.1 dX7_copy_98 rfl (lv_at hl 4 rfl) ?_
                    refine lv_aload C.1 C.2.1 dX7_copy_99 (lv_at hl 0 rfl) ?_
                    refine r_get C w inX7_copy_X4 6 rfl rfl 2 (by decide) lkX7_copy_212 rfl dX7_copy_101 ?_
                    refine lv_iload C.1 C.2.1 dX7_copy_104 (lv_at hl 6 rfl) ?_
                    refine lv_iload C.1 C.2.1 dX7_copy_106 (lv_at hl 7 rfl) ?_
                    obtain ⟨g20, hg21, hf⟩ := bd hf
                    refine r_copyl (ws' := (wX7_copy cI cL cS cH a_this a_this_now a_this_past a_this_kept a_this_keptPast a_this_plans a_this_plans_search_net a_this_tape a_this_sheets a_this_sheets_e a_this_sheets_items_e q_hasImage q_sheets_lane q_sheets_length (va_up q_sheets_items 2 g20))) C w hl.1 (by decide +kernel) (by decide +kernel) (by decide +kernel) (by decide +kernel) 7 7 1 rfl rfl rfl (cpy_in hg21) rfl (Nat.le_of_ble_eq_true rfl) (Nat.le_of_ble_eq_true rfl) dX7_copy_108 (fun H locs w => ?_)
                    refine lv_iload C.1 C.2.1 dX7_copy_111 (lv_at hl 7 rfl) ?_
                    have hres := Option.some.inj hf
                    subst hres
                    exact ret_i C hr hlocks w rfl dX7_copy_113
                  · have hf := ite_t hf hq19
                    refine lv_bipush (v := (-13 : Int32)) C.1 C.2.1 dX7_copy_90 (by decide) ?_
                    have hres := Option.some.inj hf
                    subst hres
                    exact ret_i C hr hlocks w rfl dX7_copy_92
              · have hf := ite_f hf hq13
                refine lv_bipush (v := (-12 : Int32)) C.1 C.2.1 dX7_copy_64 (by decide) ?_
                have hres := Option.some.inj hf
                subst hres
                exact ret_i C hr hlocks w rfl dX7_copy_66
            · have hf := ite_f hf hq12
              refine lv_bipush (v := (-11 : Int32)) C.1 C.2.1 dX7_copy_48 (by decide) ?_
              have hres := Option.some.inj hf
              subst hres
              exact ret_i C hr hlocks w rfl dX7_copy_50
        · refine r_aald (v := (a_this_sheets_e 3)) C w 1 3 rfl rfl (by rw [hx29]; exact ⟨inb_in (by decide), rfl⟩) dX7_copy_29 ?_
          refine lv_astore (lv' := [(7, .ref (a_this_sheets_e 3)), (6, .ref (a_this_sheets_e 2)), (0, .ref a_this), (1, .int x1), (2, .int x2), (3, .int x3), (4, .int x4), (5, .int x5)]) C.1 C.2.1 dX7_copy_30 hl (by decide) rfl (fun ls hl => ?_)
          refine lv_aload C.1 C.2.1 dX7_copy_32 (lv_at hl 1 rfl) ?_
          obtain ⟨r7, hc8, hf⟩ := bd hf
          refine call_Vi (ws' := (wX7_copy cI cL cS cH a_this a_this_now a_this_past a_this_kept a_this_keptPast a_this_plans a_this_plans_search_net a_this_tape a_this_sheets a_this_sheets_e a_this_sheets_items_e q_hasImage q_sheets_lane q_sheets_length q_sheets_items)) (rest := []) C w (mX4_isMissing l D cI cL cS cH _ (a_this_sheets_e 2) (a_this_sheets_items_e 2) (q_sheets_lane 2) (q_sheets_length 2) hc8) (cwV 0 C.2.2.2.2 gX7_copy_X4_isMissing rfl rfl rfl (by decide +kernel) ⟨Nat.le_of_ble_eq_true rfl, Nat.le_of_ble_eq_true rfl⟩) [6] [0, 1, 2, 3, 4, 5, 7, 8, 9] 10 ⟨rfl, trivial⟩ ⟨rfl, trivial⟩ ⟨⟨_, rfl, rfl⟩, ⟨_, rfl, rfl⟩, ⟨_, rfl, rfl⟩, ⟨_, rfl, rfl⟩, ⟨_, rfl, rfl⟩, ⟨_, rfl, rfl⟩, ⟨_, rfl, rfl⟩, ⟨_, rfl, rfl⟩, ⟨_, rfl, rfl⟩, trivial⟩ rfl (by decide) (by decide) (ci := 4) (q0 := 6) rfl rfl rfl hl.1 rfl (lv_room (Nat.le_of_ble_eq_true rfl)) dX7_copy_34 ⟨Nat.zero_le _, Nat.zero_le _⟩ (fun H locs w => ?_)
          refine lv_if_ne (tgt := 48) C.1 C.2.1 dX7_copy_37 (by decide) (fun hq9 => ?_) (fun hq9 => ?_)
          · have hf := ite_f hf hq9
            refine lv_bipush (v := (-11 : Int32)) C.1 C.2.1 dX7_copy_48 (by decide) ?_
            have hres := Option.some.inj hf
            subst hres
            exact ret_i C hr hlocks w rfl dX7_copy_50
          · have hf := ite_t hf hq9
            refine lv_aload C.1 C.2.1 dX7_copy_40 (lv_at hl 0 rfl) ?_
            obtain ⟨r10, hc11, hf⟩ := bd hf
            refine call_Vi (ws' := (wX7_copy cI cL cS cH a_this a_this_now a_this_past a_this_kept a_this_keptPast a_this_plans a_this_plans_search_net a_this_tape a_this_sheets a_this_sheets_e a_this_sheets_items_e q_hasImage q_sheets_lane q_sheets_length q_sheets_items)) (rest := []) C w (mX4_isMissing l D cI cL cS cH _ (a_this_sheets_e 3) (a_this_sheets_items_e 3) (q_sheets_lane 3) (q_sheets_length 3) hc11) (cwV 0 C.2.2.2.2 gX7_copy_X4_isMissing rfl rfl rfl (by decide +kernel) ⟨Nat.le_of_ble_eq_true rfl, Nat.le_of_ble_eq_true rfl⟩) [8] [0, 1, 2, 3, 4, 5, 6, 7, 9] 10 ⟨rfl, trivial⟩ ⟨rfl, trivial⟩ ⟨⟨_, rfl, rfl⟩, ⟨_, rfl, rfl⟩, ⟨_, rfl, rfl⟩, ⟨_, rfl, rfl⟩, ⟨_, rfl, rfl⟩, ⟨_, rfl, rfl⟩, ⟨_, rfl, rfl⟩, ⟨_, rfl, rfl⟩, ⟨_, rfl, rfl⟩, trivial⟩ rfl (by decide) (by decide) (ci := 4) (q0 := 8) rfl rfl rfl hl.1 rfl (lv_room (Nat.le_of_ble_eq_true rfl)) dX7_copy_42 ⟨Nat.zero_le _, Nat.zero_le _⟩ (fun H locs w => ?_)
            refine lv_if_eq (tgt := 51) C.1 C.2.1 dX7_copy_45 (by decide) (fun hq12 => ?_) (fun hq12 => ?_)
            · have hf := ite_t hf hq12
              refine lv_aload C.1 C.2.1 dX7_copy_51 (lv_at hl 1 rfl) ?_
              refine r_get C w inX7_copy_X4 6 rfl rfl 0 (by decide) lkX7_copy_231 rfl dX7_copy_53 ?_
              refine lv_aload C.1 C.2.1 dX7_copy_56 (lv_at hl 0 rfl) ?_
              refine r_get C w inX7_copy_X4 8 rfl rfl 0 (by decide) lkX7_copy_231 rfl dX7_copy_58 ?_
              refine lv_icmp_eq (tgt := 67) C.1 C.2.1 dX7_copy_61 (by decide) (fun hq13 => ?_) (fun hq13 => ?_)
              · have hf := ite_t hf hq13
                refine lv_aload C.1 C.2.1 dX7_copy_67 (lv_at hl 1 rfl) ?_
                refine lv_iload_n C.1 C.2.1 dX7_copy_69 rfl (lv_at hl 4 rfl) ?_
                refine lv_iload C.1 C.2.1 dX7_copy_70 (lv_at hl 7 rfl) ?_
                obtain ⟨r14, hc15, hf⟩ := bd hf
                refine call_Vi (ws' := (wX7_copy cI cL cS cH a_this a_this_now a_this_past a_this_kept a_this_keptPast a_this_plans a_this_plans_search_net a_this_tape a_this_sheets a_this_sheets_e a_this_sheets_items_e q_hasImage q_sheets_lane q_sheets_length q_sheets_items)) (rest := []) C w (mX4_holds l D cI cL cS cH _ (a_this_sheets_e 2) (a_this_sheets_items_e 2) (q_sheets_lane 2) (q_sheets_length 2) x2 x5 hc15) (cwV 2 C.2.2.2.2 gX7_copy_X4_holds rfl rfl rfl (by decide +kernel) ⟨Nat.le_of_ble_eq_true rfl, Nat.le_of_ble_eq_true rfl⟩) [6] [0, 1, 2, 3, 4, 5, 7, 8, 9] 10 ⟨rfl, trivial⟩ ⟨rfl, trivial⟩ ⟨⟨_, rfl, rfl⟩, ⟨_, rfl, rfl⟩, ⟨_, rfl, rfl⟩, ⟨_, rfl, rfl⟩, ⟨_, rfl, rfl⟩, ⟨_, rfl, rfl⟩, ⟨_, rfl, rfl⟩, ⟨_, rfl, rfl⟩, ⟨_, rfl, rfl⟩, trivial⟩ rfl (by decide) (by decide) (ci := 4) (q0 := 6) rfl rfl rfl hl.1 rfl (lv_room (Nat.le_of_ble_eq_true rfl)) dX7_copy_72 ⟨Nat.zero_le _, Nat.zero_le _⟩ (fun H locs w => ?_)
                refine lv_if_eq (tgt := 90) C.1 C.2.1 dX7_copy_75 (by decide) (fun hq16 => ?_) (fun hq16 => ?_)
                · have hf := ite_t hf hq16
                  refine lv_bipush (v := (-13 : Int32)) C.1 C.2.1 dX7_copy_90 (by decide) ?_
                  have hres := Option.some.inj hf
                  subst hres
                  exact ret_i C hr hlocks w rfl dX7_copy_92
                · have hf := ite_f hf hq16
                  refine lv_aload C.1 C.2.1 dX7_copy_78 (lv_at hl 0 rfl) ?_
                  refine lv_iload C.1 C.2.1 dX7_copy_80 (lv_at hl 6 rfl) ?_
                  refine lv_iload C.1 C.2.1 dX7_copy_82 (lv_at hl 7 rfl) ?_
                  obtain ⟨r17, hc18, hf⟩ := bd hf
                  refine call_Vi (ws' := (wX7_copy cI cL cS cH a_this a_this_now a_this_past a_this_kept a_this_keptPast a_this_plans a_this_plans_search_net a_this_tape a_this_sheets a_this_sheets_e a_this_sheets_items_e q_hasImage q_sheets_lane q_sheets_length q_sheets_items)) (rest := []) C w (mX4_holds l D cI cL cS cH _ (a_this_sheets_e 3) (a_this_sheets_items_e 3) (q_sheets_lane 3) (q_sheets_length 3) x4 x5 hc18) (cwV 2 C.2.2.2.2 gX7_copy_X4_holds rfl rfl rfl (by decide +kernel) ⟨Nat.le_of_ble_eq_true rfl, Nat.le_of_ble_eq_true rfl⟩) [8] [0, 1, 2, 3, 4, 5, 6, 7, 9] 10 ⟨rfl, trivial⟩ ⟨rfl, trivial⟩ ⟨⟨_, rfl, rfl⟩, ⟨_, rfl, rfl⟩, ⟨_, rfl, rfl⟩, ⟨_, rfl, rfl⟩, ⟨_, rfl, rfl⟩, ⟨_, rfl, rfl⟩, ⟨_, rfl, rfl⟩, ⟨_, rfl, rfl⟩, ⟨_, rfl, rfl⟩, trivial⟩ rfl (by decide) (by decide) (ci := 4) (q0 := 8) rfl rfl rfl hl.1 rfl (lv_room (Nat.le_of_ble_eq_true rfl)) dX7_copy_84 ⟨Nat.zero_le _, Nat.zero_le _⟩ (fun H locs w => ?_)
                  refine lv_if_ne (tgt := 93) C.1 C.2.1 dX7_copy_87 (by decide) (fun hq19 => ?_) (fun hq19 => ?_)
                  · have hf := ite_f hf hq19
                    refine lv_aload C.1 C.2.1 dX7_copy_93 (lv_at hl 1 rfl) ?_
                    refine r_get C w inX7_copy_X4 6 rfl rfl 2 (by decide) lkX7_copy_212 rfl dX7_copy_95 ?_
                    refine lv_iload_n C.1 C.2.1 dX7_copy_98 rfl (lv_at hl 4 rfl) ?_
                    refine lv_aload C.1 C.2.1 dX7_copy_99 (lv_at hl 0 rfl) ?_
                    refine r_get C w inX7_copy_X4 8 rfl rfl 2 (by decide) lkX7_copy_212 rfl dX7_copy_101 ?_
                    refine lv_iload C.1 C.2.1 dX7_copy_104 (lv_at hl 6 rfl) ?_
                    refine lv_iload C.1 C.2.1 dX7_copy_106 (lv_at hl 7 rfl) ?_
                    obtain ⟨g20, hg21, hf⟩ := bd hf
                    refine r_copyl (ws' := (wX7_copy cI cL cS cH a_this a_this_now a_this_past a_this_kept a_this_keptPast a_this_plans a_this_plans_search_net a_this_tape a_this_sheets a_this_sheets_e a_this_sheets_items_e q_hasImage q_sheets_lane q_sheets_length (va_up q_sheets_items 3 g20))) C w hl.1 (by decide +kernel) (by decide +kernel) (by decide +kernel) (by decide +kernel) 7 9 1 rfl rfl rfl (cpy_in hg21) rfl (Nat.le_of_ble_eq_true rfl) (Nat.le_of_ble_eq_true rfl) dX7_copy_108 (fun H locs w => ?_)
                    refine lv_iload C.1 C.2.1 dX7_copy_111 (lv_at hl 7 rfl) ?_
                    have hres := Option.some.inj hf
                    subst hres
                    exact ret_i C hr hlocks w rfl dX7_copy_113
                  · have hf := ite_t hf hq19
                    refine lv_bipush (v := (-13 : Int32)) C.1 C.2.1 dX7_copy_90 (by decide) ?_
                    have hres := Option.some.inj hf
                    subst hres
                    exact ret_i C hr hlocks w rfl dX7_copy_92
              · have hf := ite_f hf hq13
                refine lv_bipush (v := (-12 : Int32)) C.1 C.2.1 dX7_copy_64 (by decide) ?_
                have hres := Option.some.inj hf
                subst hres
                exact ret_i C hr hlocks w rfl dX7_copy_66
            · have hf := ite_f hf hq12
              refine lv_bipush (v := (-11 : Int32)) C.1 C.2.1 dX7_copy_48 (by decide) ?_
              have hres := Option.some.inj hf
              subst hres
              exact ret_i C hr hlocks w rfl dX7_copy_50
      · refine r_aald (v := (a_this_sheets_e 3)) C w 1 3 rfl rfl (by rw [hx21]; exact ⟨inb_in (by decide), rfl⟩) dX7_copy_21 ?_
        refine lv_astore (lv' := [(6, .ref (a_this_sheets_e 3)), (0, .ref a_this), (1, .int x1), (2, .int x2), (3, .int x3), (4, .int x4), (5, .int x5)]) C.1 C.2.1 dX7_copy_22 hl (by decide) rfl (fun ls hl => ?_)
        refine lv_aload_n C.1 C.2.1 dX7_copy_24 rfl (lv_at hl 1 rfl) ?_
        refine r_get C w inX7_copy_X7 0 rfl rfl 8 (by decide) lkX7_copy_54 rfl dX7_copy_25 ?_
        refine lv_iload_n C.1 C.2.1 dX7_copy_28 rfl (lv_at hl 4 rfl) ?_
        rcases sel4_in hf with ⟨hx29, hf⟩ | ⟨hx29, hf⟩ | ⟨hx29, hf⟩ | ⟨hx29, hf⟩
        · refine r_aald (v := (a_this_sheets_e 0)) C w 1 3 rfl rfl (by rw [hx29]; exact ⟨inb_in (by decide), rfl⟩) dX7_copy_29 ?_
          refine lv_astore (lv' := [(7, .ref (a_this_sheets_e 0)), (6, .ref (a_this_sheets_e 3)), (0, .ref a_this), (1, .int x1), (2, .int x2), (3, .int x3), (4, .int x4), (5, .int x5)]) C.1 C.2.1 dX7_copy_30 hl (by decide) rfl (fun ls hl => ?_)
          refine lv_aload C.1 C.2.1 dX7_copy_32 (lv_at hl 1 rfl) ?_
          obtain ⟨r7, hc8, hf⟩ := bd hf
          refine call_Vi (ws' := (wX7_copy cI cL cS cH a_this a_this_now a_this_past a_this_kept a_this_keptPast a_this_plans a_this_plans_search_net a_this_tape a_this_sheets a_this_sheets_e a_this_sheets_items_e q_hasImage q_sheets_lane q_sheets_length q_sheets_items)) (rest := []) C w (mX4_isMissing l D cI cL cS cH _ (a_this_sheets_e 3) (a_this_sheets_items_e 3) (q_sheets_lane 3) (q_sheets_length 3) hc8) (cwV 0 C.2.2.2.2 gX7_copy_X4_isMissing rfl rfl rfl (by decide +kernel) ⟨Nat.le_of_ble_eq_true rfl, Nat.le_of_ble_eq_true rfl⟩) [8] [0, 1, 2, 3, 4, 5, 6, 7, 9] 10 ⟨rfl, trivial⟩ ⟨rfl, trivial⟩ ⟨⟨_, rfl, rfl⟩, ⟨_, rfl, rfl⟩, ⟨_, rfl, rfl⟩, ⟨_, rfl, rfl⟩, ⟨_, rfl, rfl⟩, ⟨_, rfl, rfl⟩, ⟨_, rfl, rfl⟩, ⟨_, rfl, rfl⟩, ⟨_, rfl, rfl⟩, trivial⟩ rfl (by decide) (by decide) (ci := 4) (q0 := 8) rfl rfl rfl hl.1 rfl (lv_room (Nat.le_of_ble_eq_true rfl)) dX7_copy_34 ⟨Nat.zero_le _, Nat.zero_le _⟩ (fun H locs w => ?_)
          refine lv_if_ne (tgt := 48) C.1 C.2.1 dX7_copy_37 (by decide) (fun hq9 => ?_) (fun hq9 => ?_)
          · have hf := ite_f hf hq9
            refine lv_bipush (v := (-11 : Int32)) C.1 C.2.1 dX7_copy_48 (by decide) ?_
            have hres := Option.some.inj hf
            subst hres
            exact ret_i C hr hlocks w rfl dX7_copy_50
          · have hf := ite_t hf hq9
            refine lv_aload C.1 C.2.1 dX7_copy_40 (lv_at hl 0 rfl) ?_
            obtain ⟨r10, hc11, hf⟩ := bd hf
            refine call_Vi (ws' := (wX7_copy cI cL cS cH a_this a_this_now a_this_past a_this_kept a_this_keptPast a_this_plans a_this_plans_search_net a_this_tape a_this_sheets a_this_sheets_e a_this_sheets_items_e q_hasImage q_sheets_lane q_sheets_length q_sheets_items)) (rest := []) C w (mX4_isMissing l D cI cL cS cH _ (a_this_sheets_e 0) (a_this_sheets_items_e 0) (q_sheets_lane 0) (q_sheets_length 0) hc11) (cwV 0 C.2.2.2.2 gX7_copy_X4_isMissing rfl rfl rfl (by decide +kernel) ⟨Nat.le_of_ble_eq_true rfl, Nat.le_of_ble_eq_true rfl⟩) [2] [0, 1, 3, 4, 5, 6, 7, 8, 9] 10 ⟨rfl, trivial⟩ ⟨rfl, trivial⟩ ⟨⟨_, rfl, rfl⟩, ⟨_, rfl, rfl⟩, ⟨_, rfl, rfl⟩, ⟨_, rfl, rfl⟩, ⟨_, rfl, rfl⟩, ⟨_, rfl, rfl⟩, ⟨_, rfl, rfl⟩, ⟨_, rfl, rfl⟩, ⟨_, rfl, rfl⟩, trivial⟩ rfl (by decide) (by decide) (ci := 4) (q0 := 2) rfl rfl rfl hl.1 rfl (lv_room (Nat.le_of_ble_eq_true rfl)) dX7_copy_42 ⟨Nat.zero_le _, Nat.zero_le _⟩ (fun H locs w => ?_)
            refine lv_if_eq (tgt := 51) C.1 C.2.1 dX7_copy_45 (by decide) (fun hq12 => ?_) (fun hq12 => ?_)
            · have hf := ite_t hf hq12
              refine lv_aload C.1 C.2.1 dX7_copy_51 (lv_at hl 1 rfl) ?_
              refine r_get C w inX7_copy_X4 8 rfl rfl 0 (by decide) lkX7_copy_231 rfl dX7_copy_53 ?_
              refine lv_aload C.1 C.2.1 dX7_copy_56 (lv_at hl 0 rfl) ?_
              refine r_get C w inX7_copy_X4 2 rfl rfl 0 (by decide) lkX7_copy_231 rfl dX7_copy_58 ?_
              refine lv_icmp_eq (tgt := 67) C.1 C.2.1 dX7_copy_61 (by decide) (fun hq13 => ?_) (fun hq13 => ?_)
              · have hf := ite_t hf hq13
                refine lv_aload C.1 C.2.1 dX7_copy_67 (lv_at hl 1 rfl) ?_
                refine lv_iload_n C.1 C.2.1 dX7_copy_69 rfl (lv_at hl 4 rfl) ?_
                refine lv_iload C.1 C.2.1 dX7_copy_70 (lv_at hl 7 rfl) ?_
                obtain ⟨r14, hc15, hf⟩ := bd hf
                refine call_Vi (ws' := (wX7_copy cI cL cS cH a_this a_this_now a_this_past a_this_kept a_this_keptPast a_this_plans a_this_plans_search_net a_this_tape a_this_sheets a_this_sheets_e a_this_sheets_items_e q_hasImage q_sheets_lane q_sheets_length q_sheets_items)) (rest := []) C w (mX4_holds l D cI cL cS cH _ (a_this_sheets_e 3) (a_this_sheets_items_e 3) (q_sheets_lane 3) (q_sheets_length 3) x2 x5 hc15) (cwV 2 C.2.2.2.2 gX7_copy_X4_holds rfl rfl rfl (by decide +kernel) ⟨Nat.le_of_ble_eq_true rfl, Nat.le_of_ble_eq_true rfl⟩) [8] [0, 1, 2, 3, 4, 5, 6, 7, 9] 10 ⟨rfl, trivial⟩ ⟨rfl, trivial⟩ ⟨⟨_, rfl, rfl⟩, ⟨_, rfl, rfl⟩, ⟨_, rfl, rfl⟩, ⟨_, rfl, rfl⟩, ⟨_, rfl, rfl⟩, ⟨_, rfl, rfl⟩, ⟨_, rfl, rfl⟩, ⟨_, rfl, rfl⟩, ⟨_, rfl, rfl⟩, trivial⟩ rfl (by decide) (by decide) (ci := 4) (q0 := 8) rfl rfl rfl hl.1 rfl (lv_room (Nat.le_of_ble_eq_true rfl)) dX7_copy_72 ⟨Nat.zero_le _, Nat.zero_le _⟩ (fun H locs w => ?_)
                refine lv_if_eq (tgt := 90) C.1 C.2.1 dX7_copy_75 (by decide) (fun hq16 => ?_) (fun hq16 => ?_)
                · have hf := ite_t hf hq16
                  refine lv_bipush (v := (-13 : Int32)) C.1 C.2.1 dX7_copy_90 (by decide) ?_
                  have hres := Option.some.inj hf
                  subst hres
                  exact ret_i C hr hlocks w rfl dX7_copy_92
                · have hf := ite_f hf hq16
                  refine lv_aload C.1 C.2.1 dX7_copy_78 (lv_at hl 0 rfl) ?_
                  refine lv_iload C.1 C.2.1 dX7_copy_80 (lv_at hl 6 rfl) ?_
                  refine lv_iload C.1 C.2.1 dX7_copy_82 (lv_at hl 7 rfl) ?_
                  obtain ⟨r17, hc18, hf⟩ := bd hf
                  refine call_Vi (ws' := (wX7_copy cI cL cS cH a_this a_this_now a_this_past a_this_kept a_this_keptPast a_this_plans a_this_plans_search_net a_this_tape a_this_sheets a_this_sheets_e a_this_sheets_items_e q_hasImage q_sheets_lane q_sheets_length q_sheets_items)) (rest := []) C w (mX4_holds l D cI cL cS cH _ (a_this_sheets_e 0) (a_this_sheets_items_e 0) (q_sheets_lane 0) (q_sheets_length 0) x4 x5 hc18) (cwV 2 C.2.2.2.2 gX7_copy_X4_holds rfl rfl rfl (by decide +kernel) ⟨Nat.le_of_ble_eq_true rfl, Nat.le_of_ble_eq_true rfl⟩) [2] [0, 1, 3, 4, 5, 6, 7, 8, 9] 10 ⟨rfl, trivial⟩ ⟨rfl, trivial⟩ ⟨⟨_, rfl, rfl⟩, ⟨_, rfl, rfl⟩, ⟨_, rfl, rfl⟩, ⟨_, rfl, rfl⟩, ⟨_, rfl, rfl⟩, ⟨_, rfl, rfl⟩, ⟨_, rfl, rfl⟩, ⟨_, rfl, rfl⟩, ⟨_, rfl, rfl⟩, trivial⟩ rfl (by decide) (by decide) (ci := 4) (q0 := 2) rfl rfl rfl hl.1 rfl (lv_room (Nat.le_of_ble_eq_true rfl)) dX7_copy_84 ⟨Nat.zero_le _, Nat.zero_le _⟩ (fun H locs w => ?_)
                  refine lv_if_ne (tgt := 93) C.1 C.2.1 dX7_copy_87 (by decide) (fun hq19 => ?_) (fun hq19 => ?_)
                  · have hf := ite_f hf hq19
                    refine lv_aload C.1 C.2.1 dX7_copy_93 (lv_at hl 1 rfl) ?_
                    refine r_get C w inX7_copy_X4 8 rfl rfl 2 (by decide) lkX7_copy_212 rfl dX7_copy_95 ?_
                    refine lv_iload_n C.1 C.2.1 dX7_copy_98 rfl (lv_at hl 4 rfl) ?_
                    refine lv_aload C.1 C.2.1 dX7_copy_99 (lv_at hl 0 rfl) ?_
                    refine r_get C w inX7_copy_X4 2 rfl rfl 2 (by decide) lkX7_copy_212 rfl dX7_copy_101 ?_
                    refine lv_iload C.1 C.2.1 dX7_copy_104 (lv_at hl 6 rfl) ?_
                    refine lv_iload C.1 C.2.1 dX7_copy_106 (lv_at hl 7 rfl) ?_
                    obtain ⟨g20, hg21, hf⟩ := bd hf
                    refine r_copyl (ws' := (wX7_copy cI cL cS cH a_this a_this_now a_this_past a_this_kept a_this_keptPast a_this_plans a_this_plans_search_net a_this_tape a_this_sheets a_this_sheets_e a_this_sheets_items_e q_hasImage q_sheets_lane q_sheets_length (va_up q_sheets_items 0 g20))) C w hl.1 (by decide +kernel) (by decide +kernel) (by decide +kernel) (by decide +kernel) 9 3 1 rfl rfl rfl (cpy_in hg21) rfl (Nat.le_of_ble_eq_true rfl) (Nat.le_of_ble_eq_true rfl) dX7_copy_108 (fun H locs w => ?_)
                    refine lv_iload C.1 C.2.1 dX7_copy_111 (lv_at hl 7 rfl) ?_
                    have hres := Option.some.inj hf
                    subst hres
                    exact ret_i C hr hlocks w rfl dX7_copy_113
                  · have hf := ite_t hf hq19
                    refine lv_bipush (v := (-13 : Int32)) C.1 C.2.1 dX7_copy_90 (by decide) ?_
                    have hres := Option.some.inj hf
                    subst hres
                    exact ret_i C hr hlocks w rfl dX7_copy_92
              · have hf := ite_f hf hq13
                refine lv_bipush (v := (-12 : Int32)) C.1 C.2.1 dX7_copy_64 (by decide) ?_
                have hres := Option.some.inj hf
                subst hres
                exact ret_i C hr hlocks w rfl dX7_copy_66
            · have hf := ite_f hf hq12
              refine lv_bipush (v := (-11 : Int32)) C.1 C.2.1 dX7_copy_48 (by decide) ?_
              have hres := Option.some.inj hf
              subst hres
              exact ret_i C hr hlocks w rfl dX7_copy_50
        · refine r_aald (v := (a_this_sheets_e 1)) C w 1 3 rfl rfl (by rw [hx29]; exact ⟨inb_in (by decide), rfl⟩) dX7_copy_29 ?_
          refine lv_astore (lv' := [(7, .ref (a_this_sheets_e 1)), (6, .ref (a_this_sheets_e 3)), (0, .ref a_this), (1, .int x1), (2, .int x2), (3, .int x3), (4, .int x4), (5, .int x5)]) C.1 C.2.1 dX7_copy_30 hl (by decide) rfl (fun ls hl => ?_)
          refine lv_aload C.1 C.2.1 dX7_copy_32 (lv_at hl 1 rfl) ?_
          obtain ⟨r7, hc8, hf⟩ := bd hf
          refine call_Vi (ws' := (wX7_copy cI cL cS cH a_this a_this_now a_this_past a_this_kept a_this_keptPast a_this_plans a_this_plans_search_net a_this_tape a_this_sheets a_this_sheets_e a_this_sheets_items_e q_hasImage q_sheets_lane q_sheets_length q_sheets_items)) (rest := []) C w (mX4_isMissing l D cI cL cS cH _ (a_this_sheets_e 3) (a_this_sheets_items_e 3) (q_sheets_lane 3) (q_sheets_length 3) hc8) (cwV 0 C.2.2.2.2 gX7_copy_X4_isMissing rfl rfl rfl (by decide +kernel) ⟨Nat.le_of_ble_eq_true rfl, Nat.le_of_ble_eq_true rfl⟩) [8] [0, 1, 2, 3, 4, 5, 6, 7, 9] 10 ⟨rfl, trivial⟩ ⟨rfl, trivial⟩ ⟨⟨_, rfl, rfl⟩, ⟨_, rfl, rfl⟩, ⟨_, rfl, rfl⟩, ⟨_, rfl, rfl⟩, ⟨_, rfl, rfl⟩, ⟨_, rfl, rfl⟩, ⟨_, rfl, rfl⟩, ⟨_, rfl, rfl⟩, ⟨_, rfl, rfl⟩, trivial⟩ rfl (by decide) (by decide) (ci := 4) (q0 := 8) rfl rfl rfl hl.1 rfl (lv_room (Nat.le_of_ble_eq_true rfl)) dX7_copy_34 ⟨Nat.zero_le _, Nat.zero_le _⟩ (fun H locs w => ?_)
          refine lv_if_ne (tgt := 48) C.1 C.2.1 dX7_copy_37 (by decide) (fun hq9 => ?_) (fun hq9 => ?_)
          · have hf := ite_f hf hq9
            refine lv_bipush (v := (-11 : Int32)) C.1 C.2.1 dX7_copy_48 (by decide) ?_
            have hres := Option.some.inj hf
            subst hres
            exact ret_i C hr hlocks w rfl dX7_copy_50
          · have hf := ite_t hf hq9
            refine lv_aload C.1 C.2.1 dX7_copy_40 (lv_at hl 0 rfl) ?_
            obtain ⟨r10, hc11, hf⟩ := bd hf
            refine call_Vi (ws' := (wX7_copy cI cL cS cH a_this a_this_now a_this_past a_this_kept a_this_keptPast a_this_plans a_this_plans_search_net a_this_tape a_this_sheets a_this_sheets_e a_this_sheets_items_e q_hasImage q_sheets_lane q_sheets_length q_sheets_items)) (rest := []) C w (mX4_isMissing l D cI cL cS cH _ (a_this_sheets_e 1) (a_this_sheets_items_e 1) (q_sheets_lane 1) (q_sheets_length 1) hc11) (cwV 0 C.2.2.2.2 gX7_copy_X4_isMissing rfl rfl rfl (by decide +kernel) ⟨Nat.le_of_ble_eq_true rfl, Nat.le_of_ble_eq_true rfl⟩) [4] [0, 1, 2, 3, 5, 6, 7, 8, 9] 10 ⟨rfl, trivial⟩ ⟨rfl, trivial⟩ ⟨⟨_, rfl, rfl⟩, ⟨_, rfl, rfl⟩, ⟨_, rfl, rfl⟩, ⟨_, rfl, rfl⟩, ⟨_, rfl, rfl⟩, ⟨_, rfl, rfl⟩, ⟨_, rfl, rfl⟩, ⟨_, rfl, rfl⟩, ⟨_, rfl, rfl⟩, trivial⟩ rfl (by decide) (by decide) (ci := 4) (q0 := 4) rfl rfl rfl hl.1 rfl (lv_room (Nat.le_of_ble_eq_true rfl)) dX7_copy_42 ⟨Nat.zero_le _, Nat.zero_le _⟩ (fun H locs w => ?_)
            refine lv_if_eq (tgt := 51) C.1 C.2.1 dX7_copy_45 (by decide) (fun hq12 => ?_) (fun hq12 => ?_)
            · have hf := ite_t hf hq12
              refine lv_aload C.1 C.2.1 dX7_copy_51 (lv_at hl 1 rfl) ?_
              refine r_get C w inX7_copy_X4 8 rfl rfl 0 (by decide) lkX7_copy_231 rfl dX7_copy_53 ?_
              refine lv_aload C.1 C.2.1 dX7_copy_56 (lv_at hl 0 rfl) ?_
              refine r_get C w inX7_copy_X4 4 rfl rfl 0 (by decide) lkX7_copy_231 rfl dX7_copy_58 ?_
              refine lv_icmp_eq (tgt := 67) C.1 C.2.1 dX7_copy_61 (by decide) (fun hq13 => ?_) (fun hq13 => ?_)
              · have hf := ite_t hf hq13
                refine lv_aload C.1 C.2.1 dX7_copy_67 (lv_at hl 1 rfl) ?_
                refine lv_iload_n C.1 C.2.1 dX7_copy_69 rfl (lv_at hl 4 rfl) ?_
                refine lv_iload C.1 C.2.1 dX7_copy_70 (lv_at hl 7 rfl) ?_
                obtain ⟨r14, hc15, hf⟩ := bd hf
                refine call_Vi (ws' := (wX7_copy cI cL cS cH a_this a_this_now a_this_past a_this_kept a_this_keptPast a_this_plans a_this_plans_search_net a_this_tape a_this_sheets a_this_sheets_e a_this_sheets_items_e q_hasImage q_sheets_lane q_sheets_length q_sheets_items)) (rest := []) C w (mX4_holds l D cI cL cS cH _ (a_this_sheets_e 3) (a_this_sheets_items_e 3) (q_sheets_lane 3) (q_sheets_length 3) x2 x5 hc15) (cwV 2 C.2.2.2.2 gX7_copy_X4_holds rfl rfl rfl (by decide +kernel) ⟨Nat.le_of_ble_eq_true rfl, Nat.le_of_ble_eq_true rfl⟩) [8] [0, 1, 2, 3, 4, 5, 6, 7, 9] 10 ⟨rfl, trivial⟩ ⟨rfl, trivial⟩ ⟨⟨_, rfl, rfl⟩, ⟨_, rfl, rfl⟩, ⟨_, rfl, rfl⟩, ⟨_, rfl, rfl⟩, ⟨_, rfl, rfl⟩, ⟨_, rfl, rfl⟩, ⟨_, rfl, rfl⟩, ⟨_, rfl, rfl⟩, ⟨_, rfl, rfl⟩, trivial⟩ rfl (by decide) (by decide) (ci := 4) (q0 := 8) rfl rfl rfl hl.1 rfl (lv_room (Nat.le_of_ble_eq_true rfl)) dX7_copy_72 ⟨Nat.zero_le _, Nat.zero_le _⟩ (fun H locs w => ?_)
                refine lv_if_eq (tgt := 90) C.1 C.2.1 dX7_copy_75 (by decide) (fun hq16 => ?_) (fun hq16 => ?_)
                · have hf := ite_t hf hq16
                  refine lv_bipush (v := (-13 : Int32)) C.1 C.2.1 dX7_copy_90 (by decide) ?_
                  have hres := Option.some.inj hf
                  subst hres
                  exact ret_i C hr hlocks w rfl dX7_copy_92
                · have hf := ite_f hf hq16
                  refine lv_aload C.1 C.2.1 dX7_copy_78 (lv_at hl 0 rfl) ?_
                  refine lv_iload C.1 C.2.1 dX7_copy_80 (lv_at hl 6 rfl) ?_
                  refine lv_iload C.1 C.2.1 dX7_copy_82 (lv_at hl 7 rfl) ?_
                  obtain ⟨r17, hc18, hf⟩ := bd hf
                  refine call_Vi (ws' := (wX7_copy cI cL cS cH a_this a_this_now a_this_past a_this_kept a_this_keptPast a_this_plans a_this_plans_search_net a_this_tape a_this_sheets a_this_sheets_e a_this_sheets_items_e q_hasImage q_sheets_lane q_sheets_length q_sheets_items)) (rest := []) C w (mX4_holds l D cI cL cS cH _ (a_this_sheets_e 1) (a_this_sheets_items_e 1) (q_sheets_lane 1) (q_sheets_length 1) x4 x5 hc18) (cwV 2 C.2.2.2.2 gX7_copy_X4_holds rfl rfl rfl (by decide +kernel) ⟨Nat.le_of_ble_eq_true rfl, Nat.le_of_ble_eq_true rfl⟩) [4] [0, 1, 2, 3, 5, 6, 7, 8, 9] 10 ⟨rfl, trivial⟩ ⟨rfl, trivial⟩ ⟨⟨_, rfl, rfl⟩, ⟨_, rfl, rfl⟩, ⟨_, rfl, rfl⟩, ⟨_, rfl, rfl⟩, ⟨_, rfl, rfl⟩, ⟨_, rfl, rfl⟩, ⟨_, rfl, rfl⟩, ⟨_, rfl, rfl⟩, ⟨_, rfl, rfl⟩, trivial⟩ rfl (by decide) (by decide) (ci := 4) (q0 := 4) rfl rfl rfl hl.1 rfl (lv_room (Nat.le_of_ble_eq_true rfl)) dX7_copy_84 ⟨Nat.zero_le _, Nat.zero_le _⟩ (fun H locs w => ?_)
                  refine lv_if_ne (tgt := 93) C.1 C.2.1 dX7_copy_87 (by decide) (fun hq19 => ?_) (fun hq19 => ?_)
                  · have hf := ite_f hf hq19
                    refine lv_aload C.1 C.2.1 dX7_copy_93 (lv_at hl 1 rfl) ?_
                    refine r_get C w inX7_copy_X4 8 rfl rfl 2 (by decide) lkX7_copy_212 rfl dX7_copy_95 ?_
                    refine lv_iload_n C.1 C.2.1 dX7_copy_98 rfl (lv_at hl 4 rfl) ?_
                    refine lv_aload C.1 C.2.1 dX7_copy_99 (lv_at hl 0 rfl) ?_
                    refine r_get C w inX7_copy_X4 4 rfl rfl 2 (by decide) lkX7_copy_212 rfl dX7_copy_101 ?_
                    refine lv_iload C.1 C.2.1 dX7_copy_104 (lv_at hl 6 rfl) ?_
                    refine lv_iload C.1 C.2.1 dX7_copy_106 (lv_at hl 7 rfl) ?_
                    obtain ⟨g20, hg21, hf⟩ := bd hf
                    refine r_copyl (ws' := (wX7_copy cI cL cS cH a_this a_this_now a_this_past a_this_kept a_this_keptPast a_this_plans a_this_plans_search_net a_this_tape a_this_sheets a_this_sheets_e a_this_sheets_items_e q_hasImage q_sheets_lane q_sheets_length (va_up q_sheets_items 1 g20))) C w hl.1 (by decide +kernel) (by decide +kernel) (by decide +kernel) (by decide +kernel) 9 5 1 rfl rfl rfl (cpy_in hg21) rfl (Nat.le_of_ble_eq_true rfl) (Nat.le_of_ble_eq_true rfl) dX7_copy_108 (fun H locs w => ?_)
                    refine lv_iload C.1 C.2.1 dX7_copy_111 (lv_at hl 7 rfl) ?_
                    have hres := Option.some.inj hf
                    subst hres
                    exact ret_i C hr hlocks w rfl dX7_copy_113
                  · have hf := ite_t hf hq19
                    refine lv_bipush (v := (-13 : Int32)) C.1 C.2.1 dX7_copy_90 (by decide) ?_
                    have hres := Option.some.inj hf
                    subst hres
                    exact ret_i C hr hlocks w rfl dX7_copy_92
              · have hf := ite_f hf hq13
                refine lv_bipush (v := (-12 : Int32)) C.1 C.2.1 dX7_copy_64 (by decide) ?_
                have hres := Option.some.inj hf
                subst hres
                exact ret_i C hr hlocks w rfl dX7_copy_66
            · have hf := ite_f hf hq12
              refine lv_bipush (v := (-11 : Int32)) C.1 C.2.1 dX7_copy_48 (by decide) ?_
              have hres := Option.some.inj hf
              subst hres
              exact ret_i C hr hlocks w rfl dX7_copy_50
        · refine r_aald (v := (a_this_sheets_e 2)) C w 1 3 rfl rfl (by rw [hx29]; exact ⟨inb_in (by decide), rfl⟩) dX7_copy_29 ?_
          refine lv_astore (lv' := [(7, .ref (a_this_sheets_e 2)), (6, .ref (a_this_sheets_e 3)), (0, .ref a_this), (1, .int x1), (2, .int x2), (3, .int x3), (4, .int x4), (5, .int x5)]) C.1 C.2.1 dX7_copy_30 hl (by decide) rfl (fun ls hl => ?_)
          refine lv_aload C.1 C.2.1 dX7_copy_32 (lv_at hl 1 rfl) ?_
          obtain ⟨r7, hc8, hf⟩ := bd hf
          refine call_Vi (ws' := (wX7_copy cI cL cS cH a_this a_this_now a_this_past a_this_kept a_this_keptPast a_this_plans a_this_plans_search_net a_this_tape a_this_sheets a_this_sheets_e a_this_sheets_items_e q_hasImage q_sheets_lane q_sheets_length q_sheets_items)) (rest := []) C w (mX4_isMissing l D cI cL cS cH _ (a_this_sheets_e 3) (a_this_sheets_items_e 3) (q_sheets_lane 3) (q_sheets_length 3) hc8) (cwV 0 C.2.2.2.2 gX7_copy_X4_isMissing rfl rfl rfl (by decide +kernel) ⟨Nat.le_of_ble_eq_true rfl, Nat.le_of_ble_eq_true rfl⟩) [8] [0, 1, 2, 3, 4, 5, 6, 7, 9] 10 ⟨rfl, trivial⟩ ⟨rfl, trivial⟩ ⟨⟨_, rfl, rfl⟩, ⟨_, rfl, rfl⟩, ⟨_, rfl, rfl⟩, ⟨_, rfl, rfl⟩, ⟨_, rfl, rfl⟩, ⟨_, rfl, rfl⟩, ⟨_, rfl, rfl⟩, ⟨_, rfl, rfl⟩, ⟨_, rfl, rfl⟩, trivial⟩ rfl (by decide) (by decide) (ci := 4) (q0 := 8) rfl rfl rfl hl.1 rfl (lv_room (Nat.le_of_ble_eq_true rfl)) dX7_copy_34 ⟨Nat.zero_le _, Nat.zero_le _⟩ (fun H locs w => ?_)
          refine lv_if_ne (tgt := 48) C.1 C.2.1 dX7_copy_37 (by decide) (fun hq9 => ?_) (fun hq9 => ?_)
          · have hf := ite_f hf hq9
            refine lv_bipush (v := (-11 : Int32)) C.1 C.2.1 dX7_copy_48 (by decide) ?_
            have hres := Option.some.inj hf
            subst hres
            exact ret_i C hr hlocks w rfl dX7_copy_50
          · have hf := ite_t hf hq9
            refine lv_aload C.1 C.2.1 dX7_copy_40 (lv_at hl 0 rfl) ?_
            obtain ⟨r10, hc11, hf⟩ := bd hf
            refine call_Vi (ws' := (wX7_copy cI cL cS cH a_this a_this_now a_this_past a_this_kept a_this_keptPast a_this_plans a_this_plans_search_net a_this_tape a_this_sheets a_this_sheets_e a_this_sheets_items_e q_hasImage q_sheets_lane q_sheets_length q_sheets_items)) (rest := []) C w (mX4_isMissing l D cI cL cS cH _ (a_this_sheets_e 2) (a_this_sheets_items_e 2) (q_sheets_lane 2) (q_sheets_length 2) hc11) (cwV 0 C.2.2.2.2 gX7_copy_X4_isMissing rfl rfl rfl (by decide +kernel) ⟨Nat.le_of_ble_eq_true rfl, Nat.le_of_ble_eq_true rfl⟩) [6] [0, 1, 2, 3, 4, 5, 7, 8, 9] 10 ⟨rfl, trivial⟩ ⟨rfl, trivial⟩ ⟨⟨_, rfl, rfl⟩, ⟨_, rfl, rfl⟩, ⟨_, rfl, rfl⟩, ⟨_, rfl, rfl⟩, ⟨_, rfl, rfl⟩, ⟨_, rfl, rfl⟩, ⟨_, rfl, rfl⟩, ⟨_, rfl, rfl⟩, ⟨_, rfl, rfl⟩, trivial⟩ rfl (by decide) (by decide) (ci := 4) (q0 := 6) rfl rfl rfl hl.1 rfl (lv_room (Nat.le_of_ble_eq_true rfl)) dX7_copy_42 ⟨Nat.zero_le _, Nat.zero_le _⟩ (fun H locs w => ?_)
            refine lv_if_eq (tgt := 51) C.1 C.2.1 dX7_copy_45 (by decide) (fun hq12 => ?_) (fun hq12 => ?_)
            · have hf := ite_t hf hq12
              refine lv_aload C.1 C.2.1 dX7_copy_51 (lv_at hl 1 rfl) ?_
              refine r_get C w inX7_copy_X4 8 rfl rfl 0 (by decide) lkX7_copy_231 rfl dX7_copy_53 ?_
              refine lv_aload C.1 C.2.1 dX7_copy_56 (lv_at hl 0 rfl) ?_
              refine r_get C w inX7_copy_X4 6 rfl rfl 0 (by decide) lkX7_copy_231 rfl dX7_copy_58 ?_
              refine lv_icmp_eq (tgt := 67) C.1 C.2.1 dX7_copy_61 (by decide) (fun hq13 => ?_) (fun hq13 => ?_)
              · have hf := ite_t hf hq13
                refine lv_aload C.1 C.2.1 dX7_copy_67 (lv_at hl 1 rfl) ?_
                refine lv_iload_n C.1 C.2.1 dX7_copy_69 rfl (lv_at hl 4 rfl) ?_
                refine lv_iload C.1 C.2.1 dX7_copy_70 (lv_at hl 7 rfl) ?_
                obtain ⟨r14, hc15, hf⟩ := bd hf
                refine call_Vi (ws' := (wX7_copy cI cL cS cH a_this a_this_now a_this_past a_this_kept a_this_keptPast a_this_plans a_this_plans_search_net a_this_tape a_this_sheets a_this_sheets_e a_this_sheets_items_e q_hasImage q_sheets_lane q_sheets_length q_sheets_items)) (rest := []) C w (mX4_holds l D cI cL cS cH _ (a_this_sheets_e 3) (a_this_sheets_items_e 3) (q_sheets_lane 3) (q_sheets_length 3) x2 x5 hc15) (cwV 2 C.2.2.2.2 gX7_copy_X4_holds rfl rfl rfl (by decide +kernel) ⟨Nat.le_of_ble_eq_true rfl, Nat.le_of_ble_eq_true rfl⟩) [8] [0, 1, 2, 3, 4, 5, 6, 7, 9] 10 ⟨rfl, trivial⟩ ⟨rfl, trivial⟩ ⟨⟨_, rfl, rfl⟩, ⟨_, rfl, rfl⟩, ⟨_, rfl, rfl⟩, ⟨_, rfl, rfl⟩, ⟨_, rfl, rfl⟩, ⟨_, rfl, rfl⟩, ⟨_, rfl, rfl⟩, ⟨_, rfl, rfl⟩, ⟨_, rfl, rfl⟩, trivial⟩ rfl (by decide) (by decide) (ci := 4) (q0 := 8) rfl rfl rfl hl.1 rfl (lv_room (Nat.le_of_ble_eq_true rfl)) dX7_copy_72 ⟨Nat.zero_le _, Nat.zero_le _⟩ (fun H locs w => ?_)
                refine lv_if_eq (tgt := 90) C.1 C.2.1 dX7_copy_75 (by decide) (fun hq16 => ?_) (fun hq16 => ?_)
                · have hf := ite_t hf hq16
                  refine lv_bipush (v := (-13 : Int32)) C.1 C.2.1 dX7_copy_90 (by decide) ?_
                  have hres := Option.some.inj hf
                  subst hres
                  exact ret_i C hr hlocks w rfl dX7_copy_92
                · have hf := ite_f hf hq16
                  refine lv_aload C.1 C.2.1 dX7_copy_78 (lv_at hl 0 rfl) ?_
                  refine lv_iload C.1 C.2.1 dX7_copy_80 (lv_at hl 6 rfl) ?_
                  refine lv_iload C.1 C.2.1 dX7_copy_82 (lv_at hl 7 rfl) ?_
                  obtain ⟨r17, hc18, hf⟩ := bd hf
                  refine call_Vi (ws' := (wX7_copy cI cL cS cH a_this a_this_now a_this_past a_this_kept a_this_keptPast a_this_plans a_this_plans_search_net a_this_tape a_this_sheets a_this_sheets_e a_this_sheets_items_e q_hasImage q_sheets_lane q_sheets_length q_sheets_items)) (rest := []) C w (mX4_holds l D cI cL cS cH _ (a_this_sheets_e 2) (a_this_sheets_items_e 2) (q_sheets_lane 2) (q_sheets_length 2) x4 x5 hc18) (cwV 2 C.2.2.2.2 gX7_copy_X4_holds rfl rfl rfl (by decide +kernel) ⟨Nat.le_of_ble_eq_true rfl, Nat.le_of_ble_eq_true rfl⟩) [6] [0, 1, 2, 3, 4, 5, 7, 8, 9] 10 ⟨rfl, trivial⟩ ⟨rfl, trivial⟩ ⟨⟨_, rfl, rfl⟩, ⟨_, rfl, rfl⟩, ⟨_, rfl, rfl⟩, ⟨_, rfl, rfl⟩, ⟨_, rfl, rfl⟩, ⟨_, rfl, rfl⟩, ⟨_, rfl, rfl⟩, ⟨_, rfl, rfl⟩, ⟨_, rfl, rfl⟩, trivial⟩ rfl (by decide) (by decide) (ci := 4) (q0 := 6) rfl rfl rfl hl.1 rfl (lv_room (Nat.le_of_ble_eq_true rfl)) dX7_copy_84 ⟨Nat.zero_le _, Nat.zero_le _⟩ (fun H locs w => ?_)
                  refine lv_if_ne (tgt := 93) C.1 C.2.1 dX7_copy_87 (by decide) (fun hq19 => ?_) (fun hq19 => ?_)
                  · have hf := ite_f hf hq19
                    refine lv_aload C.1 C.2.1 dX7_copy_93 (lv_at hl 1 rfl) ?_
                    refine r_get C w inX7_copy_X4 8 rfl rfl 2 (by decide) lkX7_copy_212 rfl dX7_copy_95 ?_
                    refine lv_iload_n C.1 C.2.1 dX7_copy_98 rfl (lv_at hl 4 rfl) ?_
                    refine lv_aload C.1 C.2.1 dX7_copy_99 (lv_at hl 0 rfl) ?_
                    refine r_get C w inX7_copy_X4 6 rfl rfl 2 (by decide) lkX7_copy_212 rfl dX7_copy_101 ?_
                    refine lv_iload C.1 C.2.1 dX7_copy_104 (lv_at hl 6 rfl) ?_
                    refine lv_iload C.1 C.2.1 dX7_copy_106 (lv_at hl 7 rfl) ?_
                    obtain ⟨g20, hg21, hf⟩ := bd hf
                    refine r_copyl (ws' := (wX7_copy cI cL cS cH a_this a_this_now a_this_past a_this_kept a_this_keptPast a_this_plans a_this_plans_search_net a_this_tape a_this_sheets a_this_sheets_e a_this_sheets_items_e q_hasImage q_sheets_lane q_sheets_length (va_up q_sheets_items 2 g20))) C w hl.1 (by decide +kernel) (by decide +kernel) (by decide +kernel) (by decide +kernel) 9 7 1 rfl rfl rfl (cpy_in hg21) rfl (Nat.le_of_ble_eq_true rfl) (Nat.le_of_ble_eq_true rfl) dX7_copy_108 (fun H locs w => ?_)
                    refine lv_iload C.1 C.2.1 dX7_copy_111 (lv_at hl 7 rfl) ?_
                    have hres := Option.some.inj hf
                    subst hres
                    exact ret_i C hr hlocks w rfl dX7_copy_113
                  · have hf := ite_t hf hq19
                    refine lv_bipush (v := (-13 : Int32)) C.1 C.2.1 dX7_copy_90 (by decide) ?_
                    have hres := Option.some.inj hf
                    subst hres
                    exact ret_i C hr hlocks w rfl dX7_copy_92
              · have hf := ite_f hf hq13
                refine lv_bipush (v := (-12 : Int32)) C.1 C.2.1 dX7_copy_64 (by decide) ?_
                have hres := Option.some.inj hf
                subst hres
                exact ret_i C hr hlocks w rfl dX7_copy_66
            · have hf := ite_f hf hq12
              refine lv_bipush (v := (-11 : Int32)) C.1 C.2.1 dX7_copy_48 (by decide) ?_
              have hres := Option.some.inj hf
              subst hres
              exact ret_i C hr hlocks w rfl dX7_copy_50
        · refine r_aald (v := (a_this_sheets_e 3)) C w 1 3 rfl rfl (by rw [hx29]; exact ⟨inb_in (by decide), rfl⟩) dX7_copy_29 ?_
          refine lv_astore (lv' := [(7, .ref (a_this_sheets_e 3)), (6, .ref (a_this_sheets_e 3)), (0, .ref a_this), (1, .int x1), (2, .int x2), (3, .int x3), (4, .int x4), (5, .int x5)]) C.1 C.2.1 dX7_copy_30 hl (by decide) rfl (fun ls hl => ?_)
          refine lv_aload C.1 C.2.1 dX7_copy_32 (lv_at hl 1 rfl) ?_
          obtain ⟨r7, hc8, hf⟩ := bd hf
          refine call_Vi (ws' := (wX7_copy cI cL cS cH a_this a_this_now a_this_past a_this_kept a_this_keptPast a_this_plans a_this_plans_search_net a_this_tape a_this_sheets a_this_sheets_e a_this_sheets_items_e q_hasImage q_sheets_lane q_sheets_length q_sheets_items)) (rest := []) C w (mX4_isMissing l D cI cL cS cH _ (a_this_sheets_e 3) (a_this_sheets_items_e 3) (q_sheets_lane 3) (q_sheets_length 3) hc8) (cwV 0 C.2.2.2.2 gX7_copy_X4_isMissing rfl rfl rfl (by decide +kernel) ⟨Nat.le_of_ble_eq_true rfl, Nat.le_of_ble_eq_true rfl⟩) [8] [0, 1, 2, 3, 4, 5, 6, 7, 9] 10 ⟨rfl, trivial⟩ ⟨rfl, trivial⟩ ⟨⟨_, rfl, rfl⟩, ⟨_, rfl, rfl⟩, ⟨_, rfl, rfl⟩, ⟨_, rfl, rfl⟩, ⟨_, rfl, rfl⟩, ⟨_, rfl, rfl⟩, ⟨_, rfl, rfl⟩, ⟨_, rfl, rfl⟩, ⟨_, rfl, rfl⟩, trivial⟩ rfl (by decide) (by decide) (ci := 4) (q0 := 8) rfl rfl rfl hl.1 rfl (lv_room (Nat.le_of_ble_eq_true rfl)) dX7_copy_34 ⟨Nat.zero_le _, Nat.zero_le _⟩ (fun H locs w => ?_)
          refine lv_if_ne (tgt := 48) C.1 C.2.1 dX7_copy_37 (by decide) (fun hq9 => ?_) (fun hq9 => ?_)
          · have hf := ite_f hf hq9
            refine lv_bipush (v := (-11 : Int32)) C.1 C.2.1 dX7_copy_48 (by decide) ?_
            have hres := Option.some.inj hf
            subst hres
            exact ret_i C hr hlocks w rfl dX7_copy_50
          · have hf := ite_t hf hq9
            refine lv_aload C.1 C.2.1 dX7_copy_40 (lv_at hl 0 rfl) ?_
            obtain ⟨r10, hc11, hf⟩ := bd hf
            refine call_Vi (ws' := (wX7_copy cI cL cS cH a_this a_this_now a_this_past a_this_kept a_this_keptPast a_this_plans a_this_plans_search_net a_this_tape a_this_sheets a_this_sheets_e a_this_sheets_items_e q_hasImage q_sheets_lane q_sheets_length q_sheets_items)) (rest := []) C w (mX4_isMissing l D cI cL cS cH _ (a_this_sheets_e 3) (a_this_sheets_items_e 3) (q_sheets_lane 3) (q_sheets_length 3) hc11) (cwV 0 C.2.2.2.2 gX7_copy_X4_isMissing rfl rfl rfl (by decide +kernel) ⟨Nat.le_of_ble_eq_true rfl, Nat.le_of_ble_eq_true rfl⟩) [8] [0, 1, 2, 3, 4, 5, 6, 7, 9] 10 ⟨rfl, trivial⟩ ⟨rfl, trivial⟩ ⟨⟨_, rfl, rfl⟩, ⟨_, rfl, rfl⟩, ⟨_, rfl, rfl⟩, ⟨_, rfl, rfl⟩, ⟨_, rfl, rfl⟩, ⟨_, rfl, rfl⟩, ⟨_, rfl, rfl⟩, ⟨_, rfl, rfl⟩, ⟨_, rfl, rfl⟩, trivial⟩ rfl (by decide) (by decide) (ci := 4) (q0 := 8) rfl rfl rfl hl.1 rfl (lv_room (Nat.le_of_ble_eq_true rfl)) dX7_copy_42 ⟨Nat.zero_le _, Nat.zero_le _⟩ (fun H locs w => ?_)
            refine lv_if_eq (tgt := 51) C.1 C.2.1 dX7_copy_45 (by decide) (fun hq12 => ?_) (fun hq12 => ?_)
            · have hf := ite_t hf hq12
              refine lv_aload C.1 C.2.1 dX7_copy_51 (lv_at hl 1 rfl) ?_
              refine r_get C w inX7_copy_X4 8 rfl rfl 0 (by decide) lkX7_copy_231 rfl dX7_copy_53 ?_
              refine lv_aload C.1 C.2.1 dX7_copy_56 (lv_at hl 0 rfl) ?_
              refine r_get C w inX7_copy_X4 8 rfl rfl 0 (by decide) lkX7_copy_231 rfl dX7_copy_58 ?_
              refine lv_icmp_eq (tgt := 67) C.1 C.2.1 dX7_copy_61 (by decide) (fun hq13 => ?_) (fun hq13 => ?_)
              · have hf := ite_t hf hq13
                refine lv_aload C.1 C.2.1 dX7_copy_67 (lv_at hl 1 rfl) ?_
                refine lv_iload_n C.1 C.2.1 dX7_copy_69 rfl (lv_at hl 4 rfl) ?_
                refine lv_iload C.1 C.2.1 dX7_copy_70 (lv_at hl 7 rfl) ?_
                obtain ⟨r14, hc15, hf⟩ := bd hf
                refine call_Vi (ws' := (wX7_copy cI cL cS cH a_this a_this_now a_this_past a_this_kept a_this_keptPast a_this_plans a_this_plans_search_net a_this_tape a_this_sheets a_this_sheets_e a_this_sheets_items_e q_hasImage q_sheets_lane q_sheets_length q_sheets_items)) (rest := []) C w (mX4_holds l D cI cL cS cH _ (a_this_sheets_e 3) (a_this_sheets_items_e 3) (q_sheets_lane 3) (q_sheets_length 3) x2 x5 hc15) (cwV 2 C.2.2.2.2 gX7_copy_X4_holds rfl rfl rfl (by decide +kernel) ⟨Nat.le_of_ble_eq_true rfl, Nat.le_of_ble_eq_true rfl⟩) [8] [0, 1, 2, 3, 4, 5, 6, 7, 9] 10 ⟨rfl, trivial⟩ ⟨rfl, trivial⟩ ⟨⟨_, rfl, rfl⟩, ⟨_, rfl, rfl⟩, ⟨_, rfl, rfl⟩, ⟨_, rfl, rfl⟩, ⟨_, rfl, rfl⟩, ⟨_, rfl, rfl⟩, ⟨_, rfl, rfl⟩, ⟨_, rfl, rfl⟩, ⟨_, rfl, rfl⟩, trivial⟩ rfl (by decide) (by decide) (ci := 4) (q0 := 8) rfl rfl rfl hl.1 rfl (lv_room (Nat.le_of_ble_eq_true rfl)) dX7_copy_72 ⟨Nat.zero_le _, Nat.zero_le _⟩ (fun H locs w => ?_)
                refine lv_if_eq (tgt := 90) C.1 C.2.1 dX7_copy_75 (by decide) (fun hq16 => ?_) (fun hq16 => ?_)
                · have hf := ite_t hf hq16
                  refine lv_bipush (v := (-13 : Int32)) C.1 C.2.1 dX7_copy_90 (by decide) ?_
                  have hres := Option.some.inj hf
                  subst hres
                  exact ret_i C hr hlocks w rfl dX7_copy_92
                · have hf := ite_f hf hq16
                  refine lv_aload C.1 C.2.1 dX7_copy_78 (lv_at hl 0 rfl) ?_
                  refine lv_iload C.1 C.2.1 dX7_copy_80 (lv_at hl 6 rfl) ?_
                  refine lv_iload C.1 C.2.1 dX7_copy_82 (lv_at hl 7 rfl) ?_
                  obtain ⟨r17, hc18, hf⟩ := bd hf
                  refine call_Vi (ws' := (wX7_copy cI cL cS cH a_this a_this_now a_this_past a_this_kept a_this_keptPast a_this_plans a_this_plans_search_net a_this_tape a_this_sheets a_this_sheets_e a_this_sheets_items_e q_hasImage q_sheets_lane q_sheets_length q_sheets_items)) (rest := []) C w (mX4_holds l D cI cL cS cH _ (a_this_sheets_e 3) (a_this_sheets_items_e 3) (q_sheets_lane 3) (q_sheets_length 3) x4 x5 hc18) (cwV 2 C.2.2.2.2 gX7_copy_X4_holds rfl rfl rfl (by decide +kernel) ⟨Nat.le_of_ble_eq_true rfl, Nat.le_of_ble_eq_true rfl⟩) [8] [0, 1, 2, 3, 4, 5, 6, 7, 9] 10 ⟨rfl, trivial⟩ ⟨rfl, trivial⟩ ⟨⟨_, rfl, rfl⟩, ⟨_, rfl, rfl⟩, ⟨_, rfl, rfl⟩, ⟨_, rfl, rfl⟩, ⟨_, rfl, rfl⟩, ⟨_, rfl, rfl⟩, ⟨_, rfl, rfl⟩, ⟨_, rfl, rfl⟩, ⟨_, rfl, rfl⟩, trivial⟩ rfl (by decide) (by decide) (ci := 4) (q0 := 8) rfl rfl rfl hl.1 rfl (lv_room (Nat.le_of_ble_eq_true rfl)) dX7_copy_84 ⟨Nat.zero_le _, Nat.zero_le _⟩ (fun H locs w => ?_)
                  refine lv_if_ne (tgt := 93) C.1 C.2.1 dX7_copy_87 (by decide) (fun hq19 => ?_) (fun hq19 => ?_)
                  · have hf := ite_f hf hq19
                    refine lv_aload C.1 C.2.1 dX7_copy_93 (lv_at hl 1 rfl) ?_
                    refine r_get C w inX7_copy_X4 8 rfl rfl 2 (by decide) lkX7_copy_212 rfl dX7_copy_95 ?_
                    refine lv_iload_n C.1 C.2.1 dX7_copy_98 rfl (lv_at hl 4 rfl) ?_
                    refine lv_aload C.1 C.2.1 dX7_copy_99 (lv_at hl 0 rfl) ?_
                    refine r_get C w inX7_copy_X4 8 rfl rfl 2 (by decide) lkX7_copy_212 rfl dX7_copy_101 ?_
                    refine lv_iload C.1 C.2.1 dX7_copy_104 (lv_at hl 6 rfl) ?_
                    refine lv_iload C.1 C.2.1 dX7_copy_106 (lv_at hl 7 rfl) ?_
                    obtain ⟨g20, hg21, hf⟩ := bd hf
                    refine r_copyl (ws' := (wX7_copy cI cL cS cH a_this a_this_now a_this_past a_this_kept a_this_keptPast a_this_plans a_this_plans_search_net a_this_tape a_this_sheets a_this_sheets_e a_this_sheets_items_e q_hasImage q_sheets_lane q_sheets_length (va_up q_sheets_items 3 g20))) C w hl.1 (by decide +kernel) (by decide +kernel) (by decide +kernel) (by decide +kernel) 9 9 1 rfl rfl rfl (cpy_in hg21) rfl (Nat.le_of_ble_eq_true rfl) (Nat.le_of_ble_eq_true rfl) dX7_copy_108 (fun H locs w => ?_)
                    refine lv_iload C.1 C.2.1 dX7_copy_111 (lv_at hl 7 rfl) ?_
                    have hres := Option.some.inj hf
                    subst hres
                    exact ret_i C hr hlocks w rfl dX7_copy_113
                  · have hf := ite_t hf hq19
                    refine lv_bipush (v := (-13 : Int32)) C.1 C.2.1 dX7_copy_90 (by decide) ?_
                    have hres := Option.some.inj hf
                    subst hres
                    exact ret_i C hr hlocks w rfl dX7_copy_92
              · have hf := ite_f hf hq13
                refine lv_bipush (v := (-12 : Int32)) C.1 C.2.1 dX7_copy_64 (by decide) ?_
                have hres := Option.some.inj hf
                subst hres
                exact ret_i C hr hlocks w rfl dX7_copy_66
            · have hf := ite_f hf hq12
              refine lv_bipush (v := (-11 : Int32)) C.1 C.2.1 dX7_copy_48 (by decide) ?_
              have hres := Option.some.inj hf
              subst hres
              exact ret_i C hr hlocks w rfl dX7_copy_50
    · have hf := ite_t hf hq6
      refine lv_iconst (v := (-1 : Int32)) C.1 C.2.1 dX7_copy_14 (by decide) ?_
      have hres := Option.some.inj hf
      subst hres
      exact ret_i C hr hlocks w rfl dX7_copy_15

set_option maxRecDepth 100000 in
theorem inX7_read_X7 : ∀ w ∈ u_ws RX7 TX7 9, w ∈ wsX7_read := by decide +kernel
set_option maxRecDepth 100000 in
theorem lkX7_read_48 : Cond.fieldLink RX7 48 "CleanNets" "tape" "LCleanNets$Tape;" ∈ wsX7_read := by decide +kernel
set_option maxRecDepth 100000 in
theorem inX7_read_X6 : ∀ w ∈ u_ws RX6 TX6 6, w ∈ wsX7_read := by decide +kernel
set_option maxRecDepth 100000 in
theorem lkX7_read_175 : Cond.fieldLink RX7 175 "CleanNets$Tape" "length" "I" ∈ wsX7_read := by decide +kernel
set_option maxRecDepth 100000 in
theorem lkX7_read_19 : Cond.fieldLink RX7 19 "CleanNets" "past" "LCleanNets$Past;" ∈ wsX7_read := by decide +kernel
set_option maxRecDepth 100000 in
theorem lkX7_read_12 : Cond.fieldLink RX7 12 "CleanNets" "now" "LCleanNets$Standing;" ∈ wsX7_read := by decide +kernel
set_option maxRecDepth 100000 in
theorem lkX7_read_181 : Cond.fieldLink RX7 181 "CleanNets$Tape" "nodes" "I" ∈ wsX7_read := by decide +kernel
set_option maxRecDepth 100000 in
theorem lkX7_read_182 : Cond.fieldLink RX7 182 "CleanNets$Tape" "near" "[I" ∈ wsX7_read := by decide +kernel
abbrev wX7_read (cI cL cS cH : ClassId) (a_this : Nat) (a_this_now : Nat) (a_this_past : Nat) (a_this_kept : Nat) (a_this_keptPast : Nat) (a_this_plans : Nat) (a_this_plans_search_net : Nat) (a_this_tape : Nat) (a_this_sheets : Nat) (a_this_now_near : Nat) (a_this_past_rows : Nat) (a_this_tape_near : Nat) (a_this_tape_letters : Nat) (q_hasImage : Int32) (q_now_nodes : Int32) (q_now_clean : Int32) (q_now_guards : Int32) (q_now_kind : Int32) (q_now_team : Int32) (q_now_draw : Int32) (q_now_near : Nat → Int32) (q_past_known : Int32) (q_past_rows_R : Nat → Nat) (q_past_rows_nodes : Nat → Int32) (q_past_rows_near_R : Nat → Nat) (q_past_rows_clean : Nat → Int32) (q_past_rows_guards : Nat → Int32) (q_past_rows_kind : Nat → Int32) (q_past_rows_team : Nat → Int32) (q_past_rows_draw : Nat → Int32) (q_past_rows_near : Nat → Nat → Int32) (q_tape_length : Int32) (q_tape_nodes : Int32) (q_tape_at : Int32) (q_tape_fault : Int32) (q_tape_letters : Nat → Int32) (q_tape_near : Nat → Int32) : va_W := [(a_this, .inr (7, [.ref a_this_now, .ref a_this_past, .ref a_this_kept, .ref a_this_keptPast, .int q_hasImage, .ref a_this_plans, .ref a_this_plans_search_net, .ref a_this_tape, .ref a_this_sheets])),
  (a_this_now, .inr (5, [.int q_now_nodes, .ref a_this_now_near, .int q_now_clean, .int q_now_guards, .int q_now_kind, .int q_now_team, .int q_now_draw])),
  (a_this_now_near, .inl (cI, 7, .inl q_now_near)),
  (a_this_past, .inr (1, [.int q_past_known, .ref a_this_past_rows])),
  (a_this_past_rows, .inl (cS, 6, .inr (.inr (.inr (.inr (fun k => some (q_past_rows_R k))))))),
  ((q_past_rows_R 0), .inr (5, [.int (q_past_rows_nodes 0), .ref (q_past_rows_near_R 0), .int (q_past_rows_clean 0), .int (q_past_rows_guards 0), .int (q_past_rows_kind 0), .int (q_past_rows_team 0), .int (q_past_rows_draw 0)])),
  ((q_past_rows_near_R 0), .inl (cI, 7, .inl (q_past_rows_near 0))),
  ((q_past_rows_R 1), .inr (5, [.int (q_past_rows_nodes 1), .ref (q_past_rows_near_R 1), .int (q_past_rows_clean 1), .int (q_past_rows_guards 1), .int (q_past_rows_kind 1), .int (q_past_rows_team 1), .int (q_past_rows_draw 1)])),
  ((q_past_rows_near_R 1), .inl (cI, 7, .inl (q_past_rows_near 1))),
  ((q_past_rows_R 2), .inr (5, [.int (q_past_rows_nodes 2), .ref (q_past_rows_near_R 2), .int (q_past_rows_clean 2), .int (q_past_rows_guards 2), .int (q_past_rows_kind 2), .int (q_past_rows_team 2), .int (q_past_rows_draw 2)])),
  ((q_past_rows_near_R 2), .inl (cI, 7, .inl (q_past_rows_near 2))),
  ((q_past_rows_R 3), .inr (5, [.int (q_past_rows_nodes 3), .ref (q_past_rows_near_R 3), .int (q_past_rows_clean 3), .int (q_past_rows_guards 3), .int (q_past_rows_kind 3), .int (q_past_rows_team 3), .int (q_past_rows_draw 3)])),
  ((q_past_rows_near_R 3), .inl (cI, 7, .inl (q_past_rows_near 3))),
  ((q_past_rows_R 4), .inr (5, [.int (q_past_rows_nodes 4), .ref (q_past_rows_near_R 4), .int (q_past_rows_clean 4), .int (q_past_rows_guards 4), .int (q_past_rows_kind 4), .int (q_past_rows_team 4), .int (q_past_rows_draw 4)])),
  ((q_past_rows_near_R 4), .inl (cI, 7, .inl (q_past_rows_near 4))),
  ((q_past_rows_R 5), .inr (5, [.int (q_past_rows_nodes 5), .ref (q_past_rows_near_R 5), .int (q_past_rows_clean 5), .int (q_past_rows_guards 5), .int (q_past_rows_kind 5), .int (q_past_rows_team 5), .int (q_past_rows_draw 5)])),
  ((q_past_rows_near_R 5), .inl (cI, 7, .inl (q_past_rows_near 5))),
  (a_this_tape, .inr (6, [.int q_tape_length, .int q_tape_nodes, .ref a_this_tape_near, .ref a_this_tape_letters, .int q_tape_at, .int q_tape_fault])),
  (a_this_tape_letters, .inl (cI, 90, .inl q_tape_letters)),
  (a_this_tape_near, .inl (cI, 7, .inl q_tape_near))]
def fX7_read (q_now_nodes : Int32) (q_now_clean : Int32) (q_now_guards : Int32) (q_now_kind : Int32) (q_now_team : Int32) (q_now_draw : Int32) (q_now_near : Nat → Int32) (q_past_known : Int32) (q_past_rows_R : Nat → Nat) (q_past_rows_nodes : Nat → Int32) (q_past_rows_near_R : Nat → Nat) (q_past_rows_clean : Nat → Int32) (q_past_rows_guards : Nat → Int32) (q_past_rows_kind : Nat → Int32) (q_past_rows_team : Nat → Int32) (q_past_rows_draw : Nat → Int32) (q_past_rows_near : Nat → Nat → Int32) (q_tape_length : Int32) (q_tape_nodes : Int32) (q_tape_at : Int32) (q_tape_fault : Int32) (q_tape_letters : Nat → Int32) (q_tape_near : Nat → Int32)  : Option (Int32 × Int32 × Int32 × Int32 × (Nat → Int32) × Int32 × (Nat → Nat) × (Nat → Int32) × (Nat → Nat) × (Nat → Int32) × (Nat → Int32) × (Nat → Int32) × (Nat → Int32) × (Nat → Int32) × (Nat → Nat → Int32) × Int32 × Int32 × Int32 × Int32 × (Nat → Int32)) := Option.bind (fX6_faultOfText q_tape_length q_tape_nodes q_tape_at q_tape_fault q_tape_letters q_tape_near) (fun r1 => (if r1.1 = (-1 : Int32) then Option.bind (fX1_remember q_now_nodes q_now_clean q_now_guards q_now_kind q_now_team q_now_draw q_now_near q_past_known q_past_rows_R q_past_rows_nodes q_past_rows_near_R q_past_rows_clean q_past_rows_guards q_past_rows_kind q_past_rows_team q_past_rows_draw q_past_rows_near) (fun r4 => Option.bind (fX5_beNewNet r1.2.2.2.2 q_now_nodes q_now_clean q_now_guards q_now_near r1.2.1) (fun r6 => Option.bind (fX5_links r6.1 r6.2.2.2) (fun r8 => some (r8, r6.1, r6.2.1, r6.2.2.1, r6.2.2.2, r4.1, r4.2.1, r4.2.2.1, r4.2.2.2.1, r4.2.2.2.2.1, r4.2.2.2.2.2.1, r4.2.2.2.2.2.2.1, r4.2.2.2.2.2.2.2.1, r4.2.2.2.2.2.2.2.2.1, r4.2.2.2.2.2.2.2.2.2, (0 : Int32), r1.2.1, r1.2.2.1, r1.2.2.2.1, r1.2.2.2.2)))) else some (((-20 : Int32) - r1.1), q_now_nodes, q_now_clean, q_now_guards, q_now_near, q_past_known, q_past_rows_R, q_past_rows_nodes, q_past_rows_near_R, q_past_rows_clean, q_past_rows_guards, q_past_rows_kind, q_past_rows_team, q_past_rows_draw, q_past_rows_near, (0 : Int32), r1.2.1, r1.2.2.1, r1.2.2.2.1, r1.2.2.2.2)))
set_option maxHeartbeats 4000000 in
set_option maxRecDepth 100000 in
theorem mX7_read (l : Launch) (D : vg) (cI cL cS cH : ClassId) (sz : Nat) (a_this : Nat) (a_this_now : Nat) (a_this_past : Nat) (a_this_kept : Nat) (a_this_keptPast : Nat) (a_this_plans : Nat) (a_this_plans_search_net : Nat) (a_this_tape : Nat) (a_this_sheets : Nat) (a_this_now_near : Nat) (a_this_past_rows : Nat) (a_this_tape_near : Nat) (a_this_tape_letters : Nat) (q_hasImage : Int32) (q_now_nodes : Int32) (q_now_clean : Int32) (q_now_guards : Int32) (q_now_kind : Int32) (q_now_team : Int32) (q_now_draw : Int32) (q_now_near : Nat → Int32) (q_past_known : Int32) (q_past_rows_R : Nat → Nat) (q_past_rows_nodes : Nat → Int32) (q_past_rows_near_R : Nat → Nat) (q_past_rows_clean : Nat → Int32) (q_past_rows_guards : Nat → Int32) (q_past_rows_kind : Nat → Int32) (q_past_rows_team : Nat → Int32) (q_past_rows_draw : Nat → Int32) (q_past_rows_near : Nat → Nat → Int32) (q_tape_length : Int32) (q_tape_nodes : Int32) (q_tape_at : Int32) (q_tape_fault : Int32) (q_tape_letters : Nat → Int32) (q_tape_near : Nat → Int32) {res : Int32 × Int32 × Int32 × Int32 × (Nat → Int32) × Int32 × (Nat → Nat) × (Nat → Int32) × (Nat → Nat) × (Nat → Int32) × (Nat → Int32) × (Nat → Int32) × (Nat → Int32) × (Nat → Int32) × (Nat → Nat → Int32) × Int32 × Int32 × Int32 × Int32 × (Nat → Int32)} (hf : fX7_read q_now_nodes q_now_clean q_now_guards q_now_kind q_now_team q_now_draw q_now_near q_past_known q_past_rows_R q_past_rows_nodes q_past_rows_near_R q_past_rows_clean q_past_rows_guards q_past_rows_kind q_past_rows_team q_past_rows_draw q_past_rows_near q_tape_length q_tape_nodes q_tape_at q_tape_fault q_tape_letters q_tape_near = some res) : cti l yX7_read wsX7_read ({ frames := 8, cells := 0, slots := 0, locals := 173 }) D (ty4 cI cL cS cH) sz [.ref a_this] (wX7_read cI cL cS cH a_this a_this_now a_this_past a_this_kept a_this_keptPast a_this_plans a_this_plans_search_net a_this_tape a_this_sheets a_this_now_near a_this_past_rows a_this_tape_near a_this_tape_letters q_hasImage q_now_nodes q_now_clean q_now_guards q_now_kind q_now_team q_now_draw q_now_near q_past_known q_past_rows_R q_past_rows_nodes q_past_rows_near_R q_past_rows_clean q_past_rows_guards q_past_rows_kind q_past_rows_team q_past_rows_draw q_past_rows_near q_tape_length q_tape_nodes q_tape_at q_tape_fault q_tape_letters q_tape_near) (wX7_read cI cL cS cH a_this a_this_now a_this_past a_this_kept a_this_keptPast a_this_plans a_this_plans_search_net a_this_tape a_this_sheets a_this_now_near a_this_past_rows a_this_tape_near a_this_tape_letters q_hasImage res.2.1 res.2.2.1 res.2.2.2.1 q_now_kind q_now_team q_now_draw res.2.2.2.2.1 res.2.2.2.2.2.1 res.2.2.2.2.2.2.1 res.2.2.2.2.2.2.2.1 res.2.2.2.2.2.2.2.2.1 res.2.2.2.2.2.2.2.2.2.1 res.2.2.2.2.2.2.2.2.2.2.1 res.2.2.2.2.2.2.2.2.2.2.2.1 res.2.2.2.2.2.2.2.2.2.2.2.2.1 res.2.2.2.2.2.2.2.2.2.2.2.2.2.1 res.2.2.2.2.2.2.2.2.2.2.2.2.2.2.1 res.2.2.2.2.2.2.2.2.2.2.2.2.2.2.2.1 res.2.2.2.2.2.2.2.2.2.2.2.2.2.2.2.2.1 res.2.2.2.2.2.2.2.2.2.2.2.2.2.2.2.2.2.1 res.2.2.2.2.2.2.2.2.2.2.2.2.2.2.2.2.2.2.1 q_tape_letters res.2.2.2.2.2.2.2.2.2.2.2.2.2.2.2.2.2.2.2) res.1 := by
  refine Met.ofW (cc := cX7_read) (maxL := 2) (ret := (some .int)) (by decide) rfl ?_
  intro p e s m args below meth c s₁ B hml hv
  obtain ⟨rfl, hpre⟩ := hv
  obtain rfl := hpre.1
  have C : CallFix p m c cX7_read 2 s _ wsX7_read RX7 := ⟨B.exec, B.bytes, hml, findClass_of_methodNamed B.named, atoms_spec (ws := wsX7_read) B.pre⟩
  have hr := B.returns
  have hlocks := B.notSynchronized
  have w := wd_start hpre
  clear hpre B
  have hl := lv_entry ([.ref a_this]) (n := 2) (Nat.le_of_ble_eq_true rfl)
  rw [lg_entry_eq]
  generalize (lg_sl ([.ref a_this]) ++ List.replicate (2 - (lg_sl ([.ref a_this])).length) Slot.unset).toArray = ls at hl ⊢
  have hl : lv_has ls 2 [(0, .ref a_this)] := hl
  unfold fX7_read at hf
  refine lv_aload_n C.1 C.2.1 dX7_read_0 rfl (lv_at hl 0 rfl) ?_
  refine r_get C w inX7_read_X7 0 rfl rfl 7 (by decide) lkX7_read_48 rfl dX7_read_1 ?_
  obtain ⟨r1, hc2, hf⟩ := bd hf
  refine call_Vi (ws' := (wX7_read cI cL cS cH a_this a_this_now a_this_past a_this_kept a_this_keptPast a_this_plans a_this_plans_search_net a_this_tape a_this_sheets a_this_now_near a_this_past_rows a_this_tape_near a_this_tape_letters q_hasImage q_now_nodes q_now_clean q_now_guards q_now_kind q_now_team q_now_draw q_now_near q_past_known q_past_rows_R q_past_rows_nodes q_past_rows_near_R q_past_rows_clean q_past_rows_guards q_past_rows_kind q_past_rows_team q_past_rows_draw q_past_rows_near q_tape_length r1.2.1 r1.2.2.1 r1.2.2.2.1 q_tape_letters r1.2.2.2.2)) (rest := []) C w (mX6_faultOfText l D cI cL cS cH _ a_this_tape a_this_tape_near a_this_tape_letters q_tape_length q_tape_nodes q_tape_at q_tape_fault q_tape_letters q_tape_near hc2) (cwV 0 C.2.2.2.2 gX7_read_X6_faultOfText rfl rfl rfl (by decide +kernel) ⟨Nat.le_of_ble_eq_true rfl, Nat.le_of_ble_eq_true rfl⟩) [17, 18, 19] [0, 1, 2, 3, 4, 5, 6, 7, 8, 9, 10, 11, 12, 13, 14, 15, 16] 20 ⟨rfl, rfl, rfl, trivial⟩ ⟨rfl, rfl, rfl, trivial⟩ ⟨⟨_, rfl, rfl⟩, ⟨_, rfl, rfl⟩, ⟨_, rfl, rfl⟩, ⟨_, rfl, rfl⟩, ⟨_, rfl, rfl⟩, ⟨_, rfl, rfl⟩, ⟨_, rfl, rfl⟩, ⟨_, rfl, rfl⟩, ⟨_, rfl, rfl⟩, ⟨_, rfl, rfl⟩, ⟨_, rfl, rfl⟩, ⟨_, rfl, rfl⟩, ⟨_, rfl, rfl⟩, ⟨_, rfl, rfl⟩, ⟨_, rfl, rfl⟩, ⟨_, rfl, rfl⟩, ⟨_, rfl, rfl⟩, trivial⟩ rfl (by decide) (by decide) (ci := 6) (q0 := 17) rfl rfl rfl hl.1 rfl (lv_room (Nat.le_of_ble_eq_true rfl)) dX7_read_4 ⟨Nat.zero_le _, Nat.zero_le _⟩ (fun H locs w => ?_)
  refine lv_istore_n (lv' := [(1, .int r1.1), (0, .ref a_this)]) C.1 C.2.1 dX7_read_7 rfl hl (by decide) rfl (fun ls hl => ?_)
  refine lv_aload_n C.1 C.2.1 dX7_read_8 rfl (lv_at hl 1 rfl) ?_
  refine r_get C w inX7_read_X7 0 rfl rfl 7 (by decide) lkX7_read_48 rfl dX7_read_9 ?_
  refine lv_iconst (v := (0 : Int32)) C.1 C.2.1 dX7_read_12 (by decide) ?_
  refine r_put (ws' := (wX7_read cI cL cS cH a_this a_this_now a_this_past a_this_kept a_this_keptPast a_this_plans a_this_plans_search_net a_this_tape a_this_sheets a_this_now_near a_this_past_rows a_this_tape_near a_this_tape_letters q_hasImage q_now_nodes q_now_clean q_now_guards q_now_kind q_now_team q_now_draw q_now_near q_past_known q_past_rows_R q_past_rows_nodes q_past_rows_near_R q_past_rows_clean q_past_rows_guards q_past_rows_kind q_past_rows_team q_past_rows_draw q_past_rows_near (0 : Int32) r1.2.1 r1.2.2.1 r1.2.2.2.1 q_tape_letters r1.2.2.2.2)) C w inX7_read_X6 tyX6 tyX6_ok nmX6 17 rfl rfl 0 (by decide) lkX7_read_175 rfl rfl rfl (Nat.le_of_ble_eq_true rfl) rfl dX7_read_13 (fun H locs w => ?_)
  refine lv_iload_n C.1 C.2.1 dX7_read_16 rfl (lv_at hl 0 rfl) ?_
  refine lv_iconst (v := (-1 : Int32)) C.1 C.2.1 dX7_read_17 (by decide) ?_
  refine lv_icmp_eq (tgt := 26) C.1 C.2.1 dX7_read_18 (by decide) (fun hq3 => ?_) (fun hq3 => ?_)
  · have hf := ite_t hf hq3
    refine lv_aload_n C.1 C.2.1 dX7_read_26 rfl (lv_at hl 1 rfl) ?_
    refine r_get C w inX7_read_X7 0 rfl rfl 1 (by decide) lkX7_read_19 rfl dX7_read_27 ?_
    refine lv_aload_n C.1 C.2.1 dX7_read_30 rfl (lv_at hl 1 rfl) ?_
    refine r_get C w inX7_read_X7 0 rfl rfl 0 (by decide) lkX7_read_12 rfl dX7_read_31 ?_
    obtain ⟨r4, hc5, hf⟩ := bd hf
    refine call_Vv (ws' := (wX7_read cI cL cS cH a_this a_this_now a_this_past a_this_kept a_this_keptPast a_this_plans a_this_plans_search_net a_this_tape a_this_sheets a_this_now_near a_this_past_rows a_this_tape_near a_this_tape_letters q_hasImage q_now_nodes q_now_clean q_now_guards q_now_kind q_now_team q_now_draw q_now_near r4.1 r4.2.1 r4.2.2.1 r4.2.2.2.1 r4.2.2.2.2.1 r4.2.2.2.2.2.1 r4.2.2.2.2.2.2.1 r4.2.2.2.2.2.2.2.1 r4.2.2.2.2.2.2.2.2.1 r4.2.2.2.2.2.2.2.2.2 (0 : Int32) r1.2.1 r1.2.2.1 r1.2.2.2.1 q_tape_letters r1.2.2.2.2)) (rest := []) C w (mX1_remember l D cI cL cS cH _ a_this_now a_this_now_near a_this_past a_this_past_rows q_now_nodes q_now_clean q_now_guards q_now_kind q_now_team q_now_draw q_now_near q_past_known q_past_rows_R q_past_rows_nodes q_past_rows_near_R q_past_rows_clean q_past_rows_guards q_past_rows_kind q_past_rows_team q_past_rows_draw q_past_rows_near hc5) (cwV 1 C.2.2.2.2 gX7_read_X1_remember rfl rfl rfl (by decide +kernel) ⟨Nat.le_of_ble_eq_true rfl, Nat.le_of_ble_eq_true rfl⟩) [1, 2, 3, 4, 5, 6, 7, 8, 9, 10, 11, 12, 13, 14, 15, 16] [0, 17, 18, 19] 20 ⟨rfl, rfl, rfl, rfl, rfl, rfl, rfl, rfl, rfl, rfl, rfl, rfl, rfl, rfl, rfl, rfl, trivial⟩ ⟨rfl, rfl, rfl, rfl, rfl, rfl, rfl, rfl, rfl, rfl, rfl, rfl, rfl, rfl, rfl, rfl, trivial⟩ ⟨⟨_, rfl, rfl⟩, ⟨_, rfl, rfl⟩, ⟨_, rfl, rfl⟩, ⟨_, rfl, rfl⟩, trivial⟩ rfl (by decide) (by decide) (ci := 1) (q0 := 3) rfl rfl rfl hl.1 rfl (lv_room (Nat.le_of_ble_eq_true rfl)) dX7_read_34 ⟨Nat.zero_le _, Nat.zero_le _⟩ (fun H locs w => ?_)
    refine lv_aload_n C.1 C.2.1 dX7_read_37 rfl (lv_at hl 1 rfl) ?_
    refine r_get C w inX7_read_X7 0 rfl rfl 0 (by decide) lkX7_read_12 rfl dX7_read_38 ?_
    refine lv_aload_n C.1 C.2.1 dX7_read_41 rfl (lv_at hl 1 rfl) ?_
    refine r_get C w inX7_read_X7 0 rfl rfl 7 (by decide) lkX7_read_48 rfl dX7_read_42 ?_
    refine r_get C w inX7_read_X6 17 rfl rfl 1 (by decide) lkX7_read_181 rfl dX7_read_45 ?_
    refine lv_aload_n C.1 C.2.1 dX7_read_48 rfl (lv_at hl 1 rfl) ?_
    refine r_get C w inX7_read_X7 0 rfl rfl 7 (by decide) lkX7_read_48 rfl dX7_read_49 ?_
    refine r_get C w inX7_read_X6 17 rfl rfl 2 (by decide) lkX7_read_182 rfl dX7_read_52 ?_
    obtain ⟨r6, hc7, hf⟩ := bd hf
    refine call_Vv (ws' := (wX7_read cI cL cS cH a_this a_this_now a_this_past a_this_kept a_this_keptPast a_this_plans a_this_plans_search_net a_this_tape a_this_sheets a_this_now_near a_this_past_rows a_this_tape_near a_this_tape_letters q_hasImage r6.1 r6.2.1 r6.2.2.1 q_now_kind q_now_team q_now_draw r6.2.2.2 r4.1 r4.2.1 r4.2.2.1 r4.2.2.2.1 r4.2.2.2.2.1 r4.2.2.2.2.2.1 r4.2.2.2.2.2.2.1 r4.2.2.2.2.2.2.2.1 r4.2.2.2.2.2.2.2.2.1 r4.2.2.2.2.2.2.2.2.2 (0 : Int32) r1.2.1 r1.2.2.1 r1.2.2.2.1 q_tape_letters r1.2.2.2.2)) (rest := []) C w (mX5_beNewNet l D cI cL cS cH _ a_this_tape_near a_this_now a_this_now_near r1.2.2.2.2 q_now_nodes q_now_clean q_now_guards q_now_kind q_now_team q_now_draw q_now_near r1.2.1 hc7) (cwV 2 C.2.2.2.2 gX7_read_X5_beNewNet rfl rfl rfl (by decide +kernel) ⟨Nat.le_of_ble_eq_true rfl, Nat.le_of_ble_eq_true rfl⟩) [19, 1, 2] [0, 3, 4, 5, 6, 7, 8, 9, 10, 11, 12, 13, 14, 15, 16, 17, 18] 20 ⟨rfl, rfl, rfl, trivial⟩ ⟨rfl, rfl, rfl, trivial⟩ ⟨⟨_, rfl, rfl⟩, ⟨_, rfl, rfl⟩, ⟨_, rfl, rfl⟩, ⟨_, rfl, rfl⟩, ⟨_, rfl, rfl⟩, ⟨_, rfl, rfl⟩, ⟨_, rfl, rfl⟩, ⟨_, rfl, rfl⟩, ⟨_, rfl, rfl⟩, ⟨_, rfl, rfl⟩, ⟨_, rfl, rfl⟩, ⟨_, rfl, rfl⟩, ⟨_, rfl, rfl⟩, ⟨_, rfl, rfl⟩, ⟨_, rfl, rfl⟩, ⟨_, rfl, rfl⟩, ⟨_, rfl, rfl⟩, trivial⟩ rfl (by decide) (by decide) (ci := 5) (q0 := 1) rfl rfl rfl hl.1 rfl (lv_room (Nat.le_of_ble_eq_true rfl)) dX7_read_55 ⟨Nat.zero_le _, Nat.zero_le _⟩ (fun H locs w => ?_)
    refine lv_aload_n C.1 C.2.1 dX7_read_58 rfl (lv_at hl 1 rfl) ?_
    refine r_get C w inX7_read_X7 0 rfl rfl 0 (by decide) lkX7_read_12 rfl dX7_read_59 ?_
    obtain ⟨r8, hc9, hf⟩ := bd hf
    refine call_Vi (ws' := (wX7_read cI cL cS cH a_this a_this_now a_this_past a_this_kept a_this_keptPast a_this_plans a_this_plans_search_net a_this_tape a_this_sheets a_this_now_near a_this_past_rows a_this_tape_near a_this_tape_letters q_hasImage r6.1 r6.2.1 r6.2.2.1 q_now_kind q_now_team q_now_draw r6.2.2.2 r4.1 r4.2.1 r4.2.2.1 r4.2.2.2.1 r4.2.2.2.2.1 r4.2.2.2.2.2.1 r4.2.2.2.2.2.2.1 r4.2.2.2.2.2.2.2.1 r4.2.2.2.2.2.2.2.2.1 r4.2.2.2.2.2.2.2.2.2 (0 : Int32) r1.2.1 r1.2.2.1 r1.2.2.2.1 q_tape_letters r1.2.2.2.2)) (rest := []) C w (mX5_links l D cI cL cS cH _ a_this_now a_this_now_near r6.1 r6.2.1 r6.2.2.1 q_now_kind q_now_team q_now_draw r6.2.2.2 hc9) (cwV 0 C.2.2.2.2 gX7_read_X5_links rfl rfl rfl (by decide +kernel) ⟨Nat.le_of_ble_eq_true rfl, Nat.le_of_ble_eq_true rfl⟩) [1, 2] [0, 3, 4, 5, 6, 7, 8, 9, 10, 11, 12, 13, 14, 15, 16, 17, 18, 19] 20 ⟨rfl, rfl, trivial⟩ ⟨rfl, rfl, trivial⟩ ⟨⟨_, rfl, rfl⟩, ⟨_, rfl, rfl⟩, ⟨_, rfl, rfl⟩, ⟨_, rfl, rfl⟩, ⟨_, rfl, rfl⟩, ⟨_, rfl, rfl⟩, ⟨_, rfl, rfl⟩, ⟨_, rfl, rfl⟩, ⟨_, rfl, rfl⟩, ⟨_, rfl, rfl⟩, ⟨_, rfl, rfl⟩, ⟨_, rfl, rfl⟩, ⟨_, rfl, rfl⟩, ⟨_, rfl, rfl⟩, ⟨_, rfl, rfl⟩, ⟨_, rfl, rfl⟩, ⟨_, rfl, rfl⟩, ⟨_, rfl, rfl⟩, trivial⟩ rfl (by decide) (by decide) (ci := 5) (q0 := 1) rfl rfl rfl hl.1 rfl (lv_room (Nat.le_of_ble_eq_true rfl)) dX7_read_62 ⟨Nat.zero_le _, Nat.zero_le _⟩ (fun H locs w => ?_)
    have hres := Option.some.inj hf
    subst hres
    exact ret_i C hr hlocks w rfl dX7_read_65
  · have hf := ite_f hf hq3
    refine lv_bipush (v := (-20 : Int32)) C.1 C.2.1 dX7_read_21 (by decide) ?_
    refine lv_iload_n C.1 C.2.1 dX7_read_23 rfl (lv_at hl 0 rfl) ?_
    refine lv_isub C.1 C.2.1 dX7_read_24 ?_
    have hres := Option.some.inj hf
    subst hres
    exact ret_i C hr hlocks w rfl dX7_read_25
