theorem sw_out0_23 {x : Int32} (h : ∀ k : Nat, k < 24 → ¬ x = nI k) : x.toInt < 0 ∨ 23 < x.toInt := by
  rcases Int.lt_or_le x.toInt 0 with h0 | h0
  · exact Or.inl h0
  · rcases Int.lt_or_le 23 x.toInt with g | g
    · exact Or.inr g
    · exact absurd (Int32.toInt_inj.mp (by rw [nI_toInt (by omega)]; omega)) (h x.toInt.toNat (by omega))
set_option maxHeartbeats 4000000 in
set_option maxRecDepth 100000 in
theorem law_loop {p : Program} {l : Launch} {e : Env} {s : State} {m : MethodId} {below : List Frame} {meth : Method} {c : Code} {cells slots : Nat} {D : vg} {cI cL cS cH : ClassId} {b L : Nat} {xs : Nat → Int32} {a_x a_m : Nat} (K : lwC p s m c #[Value.ref b] b L xs (fun q => s.heap.size ≤ q)) (hr : meth.sig.returnType = ret) (hlocks : meth.locks = false) (hL : L ≤ 3072) (hcs : cells + 0 ≤ room_1.cells ∧ slots + 0 ≤ room_1.slots) : ∀ (n t : Nat), 6 * t ≤ L → L < 6 * t + 6 * n → ∀ (ws : va_W) (H : Heap) (locs : List Loc) (ls : Array Slot), Good cI cL cS cH a_x a_m t ws → wd D (ty4 cI cL cS cH) s (fun q => s.heap.size ≤ q) s.heap H locs ws → lv_has ls 4 [(0, .ref b), (1, .ref a_x), (2, .ref a_m), (3, .int (nI (6 * t)))] → W p l e room_1 s m #[Value.ref b] below meth c H locs cells slots (lw_Z below #[Value.ref b] s) (F0 m 18 ls []) := by
  have C := K.1
  intro n
  induction n with
  | zero => intro t h1 h2; omega
  | succ n ih =>
    intro t h1 h2 ws H locs ls hG w hl
    refine lv_iload_n C.1 C.2.1 dL_law_18 rfl (lv_at hl 3 rfl) ?_
    refine lv_aload_n C.1 C.2.1 dL_law_19 rfl (lv_at hl 0 rfl) ?_
    refine va_slen C.1 C.2.1 K.2.1 K.2.2.1 K.2.2.2 w.2.2.2.1 dL_law_20 ?_
    refine lv_bipush (v := (6 : Int32)) C.1 C.2.1 dL_law_21 (by decide) ?_
    refine lv_isub C.1 C.2.1 dL_law_23 ?_
    refine lv_icmp_gt (tgt := 932) C.1 C.2.1 dL_law_24 (by decide) (fun hq => ?_) (fun hq => ?_)
    · refine lv_iconst (v := (1 : Int32)) C.1 C.2.1 dL_law_932 (by decide) ?_
      refine va_forget (fun q hq => w.2.2.2.1.2.2 q hq) ?_
      refine W.widen (k := 600000) (n := 7302250) hcs.1 hcs.2 ?_
      exact lw_ret C.1 C.2.1 hr hlocks dL_law_933
    have h6 : 6 * t + 6 ≤ L := lw_six hL (by omega) hq
    have hv : ∀ k : Nat, k < 6 → vp_in (nI (6 * t) + nI k) L := fun k hk => by rw [nI_add]; exact vp_in_nI (by omega) (by omega)
    have hk : ∀ (ws' : va_W) (H : Heap) (locs : List Loc) (ls : Array Slot), Good cI cL cS cH a_x a_m (t + 1) ws' → wd D (ty4 cI cL cS cH) s (fun q => s.heap.size ≤ q) s.heap H locs ws' → lv_has ls 4 [(0, .ref b), (1, .ref a_x), (2, .ref a_m), (3, .int (nI (6 * t)))] → W p l e room_1 s m #[Value.ref b] below meth c H locs cells slots (lw_Z below #[Value.ref b] s) (F0 m 926 ls []) := by
      intro ws' H locs ls g w hl
      refine lv_iinc (v := nI (6 * (t + 1))) (lv' := [(3, .int (nI (6 * (t + 1)))), (0, .ref b), (1, .ref a_x), (2, .ref a_m)]) C.1 C.2.1 dL_law_926 hl (k := 3) rfl (nI_add (6 * t) 6) (by decide) rfl (fun ls hl => ?_)
      refine lv_goto (tgt := 18) C.1 C.2.1 dL_law_929 (by decide) ?_
      exact ih (t + 1) (by omega) (by omega) ws' H locs ls g w (lv_sub hl [1, 2, 3, 0] rfl)
    obtain ⟨a_x_now, a_x_past, a_x_kept, a_x_keptPast, a_x_plans, a_x_plans_search_net, a_x_tape, a_x_sheets, a_x_kept_near, a_x_keptPast_rows, a_x_now_near, a_x_past_rows, a_x_plans_search, a_x_plans_lengths, a_x_plans_search_states, a_x_plans_search_steps, a_x_plans_search_seen, a_x_plans_search_net_near, a_x_plans_search_net_beside, a_x_sheets_e, a_x_sheets_items_e, a_x_tape_near, a_x_tape_letters, a_m_st, a_m_past, a_m_image, a_m_imagePast, a_m_tape, a_m_laneOf, a_m_sizeOf, a_m_items, a_m_code, a_m_from, a_m_by, a_m_far, a_m_met, a_m_told, q_x_hasImage, q_x_kept_nodes, q_x_kept_clean, q_x_kept_guards, q_x_kept_kind, q_x_kept_team, q_x_kept_draw, q_x_kept_near, q_x_keptPast_known, q_x_keptPast_rows_R, q_x_keptPast_rows_nodes, q_x_keptPast_rows_near_R, q_x_keptPast_rows_clean, q_x_keptPast_rows_guards, q_x_keptPast_rows_kind, q_x_keptPast_rows_team, q_x_keptPast_rows_draw, q_x_keptPast_rows_near, q_x_now_nodes, q_x_now_clean, q_x_now_guards, q_x_now_kind, q_x_now_team, q_x_now_draw, q_x_now_near, q_x_past_known, q_x_past_rows_R, q_x_past_rows_nodes, q_x_past_rows_near_R, q_x_past_rows_clean, q_x_past_rows_guards, q_x_past_rows_kind, q_x_past_rows_team, q_x_past_rows_draw, q_x_past_rows_near, q_x_plans_edition, q_x_plans_held, q_x_plans_lengths, q_x_plans_search_found, q_x_plans_search_goal, q_x_plans_search_isSteady, q_x_plans_search_net_nodes, q_x_plans_search_net_all, q_x_plans_search_net_edition, q_x_plans_search_net_beside, q_x_plans_search_net_near, q_x_plans_search_seen, q_x_plans_search_states, q_x_plans_search_steps, q_x_sheets_lane, q_x_sheets_length, q_x_sheets_items, q_x_tape_length, q_x_tape_nodes, q_x_tape_at, q_x_tape_fault, q_x_tape_letters, q_x_tape_near, q_m_acts, q_m_imageActs, q_m_tapeMany, q_m_many, q_m_round, q_m_readAt, q_m_isFault, q_m_toldMany, q_m_by, q_m_code, q_m_far, q_m_from, q_m_image, q_m_imagePast, q_m_items, q_m_laneOf, q_m_met, q_m_past, q_m_sizeOf, q_m_st, q_m_tape, q_m_told, rfl, hG⟩ := hG
    refine lv_aload_n C.1 C.2.1 dL_law_27 rfl (lv_at hl 0 rfl) ?_
    refine lv_iload_n C.1 C.2.1 dL_law_28 rfl (lv_at hl 3 rfl) ?_
    refine va_sld C.1 C.2.1 K.2.1 K.2.2.1 K.2.2.2 w.2.2.2.1 (vp_in_nI (by omega) (by omega)) dL_law_29 ?_
    refine lv_bipush (v := (31 : Int32)) C.1 C.2.1 dL_law_30 (by decide) ?_
    refine lv_iand C.1 C.2.1 dL_law_32 ?_
    generalize (xs (nI (6 * t)).toNatClampNeg &&& (31 : Int32)) = o
    by_cases h0 : o = (0 : Int32)
    · refine lv_tableIn (tgt := 144) (off := 111) C.1 C.2.1 dL_law_33 (by rw [h0]; decide) (by rw [h0]; decide) (by rw [h0]; rfl) (by decide) ?_
      exact ld_node K hcs hl w (by omega) hG ⟨hv 1 (by decide), rfl⟩ ⟨hv 2 (by decide), rfl⟩ hk
    by_cases h1 : o = (1 : Int32)
    · refine lv_tableIn (tgt := 177) (off := 144) C.1 C.2.1 dL_law_33 (by rw [h1]; decide) (by rw [h1]; decide) (by rw [h1]; rfl) (by decide) ?_
      exact ld_count K hcs hl w (by omega) hG ⟨hv 1 (by decide), rfl⟩ hk
    by_cases h2 : o = (2 : Int32)
    · refine lv_tableIn (tgt := 200) (off := 167) C.1 C.2.1 dL_law_33 (by rw [h2]; decide) (by rw [h2]; decide) (by rw [h2]; rfl) (by decide) ?_
      exact ld_would K hcs hl w (by omega) hG ⟨hv 1 (by decide), rfl⟩ hk
    by_cases h3 : o = (3 : Int32)
    · refine lv_tableIn (tgt := 223) (off := 190) C.1 C.2.1 dL_law_33 (by rw [h3]; decide) (by rw [h3]; decide) (by rw [h3]; rfl) (by decide) ?_
      exact ld_team K hcs hl w (by omega) hG ⟨hv 1 (by decide), rfl⟩ ⟨hv 2 (by decide), rfl⟩ hk
    by_cases h4 : o = (4 : Int32)
    · refine lv_tableIn (tgt := 256) (off := 223) C.1 C.2.1 dL_law_33 (by rw [h4]; decide) (by rw [h4]; decide) (by rw [h4]; rfl) (by decide) ?_
      exact ld_fewest K hcs hl w (by omega) hG ⟨hv 1 (by decide), rfl⟩ ⟨hv 2 (by decide), rfl⟩ ⟨hv 3 (by decide), rfl⟩ hk
    by_cases h5 : o = (5 : Int32)
    · refine lv_tableIn (tgt := 299) (off := 266) C.1 C.2.1 dL_law_33 (by rw [h5]; decide) (by rw [h5]; decide) (by rw [h5]; rfl) (by decide) ?_
      exact ld_plan K hcs hl w (by omega) hG ⟨hv 1 (by decide), rfl⟩ ⟨hv 2 (by decide), rfl⟩ ⟨hv 3 (by decide), rfl⟩ hk
    by_cases h6 : o = (6 : Int32)
    · refine lv_tableIn (tgt := 342) (off := 309) C.1 C.2.1 dL_law_33 (by rw [h6]; decide) (by rw [h6]; decide) (by rw [h6]; rfl) (by decide) ?_
      exact ld_rest K hcs hl w (by omega) hG ⟨hv 1 (by decide), rfl⟩ hk
    by_cases h7 : o = (7 : Int32)
    · refine lv_tableIn (tgt := 365) (off := 332) C.1 C.2.1 dL_law_33 (by rw [h7]; decide) (by rw [h7]; decide) (by rw [h7]; rfl) (by decide) ?_
      exact ld_lost K hcs hl w (by omega) hG ⟨hv 1 (by decide), rfl⟩ ⟨hv 2 (by decide), rfl⟩ hk
    by_cases h8 : o = (8 : Int32)
    · refine lv_tableIn (tgt := 398) (off := 365) C.1 C.2.1 dL_law_33 (by rw [h8]; decide) (by rw [h8]; decide) (by rw [h8]; rfl) (by decide) ?_
      exact ld_act K hcs hl w (by omega) hG ⟨hv 1 (by decide), rfl⟩ hk
    by_cases h9 : o = (9 : Int32)
    · refine lv_tableIn (tgt := 421) (off := 388) C.1 C.2.1 dL_law_33 (by rw [h9]; decide) (by rw [h9]; decide) (by rw [h9]; rfl) (by decide) ?_
      exact ld_link K hcs hl w (by omega) hG ⟨hv 1 (by decide), rfl⟩ ⟨hv 2 (by decide), rfl⟩ ⟨hv 3 (by decide), rfl⟩ hk
    by_cases h10 : o = (10 : Int32)
    · refine lv_tableIn (tgt := 464) (off := 431) C.1 C.2.1 dL_law_33 (by rw [h10]; decide) (by rw [h10]; decide) (by rw [h10]; rfl) (by decide) ?_
      exact ld_tell K hcs hl w (by omega) hG ⟨hv 1 (by decide), rfl⟩ ⟨hv 2 (by decide), rfl⟩ hk
    by_cases h11 : o = (11 : Int32)
    · refine lv_tableIn (tgt := 497) (off := 464) C.1 C.2.1 dL_law_33 (by rw [h11]; decide) (by rw [h11]; decide) (by rw [h11]; rfl) (by decide) ?_
      exact ld_type K hcs hl w (by omega) hG ⟨hv 1 (by decide), rfl⟩ hk
    by_cases h12 : o = (12 : Int32)
    · refine lv_tableIn (tgt := 520) (off := 487) C.1 C.2.1 dL_law_33 (by rw [h12]; decide) (by rw [h12]; decide) (by rw [h12]; rfl) (by decide) ?_
      exact ld_read K hcs hl w (by omega) hG  hk
    by_cases h13 : o = (13 : Int32)
    · refine lv_tableIn (tgt := 533) (off := 500) C.1 C.2.1 dL_law_33 (by rw [h13]; decide) (by rw [h13]; decide) (by rw [h13]; rfl) (by decide) ?_
      exact ld_drift K hcs hl w (by omega) hG ⟨hv 1 (by decide), rfl⟩ hk
    by_cases h14 : o = (14 : Int32)
    · refine lv_tableIn (tgt := 556) (off := 523) C.1 C.2.1 dL_law_33 (by rw [h14]; decide) (by rw [h14]; decide) (by rw [h14]; rfl) (by decide) ?_
      exact ld_undo K hcs hl w (by omega) hG  hk
    by_cases h15 : o = (15 : Int32)
    · refine lv_tableIn (tgt := 569) (off := 536) C.1 C.2.1 dL_law_33 (by rw [h15]; decide) (by rw [h15]; decide) (by rw [h15]; rfl) (by decide) ?_
      exact ld_seed K hcs hl w (by omega) hG ⟨hv 1 (by decide), rfl⟩ hk
    by_cases h16 : o = (16 : Int32)
    · refine lv_tableIn (tgt := 592) (off := 559) C.1 C.2.1 dL_law_33 (by rw [h16]; decide) (by rw [h16]; decide) (by rw [h16]; rfl) (by decide) ?_
      exact ld_image K hcs hl w (by omega) hG  hk
    by_cases h17 : o = (17 : Int32)
    · refine lv_tableIn (tgt := 605) (off := 572) C.1 C.2.1 dL_law_33 (by rw [h17]; decide) (by rw [h17]; decide) (by rw [h17]; rfl) (by decide) ?_
      exact ld_restore K hcs hl w (by omega) hG  hk
    by_cases h18 : o = (18 : Int32)
    · refine lv_tableIn (tgt := 618) (off := 585) C.1 C.2.1 dL_law_33 (by rw [h18]; decide) (by rw [h18]; decide) (by rw [h18]; rfl) (by decide) ?_
      exact ld_allowed K hcs hl w (by omega) hG ⟨hv 1 (by decide), rfl⟩ ⟨hv 2 (by decide), rfl⟩ ⟨hv 3 (by decide), rfl⟩ ⟨hv 4 (by decide), rfl⟩ hk
    by_cases h19 : o = (19 : Int32)
    · refine lv_tableIn (tgt := 671) (off := 638) C.1 C.2.1 dL_law_33 (by rw [h19]; decide) (by rw [h19]; decide) (by rw [h19]; rfl) (by decide) ?_
      exact ld_film K hcs hl w (by omega) hG ⟨hv 1 (by decide), rfl⟩ ⟨hv 2 (by decide), rfl⟩ ⟨hv 3 (by decide), rfl⟩ hk
    by_cases h20 : o = (20 : Int32)
    · refine lv_tableIn (tgt := 714) (off := 681) C.1 C.2.1 dL_law_33 (by rw [h20]; decide) (by rw [h20]; decide) (by rw [h20]; rfl) (by decide) ?_
      exact ld_sheet K hcs hl w (by omega) hG ⟨hv 1 (by decide), rfl⟩ ⟨hv 2 (by decide), rfl⟩ ⟨hv 3 (by decide), rfl⟩ hk
    by_cases h21 : o = (21 : Int32)
    · refine lv_tableIn (tgt := 757) (off := 724) C.1 C.2.1 dL_law_33 (by rw [h21]; decide) (by rw [h21]; decide) (by rw [h21]; rfl) (by decide) ?_
      exact ld_drop K hcs hl w (by omega) hG ⟨hv 1 (by decide), rfl⟩ hk
    by_cases h22 : o = (22 : Int32)
    · refine lv_tableIn (tgt := 780) (off := 747) C.1 C.2.1 dL_law_33 (by rw [h22]; decide) (by rw [h22]; decide) (by rw [h22]; rfl) (by decide) ?_
      exact ld_item K hcs hl w (by omega) hG ⟨hv 1 (by decide), rfl⟩ ⟨hv 2 (by decide), rfl⟩ ⟨hv 3 (by decide), rfl⟩ ⟨hv 4 (by decide), rfl⟩ ⟨hv 5 (by decide), rfl⟩ hk
    by_cases h23 : o = (23 : Int32)
    · refine lv_tableIn (tgt := 863) (off := 830) C.1 C.2.1 dL_law_33 (by rw [h23]; decide) (by rw [h23]; decide) (by rw [h23]; rfl) (by decide) ?_
      exact ld_copy K hcs hl w (by omega) hG ⟨hv 1 (by decide), rfl⟩ ⟨hv 2 (by decide), rfl⟩ ⟨hv 3 (by decide), rfl⟩ ⟨hv 4 (by decide), rfl⟩ ⟨hv 5 (by decide), rfl⟩ hk
    refine lv_tableOut (tgt := 926) C.1 C.2.1 dL_law_33 (sw_out0_23 (fun k hk => ?_)) (by decide) (hk _ _ _ _ (good_mk (LR_up hG)) w hl)
    rcases (show k = 0 ∨ k = 1 ∨ k = 2 ∨ k = 3 ∨ k = 4 ∨ k = 5 ∨ k = 6 ∨ k = 7 ∨ k = 8 ∨ k = 9 ∨ k = 10 ∨ k = 11 ∨ k = 12 ∨ k = 13 ∨ k = 14 ∨ k = 15 ∨ k = 16 ∨ k = 17 ∨ k = 18 ∨ k = 19 ∨ k = 20 ∨ k = 21 ∨ k = 22 ∨ k = 23 by omega) with rfl | rfl | rfl | rfl | rfl | rfl | rfl | rfl | rfl | rfl | rfl | rfl | rfl | rfl | rfl | rfl | rfl | rfl | rfl | rfl | rfl | rfl | rfl | rfl
    · exact h0
    · exact h1
    · exact h2
    · exact h3
    · exact h4
    · exact h5
    · exact h6
    · exact h7
    · exact h8
    · exact h9
    · exact h10
    · exact h11
    · exact h12
    · exact h13
    · exact h14
    · exact h15
    · exact h16
    · exact h17
    · exact h18
    · exact h19
    · exact h20
    · exact h21
    · exact h22
    · exact h23
