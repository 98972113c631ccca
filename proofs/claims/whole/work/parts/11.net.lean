set_option maxRecDepth 100000 in
theorem inX0_isOf_X0 : ∀ w ∈ u_ws RX0 TX0 5, w ∈ wsX0_isOf := by decide +kernel
set_option maxRecDepth 100000 in
theorem lkX0_isOf_21 : Cond.fieldLink RX0 21 "CleanNets$Net" "near" "[I" ∈ wsX0_isOf := by decide +kernel
set_option maxRecDepth 100000 in
theorem inX0_isOf_X5 : ∀ w ∈ u_ws RX5 TX5 7, w ∈ wsX0_isOf := by decide +kernel
set_option maxRecDepth 100000 in
theorem lkX0_isOf_39 : Cond.fieldLink RX0 39 "CleanNets$Standing" "near" "[I" ∈ wsX0_isOf := by decide +kernel
set_option maxRecDepth 100000 in
theorem lkX0_isOf_9 : Cond.fieldLink RX0 9 "CleanNets$Net" "nodes" "I" ∈ wsX0_isOf := by decide +kernel
set_option maxRecDepth 100000 in
theorem lkX0_isOf_36 : Cond.fieldLink RX0 36 "CleanNets$Standing" "nodes" "I" ∈ wsX0_isOf := by decide +kernel
abbrev wX0_isOf (cI cL cS cH : ClassId) (a_p1 : Nat) (a_p1_near : Nat) (a_this : Nat) (a_this_near : Nat) (a_this_beside : Nat) (q_p1_nodes : Int32) (q_p1_clean : Int32) (q_p1_guards : Int32) (q_p1_kind : Int32) (q_p1_team : Int32) (q_p1_draw : Int32) (q_p1_near : Nat → Int32) (q_nodes : Int32) (q_all : Int32) (q_edition : Int32) (q_near : Nat → Int32) : va_W := [(a_p1, .inr (5, [.int q_p1_nodes, .ref a_p1_near, .int q_p1_clean, .int q_p1_guards, .int q_p1_kind, .int q_p1_team, .int q_p1_draw])),
  (a_p1_near, .inl (cI, 7, .inl q_p1_near)),
  (a_this, .inr (0, [.int q_nodes, .int q_all, .int q_edition, .ref a_this_near, .ref a_this_beside])),
  (a_this_near, .inl (cI, 7, .inl q_near))]
def jX0_isOf_49 (q_p1_nodes : Int32) (q_p1_near : Nat → Int32) (q_nodes : Int32) (q_near : Nat → Int32) (y49_3 : Int32) (z49_0 : Int32) : Option ((Int32 × Int32) ⊕ (Int32 × Int32)) := some (.inl (z49_0, (y49_3 + (1 : Int32))))
def bX0_isOf_19 (q_p1_nodes : Int32) (q_p1_near : Nat → Int32) (q_nodes : Int32) (q_near : Nat → Int32)  (v19 : Int32 × Int32) : Option ((Int32 × Int32) ⊕ (Int32 × Int32)) := (if (7 : Int32) ≤ v19.2 then some (.inr (v19.1, v19.2)) else (if v19.1 = 0 then some (.inr (v19.1, v19.2)) else Option.bind (rd q_near 7 v19.2) (fun y3 => Option.bind (rd q_p1_near 7 v19.2) (fun y5 => (if y3 = y5 then jX0_isOf_49 q_p1_nodes q_p1_near q_nodes q_near v19.2 (1 : Int32) else jX0_isOf_49 q_p1_nodes q_p1_near q_nodes q_near v19.2 (0 : Int32))))))
def jX0_isOf_16 (q_p1_nodes : Int32) (q_p1_near : Nat → Int32) (q_nodes : Int32) (q_near : Nat → Int32) (z16_0 : Int32) : Option (Int32) := Option.bind (itL (bX0_isOf_19 q_p1_nodes q_p1_near q_nodes q_near) fu (z16_0, (0 : Int32))) (fun ex8 => Option.bind (bz ex8.1) (fun _ => some ex8.1))
def fX0_isOf (q_p1_nodes : Int32) (q_p1_near : Nat → Int32) (q_nodes : Int32) (q_near : Nat → Int32)  : Option (Int32) := (if q_nodes = q_p1_nodes then jX0_isOf_16 q_p1_nodes q_p1_near q_nodes q_near (1 : Int32) else jX0_isOf_16 q_p1_nodes q_p1_near q_nodes q_near (0 : Int32))
abbrev gX0_isOf (p : Program) (l : Launch) (e : Env) (s : State) (m : MethodId) (below : List Frame) (meth : Method) (c : Code) (D : vg) (cI cL cS cH : ClassId) (a_p1 : Nat) (a_p1_near : Nat) (a_this : Nat) (a_this_near : Nat) (a_this_beside : Nat) (q_p1_nodes : Int32) (q_p1_clean : Int32) (q_p1_guards : Int32) (q_p1_kind : Int32) (q_p1_team : Int32) (q_p1_draw : Int32) (q_p1_near : Nat → Int32) (q_nodes : Int32) (q_all : Int32) (q_edition : Int32) (q_near : Nat → Int32) (res : Int32) (H : Heap) (locs : List Loc) (g : JFrame) : Prop := W p l e (headSpec wsX0_isOf ({ frames := 0, cells := 0, slots := 0, locals := 0 })).room s m ([.ref a_this, .ref a_p1] : List Value).toArray below meth c H locs 0 0 (MQ below (va_Qi (fun r' (_ : Unit) => r' = res) (fun _ t => pos1 D s.heap.size (wX0_isOf cI cL cS cH a_p1 a_p1_near a_this a_this_near a_this_beside q_p1_nodes q_p1_clean q_p1_guards q_p1_kind q_p1_team q_p1_draw q_p1_near q_nodes q_all q_edition q_near) (wX0_isOf cI cL cS cH a_p1 a_p1_near a_this a_this_near a_this_beside q_p1_nodes q_p1_clean q_p1_guards q_p1_kind q_p1_team q_p1_draw q_p1_near q_nodes q_all q_edition q_near) t) (va_A (wX0_isOf cI cL cS cH a_p1 a_p1_near a_this a_this_near a_this_beside q_p1_nodes q_p1_clean q_p1_guards q_p1_kind q_p1_team q_p1_draw q_p1_near q_nodes q_all q_edition q_near) s.heap.size)) ([.ref a_this, .ref a_p1] : List Value).toArray s 0 0 (va_A (wX0_isOf cI cL cS cH a_p1 a_p1_near a_this a_this_near a_this_beside q_p1_nodes q_p1_clean q_p1_guards q_p1_kind q_p1_team q_p1_draw q_p1_near q_nodes q_all q_edition q_near) s.heap.size)) g
set_option maxHeartbeats 4000000 in
set_option maxRecDepth 100000 in
theorem mX0_isOf (l : Launch) (D : vg) (cI cL cS cH : ClassId) (sz : Nat) (a_p1 : Nat) (a_p1_near : Nat) (a_this : Nat) (a_this_near : Nat) (a_this_beside : Nat) (q_p1_nodes : Int32) (q_p1_clean : Int32) (q_p1_guards : Int32) (q_p1_kind : Int32) (q_p1_team : Int32) (q_p1_draw : Int32) (q_p1_near : Nat → Int32) (q_nodes : Int32) (q_all : Int32) (q_edition : Int32) (q_near : Nat → Int32) {res : Int32} (hf : fX0_isOf q_p1_nodes q_p1_near q_nodes q_near = some res) : cti l yX0_isOf wsX0_isOf ({ frames := 0, cells := 0, slots := 0, locals := 0 }) D (ty4 cI cL cS cH) sz [.ref a_this, .ref a_p1] (wX0_isOf cI cL cS cH a_p1 a_p1_near a_this a_this_near a_this_beside q_p1_nodes q_p1_clean q_p1_guards q_p1_kind q_p1_team q_p1_draw q_p1_near q_nodes q_all q_edition q_near) (wX0_isOf cI cL cS cH a_p1 a_p1_near a_this a_this_near a_this_beside q_p1_nodes q_p1_clean q_p1_guards q_p1_kind q_p1_team q_p1_draw q_p1_near q_nodes q_all q_edition q_near) res := by
  refine Met.ofW (cc := cX0_isOf) (maxL := 4) (ret := (some .boolean)) (by decide) rfl ?_
  intro p e s m args below meth c s₁ B hml hv
  obtain ⟨rfl, hpre⟩ := hv
  obtain rfl := hpre.1
  have C : CallFix p m c cX0_isOf 4 s _ wsX0_isOf RX0 := ⟨B.exec, B.bytes, hml, findClass_of_methodNamed B.named, atoms_spec (ws := wsX0_isOf) B.pre⟩
  have hr := B.returns
  have hlocks := B.notSynchronized
  have w := wd_start hpre
  clear hpre B
  have hl := lv_entry ([.ref a_this, .ref a_p1]) (n := 4) (Nat.le_of_ble_eq_true rfl)
  rw [lg_entry_eq]
  generalize (lg_sl ([.ref a_this, .ref a_p1]) ++ List.replicate (4 - (lg_sl ([.ref a_this, .ref a_p1])).length) Slot.unset).toArray = ls at hl ⊢
  have hl : lv_has ls 4 [(0, .ref a_this), (1, .ref a_p1)] := hl
  unfold fX0_isOf at hf
  have hlp19 : ∀  (ex19 : Int32 × Int32) (hk : (∀ (H : Heap) (locs : List Loc) (ls : Array Slot), wd D (ty4 cI cL cS cH) s (va_A (wX0_isOf cI cL cS cH a_p1 a_p1_near a_this a_this_near a_this_beside q_p1_nodes q_p1_clean q_p1_guards q_p1_kind q_p1_team q_p1_draw q_p1_near q_nodes q_all q_edition q_near) s.heap.size) s.heap H locs (wX0_isOf cI cL cS cH a_p1 a_p1_near a_this a_this_near a_this_beside q_p1_nodes q_p1_clean q_p1_guards q_p1_kind q_p1_team q_p1_draw q_p1_near q_nodes q_all q_edition q_near) → lv_has ls 4 [(2, .int ex19.1)] → gX0_isOf p l e s m below meth c D cI cL cS cH a_p1 a_p1_near a_this a_this_near a_this_beside q_p1_nodes q_p1_clean q_p1_guards q_p1_kind q_p1_team q_p1_draw q_p1_near q_nodes q_all q_edition q_near res H locs (F0 m 56 ls []))) (n : Nat) (v19 : Int32 × Int32) (H : Heap) (locs : List Loc) (ls : Array Slot), itL (bX0_isOf_19 q_p1_nodes q_p1_near q_nodes q_near) n v19 = some ex19 → wd D (ty4 cI cL cS cH) s (va_A (wX0_isOf cI cL cS cH a_p1 a_p1_near a_this a_this_near a_this_beside q_p1_nodes q_p1_clean q_p1_guards q_p1_kind q_p1_team q_p1_draw q_p1_near q_nodes q_all q_edition q_near) s.heap.size) s.heap H locs (wX0_isOf cI cL cS cH a_p1 a_p1_near a_this a_this_near a_this_beside q_p1_nodes q_p1_clean q_p1_guards q_p1_kind q_p1_team q_p1_draw q_p1_near q_nodes q_all q_edition q_near) → lv_has ls 4 [(0, .ref a_this), (1, .ref a_p1), (2, .int v19.1), (3, .int v19.2)] → gX0_isOf p l e s m below meth c D cI cL cS cH a_p1 a_p1_near a_this a_this_near a_this_beside q_p1_nodes q_p1_clean q_p1_guards q_p1_kind q_p1_team q_p1_draw q_p1_near q_nodes q_all q_edition q_near res H locs (F0 m 19 ls []) := by
    intro  ex19 hk n
    induction n with
    | zero => intro v19 H locs ls hi w hl; exact (itL_zero hi).elim
    | succ n ih =>
      intro v19 H locs ls hi w hl
      obtain ⟨o, hf, hn⟩ := itL_succ hi
      unfold bX0_isOf_19 at hf
      have hj49 : ∀ (y49_3 : Int32) (z49_0 : Int32) (H : Heap) (locs : List Loc) (ls : Array Slot), wd D (ty4 cI cL cS cH) s (va_A (wX0_isOf cI cL cS cH a_p1 a_p1_near a_this a_this_near a_this_beside q_p1_nodes q_p1_clean q_p1_guards q_p1_kind q_p1_team q_p1_draw q_p1_near q_nodes q_all q_edition q_near) s.heap.size) s.heap H locs (wX0_isOf cI cL cS cH a_p1 a_p1_near a_this a_this_near a_this_beside q_p1_nodes q_p1_clean q_p1_guards q_p1_kind q_p1_team q_p1_draw q_p1_near q_nodes q_all q_edition q_near) → lv_has ls 4 [(0, .ref a_this), (1, .ref a_p1), (3, .int y49_3)] → jX0_isOf_49 q_p1_nodes q_p1_near q_nodes q_near y49_3 z49_0 = some o → gX0_isOf p l e s m below meth c D cI cL cS cH a_p1 a_p1_near a_this a_this_near a_this_beside q_p1_nodes q_p1_clean q_p1_guards q_p1_kind q_p1_team q_p1_draw q_p1_near q_nodes q_all q_edition q_near res H locs (F0 m 49 ls [.int z49_0]) := by
        intro y49_3 z49_0 H locs ls w hl hf
        unfold jX0_isOf_49 at hf
        refine lv_istore_n (lv' := [(2, .int z49_0), (0, .ref a_this), (1, .ref a_p1), (3, .int y49_3)]) C.1 C.2.1 dX0_isOf_49 rfl hl (by decide) rfl (fun ls hl => ?_)
        refine lv_iinc (v := (y49_3 + (1 : Int32))) (lv' := [(3, .int (y49_3 + (1 : Int32))), (2, .int z49_0), (0, .ref a_this), (1, .ref a_p1)]) C.1 C.2.1 dX0_isOf_50 hl (k := 3) rfl rfl (by decide) rfl (fun ls hl => ?_)
        refine lv_goto (tgt := 19) C.1 C.2.1 dX0_isOf_53 (by decide) ?_
        obtain rfl := Option.some.inj hf
        exact ih (z49_0, (y49_3 + (1 : Int32))) _ _ _ hn w (lv_sub hl [2, 3, 1, 0] rfl)
      refine lv_iload_n C.1 C.2.1 dX0_isOf_19 rfl (lv_at hl 3 rfl) ?_
      refine lv_bipush (v := (7 : Int32)) C.1 C.2.1 dX0_isOf_20 (by decide) ?_
      refine lv_icmp_ge (tgt := 56) C.1 C.2.1 dX0_isOf_22 (by decide) (fun hq1 => ?_) (fun hq1 => ?_)
      · have hf := ite_t hf hq1
        obtain rfl := Option.some.inj hf
        obtain rfl := hn
        exact hk _ _ _ w (lv_sub hl [2] rfl)
      · have hf := ite_f hf hq1
        refine lv_iload_n C.1 C.2.1 dX0_isOf_25 rfl (lv_at hl 2 rfl) ?_
        refine lv_if_eq (tgt := 56) C.1 C.2.1 dX0_isOf_26 (by decide) (fun hq2 => ?_) (fun hq2 => ?_)
        · have hf := ite_t hf hq2
          obtain rfl := Option.some.inj hf
          obtain rfl := hn
          exact hk _ _ _ w (lv_sub hl [2] rfl)
        · have hf := ite_f hf hq2
          refine lv_aload_n C.1 C.2.1 dX0_isOf_29 rfl (lv_at hl 0 rfl) ?_
          refine r_get C w inX0_isOf_X0 2 rfl rfl 3 (by decide) lkX0_isOf_21 rfl dX0_isOf_30 ?_
          refine lv_iload_n C.1 C.2.1 dX0_isOf_33 rfl (lv_at hl 3 rfl) ?_
          obtain ⟨y3, hy4, hf⟩ := bd hf
          refine r_iald C w 3 0 rfl rfl (rd_in hy4) dX0_isOf_34 ?_
          refine lv_aload_n C.1 C.2.1 dX0_isOf_35 rfl (lv_at hl 1 rfl) ?_
          refine r_get C w inX0_isOf_X5 0 rfl rfl 1 (by decide) lkX0_isOf_39 rfl dX0_isOf_36 ?_
          refine lv_iload_n C.1 C.2.1 dX0_isOf_39 rfl (lv_at hl 3 rfl) ?_
          obtain ⟨y5, hy6, hf⟩ := bd hf
          refine r_iald C w 1 0 rfl rfl (rd_in hy6) dX0_isOf_40 ?_
          refine lv_icmp_ne (tgt := 48) C.1 C.2.1 dX0_isOf_41 (by decide) (fun hq7 => ?_) (fun hq7 => ?_)
          · have hf := ite_f hf hq7
            refine lv_iconst (v := (0 : Int32)) C.1 C.2.1 dX0_isOf_48 (by decide) ?_
            exact hj49 v19.2 (0 : Int32) _ _ _ w (lv_sub hl [0, 1, 3] rfl) hf
          · have hf := ite_t hf hq7
            refine lv_iconst (v := (1 : Int32)) C.1 C.2.1 dX0_isOf_44 (by decide) ?_
            refine lv_goto (tgt := 49) C.1 C.2.1 dX0_isOf_45 (by decide) ?_
            exact hj49 v19.2 (1 : Int32) _ _ _ w (lv_sub hl [0, 1, 3] rfl) hf
  have hj16 : ∀ (z16_0 : Int32) (H : Heap) (locs : List Loc) (ls : Array Slot), wd D (ty4 cI cL cS cH) s (va_A (wX0_isOf cI cL cS cH a_p1 a_p1_near a_this a_this_near a_this_beside q_p1_nodes q_p1_clean q_p1_guards q_p1_kind q_p1_team q_p1_draw q_p1_near q_nodes q_all q_edition q_near) s.heap.size) s.heap H locs (wX0_isOf cI cL cS cH a_p1 a_p1_near a_this a_this_near a_this_beside q_p1_nodes q_p1_clean q_p1_guards q_p1_kind q_p1_team q_p1_draw q_p1_near q_nodes q_all q_edition q_near) → lv_has ls 4 [(0, .ref a_this), (1, .ref a_p1)] → jX0_isOf_16 q_p1_nodes q_p1_near q_nodes q_near z16_0 = some res → gX0_isOf p l e s m below meth c D cI cL cS cH a_p1 a_p1_near a_this a_this_near a_this_beside q_p1_nodes q_p1_clean q_p1_guards q_p1_kind q_p1_team q_p1_draw q_p1_near q_nodes q_all q_edition q_near res H locs (F0 m 16 ls [.int z16_0]) := by
    intro z16_0 H locs ls w hl hf
    unfold jX0_isOf_16 at hf
    refine lv_istore_n (lv' := [(2, .int z16_0), (0, .ref a_this), (1, .ref a_p1)]) C.1 C.2.1 dX0_isOf_16 rfl hl (by decide) rfl (fun ls hl => ?_)
    refine lv_iconst (v := (0 : Int32)) C.1 C.2.1 dX0_isOf_17 (by decide) ?_
    refine lv_istore_n (lv' := [(3, .int (0 : Int32)), (2, .int z16_0), (0, .ref a_this), (1, .ref a_p1)]) C.1 C.2.1 dX0_isOf_18 rfl hl (by decide) rfl (fun ls hl => ?_)
    obtain ⟨ex8, hx9, hf⟩ := bd hf
    refine hlp19  ex8 ?_ fu (z16_0, (0 : Int32)) _ _ _ hx9 w (lv_sub hl [2, 3, 1, 0] rfl)
    intro H locs ls w hl
    refine lv_iload_n C.1 C.2.1 dX0_isOf_56 rfl (lv_at hl 0 rfl) ?_
    obtain ⟨_, hb10, hf⟩ := bd hf
    have hres := Option.some.inj hf
    subst hres
    exact ret_z C hr hlocks w (bz_in hb10).1 rfl dX0_isOf_57
  refine lv_aload_n C.1 C.2.1 dX0_isOf_0 rfl (lv_at hl 0 rfl) ?_
  refine r_get C w inX0_isOf_X0 2 rfl rfl 0 (by decide) lkX0_isOf_9 rfl dX0_isOf_1 ?_
  refine lv_aload_n C.1 C.2.1 dX0_isOf_4 rfl (lv_at hl 1 rfl) ?_
  refine r_get C w inX0_isOf_X5 0 rfl rfl 0 (by decide) lkX0_isOf_36 rfl dX0_isOf_5 ?_
  refine lv_icmp_ne (tgt := 15) C.1 C.2.1 dX0_isOf_8 (by decide) (fun hq11 => ?_) (fun hq11 => ?_)
  · have hf := ite_f hf hq11
    refine lv_iconst (v := (0 : Int32)) C.1 C.2.1 dX0_isOf_15 (by decide) ?_
    exact hj16 (0 : Int32) _ _ _ w (lv_sub hl [0, 1] rfl) hf
  · have hf := ite_t hf hq11
    refine lv_iconst (v := (1 : Int32)) C.1 C.2.1 dX0_isOf_11 (by decide) ?_
    refine lv_goto (tgt := 16) C.1 C.2.1 dX0_isOf_12 (by decide) ?_
    exact hj16 (1 : Int32) _ _ _ w (lv_sub hl [0, 1] rfl) hf

set_option maxRecDepth 100000 in
theorem inX0_learn_X0 : ∀ w ∈ u_ws RX0 TX0 5, w ∈ wsX0_learn := by decide +kernel
set_option maxRecDepth 100000 in
theorem lkX0_learn_25 : Cond.fieldLink RX0 25 "CleanNets$Net" "beside" "[I" ∈ wsX0_learn := by decide +kernel
set_option maxRecDepth 100000 in
theorem lkX0_learn_21 : Cond.fieldLink RX0 21 "CleanNets$Net" "near" "[I" ∈ wsX0_learn := by decide +kernel
set_option maxRecDepth 100000 in
theorem inX0_learn_X5 : ∀ w ∈ u_ws RX5 TX5 7, w ∈ wsX0_learn := by decide +kernel
set_option maxRecDepth 100000 in
theorem lkX0_learn_39 : Cond.fieldLink RX0 39 "CleanNets$Standing" "near" "[I" ∈ wsX0_learn := by decide +kernel
set_option maxRecDepth 100000 in
theorem lkX0_learn_36 : Cond.fieldLink RX0 36 "CleanNets$Standing" "nodes" "I" ∈ wsX0_learn := by decide +kernel
set_option maxRecDepth 100000 in
theorem lkX0_learn_9 : Cond.fieldLink RX0 9 "CleanNets$Net" "nodes" "I" ∈ wsX0_learn := by decide +kernel
set_option maxRecDepth 100000 in
theorem lkX0_learn_15 : Cond.fieldLink RX0 15 "CleanNets$Net" "all" "I" ∈ wsX0_learn := by decide +kernel
set_option maxRecDepth 100000 in
theorem lkX0_learn_18 : Cond.fieldLink RX0 18 "CleanNets$Net" "edition" "I" ∈ wsX0_learn := by decide +kernel
abbrev wX0_learn (cI cL cS cH : ClassId) (a_p1 : Nat) (a_p1_near : Nat) (a_this : Nat) (a_this_near : Nat) (a_this_beside : Nat) (q_p1_nodes : Int32) (q_p1_clean : Int32) (q_p1_guards : Int32) (q_p1_kind : Int32) (q_p1_team : Int32) (q_p1_draw : Int32) (q_p1_near : Nat → Int32) (q_nodes : Int32) (q_all : Int32) (q_edition : Int32) (q_beside : Nat → Int32) (q_near : Nat → Int32) : va_W := [(a_p1, .inr (5, [.int q_p1_nodes, .ref a_p1_near, .int q_p1_clean, .int q_p1_guards, .int q_p1_kind, .int q_p1_team, .int q_p1_draw])),
  (a_p1_near, .inl (cI, 7, .inl q_p1_near)),
  (a_this, .inr (0, [.int q_nodes, .int q_all, .int q_edition, .ref a_this_near, .ref a_this_beside])),
  (a_this_beside, .inl (cI, 128, .inl q_beside)),
  (a_this_near, .inl (cI, 7, .inl q_near))]
def bX0_learn_57 (q_p1_nodes : Int32) (q_p1_near : Nat → Int32) (y57_2 : Int32) (y57_3 : Int32) (k57_q_nodes : Int32) (k57_q_all : Int32) (k57_q_edition : Int32) (k57_q_near : Nat → Int32) (v57 : Int32 × (Nat → Int32)) : Option ((Int32 × (Nat → Int32)) ⊕ (Int32 × (Nat → Int32))) := (if y57_3 ≤ v57.1 then some (.inr (v57.1, v57.2)) else Option.bind (rd v57.2 128 v57.1) (fun y2 => Option.bind (rd k57_q_near 7 y57_2) (fun y4 => Option.bind (wi v57.2 128 (y57_3 + v57.1) (y2 ||| y4)) (fun g6 => some (.inl ((v57.1 + (1 : Int32)), g6))))))
def bX0_learn_32 (q_p1_nodes : Int32) (q_p1_near : Nat → Int32) (k32_q_nodes : Int32) (k32_q_all : Int32) (k32_q_edition : Int32) (v32 : Int32 × (Nat → Int32) × (Nat → Int32)) : Option ((Int32 × (Nat → Int32) × (Nat → Int32)) ⊕ (Int32 × (Nat → Int32) × (Nat → Int32))) := (if (7 : Int32) ≤ v32.1 then some (.inr (v32.1, v32.2.1, v32.2.2)) else Option.bind (rd q_p1_near 7 v32.1) (fun y9 => Option.bind (wi v32.2.2 7 v32.1 y9) (fun g11 => bnd ((1 : Int32) <<< (v32.1 &&& 31)) (fun y13 => Option.bind (itL (bX0_learn_57 q_p1_nodes q_p1_near v32.1 y13 k32_q_nodes k32_q_all k32_q_edition g11) fu ((0 : Int32), v32.2.1)) (fun ex15 => some (.inl ((v32.1 + (1 : Int32)), ex15.2, g11)))))))
def fX0_learn (q_p1_nodes : Int32) (q_p1_near : Nat → Int32) (q_nodes : Int32) (q_all : Int32) (q_edition : Int32) (q_beside : Nat → Int32) (q_near : Nat → Int32)  : Option (Int32 × Int32 × Int32 × (Nat → Int32) × (Nat → Int32)) := Option.bind (itL (bX0_learn_32 q_p1_nodes q_p1_near q_p1_nodes (((1 : Int32) <<< (q_p1_nodes &&& 31)) - (1 : Int32)) (q_edition + (1 : Int32))) fu ((0 : Int32), q_beside, q_near)) (fun ex17 => some (q_p1_nodes, (((1 : Int32) <<< (q_p1_nodes &&& 31)) - (1 : Int32)), (q_edition + (1 : Int32)), ex17.2.1, ex17.2.2))
abbrev gX0_learn (p : Program) (l : Launch) (e : Env) (s : State) (m : MethodId) (below : List Frame) (meth : Method) (c : Code) (D : vg) (cI cL cS cH : ClassId) (a_p1 : Nat) (a_p1_near : Nat) (a_this : Nat) (a_this_near : Nat) (a_this_beside : Nat) (q_p1_nodes : Int32) (q_p1_clean : Int32) (q_p1_guards : Int32) (q_p1_kind : Int32) (q_p1_team : Int32) (q_p1_draw : Int32) (q_p1_near : Nat → Int32) (q_nodes : Int32) (q_all : Int32) (q_edition : Int32) (q_beside : Nat → Int32) (q_near : Nat → Int32) (res : Int32 × Int32 × Int32 × (Nat → Int32) × (Nat → Int32)) (H : Heap) (locs : List Loc) (g : JFrame) : Prop := W p l e (headSpec wsX0_learn ({ frames := 0, cells := 0, slots := 0, locals := 0 })).room s m ([.ref a_this, .ref a_p1] : List Value).toArray below meth c H locs 0 0 (MQ below (va_Qv (fun (_ : Unit) => True) (fun _ t => pos1 D s.heap.size (wX0_learn cI cL cS cH a_p1 a_p1_near a_this a_this_near a_this_beside q_p1_nodes q_p1_clean q_p1_guards q_p1_kind q_p1_team q_p1_draw q_p1_near q_nodes q_all q_edition q_beside q_near) (wX0_learn cI cL cS cH a_p1 a_p1_near a_this a_this_near a_this_beside q_p1_nodes q_p1_clean q_p1_guards q_p1_kind q_p1_team q_p1_draw q_p1_near res.1 res.2.1 res.2.2.1 res.2.2.2.1 res.2.2.2.2) t) (va_A (wX0_learn cI cL cS cH a_p1 a_p1_near a_this a_this_near a_this_beside q_p1_nodes q_p1_clean q_p1_guards q_p1_kind q_p1_team q_p1_draw q_p1_near q_nodes q_all q_edition q_beside q_near) s.heap.size)) ([.ref a_this, .ref a_p1] : List Value).toArray s 0 0 (va_A (wX0_learn cI cL cS cH a_p1 a_p1_near a_this a_this_near a_this_beside q_p1_nodes q_p1_clean q_p1_guards q_p1_kind q_p1_team q_p1_draw q_p1_near q_nodes q_all q_edition q_beside q_near) s.heap.size)) g
set_option maxHeartbeats 4000000 in
set_option maxRecDepth 100000 in
theorem mX0_learn (l : Launch) (D : vg) (cI cL cS cH : ClassId) (sz : Nat) (a_p1 : Nat) (a_p1_near : Nat) (a_this : Nat) (a_this_near : Nat) (a_this_beside : Nat) (q_p1_nodes : Int32) (q_p1_clean : Int32) (q_p1_guards : Int32) (q_p1_kind : Int32) (q_p1_team : Int32) (q_p1_draw : Int32) (q_p1_near : Nat → Int32) (q_nodes : Int32) (q_all : Int32) (q_edition : Int32) (q_beside : Nat → Int32) (q_near : Nat → Int32) {res : Int32 × Int32 × Int32 × (Nat → Int32) × (Nat → Int32)} (hf : fX0_learn q_p1_nodes q_p1_near q_nodes q_all q_edition q_beside q_near = some res) : ctv l yX0_learn wsX0_learn ({ frames := 0, cells := 0, slots := 0, locals := 0 }) D (ty4 cI cL cS cH) sz [.ref a_this, .ref a_p1] (wX0_learn cI cL cS cH a_p1 a_p1_near a_this a_this_near a_this_beside q_p1_nodes q_p1_clean q_p1_guards q_p1_kind q_p1_team q_p1_draw q_p1_near q_nodes q_all q_edition q_beside q_near) (wX0_learn cI cL cS cH a_p1 a_p1_near a_this a_this_near a_this_beside q_p1_nodes q_p1_clean q_p1_guards q_p1_kind q_p1_team q_p1_draw q_p1_near res.1 res.2.1 res.2.2.1 res.2.2.2.1 res.2.2.2.2) := by
  refine Met.ofW (cc := cX0_learn) (maxL := 5) (ret := none) (by decide) rfl ?_
  intro p e s m args below meth c s₁ B hml hv
  obtain ⟨rfl, hpre⟩ := hv
  obtain rfl := hpre.1
  have C : CallFix p m c cX0_learn 5 s _ wsX0_learn RX0 := ⟨B.exec, B.bytes, hml, findClass_of_methodNamed B.named, atoms_spec (ws := wsX0_learn) B.pre⟩
  have hr := B.returns
  have hlocks := B.notSynchronized
  have w := wd_start hpre
  clear hpre B
  have hl := lv_entry ([.ref a_this, .ref a_p1]) (n := 5) (Nat.le_of_ble_eq_true rfl)
  rw [lg_entry_eq]
  generalize (lg_sl ([.ref a_this, .ref a_p1]) ++ List.replicate (5 - (lg_sl ([.ref a_this, .ref a_p1])).length) Slot.unset).toArray = ls at hl ⊢
  have hl : lv_has ls 5 [(0, .ref a_this), (1, .ref a_p1)] := hl
  unfold fX0_learn at hf
  have hlp32 : ∀ (k32_q_nodes : Int32) (k32_q_all : Int32) (k32_q_edition : Int32) (ex32 : Int32 × (Nat → Int32) × (Nat → Int32)) (hk : (∀ (H : Heap) (locs : List Loc) (ls : Array Slot), wd D (ty4 cI cL cS cH) s (va_A (wX0_learn cI cL cS cH a_p1 a_p1_near a_this a_this_near a_this_beside q_p1_nodes q_p1_clean q_p1_guards q_p1_kind q_p1_team q_p1_draw q_p1_near q_nodes q_all q_edition q_beside q_near) s.heap.size) s.heap H locs (wX0_learn cI cL cS cH a_p1 a_p1_near a_this a_this_near a_this_beside q_p1_nodes q_p1_clean q_p1_guards q_p1_kind q_p1_team q_p1_draw q_p1_near k32_q_nodes k32_q_all k32_q_edition ex32.2.1 ex32.2.2) → lv_has ls 5 [] → gX0_learn p l e s m below meth c D cI cL cS cH a_p1 a_p1_near a_this a_this_near a_this_beside q_p1_nodes q_p1_clean q_p1_guards q_p1_kind q_p1_team q_p1_draw q_p1_near q_nodes q_all q_edition q_beside q_near res H locs (F0 m 98 ls []))) (n : Nat) (v32 : Int32 × (Nat → Int32) × (Nat → Int32)) (H : Heap) (locs : List Loc) (ls : Array Slot), itL (bX0_learn_32 q_p1_nodes q_p1_near k32_q_nodes k32_q_all k32_q_edition) n v32 = some ex32 → wd D (ty4 cI cL cS cH) s (va_A (wX0_learn cI cL cS cH a_p1 a_p1_near a_this a_this_near a_this_beside q_p1_nodes q_p1_clean q_p1_guards q_p1_kind q_p1_team q_p1_draw q_p1_near q_nodes q_all q_edition q_beside q_near) s.heap.size) s.heap H locs (wX0_learn cI cL cS cH a_p1 a_p1_near a_this a_this_near a_this_beside q_p1_nodes q_p1_clean q_p1_guards q_p1_kind q_p1_team q_p1_draw q_p1_near k32_q_nodes k32_q_all k32_q_edition v32.2.1 v32.2.2) → lv_has ls 5 [(0, .ref a_this), (1, .ref a_p1), (2, .int v32.1)] → gX0_learn p l e s m below meth c D cI cL cS cH a_p1 a_p1_near a_this a_this_near a_this_beside q_p1_nodes q_p1_clean q_p1_guards q_p1_kind q_p1_team q_p1_draw q_p1_near q_nodes q_all q_edition q_beside q_near res H locs (F0 m 32 ls []) := by
    intro k32_q_nodes k32_q_all k32_q_edition ex32 hk n
    induction n with
    | zero => intro v32 H locs ls hi w hl; exact (itL_zero hi).elim
    | succ n ih =>
      intro v32 H locs ls hi w hl
      obtain ⟨o, hf, hn⟩ := itL_succ hi
      unfold bX0_learn_32 at hf
      have hlp57 : ∀ (y57_2 : Int32) (y57_3 : Int32) (k57_q_nodes : Int32) (k57_q_all : Int32) (k57_q_edition : Int32) (k57_q_near : Nat → Int32) (ex57 : Int32 × (Nat → Int32)) (hk : (∀ (H : Heap) (locs : List Loc) (ls : Array Slot), wd D (ty4 cI cL cS cH) s (va_A (wX0_learn cI cL cS cH a_p1 a_p1_near a_this a_this_near a_this_beside q_p1_nodes q_p1_clean q_p1_guards q_p1_kind q_p1_team q_p1_draw q_p1_near q_nodes q_all q_edition q_beside q_near) s.heap.size) s.heap H locs (wX0_learn cI cL cS cH a_p1 a_p1_near a_this a_this_near a_this_beside q_p1_nodes q_p1_clean q_p1_guards q_p1_kind q_p1_team q_p1_draw q_p1_near k57_q_nodes k57_q_all k57_q_edition ex57.2 k57_q_near) → lv_has ls 5 [(0, .ref a_this), (1, .ref a_p1), (2, .int y57_2)] → gX0_learn p l e s m below meth c D cI cL cS cH a_p1 a_p1_near a_this a_this_near a_this_beside q_p1_nodes q_p1_clean q_p1_guards q_p1_kind q_p1_team q_p1_draw q_p1_near q_nodes q_all q_edition q_beside q_near res H locs (F0 m 92 ls []))) (n : Nat) (v57 : Int32 × (Nat → Int32)) (H : Heap) (locs : List Loc) (ls : Array Slot), itL (bX0_learn_57 q_p1_nodes q_p1_near y57_2 y57_3 k57_q_nodes k57_q_all k57_q_edition k57_q_near) n v57 = some ex57 → wd D (ty4 cI cL cS cH) s (va_A (wX0_learn cI cL cS cH a_p1 a_p1_near a_this a_this_near a_this_beside q_p1_nodes q_p1_clean q_p1_guards q_p1_kind q_p1_team q_p1_draw q_p1_near q_nodes q_all q_edition q_beside q_near) s.heap.size) s.heap H locs (wX0_learn cI cL cS cH a_p1 a_p1_near a_this a_this_near a_this_beside q_p1_nodes q_p1_clean q_p1_guards q_p1_kind q_p1_team q_p1_draw q_p1_near k57_q_nodes k57_q_all k57_q_edition v57.2 k57_q_near) → lv_has ls 5 [(0, .ref a_this), (1, .ref a_p1), (2, .int y57_2), (3, .int y57_3), (4, .int v57.1)] → gX0_learn p l e s m below meth c D cI cL cS cH a_p1 a_p1_near a_this a_this_near a_this_beside q_p1_nodes q_p1_clean q_p1_guards q_p1_kind q_p1_team q_p1_draw q_p1_near q_nodes q_all q_edition q_beside q_near res H locs (F0 m 57 ls []) := by
        intro y57_2 y57_3 k57_q_nodes k57_q_all k57_q_edition k57_q_near ex57 hk n
        induction n with
        | zero => intro v57 H locs ls hi w hl; exact (itL_zero hi).elim
        | succ n ih =>
          intro v57 H locs ls hi w hl
          obtain ⟨o, hf, hn⟩ := itL_succ hi
          unfold bX0_learn_57 at hf
          refine lv_iload C.1 C.2.1 dX0_learn_57 (lv_at hl 4 rfl) ?_
          refine lv_iload_n C.1 C.2.1 dX0_learn_59 rfl (lv_at hl 3 rfl) ?_
          refine lv_icmp_ge (tgt := 92) C.1 C.2.1 dX0_learn_60 (by decide) (fun hq1 => ?_) (fun hq1 => ?_)
          · have hf := ite_t hf hq1
            obtain rfl := Option.some.inj hf
            obtain rfl := hn
            exact hk _ _ _ w (lv_sub hl [0, 1, 2] rfl)
          · have hf := ite_f hf hq1
            refine lv_aload_n C.1 C.2.1 dX0_learn_63 rfl (lv_at hl 0 rfl) ?_
            refine r_get C w inX0_learn_X0 2 rfl rfl 4 (by decide) lkX0_learn_25 rfl dX0_learn_64 ?_
            refine lv_iload_n C.1 C.2.1 dX0_learn_67 rfl (lv_at hl 3 rfl) ?_
            refine lv_iload C.1 C.2.1 dX0_learn_68 (lv_at hl 4 rfl) ?_
            refine lv_iadd C.1 C.2.1 dX0_learn_70 ?_
            refine lv_aload_n C.1 C.2.1 dX0_learn_71 rfl (lv_at hl 0 rfl) ?_
            refine r_get C w inX0_learn_X0 2 rfl rfl 4 (by decide) lkX0_learn_25 rfl dX0_learn_72 ?_
            refine lv_iload C.1 C.2.1 dX0_learn_75 (lv_at hl 4 rfl) ?_
            obtain ⟨y2, hy3, hf⟩ := bd hf
            refine r_iald C w 3 0 rfl rfl (rd_in hy3) dX0_learn_77 ?_
            refine lv_aload_n C.1 C.2.1 dX0_learn_78 rfl (lv_at hl 0 rfl) ?_
            refine r_get C w inX0_learn_X0 2 rfl rfl 3 (by decide) lkX0_learn_21 rfl dX0_learn_79 ?_
            refine lv_iload_n C.1 C.2.1 dX0_learn_82 rfl (lv_at hl 2 rfl) ?_
            obtain ⟨y4, hy5, hf⟩ := bd hf
            refine r_iald C w 4 0 rfl rfl (rd_in hy5) dX0_learn_83 ?_
            refine lv_ior C.1 C.2.1 dX0_learn_84 ?_
            obtain ⟨g6, hg7, hf⟩ := bd hf
            refine r_iast (ws' := (wX0_learn cI cL cS cH a_p1 a_p1_near a_this a_this_near a_this_beside q_p1_nodes q_p1_clean q_p1_guards q_p1_kind q_p1_team q_p1_draw q_p1_near k57_q_nodes k57_q_all k57_q_edition g6 k57_q_near)) C w 3 0 rfl rfl (wi_in hg7) rfl dX0_learn_85 (fun H locs w => ?_)
            refine lv_iinc (v := (v57.1 + (1 : Int32))) (lv' := [(4, .int (v57.1 + (1 : Int32))), (0, .ref a_this), (1, .ref a_p1), (2, .int y57_2), (3, .int y57_3)]) C.1 C.2.1 dX0_learn_86 hl (k := 4) rfl rfl (by decide) rfl (fun ls hl => ?_)
            refine lv_goto (tgt := 57) C.1 C.2.1 dX0_learn_89 (by decide) ?_
            obtain rfl := Option.some.inj hf
            exact ih ((v57.1 + (1 : Int32)), g6) _ _ _ hn w (lv_sub hl [1, 2, 3, 4, 0] rfl)
      refine lv_iload_n C.1 C.2.1 dX0_learn_32 rfl (lv_at hl 2 rfl) ?_
      refine lv_bipush (v := (7 : Int32)) C.1 C.2.1 dX0_learn_33 (by decide) ?_
      refine lv_icmp_ge (tgt := 98) C.1 C.2.1 dX0_learn_35 (by decide) (fun hq8 => ?_) (fun hq8 => ?_)
      · have hf := ite_t hf hq8
        obtain rfl := Option.some.inj hf
        obtain rfl := hn
        exact hk _ _ _ w (lv_sub hl [] rfl)
      · have hf := ite_f hf hq8
        refine lv_aload_n C.1 C.2.1 dX0_learn_38 rfl (lv_at hl 0 rfl) ?_
        refine r_get C w inX0_learn_X0 2 rfl rfl 3 (by decide) lkX0_learn_21 rfl dX0_learn_39 ?_
        refine lv_iload_n C.1 C.2.1 dX0_learn_42 rfl (lv_at hl 2 rfl) ?_
        refine lv_aload_n C.1 C.2.1 dX0_learn_43 rfl (lv_at hl 1 rfl) ?_
        refine r_get C w inX0_learn_X5 0 rfl rfl 1 (by decide) lkX0_learn_39 rfl dX0_learn_44 ?_
        refine lv_iload_n C.1 C.2.1 dX0_learn_47 rfl (lv_at hl 2 rfl) ?_
        obtain ⟨y9, hy10, hf⟩ := bd hf
        refine r_iald C w 1 0 rfl rfl (rd_in hy10) dX0_learn_48 ?_
        obtain ⟨g11, hg12, hf⟩ := bd hf
        refine r_iast (ws' := (wX0_learn cI cL cS cH a_p1 a_p1_near a_this a_this_near a_this_beside q_p1_nodes q_p1_clean q_p1_guards q_p1_kind q_p1_team q_p1_draw q_p1_near k32_q_nodes k32_q_all k32_q_edition v32.2.1 g11)) C w 4 0 rfl rfl (wi_in hg12) rfl dX0_learn_49 (fun H locs w => ?_)
        refine lv_iconst (v := (1 : Int32)) C.1 C.2.1 dX0_learn_50 (by decide) ?_
        refine lv_iload_n C.1 C.2.1 dX0_learn_51 rfl (lv_at hl 2 rfl) ?_
        refine lv_ishl C.1 C.2.1 dX0_learn_52 ?_
        obtain ⟨y13, hy14, hf⟩ := bnd_e hf
        refine lt_topi hy14 ?_
        refine lv_istore_n (lv' := [(3, .int y13), (0, .ref a_this), (1, .ref a_p1), (2, .int v32.1)]) C.1 C.2.1 dX0_learn_53 rfl hl (by decide) rfl (fun ls hl => ?_)
        refine lv_iconst (v := (0 : Int32)) C.1 C.2.1 dX0_learn_54 (by decide) ?_
        refine lv_istore (lv' := [(4, .int (0 : Int32)), (3, .int y13), (0, .ref a_this), (1, .ref a_p1), (2, .int v32.1)]) C.1 C.2.1 dX0_learn_55 hl (by decide) rfl (fun ls hl => ?_)
        obtain ⟨ex15, hx16, hf⟩ := bd hf
        refine hlp57 v32.1 y13 k32_q_nodes k32_q_all k32_q_edition g11 ex15 ?_ fu ((0 : Int32), v32.2.1) _ _ _ hx16 w (lv_sub hl [2, 3, 4, 1, 0] rfl)
        intro H locs ls w hl
        refine lv_iinc (v := (v32.1 + (1 : Int32))) (lv' := [(2, .int (v32.1 + (1 : Int32))), (0, .ref a_this), (1, .ref a_p1)]) C.1 C.2.1 dX0_learn_92 hl (k := 2) rfl rfl (by decide) rfl (fun ls hl => ?_)
        refine lv_goto (tgt := 32) C.1 C.2.1 dX0_learn_95 (by decide) ?_
        obtain rfl := Option.some.inj hf
        exact ih ((v32.1 + (1 : Int32)), ex15.2, g11) _ _ _ hn w (lv_sub hl [1, 2, 0] rfl)
  refine lv_aload_n C.1 C.2.1 dX0_learn_0 rfl (lv_at hl 0 rfl) ?_
  refine lv_aload_n C.1 C.2.1 dX0_learn_1 rfl (lv_at hl 1 rfl) ?_
  refine r_get C w inX0_learn_X5 0 rfl rfl 0 (by decide) lkX0_learn_36 rfl dX0_learn_2 ?_
  refine r_put (ws' := (wX0_learn cI cL cS cH a_p1 a_p1_near a_this a_this_near a_this_beside q_p1_nodes q_p1_clean q_p1_guards q_p1_kind q_p1_team q_p1_draw q_p1_near q_p1_nodes q_all q_edition q_beside q_near)) C w inX0_learn_X0 tyX0 tyX0_ok nmX0 2 rfl rfl 0 (by decide) lkX0_learn_9 rfl rfl rfl (Nat.le_of_ble_eq_true rfl) rfl dX0_learn_5 (fun H locs w => ?_)
  refine lv_aload_n C.1 C.2.1 dX0_learn_8 rfl (lv_at hl 0 rfl) ?_
  refine lv_iconst (v := (1 : Int32)) C.1 C.2.1 dX0_learn_9 (by decide) ?_
  refine lv_aload_n C.1 C.2.1 dX0_learn_10 rfl (lv_at hl 0 rfl) ?_
  refine r_get C w inX0_learn_X0 2 rfl rfl 0 (by decide) lkX0_learn_9 rfl dX0_learn_11 ?_
  refine lv_ishl C.1 C.2.1 dX0_learn_14 ?_
  refine lv_iconst (v := (1 : Int32)) C.1 C.2.1 dX0_learn_15 (by decide) ?_
  refine lv_isub C.1 C.2.1 dX0_learn_16 ?_
  refine r_put (ws' := (wX0_learn cI cL cS cH a_p1 a_p1_near a_this a_this_near a_this_beside q_p1_nodes q_p1_clean q_p1_guards q_p1_kind q_p1_team q_p1_draw q_p1_near q_p1_nodes (((1 : Int32) <<< (q_p1_nodes &&& 31)) - (1 : Int32)) q_edition q_beside q_near)) C w inX0_learn_X0 tyX0 tyX0_ok nmX0 2 rfl rfl 1 (by decide) lkX0_learn_15 rfl rfl rfl (Nat.le_of_ble_eq_true rfl) rfl dX0_learn_17 (fun H locs w => ?_)
  refine lv_aload_n C.1 C.2.1 dX0_learn_20 rfl (lv_at hl 0 rfl) ?_
  refine lv_dup C.1 C.2.1 dX0_learn_21 rfl ?_
  refine r_get C w inX0_learn_X0 2 rfl rfl 2 (by decide) lkX0_learn_18 rfl dX0_learn_22 ?_
  refine lv_iconst (v := (1 : Int32)) C.1 C.2.1 dX0_learn_25 (by decide) ?_
  refine lv_iadd C.1 C.2.1 dX0_learn_26 ?_
  refine r_put (ws' := (wX0_learn cI cL cS cH a_p1 a_p1_near a_this a_this_near a_this_beside q_p1_nodes q_p1_clean q_p1_guards q_p1_kind q_p1_team q_p1_draw q_p1_near q_p1_nodes (((1 : Int32) <<< (q_p1_nodes &&& 31)) - (1 : Int32)) (q_edition + (1 : Int32)) q_beside q_near)) C w inX0_learn_X0 tyX0 tyX0_ok nmX0 2 rfl rfl 2 (by decide) lkX0_learn_18 rfl rfl rfl (Nat.le_of_ble_eq_true rfl) rfl dX0_learn_27 (fun H locs w => ?_)
  refine lv_iconst (v := (0 : Int32)) C.1 C.2.1 dX0_learn_30 (by decide) ?_
  refine lv_istore_n (lv' := [(2, .int (0 : Int32)), (0, .ref a_this), (1, .ref a_p1)]) C.1 C.2.1 dX0_learn_31 rfl hl (by decide) rfl (fun ls hl => ?_)
  obtain ⟨ex17, hx18, hf⟩ := bd hf
  refine hlp32 q_p1_nodes (((1 : Int32) <<< (q_p1_nodes &&& 31)) - (1 : Int32)) (q_edition + (1 : Int32)) ex17 ?_ fu ((0 : Int32), q_beside, q_near) _ _ _ hx18 w (lv_sub hl [1, 2, 0] rfl)
  intro H locs ls w hl
  have hres := Option.some.inj hf
  subst hres
  exact ret_v C hr hlocks w dX0_learn_98

abbrev wX0_follow (cI cL cS cH : ClassId) (a_p1 : Nat) (a_p1_near : Nat) (a_this : Nat) (a_this_near : Nat) (a_this_beside : Nat) (q_p1_nodes : Int32) (q_p1_clean : Int32) (q_p1_guards : Int32) (q_p1_kind : Int32) (q_p1_team : Int32) (q_p1_draw : Int32) (q_p1_near : Nat → Int32) (q_nodes : Int32) (q_all : Int32) (q_edition : Int32) (q_beside : Nat → Int32) (q_near : Nat → Int32) : va_W := [(a_p1, .inr (5, [.int q_p1_nodes, .ref a_p1_near, .int q_p1_clean, .int q_p1_guards, .int q_p1_kind, .int q_p1_team, .int q_p1_draw])),
  (a_p1_near, .inl (cI, 7, .inl q_p1_near)),
  (a_this, .inr (0, [.int q_nodes, .int q_all, .int q_edition, .ref a_this_near, .ref a_this_beside])),
  (a_this_beside, .inl (cI, 128, .inl q_beside)),
  (a_this_near, .inl (cI, 7, .inl q_near))]
def fX0_follow (q_p1_nodes : Int32) (q_p1_near : Nat → Int32) (q_nodes : Int32) (q_all : Int32) (q_edition : Int32) (q_beside : Nat → Int32) (q_near : Nat → Int32)  : Option (Int32 × Int32 × Int32 × (Nat → Int32) × (Nat → Int32)) := Option.bind (fX0_isOf q_p1_nodes q_p1_near q_nodes q_near) (fun r1 => (if r1 = 0 then Option.bind (fX0_learn q_p1_nodes q_p1_near q_nodes q_all q_edition q_beside q_near) (fun r4 => some (r4.1, r4.2.1, r4.2.2.1, r4.2.2.2.1, r4.2.2.2.2)) else some (q_nodes, q_all, q_edition, q_beside, q_near)))
set_option maxHeartbeats 4000000 in
set_option maxRecDepth 100000 in
theorem mX0_follow (l : Launch) (D : vg) (cI cL cS cH : ClassId) (sz : Nat) (a_p1 : Nat) (a_p1_near : Nat) (a_this : Nat) (a_this_near : Nat) (a_this_beside : Nat) (q_p1_nodes : Int32) (q_p1_clean : Int32) (q_p1_guards : Int32) (q_p1_kind : Int32) (q_p1_team : Int32) (q_p1_draw : Int32) (q_p1_near : Nat → Int32) (q_nodes : Int32) (q_all : Int32) (q_edition : Int32) (q_beside : Nat → Int32) (q_near : Nat → Int32) {res : Int32 × Int32 × Int32 × (Nat → Int32) × (Nat → Int32)} (hf : fX0_follow q_p1_nodes q_p1_near q_nodes q_all q_edition q_beside q_near = some res) : ctv l yX0_follow wsX0_follow ({ frames := 1, cells := 0, slots := 0, locals := 24 }) D (ty4 cI cL cS cH) sz [.ref a_this, .ref a_p1] (wX0_follow cI cL cS cH a_p1 a_p1_near a_this a_this_near a_this_beside q_p1_nodes q_p1_clean q_p1_guards q_p1_kind q_p1_team q_p1_draw q_p1_near q_nodes q_all q_edition q_beside q_near) (wX0_follow cI cL cS cH a_p1 a_p1_near a_this a_this_near a_this_beside q_p1_nodes q_p1_clean q_p1_guards q_p1_kind q_p1_team q_p1_draw q_p1_near res.1 res.2.1 res.2.2.1 res.2.2.2.1 res.2.2.2.2) := by
  refine Met.ofW (cc := cX0_follow) (maxL := 2) (ret := none) (by decide) rfl ?_
  intro p e s m args below meth c s₁ B hml hv
  obtain ⟨rfl, hpre⟩ := hv
  obtain rfl := hpre.1
  have C : CallFix p m c cX0_follow 2 s _ wsX0_follow RX0 := ⟨B.exec, B.bytes, hml, findClass_of_methodNamed B.named, atoms_spec (ws := wsX0_follow) B.pre⟩
  have hr := B.returns
  have hlocks := B.notSynchronized
  have w := wd_start hpre
  clear hpre B
  have hl := lv_entry ([.ref a_this, .ref a_p1]) (n := 2) (Nat.le_of_ble_eq_true rfl)
  rw [lg_entry_eq]
  generalize (lg_sl ([.ref a_this, .ref a_p1]) ++ List.replicate (2 - (lg_sl ([.ref a_this, .ref a_p1])).length) Slot.unset).toArray = ls at hl ⊢
  have hl : lv_has ls 2 [(0, .ref a_this), (1, .ref a_p1)] := hl
  unfold fX0_follow at hf
  refine lv_aload_n C.1 C.2.1 dX0_follow_0 rfl (lv_at hl 0 rfl) ?_
  refine lv_aload_n C.1 C.2.1 dX0_follow_1 rfl (lv_at hl 1 rfl) ?_
  obtain ⟨r1, hc2, hf⟩ := bd hf
  refine call_Vi (ws' := (wX0_follow cI cL cS cH a_p1 a_p1_near a_this a_this_near a_this_beside q_p1_nodes q_p1_clean q_p1_guards q_p1_kind q_p1_team q_p1_draw q_p1_near q_nodes q_all q_edition q_beside q_near)) (rest := []) C w (mX0_isOf l D cI cL cS cH _ a_p1 a_p1_near a_this a_this_near a_this_beside q_p1_nodes q_p1_clean q_p1_guards q_p1_kind q_p1_team q_p1_draw q_p1_near q_nodes q_all q_edition q_near hc2) (cwV 1 C.2.2.2.2 gX0_follow_X0_isOf rfl rfl rfl (by decide +kernel) ⟨Nat.le_of_ble_eq_true rfl, Nat.le_of_ble_eq_true rfl⟩) [0, 1, 2, 4] [3] 5 ⟨rfl, rfl, rfl, rfl, trivial⟩ ⟨rfl, rfl, rfl, rfl, trivial⟩ ⟨⟨_, rfl, rfl⟩, trivial⟩ rfl (by decide) (by decide) (ci := 0) (q0 := 2) rfl rfl rfl hl.1 rfl (lv_room (Nat.le_of_ble_eq_true rfl)) dX0_follow_2 ⟨Nat.zero_le _, Nat.zero_le _⟩ (fun H locs w => ?_)
  refine lv_if_ne (tgt := 13) C.1 C.2.1 dX0_follow_5 (by decide) (fun hq3 => ?_) (fun hq3 => ?_)
  · have hf := ite_f hf hq3
    have hres := Option.some.inj hf
    subst hres
    exact ret_v C hr hlocks w dX0_follow_13
  · have hf := ite_t hf hq3
    refine lv_aload_n C.1 C.2.1 dX0_follow_8 rfl (lv_at hl 0 rfl) ?_
    refine lv_aload_n C.1 C.2.1 dX0_follow_9 rfl (lv_at hl 1 rfl) ?_
    obtain ⟨r4, hc5, hf⟩ := bd hf
    refine call_Vv (ws' := (wX0_follow cI cL cS cH a_p1 a_p1_near a_this a_this_near a_this_beside q_p1_nodes q_p1_clean q_p1_guards q_p1_kind q_p1_team q_p1_draw q_p1_near r4.1 r4.2.1 r4.2.2.1 r4.2.2.2.1 r4.2.2.2.2)) (rest := []) C w (mX0_learn l D cI cL cS cH _ a_p1 a_p1_near a_this a_this_near a_this_beside q_p1_nodes q_p1_clean q_p1_guards q_p1_kind q_p1_team q_p1_draw q_p1_near q_nodes q_all q_edition q_beside q_near hc5) (cwV 1 C.2.2.2.2 gX0_follow_X0_learn rfl rfl rfl (by decide +kernel) ⟨Nat.le_of_ble_eq_true rfl, Nat.le_of_ble_eq_true rfl⟩) [0, 1, 2, 3, 4] [] 5 ⟨rfl, rfl, rfl, rfl, rfl, trivial⟩ ⟨rfl, rfl, rfl, rfl, rfl, trivial⟩ trivial rfl (by decide) (by decide) (ci := 0) (q0 := 2) rfl rfl rfl hl.1 rfl (lv_room (Nat.le_of_ble_eq_true rfl)) dX0_follow_10 ⟨Nat.zero_le _, Nat.zero_le _⟩ (fun H locs w => ?_)
    have hres := Option.some.inj hf
    subst hres
    exact ret_v C hr hlocks w dX0_follow_13

set_option maxRecDepth 100000 in
theorem inX0_settled_X0 : ∀ w ∈ u_ws RX0 TX0 5, w ∈ wsX0_settled := by decide +kernel
set_option maxRecDepth 100000 in
theorem lkX0_settled_25 : Cond.fieldLink RX0 25 "CleanNets$Net" "beside" "[I" ∈ wsX0_settled := by decide +kernel
set_option maxRecDepth 100000 in
theorem lkX0_settled_15 : Cond.fieldLink RX0 15 "CleanNets$Net" "all" "I" ∈ wsX0_settled := by decide +kernel
abbrev wX0_settled (cI cL cS cH : ClassId) (a_this : Nat) (a_this_near : Nat) (a_this_beside : Nat) (q_nodes : Int32) (q_all : Int32) (q_edition : Int32) (q_beside : Nat → Int32) : va_W := [(a_this, .inr (0, [.int q_nodes, .int q_all, .int q_edition, .ref a_this_near, .ref a_this_beside])),
  (a_this_beside, .inl (cI, 128, .inl q_beside))]
def bX0_settled_10 (q_all : Int32) (q_beside : Nat → Int32) (y10_2 : Int32) (v10 : Int32 × Int32) : Option ((Int32 × Int32) ⊕ (Int32 × Int32)) := (if (7 : Int32) ≤ v10.2 then some (.inr (v10.1, v10.2)) else Option.bind (rd q_beside 128 (q_all &&& (v10.1 ^^^ (-1 : Int32)))) (fun y2 => bnd ((y2 &&& v10.1) &&& (y10_2 ^^^ (-1 : Int32))) (fun y4 => (if y4 = 0 then some (.inr (v10.1, v10.2)) else bnd (v10.1 &&& (y4 ^^^ (-1 : Int32))) (fun y7 => some (.inl (y7, (v10.2 + (1 : Int32)))))))))
def fX0_settled (q_all : Int32) (q_beside : Nat → Int32) (x1 : Int32) (x2 : Int32) : Option (Int32) := Option.bind (itL (bX0_settled_10 q_all q_beside x2) fu ((x1 &&& q_all), (0 : Int32))) (fun ex9 => some ex9.1)
abbrev gX0_settled (p : Program) (l : Launch) (e : Env) (s : State) (m : MethodId) (below : List Frame) (meth : Method) (c : Code) (D : vg) (cI cL cS cH : ClassId) (a_this : Nat) (a_this_near : Nat) (a_this_beside : Nat) (q_nodes : Int32) (q_all : Int32) (q_edition : Int32) (q_beside : Nat → Int32) (x1 : Int32) (x2 : Int32) (res : Int32) (H : Heap) (locs : List Loc) (g : JFrame) : Prop := W p l e (headSpec wsX0_settled ({ frames := 0, cells := 0, slots := 0, locals := 0 })).room s m ([.ref a_this, .int x1, .int x2] : List Value).toArray below meth c H locs 0 0 (MQ below (va_Qi (fun r' (_ : Unit) => r' = res) (fun _ t => pos1 D s.heap.size (wX0_settled cI cL cS cH a_this a_this_near a_this_beside q_nodes q_all q_edition q_beside) (wX0_settled cI cL cS cH a_this a_this_near a_this_beside q_nodes q_all q_edition q_beside) t) (va_A (wX0_settled cI cL cS cH a_this a_this_near a_this_beside q_nodes q_all q_edition q_beside) s.heap.size)) ([.ref a_this, .int x1, .int x2] : List Value).toArray s 0 0 (va_A (wX0_settled cI cL cS cH a_this a_this_near a_this_beside q_nodes q_all q_edition q_beside) s.heap.size)) g
set_option maxHeartbeats 4000000 in
set_option maxRecDepth 100000 in
theorem mX0_settled (l : Launch) (D : vg) (cI cL cS cH : ClassId) (sz : Nat) (a_this : Nat) (a_this_near : Nat) (a_this_beside : Nat) (q_nodes : Int32) (q_all : Int32) (q_edition : Int32) (q_beside : Nat → Int32) (x1 : Int32) (x2 : Int32) {res : Int32} (hf : fX0_settled q_all q_beside x1 x2 = some res) : cti l yX0_settled wsX0_settled ({ frames := 0, cells := 0, slots := 0, locals := 0 }) D (ty4 cI cL cS cH) sz [.ref a_this, .int x1, .int x2] (wX0_settled cI cL cS cH a_this a_this_near a_this_beside q_nodes q_all q_edition q_beside) (wX0_settled cI cL cS cH a_this a_this_near a_this_beside q_nodes q_all q_edition q_beside) res := by
  refine Met.ofW (cc := cX0_settled) (maxL := 6) (ret := (some .int)) (by decide) rfl ?_
  intro p e s m args below meth c s₁ B hml hv
  obtain ⟨rfl, hpre⟩ := hv
  obtain rfl := hpre.1
  have C : CallFix p m c cX0_settled 6 s _ wsX0_settled RX0 := ⟨B.exec, B.bytes, hml, findClass_of_methodNamed B.named, atoms_spec (ws := wsX0_settled) B.pre⟩
  have hr := B.returns
  have hlocks := B.notSynchronized
  have w := wd_start hpre
  clear hpre B
  have hl := lv_entry ([.ref a_this, .int x1, .int x2]) (n := 6) (Nat.le_of_ble_eq_true rfl)
  rw [lg_entry_eq]
  generalize (lg_sl ([.ref a_this, .int x1, .int x2]) ++ List.replicate (6 - (lg_sl ([.ref a_this, .int x1, .int x2])).length) Slot.unset).toArray = ls at hl ⊢
  have hl : lv_has ls 6 [(0, .ref a_this), (1, .int x1), (2, .int x2)] := hl
  unfold fX0_settled at hf
  have hlp10 : ∀ (y10_2 : Int32) (ex10 : Int32 × Int32) (hk : (∀ (H : Heap) (locs : List Loc) (ls : Array Slot), wd D (ty4 cI cL cS cH) s (va_A (wX0_settled cI cL cS cH a_this a_this_near a_this_beside q_nodes q_all q_edition q_beside) s.heap.size) s.heap H locs (wX0_settled cI cL cS cH a_this a_this_near a_this_beside q_nodes q_all q_edition q_beside) → lv_has ls 6 [(3, .int ex10.1)] → gX0_settled p l e s m below meth c D cI cL cS cH a_this a_this_near a_this_beside q_nodes q_all q_edition q_beside x1 x2 res H locs (F0 m 59 ls []))) (n : Nat) (v10 : Int32 × Int32) (H : Heap) (locs : List Loc) (ls : Array Slot), itL (bX0_settled_10 q_all q_beside y10_2) n v10 = some ex10 → wd D (ty4 cI cL cS cH) s (va_A (wX0_settled cI cL cS cH a_this a_this_near a_this_beside q_nodes q_all q_edition q_beside) s.heap.size) s.heap H locs (wX0_settled cI cL cS cH a_this a_this_near a_this_beside q_nodes q_all q_edition q_beside) → lv_has ls 6 [(0, .ref a_this), (2, .int y10_2), (3, .int v10.1), (4, .int v10.2)] → gX0_settled p l e s m below meth c D cI cL cS cH a_this a_this_near a_this_beside q_nodes q_all q_edition q_beside x1 x2 res H locs (F0 m 10 ls []) := by
    intro y10_2 ex10 hk n
    induction n with
    | zero => intro v10 H locs ls hi w hl; exact (itL_zero hi).elim
    | succ n ih =>
      intro v10 H locs ls hi w hl
      obtain ⟨o, hf, hn⟩ := itL_succ hi
      unfold bX0_settled_10 at hf
      refine lv_iload C.1 C.2.1 dX0_settled_10 (lv_at hl 3 rfl) ?_
      refine lv_bipush (v := (7 : Int32)) C.1 C.2.1 dX0_settled_12 (by decide) ?_
      refine lv_icmp_ge (tgt := 59) C.1 C.2.1 dX0_settled_14 (by decide) (fun hq1 => ?_) (fun hq1 => ?_)
      · have hf := ite_t hf hq1
        obtain rfl := Option.some.inj hf
        obtain rfl := hn
        exact hk _ _ _ w (lv_sub hl [2] rfl)
      · have hf := ite_f hf hq1
        refine lv_aload_n C.1 C.2.1 dX0_settled_17 rfl (lv_at hl 0 rfl) ?_
        refine r_get C w inX0_settled_X0 0 rfl rfl 4 (by decide) lkX0_settled_25 rfl dX0_settled_18 ?_
        refine lv_aload_n C.1 C.2.1 dX0_settled_21 rfl (lv_at hl 0 rfl) ?_
        refine r_get C w inX0_settled_X0 0 rfl rfl 1 (by decide) lkX0_settled_15 rfl dX0_settled_22 ?_
        refine lv_iload_n C.1 C.2.1 dX0_settled_25 rfl (lv_at hl 2 rfl) ?_
        refine lv_iconst (v := (-1 : Int32)) C.1 C.2.1 dX0_settled_26 (by decide) ?_
        refine lv_ixor C.1 C.2.1 dX0_settled_27 ?_
        refine lv_iand C.1 C.2.1 dX0_settled_28 ?_
        obtain ⟨y2, hy3, hf⟩ := bd hf
        refine r_iald C w 1 0 rfl rfl (rd_in hy3) dX0_settled_29 ?_
        refine lv_iload_n C.1 C.2.1 dX0_settled_30 rfl (lv_at hl 2 rfl) ?_
        refine lv_iand C.1 C.2.1 dX0_settled_31 ?_
        refine lv_iload_n C.1 C.2.1 dX0_settled_32 rfl (lv_at hl 1 rfl) ?_
        refine lv_iconst (v := (-1 : Int32)) C.1 C.2.1 dX0_settled_33 (by decide) ?_
        refine lv_ixor C.1 C.2.1 dX0_settled_34 ?_
        refine lv_iand C.1 C.2.1 dX0_settled_35 ?_
        obtain ⟨y4, hy5, hf⟩ := bnd_e hf
        refine lt_topi hy5 ?_
        refine lv_istore (lv' := [(5, .int y4), (0, .ref a_this), (2, .int y10_2), (3, .int v10.1), (4, .int v10.2)]) C.1 C.2.1 dX0_settled_36 hl (by decide) rfl (fun ls hl => ?_)
        refine lv_iload C.1 C.2.1 dX0_settled_38 (lv_at hl 0 rfl) ?_
        refine lv_if_ne (tgt := 46) C.1 C.2.1 dX0_settled_40 (by decide) (fun hq6 => ?_) (fun hq6 => ?_)
        · have hf := ite_f hf hq6
          refine lv_iload_n C.1 C.2.1 dX0_settled_46 rfl (lv_at hl 3 rfl) ?_
          refine lv_iload C.1 C.2.1 dX0_settled_47 (lv_at hl 0 rfl) ?_
          refine lv_iconst (v := (-1 : Int32)) C.1 C.2.1 dX0_settled_49 (by decide) ?_
          refine lv_ixor C.1 C.2.1 dX0_settled_50 ?_
          refine lv_iand C.1 C.2.1 dX0_settled_51 ?_
          obtain ⟨y7, hy8, hf⟩ := bnd_e hf
          refine lt_topi hy8 ?_
          refine lv_istore_n (lv' := [(3, .int y7), (5, .int y4), (0, .ref a_this), (2, .int y10_2), (4, .int v10.2)]) C.1 C.2.1 dX0_settled_52 rfl hl (by decide) rfl (fun ls hl => ?_)
          refine lv_iinc (v := (v10.2 + (1 : Int32))) (lv' := [(4, .int (v10.2 + (1 : Int32))), (3, .int y7), (5, .int y4), (0, .ref a_this), (2, .int y10_2)]) C.1 C.2.1 dX0_settled_53 hl (k := 4) rfl rfl (by decide) rfl (fun ls hl => ?_)
          refine lv_goto (tgt := 10) C.1 C.2.1 dX0_settled_56 (by decide) ?_
          obtain rfl := Option.some.inj hf
          exact ih (y7, (v10.2 + (1 : Int32))) _ _ _ hn w (lv_sub hl [3, 4, 1, 0] rfl)
        · have hf := ite_t hf hq6
          refine lv_goto (tgt := 59) C.1 C.2.1 dX0_settled_43 (by decide) ?_
          obtain rfl := Option.some.inj hf
          obtain rfl := hn
          exact hk _ _ _ w (lv_sub hl [3] rfl)
  refine lv_iload_n C.1 C.2.1 dX0_settled_0 rfl (lv_at hl 1 rfl) ?_
  refine lv_aload_n C.1 C.2.1 dX0_settled_1 rfl (lv_at hl 0 rfl) ?_
  refine r_get C w inX0_settled_X0 0 rfl rfl 1 (by decide) lkX0_settled_15 rfl dX0_settled_2 ?_
  refine lv_iand C.1 C.2.1 dX0_settled_5 ?_
  refine lv_istore_n (lv' := [(3, .int (x1 &&& q_all)), (0, .ref a_this), (1, .int x1), (2, .int x2)]) C.1 C.2.1 dX0_settled_6 rfl hl (by decide) rfl (fun ls hl => ?_)
  refine lv_iconst (v := (0 : Int32)) C.1 C.2.1 dX0_settled_7 (by decide) ?_
  refine lv_istore (lv' := [(4, .int (0 : Int32)), (3, .int (x1 &&& q_all)), (0, .ref a_this), (1, .int x1), (2, .int x2)]) C.1 C.2.1 dX0_settled_8 hl (by decide) rfl (fun ls hl => ?_)
  obtain ⟨ex9, hx10, hf⟩ := bd hf
  refine hlp10 x2 ex9 ?_ fu ((x1 &&& q_all), (0 : Int32)) _ _ _ hx10 w (lv_sub hl [2, 4, 1, 0] rfl)
  intro H locs ls w hl
  refine lv_iload_n C.1 C.2.1 dX0_settled_59 rfl (lv_at hl 0 rfl) ?_
  have hres := Option.some.inj hf
  subst hres
  exact ret_i C hr hlocks w rfl dX0_settled_60

set_option maxRecDepth 100000 in
theorem inX0_leastOfPart_X0 : ∀ w ∈ u_ws RX0 TX0 5, w ∈ wsX0_leastOfPart := by decide +kernel
set_option maxRecDepth 100000 in
theorem lkX0_leastOfPart_25 : Cond.fieldLink RX0 25 "CleanNets$Net" "beside" "[I" ∈ wsX0_leastOfPart := by decide +kernel
set_option maxRecDepth 100000 in
theorem lkX0_leastOfPart_15 : Cond.fieldLink RX0 15 "CleanNets$Net" "all" "I" ∈ wsX0_leastOfPart := by decide +kernel
abbrev wX0_leastOfPart (cI cL cS cH : ClassId) (a_this : Nat) (a_this_near : Nat) (a_this_beside : Nat) (q_nodes : Int32) (q_all : Int32) (q_edition : Int32) (q_beside : Nat → Int32) : va_W := [(a_this, .inr (0, [.int q_nodes, .int q_all, .int q_edition, .ref a_this_near, .ref a_this_beside])),
  (a_this_beside, .inl (cI, 128, .inl q_beside))]
def bX0_leastOfPart_34 (q_all : Int32) (q_beside : Nat → Int32) (y34_1 : Int32) (y34_2 : Int32) (v34 : Int32) : Option ((Int32) ⊕ (Int32)) := (if y34_1 ≤ v34 then some (.inr v34) else Option.bind (fX7_has y34_2 v34) (fun r2 => (if r2 = 0 then some (.inl (v34 + (1 : Int32))) else some (.inr v34))))
def bX0_leastOfPart_6 (q_all : Int32) (q_beside : Nat → Int32) (y6_1 : Int32) (v6 : Int32 × Int32) : Option ((Int32 × Int32) ⊕ (Int32 × Int32)) := (if (7 : Int32) ≤ v6.2 then some (.inr (v6.1, v6.2)) else Option.bind (rd q_beside 128 (v6.1 &&& q_all)) (fun y6 => some (.inl ((v6.1 ||| y6), (v6.2 + (1 : Int32))))))
def fX0_leastOfPart (q_all : Int32) (q_beside : Nat → Int32) (x1 : Int32) : Option (Int32) := bnd ((1 : Int32) <<< (x1 &&& 31)) (fun y8 => Option.bind (itL (bX0_leastOfPart_6 q_all q_beside x1) fu (y8, (0 : Int32))) (fun ex10 => Option.bind (itL (bX0_leastOfPart_34 q_all q_beside x1 ex10.1) fu (0 : Int32)) (fun ex12 => some ex12)))
abbrev gX0_leastOfPart (p : Program) (l : Launch) (e : Env) (s : State) (m : MethodId) (below : List Frame) (meth : Method) (c : Code) (D : vg) (cI cL cS cH : ClassId) (a_this : Nat) (a_this_near : Nat) (a_this_beside : Nat) (q_nodes : Int32) (q_all : Int32) (q_edition : Int32) (q_beside : Nat → Int32) (x1 : Int32) (res : Int32) (H : Heap) (locs : List Loc) (g : JFrame) : Prop := W p l e (headSpec wsX0_leastOfPart ({ frames := 1, cells := 0, slots := 0, locals := 21 })).room s m ([.ref a_this, .int x1] : List Value).toArray below meth c H locs 0 0 (MQ below (va_Qi (fun r' (_ : Unit) => r' = res) (fun _ t => pos1 D s.heap.size (wX0_leastOfPart cI cL cS cH a_this a_this_near a_this_beside q_nodes q_all q_edition q_beside) (wX0_leastOfPart cI cL cS cH a_this a_this_near a_this_beside q_nodes q_all q_edition q_beside) t) (va_A (wX0_leastOfPart cI cL cS cH a_this a_this_near a_this_beside q_nodes q_all q_edition q_beside) s.heap.size)) ([.ref a_this, .int x1] : List Value).toArray s 0 0 (va_A (wX0_leastOfPart cI cL cS cH a_this a_this_near a_this_beside q_nodes q_all q_edition q_beside) s.heap.size)) g
set_option maxHeartbeats 4000000 in
set_option maxRecDepth 100000 in
theorem mX0_leastOfPart (l : Launch) (D : vg) (cI cL cS cH : ClassId) (sz : Nat) (a_this : Nat) (a_this_near : Nat) (a_this_beside : Nat) (q_nodes : Int32) (q_all : Int32) (q_edition : Int32) (q_beside : Nat → Int32) (x1 : Int32) {res : Int32} (hf : fX0_leastOfPart q_all q_beside x1 = some res) : cti l yX0_leastOfPart wsX0_leastOfPart ({ frames := 1, cells := 0, slots := 0, locals := 21 }) D (ty4 cI cL cS cH) sz [.ref a_this, .int x1] (wX0_leastOfPart cI cL cS cH a_this a_this_near a_this_beside q_nodes q_all q_edition q_beside) (wX0_leastOfPart cI cL cS cH a_this a_this_near a_this_beside q_nodes q_all q_edition q_beside) res := by
  refine Met.ofW (cc := cX0_leastOfPart) (maxL := 4) (ret := (some .int)) (by decide) rfl ?_
  intro p e s m args below meth c s₁ B hml hv
  obtain ⟨rfl, hpre⟩ := hv
  obtain rfl := hpre.1
  have C : CallFix p m c cX0_leastOfPart 4 s _ wsX0_leastOfPart RX0 := ⟨B.exec, B.bytes, hml, findClass_of_methodNamed B.named, atoms_spec (ws := wsX0_leastOfPart) B.pre⟩
  have hr := B.returns
  have hlocks := B.notSynchronized
  have w := wd_start hpre
  clear hpre B
  have hl := lv_entry ([.ref a_this, .int x1]) (n := 4) (Nat.le_of_ble_eq_true rfl)
  rw [lg_entry_eq]
  generalize (lg_sl ([.ref a_this, .int x1]) ++ List.replicate (4 - (lg_sl ([.ref a_this, .int x1])).length) Slot.unset).toArray = ls at hl ⊢
  have hl : lv_has ls 4 [(0, .ref a_this), (1, .int x1)] := hl
  unfold fX0_leastOfPart at hf
  have hlp34 : ∀ (y34_1 : Int32) (y34_2 : Int32) (ex34 : Int32) (hk : (∀ (H : Heap) (locs : List Loc) (ls : Array Slot), wd D (ty4 cI cL cS cH) s (va_A (wX0_leastOfPart cI cL cS cH a_this a_this_near a_this_beside q_nodes q_all q_edition q_beside) s.heap.size) s.heap H locs (wX0_leastOfPart cI cL cS cH a_this a_this_near a_this_beside q_nodes q_all q_edition q_beside) → lv_has ls 4 [(3, .int ex34)] → gX0_leastOfPart p l e s m below meth c D cI cL cS cH a_this a_this_near a_this_beside q_nodes q_all q_edition q_beside x1 res H locs (F0 m 53 ls []))) (n : Nat) (v34 : Int32) (H : Heap) (locs : List Loc) (ls : Array Slot), itL (bX0_leastOfPart_34 q_all q_beside y34_1 y34_2) n v34 = some ex34 → wd D (ty4 cI cL cS cH) s (va_A (wX0_leastOfPart cI cL cS cH a_this a_this_near a_this_beside q_nodes q_all q_edition q_beside) s.heap.size) s.heap H locs (wX0_leastOfPart cI cL cS cH a_this a_this_near a_this_beside q_nodes q_all q_edition q_beside) → lv_has ls 4 [(1, .int y34_1), (2, .int y34_2), (3, .int v34)] → gX0_leastOfPart p l e s m below meth c D cI cL cS cH a_this a_this_near a_this_beside q_nodes q_all q_edition q_beside x1 res H locs (F0 m 34 ls []) := by
    intro y34_1 y34_2 ex34 hk n
    induction n with
    | zero => intro v34 H locs ls hi w hl; exact (itL_zero hi).elim
    | succ n ih =>
      intro v34 H locs ls hi w hl
      obtain ⟨o, hf, hn⟩ := itL_succ hi
      unfold bX0_leastOfPart_34 at hf
      refine lv_iload_n C.1 C.2.1 dX0_leastOfPart_34 rfl (lv_at hl 2 rfl) ?_
      refine lv_iload_n C.1 C.2.1 dX0_leastOfPart_35 rfl (lv_at hl 0 rfl) ?_
      refine lv_icmp_ge (tgt := 53) C.1 C.2.1 dX0_leastOfPart_36 (by decide) (fun hq1 => ?_) (fun hq1 => ?_)
      · have hf := ite_t hf hq1
        obtain rfl := Option.some.inj hf
        obtain rfl := hn
        exact hk _ _ _ w (lv_sub hl [2] rfl)
      · have hf := ite_f hf hq1
        refine lv_iload_n C.1 C.2.1 dX0_leastOfPart_39 rfl (lv_at hl 1 rfl) ?_
        refine lv_iload_n C.1 C.2.1 dX0_leastOfPart_40 rfl (lv_at hl 2 rfl) ?_
        obtain ⟨r2, hc3, hf⟩ := bd hf
        refine call_Ni (ws' := (wX0_leastOfPart cI cL cS cH a_this a_this_near a_this_beside q_nodes q_all q_edition q_beside)) (rest := []) C w (mX7_has l D cI cL cS cH _ y34_2 v34 hc3) ⟨va_cnB 2 C.2.2.2.2 gX0_leastOfPart_X7_has_n47 rfl rfl rfl (w.1.2.1 (RX0, 47, yX7_has) (by decide +kernel)) (C.2.2.2.2 (.initialized RX7) (by decide +kernel)) (by decide +kernel) ⟨Nat.le_of_ble_eq_true rfl, Nat.le_of_ble_eq_true rfl⟩, C.2.2.2.2 (.static yX7_has) (by decide +kernel), trivial⟩ [] [0, 1] 2 trivial trivial ⟨⟨_, rfl, rfl⟩, ⟨_, rfl, rfl⟩, trivial⟩ rfl (by decide) (by decide) rfl hl.1 rfl (lv_room (Nat.le_of_ble_eq_true rfl)) dX0_leastOfPart_41 ⟨Nat.zero_le _, Nat.zero_le _⟩ (fun H locs w => ?_)
        refine lv_if_ne (tgt := 53) C.1 C.2.1 dX0_leastOfPart_44 (by decide) (fun hq4 => ?_) (fun hq4 => ?_)
        · have hf := ite_f hf hq4
          obtain rfl := Option.some.inj hf
          obtain rfl := hn
          exact hk _ _ _ w (lv_sub hl [2] rfl)
        · have hf := ite_t hf hq4
          refine lv_iinc (v := (v34 + (1 : Int32))) (lv' := [(3, .int (v34 + (1 : Int32))), (1, .int y34_1), (2, .int y34_2)]) C.1 C.2.1 dX0_leastOfPart_47 hl (k := 2) rfl rfl (by decide) rfl (fun ls hl => ?_)
          refine lv_goto (tgt := 34) C.1 C.2.1 dX0_leastOfPart_50 (by decide) ?_
          obtain rfl := Option.some.inj hf
          exact ih (v34 + (1 : Int32)) _ _ _ hn w (lv_sub hl [1, 2, 0] rfl)
  have hlp6 : ∀ (y6_1 : Int32) (ex6 : Int32 × Int32) (hk : (∀ (H : Heap) (locs : List Loc) (ls : Array Slot), wd D (ty4 cI cL cS cH) s (va_A (wX0_leastOfPart cI cL cS cH a_this a_this_near a_this_beside q_nodes q_all q_edition q_beside) s.heap.size) s.heap H locs (wX0_leastOfPart cI cL cS cH a_this a_this_near a_this_beside q_nodes q_all q_edition q_beside) → lv_has ls 4 [(1, .int y6_1), (2, .int ex6.1)] → gX0_leastOfPart p l e s m below meth c D cI cL cS cH a_this a_this_near a_this_beside q_nodes q_all q_edition q_beside x1 res H locs (F0 m 32 ls []))) (n : Nat) (v6 : Int32 × Int32) (H : Heap) (locs : List Loc) (ls : Array Slot), itL (bX0_leastOfPart_6 q_all q_beside y6_1) n v6 = some ex6 → wd D (ty4 cI cL cS cH) s (va_A (wX0_leastOfPart cI cL cS cH a_this a_this_near a_this_beside q_nodes q_all q_edition q_beside) s.heap.size) s.heap H locs (wX0_leastOfPart cI cL cS cH a_this a_this_near a_this_beside q_nodes q_all q_edition q_beside) → lv_has ls 4 [(0, .ref a_this), (1, .int y6_1), (2, .int v6.1), (3, .int v6.2)] → gX0_leastOfPart p l e s m below meth c D cI cL cS cH a_this a_this_near a_this_beside q_nodes q_all q_edition q_beside x1 res H locs (F0 m 6 ls []) := by
    intro y6_1 ex6 hk n
    induction n with
    | zero => intro v6 H locs ls hi w hl; exact (itL_zero hi).elim
    | succ n ih =>
      intro v6 H locs ls hi w hl
      obtain ⟨o, hf, hn⟩ := itL_succ hi
      unfold bX0_leastOfPart_6 at hf
      refine lv_iload_n C.1 C.2.1 dX0_leastOfPart_6 rfl (lv_at hl 3 rfl) ?_
      refine lv_bipush (v := (7 : Int32)) C.1 C.2.1 dX0_leastOfPart_7 (by decide) ?_
      refine lv_icmp_ge (tgt := 32) C.1 C.2.1 dX0_leastOfPart_9 (by decide) (fun hq5 => ?_) (fun hq5 => ?_)
      · have hf := ite_t hf hq5
        obtain rfl := Option.some.inj hf
        obtain rfl := hn
        exact hk _ _ _ w (lv_sub hl [1, 2] rfl)
      · have hf := ite_f hf hq5
        refine lv_iload_n C.1 C.2.1 dX0_leastOfPart_12 rfl (lv_at hl 2 rfl) ?_
        refine lv_aload_n C.1 C.2.1 dX0_leastOfPart_13 rfl (lv_at hl 0 rfl) ?_
        refine r_get C w inX0_leastOfPart_X0 0 rfl rfl 4 (by decide) lkX0_leastOfPart_25 rfl dX0_leastOfPart_14 ?_
        refine lv_iload_n C.1 C.2.1 dX0_leastOfPart_17 rfl (lv_at hl 2 rfl) ?_
        refine lv_aload_n C.1 C.2.1 dX0_leastOfPart_18 rfl (lv_at hl 0 rfl) ?_
        refine r_get C w inX0_leastOfPart_X0 0 rfl rfl 1 (by decide) lkX0_leastOfPart_15 rfl dX0_leastOfPart_19 ?_
        refine lv_iand C.1 C.2.1 dX0_leastOfPart_22 ?_
        obtain ⟨y6, hy7, hf⟩ := bd hf
        refine r_iald C w 1 0 rfl rfl (rd_in hy7) dX0_leastOfPart_23 ?_
        refine lv_ior C.1 C.2.1 dX0_leastOfPart_24 ?_
        refine lv_istore_n (lv' := [(2, .int (v6.1 ||| y6)), (0, .ref a_this), (1, .int y6_1), (3, .int v6.2)]) C.1 C.2.1 dX0_leastOfPart_25 rfl hl (by decide) rfl (fun ls hl => ?_)
        refine lv_iinc (v := (v6.2 + (1 : Int32))) (lv' := [(3, .int (v6.2 + (1 : Int32))), (2, .int (v6.1 ||| y6)), (0, .ref a_this), (1, .int y6_1)]) C.1 C.2.1 dX0_leastOfPart_26 hl (k := 3) rfl rfl (by decide) rfl (fun ls hl => ?_)
        refine lv_goto (tgt := 6) C.1 C.2.1 dX0_leastOfPart_29 (by decide) ?_
        obtain rfl := Option.some.inj hf
        exact ih ((v6.1 ||| y6), (v6.2 + (1 : Int32))) _ _ _ hn w (lv_sub hl [2, 3, 1, 0] rfl)
  refine lv_iconst (v := (1 : Int32)) C.1 C.2.1 dX0_leastOfPart_0 (by decide) ?_
  refine lv_iload_n C.1 C.2.1 dX0_leastOfPart_1 rfl (lv_at hl 1 rfl) ?_
  refine lv_ishl C.1 C.2.1 dX0_leastOfPart_2 ?_
  obtain ⟨y8, hy9, hf⟩ := bnd_e hf
  refine lt_topi hy9 ?_
  refine lv_istore_n (lv' := [(2, .int y8), (0, .ref a_this), (1, .int x1)]) C.1 C.2.1 dX0_leastOfPart_3 rfl hl (by decide) rfl (fun ls hl => ?_)
  refine lv_iconst (v := (0 : Int32)) C.1 C.2.1 dX0_leastOfPart_4 (by decide) ?_
  refine lv_istore_n (lv' := [(3, .int (0 : Int32)), (2, .int y8), (0, .ref a_this), (1, .int x1)]) C.1 C.2.1 dX0_leastOfPart_5 rfl hl (by decide) rfl (fun ls hl => ?_)
  obtain ⟨ex10, hx11, hf⟩ := bd hf
  refine hlp6 x1 ex10 ?_ fu (y8, (0 : Int32)) _ _ _ hx11 w (lv_sub hl [2, 3, 1, 0] rfl)
  intro H locs ls w hl
  refine lv_iconst (v := (0 : Int32)) C.1 C.2.1 dX0_leastOfPart_32 (by decide) ?_
  refine lv_istore_n (lv' := [(3, .int (0 : Int32)), (1, .int x1), (2, .int ex10.1)]) C.1 C.2.1 dX0_leastOfPart_33 rfl hl (by decide) rfl (fun ls hl => ?_)
  obtain ⟨ex12, hx13, hf⟩ := bd hf
  refine hlp34 x1 ex10.1 ex12 ?_ fu (0 : Int32) _ _ _ hx13 w (lv_sub hl [1, 2, 0] rfl)
  intro H locs ls w hl
  refine lv_iload_n C.1 C.2.1 dX0_leastOfPart_53 rfl (lv_at hl 0 rfl) ?_
  have hres := Option.some.inj hf
  subst hres
  exact ret_i C hr hlocks w rfl dX0_leastOfPart_54

abbrev wX0_partsBelow (cI cL cS cH : ClassId) (a_this : Nat) (a_this_near : Nat) (a_this_beside : Nat) (q_nodes : Int32) (q_all : Int32) (q_edition : Int32) (q_beside : Nat → Int32) : va_W := [(a_this, .inr (0, [.int q_nodes, .int q_all, .int q_edition, .ref a_this_near, .ref a_this_beside])),
  (a_this_beside, .inl (cI, 128, .inl q_beside))]
def jX0_partsBelow_21 (q_all : Int32) (q_beside : Nat → Int32) (y4_1 : Int32) (y21_2 : Int32) (y21_3 : Int32) : Option ((Int32 × Int32) ⊕ (Int32 × Int32)) := some (.inl (y21_2, (y21_3 + (1 : Int32))))
def bX0_partsBelow_4 (q_all : Int32) (q_beside : Nat → Int32) (y4_1 : Int32) (v4 : Int32 × Int32) : Option ((Int32 × Int32) ⊕ (Int32 × Int32)) := (if y4_1 ≤ v4.2 then some (.inr (v4.1, v4.2)) else Option.bind (fX0_leastOfPart q_all q_beside v4.2) (fun r2 => (if r2 = v4.2 then jX0_partsBelow_21 q_all q_beside y4_1 (v4.1 + (1 : Int32)) v4.2 else jX0_partsBelow_21 q_all q_beside y4_1 v4.1 v4.2)))
def fX0_partsBelow (q_all : Int32) (q_beside : Nat → Int32) (x1 : Int32) : Option (Int32) := Option.bind (itL (bX0_partsBelow_4 q_all q_beside x1) fu ((0 : Int32), (0 : Int32))) (fun ex5 => some ex5.1)
abbrev gX0_partsBelow (p : Program) (l : Launch) (e : Env) (s : State) (m : MethodId) (below : List Frame) (meth : Method) (c : Code) (D : vg) (cI cL cS cH : ClassId) (a_this : Nat) (a_this_near : Nat) (a_this_beside : Nat) (q_nodes : Int32) (q_all : Int32) (q_edition : Int32) (q_beside : Nat → Int32) (x1 : Int32) (res : Int32) (H : Heap) (locs : List Loc) (g : JFrame) : Prop := W p l e (headSpec wsX0_partsBelow ({ frames := 2, cells := 0, slots := 0, locals := 44 })).room s m ([.ref a_this, .int x1] : List Value).toArray below meth c H locs 0 0 (MQ below (va_Qi (fun r' (_ : Unit) => r' = res) (fun _ t => pos1 D s.heap.size (wX0_partsBelow cI cL cS cH a_this a_this_near a_this_beside q_nodes q_all q_edition q_beside) (wX0_partsBelow cI cL cS cH a_this a_this_near a_this_beside q_nodes q_all q_edition q_beside) t) (va_A (wX0_partsBelow cI cL cS cH a_this a_this_near a_this_beside q_nodes q_all q_edition q_beside) s.heap.size)) ([.ref a_this, .int x1] : List Value).toArray s 0 0 (va_A (wX0_partsBelow cI cL cS cH a_this a_this_near a_this_beside q_nodes q_all q_edition q_beside) s.heap.size)) g
set_option maxHeartbeats 4000000 in
set_option maxRecDepth 100000 in
theorem mX0_partsBelow (l : Launch) (D : vg) (cI cL cS cH : ClassId) (sz : Nat) (a_this : Nat) (a_this_near : Nat) (a_this_beside : Nat) (q_nodes : Int32) (q_all : Int32) (q_edition : Int32) (q_beside : Nat → Int32) (x1 : Int32) {res : Int32} (hf : fX0_partsBelow q_all q_beside x1 = some res) : cti l yX0_partsBelow wsX0_partsBelow ({ frames := 2, cells := 0, slots := 0, locals := 44 }) D (ty4 cI cL cS cH) sz [.ref a_this, .int x1] (wX0_partsBelow cI cL cS cH a_this a_this_near a_this_beside q_nodes q_all q_edition q_beside) (wX0_partsBelow cI cL cS cH a_this a_this_near a_this_beside q_nodes q_all q_edition q_beside) res := by
  refine Met.ofW (cc := cX0_partsBelow) (maxL := 4) (ret := (some .int)) (by decide) rfl ?_
  intro p e s m args below meth c s₁ B hml hv
  obtain ⟨rfl, hpre⟩ := hv
  obtain rfl := hpre.1
  have C : CallFix p m c cX0_partsBelow 4 s _ wsX0_partsBelow RX0 := ⟨B.exec, B.bytes, hml, findClass_of_methodNamed B.named, atoms_spec (ws := wsX0_partsBelow) B.pre⟩
  have hr := B.returns
  have hlocks := B.notSynchronized
  have w := wd_start hpre
  clear hpre B
  have hl := lv_entry ([.ref a_this, .int x1]) (n := 4) (Nat.le_of_ble_eq_true rfl)
  rw [lg_entry_eq]
  generalize (lg_sl ([.ref a_this, .int x1]) ++ List.replicate (4 - (lg_sl ([.ref a_this, .int x1])).length) Slot.unset).toArray = ls at hl ⊢
  have hl : lv_has ls 4 [(0, .ref a_this), (1, .int x1)] := hl
  unfold fX0_partsBelow at hf
  have hlp4 : ∀ (y4_1 : Int32) (ex4 : Int32 × Int32) (hk : (∀ (H : Heap) (locs : List Loc) (ls : Array Slot), wd D (ty4 cI cL cS cH) s (va_A (wX0_partsBelow cI cL cS cH a_this a_this_near a_this_beside q_nodes q_all q_edition q_beside) s.heap.size) s.heap H locs (wX0_partsBelow cI cL cS cH a_this a_this_near a_this_beside q_nodes q_all q_edition q_beside) → lv_has ls 4 [(2, .int ex4.1)] → gX0_partsBelow p l e s m below meth c D cI cL cS cH a_this a_this_near a_this_beside q_nodes q_all q_edition q_beside x1 res H locs (F0 m 27 ls []))) (n : Nat) (v4 : Int32 × Int32) (H : Heap) (locs : List Loc) (ls : Array Slot), itL (bX0_partsBelow_4 q_all q_beside y4_1) n v4 = some ex4 → wd D (ty4 cI cL cS cH) s (va_A (wX0_partsBelow cI cL cS cH a_this a_this_near a_this_beside q_nodes q_all q_edition q_beside) s.heap.size) s.heap H locs (wX0_partsBelow cI cL cS cH a_this a_this_near a_this_beside q_nodes q_all q_edition q_beside) → lv_has ls 4 [(0, .ref a_this), (1, .int y4_1), (2, .int v4.1), (3, .int v4.2)] → gX0_partsBelow p l e s m below meth c D cI cL cS cH a_this a_this_near a_this_beside q_nodes q_all q_edition q_beside x1 res H locs (F0 m 4 ls []) := by
    intro y4_1 ex4 hk n
    induction n with
    | zero => intro v4 H locs ls hi w hl; exact (itL_zero hi).elim
    | succ n ih =>
      intro v4 H locs ls hi w hl
      obtain ⟨o, hf, hn⟩ := itL_succ hi
      unfold bX0_partsBelow_4 at hf
      have hj21 : ∀ (y21_2 : Int32) (y21_3 : Int32) (H : Heap) (locs : List Loc) (ls : Array Slot), wd D (ty4 cI cL cS cH) s (va_A (wX0_partsBelow cI cL cS cH a_this a_this_near a_this_beside q_nodes q_all q_edition q_beside) s.heap.size) s.heap H locs (wX0_partsBelow cI cL cS cH a_this a_this_near a_this_beside q_nodes q_all q_edition q_beside) → lv_has ls 4 [(0, .ref a_this), (1, .int y4_1), (2, .int y21_2), (3, .int y21_3)] → jX0_partsBelow_21 q_all q_beside y4_1 y21_2 y21_3 = some o → gX0_partsBelow p l e s m below meth c D cI cL cS cH a_this a_this_near a_this_beside q_nodes q_all q_edition q_beside x1 res H locs (F0 m 21 ls []) := by
        intro y21_2 y21_3 H locs ls w hl hf
        unfold jX0_partsBelow_21 at hf
        refine lv_iinc (v := (y21_3 + (1 : Int32))) (lv' := [(3, .int (y21_3 + (1 : Int32))), (0, .ref a_this), (1, .int y4_1), (2, .int y21_2)]) C.1 C.2.1 dX0_partsBelow_21 hl (k := 3) rfl rfl (by decide) rfl (fun ls hl => ?_)
        refine lv_goto (tgt := 4) C.1 C.2.1 dX0_partsBelow_24 (by decide) ?_
        obtain rfl := Option.some.inj hf
        exact ih (y21_2, (y21_3 + (1 : Int32))) _ _ _ hn w (lv_sub hl [1, 2, 3, 0] rfl)
      refine lv_iload_n C.1 C.2.1 dX0_partsBelow_4 rfl (lv_at hl 3 rfl) ?_
      refine lv_iload_n C.1 C.2.1 dX0_partsBelow_5 rfl (lv_at hl 1 rfl) ?_
      refine lv_icmp_ge (tgt := 27) C.1 C.2.1 dX0_partsBelow_6 (by decide) (fun hq1 => ?_) (fun hq1 => ?_)
      · have hf := ite_t hf hq1
        obtain rfl := Option.some.inj hf
        obtain rfl := hn
        exact hk _ _ _ w (lv_sub hl [2] rfl)
      · have hf := ite_f hf hq1
        refine lv_aload_n C.1 C.2.1 dX0_partsBelow_9 rfl (lv_at hl 0 rfl) ?_
        refine lv_iload_n C.1 C.2.1 dX0_partsBelow_10 rfl (lv_at hl 3 rfl) ?_
        obtain ⟨r2, hc3, hf⟩ := bd hf
        refine call_Vi (ws' := (wX0_partsBelow cI cL cS cH a_this a_this_near a_this_beside q_nodes q_all q_edition q_beside)) (rest := []) C w (mX0_leastOfPart l D cI cL cS cH _ a_this a_this_near a_this_beside q_nodes q_all q_edition q_beside v4.2 hc3) (cwV 1 C.2.2.2.2 gX0_partsBelow_X0_leastOfPart rfl rfl rfl (by decide +kernel) ⟨Nat.le_of_ble_eq_true rfl, Nat.le_of_ble_eq_true rfl⟩) [0, 1] [] 2 ⟨rfl, rfl, trivial⟩ ⟨rfl, rfl, trivial⟩ trivial rfl (by decide) (by decide) (ci := 0) (q0 := 0) rfl rfl rfl hl.1 rfl (lv_room (Nat.le_of_ble_eq_true rfl)) dX0_partsBelow_11 ⟨Nat.zero_le _, Nat.zero_le _⟩ (fun H locs w => ?_)
        refine lv_iload_n C.1 C.2.1 dX0_partsBelow_14 rfl (lv_at hl 3 rfl) ?_
        refine lv_icmp_ne (tgt := 21) C.1 C.2.1 dX0_partsBelow_15 (by decide) (fun hq4 => ?_) (fun hq4 => ?_)
        · have hf := ite_f hf hq4
          exact hj21 v4.1 v4.2 _ _ _ w (lv_sub hl [0, 1, 2, 3] rfl) hf
        · have hf := ite_t hf hq4
          refine lv_iinc (v := (v4.1 + (1 : Int32))) (lv' := [(2, .int (v4.1 + (1 : Int32))), (0, .ref a_this), (1, .int y4_1), (3, .int v4.2)]) C.1 C.2.1 dX0_partsBelow_18 hl (k := 2) rfl rfl (by decide) rfl (fun ls hl => ?_)
          exact hj21 (v4.1 + (1 : Int32)) v4.2 _ _ _ w (lv_sub hl [1, 2, 0, 3] rfl) hf
  refine lv_iconst (v := (0 : Int32)) C.1 C.2.1 dX0_partsBelow_0 (by decide) ?_
  refine lv_istore_n (lv' := [(2, .int (0 : Int32)), (0, .ref a_this), (1, .int x1)]) C.1 C.2.1 dX0_partsBelow_1 rfl hl (by decide) rfl (fun ls hl => ?_)
  refine lv_iconst (v := (0 : Int32)) C.1 C.2.1 dX0_partsBelow_2 (by decide) ?_
  refine lv_istore_n (lv' := [(3, .int (0 : Int32)), (2, .int (0 : Int32)), (0, .ref a_this), (1, .int x1)]) C.1 C.2.1 dX0_partsBelow_3 rfl hl (by decide) rfl (fun ls hl => ?_)
  obtain ⟨ex5, hx6, hf⟩ := bd hf
  refine hlp4 x1 ex5 ?_ fu ((0 : Int32), (0 : Int32)) _ _ _ hx6 w (lv_sub hl [2, 3, 1, 0] rfl)
  intro H locs ls w hl
  refine lv_iload_n C.1 C.2.1 dX0_partsBelow_27 rfl (lv_at hl 0 rfl) ?_
  have hres := Option.some.inj hf
  subst hres
  exact ret_i C hr hlocks w rfl dX0_partsBelow_28

abbrev wX0_partOf (cI cL cS cH : ClassId) (a_this : Nat) (a_this_near : Nat) (a_this_beside : Nat) (q_nodes : Int32) (q_all : Int32) (q_edition : Int32) (q_beside : Nat → Int32) : va_W := [(a_this, .inr (0, [.int q_nodes, .int q_all, .int q_edition, .ref a_this_near, .ref a_this_beside])),
  (a_this_beside, .inl (cI, 128, .inl q_beside))]
def fX0_partOf (q_all : Int32) (q_beside : Nat → Int32) (x1 : Int32) : Option (Int32) := Option.bind (fX0_leastOfPart q_all q_beside x1) (fun r1 => Option.bind (fX0_partsBelow q_all q_beside r1) (fun r3 => some r3))
set_option maxHeartbeats 4000000 in
set_option maxRecDepth 100000 in
theorem mX0_partOf (l : Launch) (D : vg) (cI cL cS cH : ClassId) (sz : Nat) (a_this : Nat) (a_this_near : Nat) (a_this_beside : Nat) (q_nodes : Int32) (q_all : Int32) (q_edition : Int32) (q_beside : Nat → Int32) (x1 : Int32) {res : Int32} (hf : fX0_partOf q_all q_beside x1 = some res) : cti l yX0_partOf wsX0_partOf ({ frames := 3, cells := 0, slots := 0, locals := 67 }) D (ty4 cI cL cS cH) sz [.ref a_this, .int x1] (wX0_partOf cI cL cS cH a_this a_this_near a_this_beside q_nodes q_all q_edition q_beside) (wX0_partOf cI cL cS cH a_this a_this_near a_this_beside q_nodes q_all q_edition q_beside) res := by
  refine Met.ofW (cc := cX0_partOf) (maxL := 2) (ret := (some .int)) (by decide) rfl ?_
  intro p e s m args below meth c s₁ B hml hv
  obtain ⟨rfl, hpre⟩ := hv
  obtain rfl := hpre.1
  have C : CallFix p m c cX0_partOf 2 s _ wsX0_partOf RX0 := ⟨B.exec, B.bytes, hml, findClass_of_methodNamed B.named, atoms_spec (ws := wsX0_partOf) B.pre⟩
  have hr := B.returns
  have hlocks := B.notSynchronized
  have w := wd_start hpre
  clear hpre B
  have hl := lv_entry ([.ref a_this, .int x1]) (n := 2) (Nat.le_of_ble_eq_true rfl)
  rw [lg_entry_eq]
  generalize (lg_sl ([.ref a_this, .int x1]) ++ List.replicate (2 - (lg_sl ([.ref a_this, .int x1])).length) Slot.unset).toArray = ls at hl ⊢
  have hl : lv_has ls 2 [(0, .ref a_this), (1, .int x1)] := hl
  unfold fX0_partOf at hf
  refine lv_aload_n C.1 C.2.1 dX0_partOf_0 rfl (lv_at hl 0 rfl) ?_
  refine lv_aload_n C.1 C.2.1 dX0_partOf_1 rfl (lv_at hl 0 rfl) ?_
  refine lv_iload_n C.1 C.2.1 dX0_partOf_2 rfl (lv_at hl 1 rfl) ?_
  obtain ⟨r1, hc2, hf⟩ := bd hf
  refine call_Vi (ws' := (wX0_partOf cI cL cS cH a_this a_this_near a_this_beside q_nodes q_all q_edition q_beside)) (rest := [.ref a_this]) C w (mX0_leastOfPart l D cI cL cS cH _ a_this a_this_near a_this_beside q_nodes q_all q_edition q_beside x1 hc2) (cwV 1 C.2.2.2.2 gX0_partOf_X0_leastOfPart rfl rfl rfl (by decide +kernel) ⟨Nat.le_of_ble_eq_true rfl, Nat.le_of_ble_eq_true rfl⟩) [0, 1] [] 2 ⟨rfl, rfl, trivial⟩ ⟨rfl, rfl, trivial⟩ trivial rfl (by decide) (by decide) (ci := 0) (q0 := 0) rfl rfl rfl hl.1 rfl (lv_room (Nat.le_of_ble_eq_true rfl)) dX0_partOf_3 ⟨Nat.zero_le _, Nat.zero_le _⟩ (fun H locs w => ?_)
  obtain ⟨r3, hc4, hf⟩ := bd hf
  refine call_Vi (ws' := (wX0_partOf cI cL cS cH a_this a_this_near a_this_beside q_nodes q_all q_edition q_beside)) (rest := []) C w (mX0_partsBelow l D cI cL cS cH _ a_this a_this_near a_this_beside q_nodes q_all q_edition q_beside r1 hc4) (cwV 1 C.2.2.2.2 gX0_partOf_X0_partsBelow rfl rfl rfl (by decide +kernel) ⟨Nat.le_of_ble_eq_true rfl, Nat.le_of_ble_eq_true rfl⟩) [0, 1] [] 2 ⟨rfl, rfl, trivial⟩ ⟨rfl, rfl, trivial⟩ trivial rfl (by decide) (by decide) (ci := 0) (q0 := 0) rfl rfl rfl hl.1 rfl (lv_room (Nat.le_of_ble_eq_true rfl)) dX0_partOf_6 ⟨Nat.zero_le _, Nat.zero_le _⟩ (fun H locs w => ?_)
  have hres := Option.some.inj hf
  subst hres
  exact ret_i C hr hlocks w rfl dX0_partOf_9

set_option maxRecDepth 100000 in
theorem inX0_parts_X0 : ∀ w ∈ u_ws RX0 TX0 5, w ∈ wsX0_parts := by decide +kernel
set_option maxRecDepth 100000 in
theorem lkX0_parts_9 : Cond.fieldLink RX0 9 "CleanNets$Net" "nodes" "I" ∈ wsX0_parts := by decide +kernel
abbrev wX0_parts (cI cL cS cH : ClassId) (a_this : Nat) (a_this_near : Nat) (a_this_beside : Nat) (q_nodes : Int32) (q_all : Int32) (q_edition : Int32) (q_beside : Nat → Int32) : va_W := [(a_this, .inr (0, [.int q_nodes, .int q_all, .int q_edition, .ref a_this_near, .ref a_this_beside])),
  (a_this_beside, .inl (cI, 128, .inl q_beside))]
def fX0_parts (q_nodes : Int32) (q_all : Int32) (q_beside : Nat → Int32)  : Option (Int32) := Option.bind (fX0_partsBelow q_all q_beside q_nodes) (fun r1 => some r1)
set_option maxHeartbeats 4000000 in
set_option maxRecDepth 100000 in
theorem mX0_parts (l : Launch) (D : vg) (cI cL cS cH : ClassId) (sz : Nat) (a_this : Nat) (a_this_near : Nat) (a_this_beside : Nat) (q_nodes : Int32) (q_all : Int32) (q_edition : Int32) (q_beside : Nat → Int32) {res : Int32} (hf : fX0_parts q_nodes q_all q_beside = some res) : cti l yX0_parts wsX0_parts ({ frames := 3, cells := 0, slots := 0, locals := 67 }) D (ty4 cI cL cS cH) sz [.ref a_this] (wX0_parts cI cL cS cH a_this a_this_near a_this_beside q_nodes q_all q_edition q_beside) (wX0_parts cI cL cS cH a_this a_this_near a_this_beside q_nodes q_all q_edition q_beside) res := by
  refine Met.ofW (cc := cX0_parts) (maxL := 1) (ret := (some .int)) (by decide) rfl ?_
  intro p e s m args below meth c s₁ B hml hv
  obtain ⟨rfl, hpre⟩ := hv
  obtain rfl := hpre.1
  have C : CallFix p m c cX0_parts 1 s _ wsX0_parts RX0 := ⟨B.exec, B.bytes, hml, findClass_of_methodNamed B.named, atoms_spec (ws := wsX0_parts) B.pre⟩
  have hr := B.returns
  have hlocks := B.notSynchronized
  have w := wd_start hpre
  clear hpre B
  have hl := lv_entry ([.ref a_this]) (n := 1) (Nat.le_of_ble_eq_true rfl)
  rw [lg_entry_eq]
  generalize (lg_sl ([.ref a_this]) ++ List.replicate (1 - (lg_sl ([.ref a_this])).length) Slot.unset).toArray = ls at hl ⊢
  have hl : lv_has ls 1 [(0, .ref a_this)] := hl
  unfold fX0_parts at hf
  refine lv_aload_n C.1 C.2.1 dX0_parts_0 rfl (lv_at hl 0 rfl) ?_
  refine lv_aload_n C.1 C.2.1 dX0_parts_1 rfl (lv_at hl 0 rfl) ?_
  refine r_get C w inX0_parts_X0 0 rfl rfl 0 (by decide) lkX0_parts_9 rfl dX0_parts_2 ?_
  obtain ⟨r1, hc2, hf⟩ := bd hf
  refine call_Vi (ws' := (wX0_parts cI cL cS cH a_this a_this_near a_this_beside q_nodes q_all q_edition q_beside)) (rest := []) C w (mX0_partsBelow l D cI cL cS cH _ a_this a_this_near a_this_beside q_nodes q_all q_edition q_beside q_nodes hc2) (cwV 1 C.2.2.2.2 gX0_parts_X0_partsBelow rfl rfl rfl (by decide +kernel) ⟨Nat.le_of_ble_eq_true rfl, Nat.le_of_ble_eq_true rfl⟩) [0, 1] [] 2 ⟨rfl, rfl, trivial⟩ ⟨rfl, rfl, trivial⟩ trivial rfl (by decide) (by decide) (ci := 0) (q0 := 0) rfl rfl rfl hl.1 rfl (lv_room (Nat.le_of_ble_eq_true rfl)) dX0_parts_5 ⟨Nat.zero_le _, Nat.zero_le _⟩ (fun H locs w => ?_)
  have hres := Option.some.inj hf
  subst hres
  exact ret_i C hr hlocks w rfl dX0_parts_8

set_option maxRecDepth 100000 in
theorem inX0_isAct_X0 : ∀ w ∈ u_ws RX0 TX0 5, w ∈ wsX0_isAct := by decide +kernel
set_option maxRecDepth 100000 in
theorem lkX0_isAct_9 : Cond.fieldLink RX0 9 "CleanNets$Net" "nodes" "I" ∈ wsX0_isAct := by decide +kernel
abbrev wX0_isAct (cI cL cS cH : ClassId) (a_this : Nat) (a_this_near : Nat) (a_this_beside : Nat) (q_nodes : Int32) (q_all : Int32) (q_edition : Int32) : va_W := [(a_this, .inr (0, [.int q_nodes, .int q_all, .int q_edition, .ref a_this_near, .ref a_this_beside]))]
def fX0_isAct (q_nodes : Int32) (x1 : Int64) : Option (Int32) := (if 0 ≤ (lg_cmp x1 (0 : Int64)) then (if 0 ≤ (lg_cmp x1 (10 : Int64)) then (if 0 ≤ (lg_cmp x1 (100 : Int64)) then bnd ((x1 - (100 : Int64)) / (10 : Int64)) (fun y4 => bnd (x1 - x1 / (10 : Int64) * (10 : Int64)) (fun y6 => (if 0 ≤ (lg_cmp y4 ((q_nodes).toInt64)) then some (0 : Int32) else (if 0 ≤ (lg_cmp y6 ((q_nodes).toInt64)) then some (0 : Int32) else (if (lg_cmp y4 y6) = 0 then some (0 : Int32) else some (1 : Int32)))))) else (if 0 ≤ (lg_cmp x1 ((((10 : Int32) + q_nodes)).toInt64)) then some (0 : Int32) else some (1 : Int32))) else (if 0 ≤ (lg_cmp x1 ((q_nodes).toInt64)) then some (0 : Int32) else some (1 : Int32))) else some (0 : Int32))
set_option maxHeartbeats 4000000 in
set_option maxRecDepth 100000 in
theorem mX0_isAct (l : Launch) (D : vg) (cI cL cS cH : ClassId) (sz : Nat) (a_this : Nat) (a_this_near : Nat) (a_this_beside : Nat) (q_nodes : Int32) (q_all : Int32) (q_edition : Int32) (x1 : Int64) {res : Int32} (hf : fX0_isAct q_nodes x1 = some res) : cti l yX0_isAct wsX0_isAct ({ frames := 0, cells := 0, slots := 0, locals := 0 }) D (ty4 cI cL cS cH) sz [.ref a_this, .long x1] (wX0_isAct cI cL cS cH a_this a_this_near a_this_beside q_nodes q_all q_edition) (wX0_isAct cI cL cS cH a_this a_this_near a_this_beside q_nodes q_all q_edition) res := by
  refine Met.ofW (cc := cX0_isAct) (maxL := 7) (ret := (some .boolean)) (by decide) rfl ?_
  intro p e s m args below meth c s₁ B hml hv
  obtain ⟨rfl, hpre⟩ := hv
  obtain rfl := hpre.1
  have C : CallFix p m c cX0_isAct 7 s _ wsX0_isAct RX0 := ⟨B.exec, B.bytes, hml, findClass_of_methodNamed B.named, atoms_spec (ws := wsX0_isAct) B.pre⟩
  have hr := B.returns
  have hlocks := B.notSynchronized
  have w := wd_start hpre
  clear hpre B
  have hl := lv_entry ([.ref a_this, .long x1]) (n := 7) (Nat.le_of_ble_eq_true rfl)
  rw [lg_entry_eq]
  generalize (lg_sl ([.ref a_this, .long x1]) ++ List.replicate (7 - (lg_sl ([.ref a_this, .long x1])).length) Slot.unset).toArray = ls at hl ⊢
  have hl : lv_has ls 7 [(0, .ref a_this), (1, .long x1)] := hl
  unfold fX0_isAct at hf
  refine lv_lload_n C.1 C.2.1 dX0_isAct_0 rfl (lv_at hl 1 rfl) ?_
  refine lv_lconst (v := (0 : Int64)) C.1 C.2.1 dX0_isAct_1 (by decide) ?_
  refine W.lcmp C.1 C.2.1 dX0_isAct_2 ?_
  refine lv_if_ge (tgt := 8) C.1 C.2.1 dX0_isAct_3 (by decide) (fun hq1 => ?_) (fun hq1 => ?_)
  · have hf := ite_t hf hq1
    refine lv_lload_n C.1 C.2.1 dX0_isAct_8 rfl (lv_at hl 1 rfl) ?_
    refine lv_ldc2 (v := (10 : Int64)) C.1 C.2.1 C.2.2.2.1 (C.2.2.2.2 (.constantLong RX0 51 (10 : Int64)) (by decide +kernel)) dX0_isAct_9 ?_
    refine W.lcmp C.1 C.2.1 dX0_isAct_12 ?_
    refine lv_if_ge (tgt := 32) C.1 C.2.1 dX0_isAct_13 (by decide) (fun hq2 => ?_) (fun hq2 => ?_)
    · have hf := ite_t hf hq2
      refine lv_lload_n C.1 C.2.1 dX0_isAct_32 rfl (lv_at hl 1 rfl) ?_
      refine lv_ldc2 (v := (100 : Int64)) C.1 C.2.1 C.2.2.2.1 (C.2.2.2.2 (.constantLong RX0 53 (100 : Int64)) (by decide +kernel)) dX0_isAct_33 ?_
      refine W.lcmp C.1 C.2.1 dX0_isAct_36 ?_
      refine lv_if_ge (tgt := 59) C.1 C.2.1 dX0_isAct_37 (by decide) (fun hq3 => ?_) (fun hq3 => ?_)
      · have hf := ite_t hf hq3
        refine lv_lload_n C.1 C.2.1 dX0_isAct_59 rfl (lv_at hl 1 rfl) ?_
        refine lv_ldc2 (v := (100 : Int64)) C.1 C.2.1 C.2.2.2.1 (C.2.2.2.2 (.constantLong RX0 53 (100 : Int64)) (by decide +kernel)) dX0_isAct_60 ?_
        refine lv_lsub C.1 C.2.1 dX0_isAct_63 ?_
        refine lv_ldc2 (v := (10 : Int64)) C.1 C.2.1 C.2.2.2.1 (C.2.2.2.2 (.constantLong RX0 51 (10 : Int64)) (by decide +kernel)) dX0_isAct_64 ?_
        refine lv_ldiv C.1 C.2.1 dX0_isAct_67 (by decide) ?_
        obtain ⟨y4, hy5, hf⟩ := bnd_e hf
        refine lt_topl hy5 ?_
        refine lv_lstore_n (lv' := [(3, .long y4), (0, .ref a_this), (1, .long x1)]) C.1 C.2.1 dX0_isAct_68 rfl hl (by decide) rfl (fun ls hl => ?_)
        refine lv_lload_n C.1 C.2.1 dX0_isAct_69 rfl (lv_at hl 2 rfl) ?_
        refine lv_ldc2 (v := (10 : Int64)) C.1 C.2.1 C.2.2.2.1 (C.2.2.2.2 (.constantLong RX0 51 (10 : Int64)) (by decide +kernel)) dX0_isAct_70 ?_
        refine lv_lrem C.1 C.2.1 dX0_isAct_73 (by decide) ?_
        obtain ⟨y6, hy7, hf⟩ := bnd_e hf
        refine lt_topl hy7 ?_
        refine lv_lstore (lv' := [(5, .long y6), (3, .long y4), (0, .ref a_this), (1, .long x1)]) C.1 C.2.1 dX0_isAct_74 hl (by decide) rfl (fun ls hl => ?_)
        refine lv_lload_n C.1 C.2.1 dX0_isAct_76 rfl (lv_at hl 1 rfl) ?_
        refine lv_aload_n C.1 C.2.1 dX0_isAct_77 rfl (lv_at hl 2 rfl) ?_
        refine r_get C w inX0_isAct_X0 0 rfl rfl 0 (by decide) lkX0_isAct_9 rfl dX0_isAct_78 ?_
        refine lv_i2l C.1 C.2.1 dX0_isAct_81 rfl ?_
        refine W.lcmp C.1 C.2.1 dX0_isAct_82 ?_
        refine lv_if_ge (tgt := 108) C.1 C.2.1 dX0_isAct_83 (by decide) (fun hq8 => ?_) (fun hq8 => ?_)
        · have hf := ite_t hf hq8
          refine lv_iconst (v := (0 : Int32)) C.1 C.2.1 dX0_isAct_108 (by decide) ?_
          have hres := Option.some.inj hf
          subst hres
          exact ret_z C hr hlocks w (by decide) rfl dX0_isAct_109
        · have hf := ite_f hf hq8
          refine lv_lload C.1 C.2.1 dX0_isAct_86 (lv_at hl 0 rfl) ?_
          refine lv_aload_n C.1 C.2.1 dX0_isAct_88 rfl (lv_at hl 2 rfl) ?_
          refine r_get C w inX0_isAct_X0 0 rfl rfl 0 (by decide) lkX0_isAct_9 rfl dX0_isAct_89 ?_
          refine lv_i2l C.1 C.2.1 dX0_isAct_92 rfl ?_
          refine W.lcmp C.1 C.2.1 dX0_isAct_93 ?_
          refine lv_if_ge (tgt := 108) C.1 C.2.1 dX0_isAct_94 (by decide) (fun hq9 => ?_) (fun hq9 => ?_)
          · have hf := ite_t hf hq9
            refine lv_iconst (v := (0 : Int32)) C.1 C.2.1 dX0_isAct_108 (by decide) ?_
            have hres := Option.some.inj hf
            subst hres
            exact ret_z C hr hlocks w (by decide) rfl dX0_isAct_109
          · have hf := ite_f hf hq9
            refine lv_lload_n C.1 C.2.1 dX0_isAct_97 rfl (lv_at hl 1 rfl) ?_
            refine lv_lload C.1 C.2.1 dX0_isAct_98 (lv_at hl 0 rfl) ?_
            refine W.lcmp C.1 C.2.1 dX0_isAct_100 ?_
            refine lv_if_eq (tgt := 108) C.1 C.2.1 dX0_isAct_101 (by decide) (fun hq10 => ?_) (fun hq10 => ?_)
            · have hf := ite_t hf hq10
              refine lv_iconst (v := (0 : Int32)) C.1 C.2.1 dX0_isAct_108 (by decide) ?_
              have hres := Option.some.inj hf
              subst hres
              exact ret_z C hr hlocks w (by decide) rfl dX0_isAct_109
            · have hf := ite_f hf hq10
              refine lv_iconst (v := (1 : Int32)) C.1 C.2.1 dX0_isAct_104 (by decide) ?_
              refine lv_goto (tgt := 109) C.1 C.2.1 dX0_isAct_105 (by decide) ?_
              have hres := Option.some.inj hf
              subst hres
              exact ret_z C hr hlocks w (by decide) rfl dX0_isAct_109
      · have hf := ite_f hf hq3
        refine lv_lload_n C.1 C.2.1 dX0_isAct_40 rfl (lv_at hl 1 rfl) ?_
        refine lv_bipush (v := (10 : Int32)) C.1 C.2.1 dX0_isAct_41 (by decide) ?_
        refine lv_aload_n C.1 C.2.1 dX0_isAct_43 rfl (lv_at hl 0 rfl) ?_
        refine r_get C w inX0_isAct_X0 0 rfl rfl 0 (by decide) lkX0_isAct_9 rfl dX0_isAct_44 ?_
        refine lv_iadd C.1 C.2.1 dX0_isAct_47 ?_
        refine lv_i2l C.1 C.2.1 dX0_isAct_48 rfl ?_
        refine W.lcmp C.1 C.2.1 dX0_isAct_49 ?_
        refine lv_if_ge (tgt := 57) C.1 C.2.1 dX0_isAct_50 (by decide) (fun hq11 => ?_) (fun hq11 => ?_)
        · have hf := ite_t hf hq11
          refine lv_iconst (v := (0 : Int32)) C.1 C.2.1 dX0_isAct_57 (by decide) ?_
          have hres := Option.some.inj hf
          subst hres
          exact ret_z C hr hlocks w (by decide) rfl dX0_isAct_58
        · have hf := ite_f hf hq11
          refine lv_iconst (v := (1 : Int32)) C.1 C.2.1 dX0_isAct_53 (by decide) ?_
          refine lv_goto (tgt := 58) C.1 C.2.1 dX0_isAct_54 (by decide) ?_
          have hres := Option.some.inj hf
          subst hres
          exact ret_z C hr hlocks w (by decide) rfl dX0_isAct_58
    · have hf := ite_f hf hq2
      refine lv_lload_n C.1 C.2.1 dX0_isAct_16 rfl (lv_at hl 1 rfl) ?_
      refine lv_aload_n C.1 C.2.1 dX0_isAct_17 rfl (lv_at hl 0 rfl) ?_
      refine r_get C w inX0_isAct_X0 0 rfl rfl 0 (by decide) lkX0_isAct_9 rfl dX0_isAct_18 ?_
      refine lv_i2l C.1 C.2.1 dX0_isAct_21 rfl ?_
      refine W.lcmp C.1 C.2.1 dX0_isAct_22 ?_
      refine lv_if_ge (tgt := 30) C.1 C.2.1 dX0_isAct_23 (by decide) (fun hq12 => ?_) (fun hq12 => ?_)
      · have hf := ite_t hf hq12
        refine lv_iconst (v := (0 : Int32)) C.1 C.2.1 dX0_isAct_30 (by decide) ?_
        have hres := Option.some.inj hf
        subst hres
        exact ret_z C hr hlocks w (by decide) rfl dX0_isAct_31
      · have hf := ite_f hf hq12
        refine lv_iconst (v := (1 : Int32)) C.1 C.2.1 dX0_isAct_26 (by decide) ?_
        refine lv_goto (tgt := 31) C.1 C.2.1 dX0_isAct_27 (by decide) ?_
        have hres := Option.some.inj hf
        subst hres
        exact ret_z C hr hlocks w (by decide) rfl dX0_isAct_31
  · have hf := ite_f hf hq1
    refine lv_iconst (v := (0 : Int32)) C.1 C.2.1 dX0_isAct_6 (by decide) ?_
    have hres := Option.some.inj hf
    subst hres
    exact ret_z C hr hlocks w (by decide) rfl dX0_isAct_7

set_option maxRecDepth 100000 in
theorem inX0_puts_X0 : ∀ w ∈ u_ws RX0 TX0 5, w ∈ wsX0_puts := by decide +kernel
set_option maxRecDepth 100000 in
theorem lkX0_puts_25 : Cond.fieldLink RX0 25 "CleanNets$Net" "beside" "[I" ∈ wsX0_puts := by decide +kernel
set_option maxRecDepth 100000 in
theorem lkX0_puts_15 : Cond.fieldLink RX0 15 "CleanNets$Net" "all" "I" ∈ wsX0_puts := by decide +kernel
abbrev wX0_puts (cI cL cS cH : ClassId) (a_this : Nat) (a_this_near : Nat) (a_this_beside : Nat) (q_nodes : Int32) (q_all : Int32) (q_edition : Int32) (q_beside : Nat → Int32) : va_W := [(a_this, .inr (0, [.int q_nodes, .int q_all, .int q_edition, .ref a_this_near, .ref a_this_beside])),
  (a_this_beside, .inl (cI, 128, .inl q_beside))]
def jX0_puts_35 (q_all : Int32) (q_beside : Nat → Int32) (x1 : Int32) (z35_0 : Int32) : Option (Int32) := some (z35_0 &&& (x1 ^^^ (-1 : Int32)))
def fX0_puts (q_all : Int32) (q_beside : Nat → Int32) (x1 : Int32) (x2 : Int32) : Option (Int32) := (if x2 = 0 then some (q_all &&& (x1 ^^^ (-1 : Int32))) else (if x2 = (1 : Int32) then jX0_puts_35 q_all q_beside x1 (1 : Int32) else Option.bind (rd q_beside 128 (x1 &&& q_all)) (fun y3 => jX0_puts_35 q_all q_beside x1 ((1 : Int32) ||| y3))))
abbrev gX0_puts (p : Program) (l : Launch) (e : Env) (s : State) (m : MethodId) (below : List Frame) (meth : Method) (c : Code) (D : vg) (cI cL cS cH : ClassId) (a_this : Nat) (a_this_near : Nat) (a_this_beside : Nat) (q_nodes : Int32) (q_all : Int32) (q_edition : Int32) (q_beside : Nat → Int32) (x1 : Int32) (x2 : Int32) (res : Int32) (H : Heap) (locs : List Loc) (g : JFrame) : Prop := W p l e (headSpec wsX0_puts ({ frames := 0, cells := 0, slots := 0, locals := 0 })).room s m ([.ref a_this, .int x1, .int x2] : List Value).toArray below meth c H locs 0 0 (MQ below (va_Qi (fun r' (_ : Unit) => r' = res) (fun _ t => pos1 D s.heap.size (wX0_puts cI cL cS cH a_this a_this_near a_this_beside q_nodes q_all q_edition q_beside) (wX0_puts cI cL cS cH a_this a_this_near a_this_beside q_nodes q_all q_edition q_beside) t) (va_A (wX0_puts cI cL cS cH a_this a_this_near a_this_beside q_nodes q_all q_edition q_beside) s.heap.size)) ([.ref a_this, .int x1, .int x2] : List Value).toArray s 0 0 (va_A (wX0_puts cI cL cS cH a_this a_this_near a_this_beside q_nodes q_all q_edition q_beside) s.heap.size)) g
set_option maxHeartbeats 4000000 in
set_option maxRecDepth 100000 in
theorem mX0_puts (l : Launch) (D : vg) (cI cL cS cH : ClassId) (sz : Nat) (a_this : Nat) (a_this_near : Nat) (a_this_beside : Nat) (q_nodes : Int32) (q_all : Int32) (q_edition : Int32) (q_beside : Nat → Int32) (x1 : Int32) (x2 : Int32) {res : Int32} (hf : fX0_puts q_all q_beside x1 x2 = some res) : cti l yX0_puts wsX0_puts ({ frames := 0, cells := 0, slots := 0, locals := 0 }) D (ty4 cI cL cS cH) sz [.ref a_this, .int x1, .int x2] (wX0_puts cI cL cS cH a_this a_this_near a_this_beside q_nodes q_all q_edition q_beside) (wX0_puts cI cL cS cH a_this a_this_near a_this_beside q_nodes q_all q_edition q_beside) res := by
  refine Met.ofW (cc := cX0_puts) (maxL := 4) (ret := (some .int)) (by decide) rfl ?_
  intro p e s m args below meth c s₁ B hml hv
  obtain ⟨rfl, hpre⟩ := hv
  obtain rfl := hpre.1
  have C : CallFix p m c cX0_puts 4 s _ wsX0_puts RX0 := ⟨B.exec, B.bytes, hml, findClass_of_methodNamed B.named, atoms_spec (ws := wsX0_puts) B.pre⟩
  have hr := B.returns
  have hlocks := B.notSynchronized
  have w := wd_start hpre
  clear hpre B
  have hl := lv_entry ([.ref a_this, .int x1, .int x2]) (n := 4) (Nat.le_of_ble_eq_true rfl)
  rw [lg_entry_eq]
  generalize (lg_sl ([.ref a_this, .int x1, .int x2]) ++ List.replicate (4 - (lg_sl ([.ref a_this, .int x1, .int x2])).length) Slot.unset).toArray = ls at hl ⊢
  have hl : lv_has ls 4 [(0, .ref a_this), (1, .int x1), (2, .int x2)] := hl
  unfold fX0_puts at hf
  have hj35 : ∀ (z35_0 : Int32) (H : Heap) (locs : List Loc) (ls : Array Slot), wd D (ty4 cI cL cS cH) s (va_A (wX0_puts cI cL cS cH a_this a_this_near a_this_beside q_nodes q_all q_edition q_beside) s.heap.size) s.heap H locs (wX0_puts cI cL cS cH a_this a_this_near a_this_beside q_nodes q_all q_edition q_beside) → lv_has ls 4 [(1, .int x1)] → jX0_puts_35 q_all q_beside x1 z35_0 = some res → gX0_puts p l e s m below meth c D cI cL cS cH a_this a_this_near a_this_beside q_nodes q_all q_edition q_beside x1 x2 res H locs (F0 m 35 ls [.int z35_0]) := by
    intro z35_0 H locs ls w hl hf
    unfold jX0_puts_35 at hf
    refine lv_istore_n (lv' := [(3, .int z35_0), (1, .int x1)]) C.1 C.2.1 dX0_puts_35 rfl hl (by decide) rfl (fun ls hl => ?_)
    refine lv_iload_n C.1 C.2.1 dX0_puts_36 rfl (lv_at hl 0 rfl) ?_
    refine lv_iload_n C.1 C.2.1 dX0_puts_37 rfl (lv_at hl 1 rfl) ?_
    refine lv_iconst (v := (-1 : Int32)) C.1 C.2.1 dX0_puts_38 (by decide) ?_
    refine lv_ixor C.1 C.2.1 dX0_puts_39 ?_
    refine lv_iand C.1 C.2.1 dX0_puts_40 ?_
    have hres := Option.some.inj hf
    subst hres
    exact ret_i C hr hlocks w rfl dX0_puts_41
  refine lv_iload_n C.1 C.2.1 dX0_puts_0 rfl (lv_at hl 2 rfl) ?_
  refine lv_if_ne (tgt := 13) C.1 C.2.1 dX0_puts_1 (by decide) (fun hq1 => ?_) (fun hq1 => ?_)
  · have hf := ite_f hf hq1
    refine lv_iload_n C.1 C.2.1 dX0_puts_13 rfl (lv_at hl 2 rfl) ?_
    refine lv_iconst (v := (1 : Int32)) C.1 C.2.1 dX0_puts_14 (by decide) ?_
    refine lv_icmp_ne (tgt := 22) C.1 C.2.1 dX0_puts_15 (by decide) (fun hq2 => ?_) (fun hq2 => ?_)
    · have hf := ite_f hf hq2
      refine lv_iconst (v := (1 : Int32)) C.1 C.2.1 dX0_puts_22 (by decide) ?_
      refine lv_aload_n C.1 C.2.1 dX0_puts_23 rfl (lv_at hl 0 rfl) ?_
      refine r_get C w inX0_puts_X0 0 rfl rfl 4 (by decide) lkX0_puts_25 rfl dX0_puts_24 ?_
      refine lv_iload_n C.1 C.2.1 dX0_puts_27 rfl (lv_at hl 1 rfl) ?_
      refine lv_aload_n C.1 C.2.1 dX0_puts_28 rfl (lv_at hl 0 rfl) ?_
      refine r_get C w inX0_puts_X0 0 rfl rfl 1 (by decide) lkX0_puts_15 rfl dX0_puts_29 ?_
      refine lv_iand C.1 C.2.1 dX0_puts_32 ?_
      obtain ⟨y3, hy4, hf⟩ := bd hf
      refine r_iald C w 1 0 rfl rfl (rd_in hy4) dX0_puts_33 ?_
      refine lv_ior C.1 C.2.1 dX0_puts_34 ?_
      exact hj35 ((1 : Int32) ||| y3) _ _ _ w (lv_sub hl [1] rfl) hf
    · have hf := ite_t hf hq2
      refine lv_iconst (v := (1 : Int32)) C.1 C.2.1 dX0_puts_18 (by decide) ?_
      refine lv_goto (tgt := 35) C.1 C.2.1 dX0_puts_19 (by decide) ?_
      exact hj35 (1 : Int32) _ _ _ w (lv_sub hl [1] rfl) hf
  · have hf := ite_t hf hq1
    refine lv_aload_n C.1 C.2.1 dX0_puts_4 rfl (lv_at hl 0 rfl) ?_
    refine r_get C w inX0_puts_X0 0 rfl rfl 1 (by decide) lkX0_puts_15 rfl dX0_puts_5 ?_
    refine lv_iload_n C.1 C.2.1 dX0_puts_8 rfl (lv_at hl 1 rfl) ?_
    refine lv_iconst (v := (-1 : Int32)) C.1 C.2.1 dX0_puts_9 (by decide) ?_
    refine lv_ixor C.1 C.2.1 dX0_puts_10 ?_
    refine lv_iand C.1 C.2.1 dX0_puts_11 ?_
    have hres := Option.some.inj hf
    subst hres
    exact ret_i C hr hlocks w rfl dX0_puts_12

abbrev wX0_isFull (cI cL cS cH : ClassId) : va_W := []
def fX0_isFull  (x0 : Int32) (x1 : Int32) : Option (Int32) := Option.bind (fJ6_bitCount_0f7a4 x0) (fun r1 => (if r1 < x1 then some (0 : Int32) else some (1 : Int32)))
set_option maxHeartbeats 4000000 in
set_option maxRecDepth 100000 in
theorem mX0_isFull (l : Launch) (D : vg) (cI cL cS cH : ClassId) (sz : Nat) (x0 : Int32) (x1 : Int32) {res : Int32} (hf : fX0_isFull x0 x1 = some res) : cti l yX0_isFull wsX0_isFull ({ frames := 1, cells := 0, slots := 0, locals := 20 }) D (ty4 cI cL cS cH) sz [.int x0, .int x1] (wX0_isFull cI cL cS cH ) (wX0_isFull cI cL cS cH ) res := by
  refine Met.ofW (cc := cX0_isFull) (maxL := 2) (ret := (some .boolean)) (by decide) rfl ?_
  intro p e s m args below meth c s₁ B hml hv
  obtain ⟨rfl, hpre⟩ := hv
  obtain rfl := hpre.1
  have C : CallFix p m c cX0_isFull 2 s _ wsX0_isFull RX0 := ⟨B.exec, B.bytes, hml, findClass_of_methodNamed B.named, atoms_spec (ws := wsX0_isFull) B.pre⟩
  have hr := B.returns
  have hlocks := B.notSynchronized
  have w := wd_start hpre
  clear hpre B
  have hl := lv_entry ([.int x0, .int x1]) (n := 2) (Nat.le_of_ble_eq_true rfl)
  rw [lg_entry_eq]
  generalize (lg_sl ([.int x0, .int x1]) ++ List.replicate (2 - (lg_sl ([.int x0, .int x1])).length) Slot.unset).toArray = ls at hl ⊢
  have hl : lv_has ls 2 [(0, .int x0), (1, .int x1)] := hl
  unfold fX0_isFull at hf
  refine lv_iload_n C.1 C.2.1 dX0_isFull_0 rfl (lv_at hl 0 rfl) ?_
  obtain ⟨r1, hc2, hf⟩ := bd hf
  refine call_Si (ws' := (wX0_isFull cI cL cS cH )) (rest := []) C w (mJ6_bitCount_0f7a4 l D cI cL cS cH _ x0 hc2) (va_cwS 1 C.2.2.2.2 gX0_isFull_J6_bitCount_0f7a4 rfl rfl rfl (by decide +kernel) ⟨Nat.le_of_ble_eq_true rfl, Nat.le_of_ble_eq_true rfl⟩) [] [] 0 trivial trivial trivial rfl (by decide) (by decide) rfl hl.1 rfl (lv_room (Nat.le_of_ble_eq_true rfl)) dX0_isFull_1 ⟨Nat.zero_le _, Nat.zero_le _⟩ (fun H locs w => ?_)
  refine lv_iload_n C.1 C.2.1 dX0_isFull_4 rfl (lv_at hl 1 rfl) ?_
  refine lv_icmp_lt (tgt := 12) C.1 C.2.1 dX0_isFull_5 (by decide) (fun hq3 => ?_) (fun hq3 => ?_)
  · have hf := ite_t hf hq3
    refine lv_iconst (v := (0 : Int32)) C.1 C.2.1 dX0_isFull_12 (by decide) ?_
    have hres := Option.some.inj hf
    subst hres
    exact ret_z C hr hlocks w (by decide) rfl dX0_isFull_13
  · have hf := ite_f hf hq3
    refine lv_iconst (v := (1 : Int32)) C.1 C.2.1 dX0_isFull_8 (by decide) ?_
    refine lv_goto (tgt := 13) C.1 C.2.1 dX0_isFull_9 (by decide) ?_
    have hres := Option.some.inj hf
    subst hres
    exact ret_z C hr hlocks w (by decide) rfl dX0_isFull_13

abbrev wX0_takes (cI cL cS cH : ClassId) : va_W := []
def fX0_takes  (x0 : Int32) (x1 : Int32) : Option (Int32) := (if x1 = (1 : Int32) then some (x0 &&& (1 : Int32)) else some x0)
set_option maxHeartbeats 4000000 in
set_option maxRecDepth 100000 in
theorem mX0_takes (l : Launch) (D : vg) (cI cL cS cH : ClassId) (sz : Nat) (x0 : Int32) (x1 : Int32) {res : Int32} (hf : fX0_takes x0 x1 = some res) : cti l yX0_takes wsX0_takes ({ frames := 0, cells := 0, slots := 0, locals := 0 }) D (ty4 cI cL cS cH) sz [.int x0, .int x1] (wX0_takes cI cL cS cH ) (wX0_takes cI cL cS cH ) res := by
  refine Met.ofW (cc := cX0_takes) (maxL := 2) (ret := (some .int)) (by decide) rfl ?_
  intro p e s m args below meth c s₁ B hml hv
  obtain ⟨rfl, hpre⟩ := hv
  obtain rfl := hpre.1
  have C : CallFix p m c cX0_takes 2 s _ wsX0_takes RX0 := ⟨B.exec, B.bytes, hml, findClass_of_methodNamed B.named, atoms_spec (ws := wsX0_takes) B.pre⟩
  have hr := B.returns
  have hlocks := B.notSynchronized
  have w := wd_start hpre
  clear hpre B
  have hl := lv_entry ([.int x0, .int x1]) (n := 2) (Nat.le_of_ble_eq_true rfl)
  rw [lg_entry_eq]
  generalize (lg_sl ([.int x0, .int x1]) ++ List.replicate (2 - (lg_sl ([.int x0, .int x1])).length) Slot.unset).toArray = ls at hl ⊢
  have hl : lv_has ls 2 [(0, .int x0), (1, .int x1)] := hl
  unfold fX0_takes at hf
  refine lv_iload_n C.1 C.2.1 dX0_takes_0 rfl (lv_at hl 1 rfl) ?_
  refine lv_iconst (v := (1 : Int32)) C.1 C.2.1 dX0_takes_1 (by decide) ?_
  refine lv_icmp_ne (tgt := 11) C.1 C.2.1 dX0_takes_2 (by decide) (fun hq1 => ?_) (fun hq1 => ?_)
  · have hf := ite_f hf hq1
    refine lv_iload_n C.1 C.2.1 dX0_takes_11 rfl (lv_at hl 0 rfl) ?_
    have hres := Option.some.inj hf
    subst hres
    exact ret_i C hr hlocks w rfl dX0_takes_12
  · have hf := ite_t hf hq1
    refine lv_iload_n C.1 C.2.1 dX0_takes_5 rfl (lv_at hl 0 rfl) ?_
    refine lv_iconst (v := (1 : Int32)) C.1 C.2.1 dX0_takes_6 (by decide) ?_
    refine lv_iand C.1 C.2.1 dX0_takes_7 ?_
    refine lv_goto (tgt := 12) C.1 C.2.1 dX0_takes_8 (by decide) ?_
    have hres := Option.some.inj hf
    subst hres
    exact ret_i C hr hlocks w rfl dX0_takes_12

set_option maxRecDepth 100000 in
theorem inX0_moves_X0 : ∀ w ∈ u_ws RX0 TX0 5, w ∈ wsX0_moves := by decide +kernel
set_option maxRecDepth 100000 in
theorem lkX0_moves_21 : Cond.fieldLink RX0 21 "CleanNets$Net" "near" "[I" ∈ wsX0_moves := by decide +kernel
set_option maxRecDepth 100000 in
theorem lkX0_moves_9 : Cond.fieldLink RX0 9 "CleanNets$Net" "nodes" "I" ∈ wsX0_moves := by decide +kernel
abbrev wX0_moves (cI cL cS cH : ClassId) (a_this : Nat) (a_this_near : Nat) (a_this_beside : Nat) (q_nodes : Int32) (q_all : Int32) (q_edition : Int32) (q_near : Nat → Int32) : va_W := [(a_this, .inr (0, [.int q_nodes, .int q_all, .int q_edition, .ref a_this_near, .ref a_this_beside])),
  (a_this_near, .inl (cI, 7, .inl q_near))]
def jX0_moves_25 (q_nodes : Int32) (q_near : Nat → Int32) (x1 : Int32) (x2 : Int32) (x3 : Int32) (z25_0 : Int32) : Option (Int32) := (if x3 = (1 : Int32) then (if z25_0 = 0 then some (0 : Int32) else Option.bind (rd q_near 7 x1) (fun y3 => some (y3 &&& (x2 ^^^ (-1 : Int32))))) else some (0 : Int32))
def jX0_moves_24 (q_nodes : Int32) (q_near : Nat → Int32) (x1 : Int32) (x2 : Int32) (x3 : Int32) : Option (Int32) := jX0_moves_25 q_nodes q_near x1 x2 x3 (0 : Int32)
def fX0_moves (q_nodes : Int32) (q_near : Nat → Int32) (x1 : Int32) (x2 : Int32) (x3 : Int32) : Option (Int32) := (if x1 < 0 then jX0_moves_24 q_nodes q_near x1 x2 x3 else (if q_nodes ≤ x1 then jX0_moves_24 q_nodes q_near x1 x2 x3 else Option.bind (fX7_has x2 x1) (fun r7 => (if r7 = 0 then jX0_moves_24 q_nodes q_near x1 x2 x3 else jX0_moves_25 q_nodes q_near x1 x2 x3 (1 : Int32)))))
abbrev gX0_moves (p : Program) (l : Launch) (e : Env) (s : State) (m : MethodId) (below : List Frame) (meth : Method) (c : Code) (D : vg) (cI cL cS cH : ClassId) (a_this : Nat) (a_this_near : Nat) (a_this_beside : Nat) (q_nodes : Int32) (q_all : Int32) (q_edition : Int32) (q_near : Nat → Int32) (x1 : Int32) (x2 : Int32) (x3 : Int32) (res : Int32) (H : Heap) (locs : List Loc) (g : JFrame) : Prop := W p l e (headSpec wsX0_moves ({ frames := 1, cells := 0, slots := 0, locals := 21 })).room s m ([.ref a_this, .int x1, .int x2, .int x3] : List Value).toArray below meth c H locs 0 0 (MQ below (va_Qi (fun r' (_ : Unit) => r' = res) (fun _ t => pos1 D s.heap.size (wX0_moves cI cL cS cH a_this a_this_near a_this_beside q_nodes q_all q_edition q_near) (wX0_moves cI cL cS cH a_this a_this_near a_this_beside q_nodes q_all q_edition q_near) t) (va_A (wX0_moves cI cL cS cH a_this a_this_near a_this_beside q_nodes q_all q_edition q_near) s.heap.size)) ([.ref a_this, .int x1, .int x2, .int x3] : List Value).toArray s 0 0 (va_A (wX0_moves cI cL cS cH a_this a_this_near a_this_beside q_nodes q_all q_edition q_near) s.heap.size)) g
set_option maxHeartbeats 4000000 in
set_option maxRecDepth 100000 in
theorem mX0_moves (l : Launch) (D : vg) (cI cL cS cH : ClassId) (sz : Nat) (a_this : Nat) (a_this_near : Nat) (a_this_beside : Nat) (q_nodes : Int32) (q_all : Int32) (q_edition : Int32) (q_near : Nat → Int32) (x1 : Int32) (x2 : Int32) (x3 : Int32) {res : Int32} (hf : fX0_moves q_nodes q_near x1 x2 x3 = some res) : cti l yX0_moves wsX0_moves ({ frames := 1, cells := 0, slots := 0, locals := 21 }) D (ty4 cI cL cS cH) sz [.ref a_this, .int x1, .int x2, .int x3] (wX0_moves cI cL cS cH a_this a_this_near a_this_beside q_nodes q_all q_edition q_near) (wX0_moves cI cL cS cH a_this a_this_near a_this_beside q_nodes q_all q_edition q_near) res := by
  refine Met.ofW (cc := cX0_moves) (maxL := 5) (ret := (some .int)) (by decide) rfl ?_
  intro p e s m args below meth c s₁ B hml hv
  obtain ⟨rfl, hpre⟩ := hv
  obtain rfl := hpre.1
  have C : CallFix p m c cX0_moves 5 s _ wsX0_moves RX0 := ⟨B.exec, B.bytes, hml, findClass_of_methodNamed B.named, atoms_spec (ws := wsX0_moves) B.pre⟩
  have hr := B.returns
  have hlocks := B.notSynchronized
  have w := wd_start hpre
  clear hpre B
  have hl := lv_entry ([.ref a_this, .int x1, .int x2, .int x3]) (n := 5) (Nat.le_of_ble_eq_true rfl)
  rw [lg_entry_eq]
  generalize (lg_sl ([.ref a_this, .int x1, .int x2, .int x3]) ++ List.replicate (5 - (lg_sl ([.ref a_this, .int x1, .int x2, .int x3])).length) Slot.unset).toArray = ls at hl ⊢
  have hl : lv_has ls 5 [(0, .ref a_this), (1, .int x1), (2, .int x2), (3, .int x3)] := hl
  unfold fX0_moves at hf
  have hj25 : ∀ (z25_0 : Int32) (H : Heap) (locs : List Loc) (ls : Array Slot), wd D (ty4 cI cL cS cH) s (va_A (wX0_moves cI cL cS cH a_this a_this_near a_this_beside q_nodes q_all q_edition q_near) s.heap.size) s.heap H locs (wX0_moves cI cL cS cH a_this a_this_near a_this_beside q_nodes q_all q_edition q_near) → lv_has ls 5 [(0, .ref a_this), (1, .int x1), (2, .int x2), (3, .int x3)] → jX0_moves_25 q_nodes q_near x1 x2 x3 z25_0 = some res → gX0_moves p l e s m below meth c D cI cL cS cH a_this a_this_near a_this_beside q_nodes q_all q_edition q_near x1 x2 x3 res H locs (F0 m 25 ls [.int z25_0]) := by
    intro z25_0 H locs ls w hl hf
    unfold jX0_moves_25 at hf
    refine lv_istore (lv' := [(4, .int z25_0), (0, .ref a_this), (1, .int x1), (2, .int x2), (3, .int x3)]) C.1 C.2.1 dX0_moves_25 hl (by decide) rfl (fun ls hl => ?_)
    refine lv_iload_n C.1 C.2.1 dX0_moves_27 rfl (lv_at hl 4 rfl) ?_
    refine lv_iconst (v := (1 : Int32)) C.1 C.2.1 dX0_moves_28 (by decide) ?_
    refine lv_icmp_ne (tgt := 50) C.1 C.2.1 dX0_moves_29 (by decide) (fun hq1 => ?_) (fun hq1 => ?_)
    · have hf := ite_f hf hq1
      refine lv_iconst (v := (0 : Int32)) C.1 C.2.1 dX0_moves_50 (by decide) ?_
      have hres := Option.some.inj hf
      subst hres
      exact ret_i C hr hlocks w rfl dX0_moves_51
    · have hf := ite_t hf hq1
      refine lv_iload C.1 C.2.1 dX0_moves_32 (lv_at hl 0 rfl) ?_
      refine lv_if_eq (tgt := 50) C.1 C.2.1 dX0_moves_34 (by decide) (fun hq2 => ?_) (fun hq2 => ?_)
      · have hf := ite_t hf hq2
        refine lv_iconst (v := (0 : Int32)) C.1 C.2.1 dX0_moves_50 (by decide) ?_
        have hres := Option.some.inj hf
        subst hres
        exact ret_i C hr hlocks w rfl dX0_moves_51
      · have hf := ite_f hf hq2
        refine lv_aload_n C.1 C.2.1 dX0_moves_37 rfl (lv_at hl 1 rfl) ?_
        refine r_get C w inX0_moves_X0 0 rfl rfl 3 (by decide) lkX0_moves_21 rfl dX0_moves_38 ?_
        refine lv_iload_n C.1 C.2.1 dX0_moves_41 rfl (lv_at hl 2 rfl) ?_
        obtain ⟨y3, hy4, hf⟩ := bd hf
        refine r_iald C w 1 0 rfl rfl (rd_in hy4) dX0_moves_42 ?_
        refine lv_iload_n C.1 C.2.1 dX0_moves_43 rfl (lv_at hl 3 rfl) ?_
        refine lv_iconst (v := (-1 : Int32)) C.1 C.2.1 dX0_moves_44 (by decide) ?_
        refine lv_ixor C.1 C.2.1 dX0_moves_45 ?_
        refine lv_iand C.1 C.2.1 dX0_moves_46 ?_
        refine lv_goto (tgt := 51) C.1 C.2.1 dX0_moves_47 (by decide) ?_
        have hres := Option.some.inj hf
        subst hres
        exact ret_i C hr hlocks w rfl dX0_moves_51
  have hj24 : ∀  (H : Heap) (locs : List Loc) (ls : Array Slot), wd D (ty4 cI cL cS cH) s (va_A (wX0_moves cI cL cS cH a_this a_this_near a_this_beside q_nodes q_all q_edition q_near) s.heap.size) s.heap H locs (wX0_moves cI cL cS cH a_this a_this_near a_this_beside q_nodes q_all q_edition q_near) → lv_has ls 5 [(0, .ref a_this), (1, .int x1), (2, .int x2), (3, .int x3)] → jX0_moves_24 q_nodes q_near x1 x2 x3 = some res → gX0_moves p l e s m below meth c D cI cL cS cH a_this a_this_near a_this_beside q_nodes q_all q_edition q_near x1 x2 x3 res H locs (F0 m 24 ls []) := by
    intro  H locs ls w hl hf
    unfold jX0_moves_24 at hf
    refine lv_iconst (v := (0 : Int32)) C.1 C.2.1 dX0_moves_24 (by decide) ?_
    exact hj25 (0 : Int32) _ _ _ w (lv_sub hl [0, 1, 2, 3] rfl) hf
  refine lv_iload_n C.1 C.2.1 dX0_moves_0 rfl (lv_at hl 1 rfl) ?_
  refine lv_if_lt (tgt := 24) C.1 C.2.1 dX0_moves_1 (by decide) (fun hq5 => ?_) (fun hq5 => ?_)
  · have hf := ite_t hf hq5
    exact hj24  _ _ _ w (lv_sub hl [0, 1, 2, 3] rfl) hf
  · have hf := ite_f hf hq5
    refine lv_iload_n C.1 C.2.1 dX0_moves_4 rfl (lv_at hl 1 rfl) ?_
    refine lv_aload_n C.1 C.2.1 dX0_moves_5 rfl (lv_at hl 0 rfl) ?_
    refine r_get C w inX0_moves_X0 0 rfl rfl 0 (by decide) lkX0_moves_9 rfl dX0_moves_6 ?_
    refine lv_icmp_ge (tgt := 24) C.1 C.2.1 dX0_moves_9 (by decide) (fun hq6 => ?_) (fun hq6 => ?_)
    · have hf := ite_t hf hq6
      exact hj24  _ _ _ w (lv_sub hl [0, 1, 2, 3] rfl) hf
    · have hf := ite_f hf hq6
      refine lv_iload_n C.1 C.2.1 dX0_moves_12 rfl (lv_at hl 2 rfl) ?_
      refine lv_iload_n C.1 C.2.1 dX0_moves_13 rfl (lv_at hl 1 rfl) ?_
      obtain ⟨r7, hc8, hf⟩ := bd hf
      refine call_Ni (ws' := (wX0_moves cI cL cS cH a_this a_this_near a_this_beside q_nodes q_all q_edition q_near)) (rest := []) C w (mX7_has l D cI cL cS cH _ x2 x1 hc8) ⟨va_cnB 2 C.2.2.2.2 gX0_moves_X7_has_n47 rfl rfl rfl (w.1.2.1 (RX0, 47, yX7_has) (by decide +kernel)) (C.2.2.2.2 (.initialized RX7) (by decide +kernel)) (by decide +kernel) ⟨Nat.le_of_ble_eq_true rfl, Nat.le_of_ble_eq_true rfl⟩, C.2.2.2.2 (.static yX7_has) (by decide +kernel), trivial⟩ [] [0, 1] 2 trivial trivial ⟨⟨_, rfl, rfl⟩, ⟨_, rfl, rfl⟩, trivial⟩ rfl (by decide) (by decide) rfl hl.1 rfl (lv_room (Nat.le_of_ble_eq_true rfl)) dX0_moves_14 ⟨Nat.zero_le _, Nat.zero_le _⟩ (fun H locs w => ?_)
      refine lv_if_eq (tgt := 24) C.1 C.2.1 dX0_moves_17 (by decide) (fun hq9 => ?_) (fun hq9 => ?_)
      · have hf := ite_t hf hq9
        exact hj24  _ _ _ w (lv_sub hl [0, 1, 2, 3] rfl) hf
      · have hf := ite_f hf hq9
        refine lv_iconst (v := (1 : Int32)) C.1 C.2.1 dX0_moves_20 (by decide) ?_
        refine lv_goto (tgt := 25) C.1 C.2.1 dX0_moves_21 (by decide) ?_
        exact hj25 (1 : Int32) _ _ _ w (lv_sub hl [0, 1, 2, 3] rfl) hf

abbrev wX0_ruling (cI cL cS cH : ClassId) (a_this : Nat) (a_this_near : Nat) (a_this_beside : Nat) (q_nodes : Int32) (q_all : Int32) (q_edition : Int32) (q_beside : Nat → Int32) (q_near : Nat → Int32) : va_W := [(a_this, .inr (0, [.int q_nodes, .int q_all, .int q_edition, .ref a_this_near, .ref a_this_beside])),
  (a_this_beside, .inl (cI, 128, .inl q_beside)),
  (a_this_near, .inl (cI, 7, .inl q_near))]
def fX0_ruling (q_nodes : Int32) (q_all : Int32) (q_beside : Nat → Int32) (q_near : Nat → Int32) (x1 : Int32) (x2 : Int32) (x3 : Int32) (x4 : Int32) : Option (Int32) := (if (10 : Int32) ≤ x1 then (if (100 : Int32) ≤ x1 then Option.bind (fX0_moves q_nodes q_near ((x1 - (100 : Int32)) / (10 : Int32)) x2 x3) (fun r3 => Option.bind (fX7_has r3 (x1 - x1 / (10 : Int32) * (10 : Int32))) (fun r5 => (if r5 = 0 then some (-2 : Int32) else some (0 : Int32)))) else Option.bind (fX0_takes x2 x3) (fun r8 => Option.bind (fX7_has r8 (x1 - (10 : Int32))) (fun r10 => (if r10 = 0 then some (-2 : Int32) else some (0 : Int32))))) else Option.bind (fX0_puts q_all q_beside x2 x3) (fun r13 => Option.bind (fX7_has r13 x1) (fun r15 => (if r15 = 0 then some (-2 : Int32) else Option.bind (fX0_isFull x2 x4) (fun r18 => (if r18 = 0 then some (0 : Int32) else some (-3 : Int32)))))))
set_option maxHeartbeats 4000000 in
set_option maxRecDepth 100000 in
theorem mX0_ruling (l : Launch) (D : vg) (cI cL cS cH : ClassId) (sz : Nat) (a_this : Nat) (a_this_near : Nat) (a_this_beside : Nat) (q_nodes : Int32) (q_all : Int32) (q_edition : Int32) (q_beside : Nat → Int32) (q_near : Nat → Int32) (x1 : Int32) (x2 : Int32) (x3 : Int32) (x4 : Int32) {res : Int32} (hf : fX0_ruling q_nodes q_all q_beside q_near x1 x2 x3 x4 = some res) : cti l yX0_ruling wsX0_ruling ({ frames := 2, cells := 0, slots := 0, locals := 45 }) D (ty4 cI cL cS cH) sz [.ref a_this, .int x1, .int x2, .int x3, .int x4] (wX0_ruling cI cL cS cH a_this a_this_near a_this_beside q_nodes q_all q_edition q_beside q_near) (wX0_ruling cI cL cS cH a_this a_this_near a_this_beside q_nodes q_all q_edition q_beside q_near) res := by
  refine Met.ofW (cc := cX0_ruling) (maxL := 5) (ret := (some .int)) (by decide) rfl ?_
  intro p e s m args below meth c s₁ B hml hv
  obtain ⟨rfl, hpre⟩ := hv
  obtain rfl := hpre.1
  have C : CallFix p m c cX0_ruling 5 s _ wsX0_ruling RX0 := ⟨B.exec, B.bytes, hml, findClass_of_methodNamed B.named, atoms_spec (ws := wsX0_ruling) B.pre⟩
  have hr := B.returns
  have hlocks := B.notSynchronized
  have w := wd_start hpre
  clear hpre B
  have hl := lv_entry ([.ref a_this, .int x1, .int x2, .int x3, .int x4]) (n := 5) (Nat.le_of_ble_eq_true rfl)
  rw [lg_entry_eq]
  generalize (lg_sl ([.ref a_this, .int x1, .int x2, .int x3, .int x4]) ++ List.replicate (5 - (lg_sl ([.ref a_this, .int x1, .int x2, .int x3, .int x4])).length) Slot.unset).toArray = ls at hl ⊢
  have hl : lv_has ls 5 [(0, .ref a_this), (1, .int x1), (2, .int x2), (3, .int x3), (4, .int x4)] := hl
  unfold fX0_ruling at hf
  refine lv_iload_n C.1 C.2.1 dX0_ruling_0 rfl (lv_at hl 1 rfl) ?_
  refine lv_bipush (v := (10 : Int32)) C.1 C.2.1 dX0_ruling_1 (by decide) ?_
  refine lv_icmp_ge (tgt := 38) C.1 C.2.1 dX0_ruling_3 (by decide) (fun hq1 => ?_) (fun hq1 => ?_)
  · have hf := ite_t hf hq1
    refine lv_iload_n C.1 C.2.1 dX0_ruling_38 rfl (lv_at hl 1 rfl) ?_
    refine lv_bipush (v := (100 : Int32)) C.1 C.2.1 dX0_ruling_39 (by decide) ?_
    refine lv_icmp_ge (tgt := 66) C.1 C.2.1 dX0_ruling_41 (by decide) (fun hq2 => ?_) (fun hq2 => ?_)
    · have hf := ite_t hf hq2
      refine lv_aload_n C.1 C.2.1 dX0_ruling_66 rfl (lv_at hl 0 rfl) ?_
      refine lv_iload_n C.1 C.2.1 dX0_ruling_67 rfl (lv_at hl 1 rfl) ?_
      refine lv_bipush (v := (100 : Int32)) C.1 C.2.1 dX0_ruling_68 (by decide) ?_
      refine lv_isub C.1 C.2.1 dX0_ruling_70 ?_
      refine lv_bipush (v := (10 : Int32)) C.1 C.2.1 dX0_ruling_71 (by decide) ?_
      refine lv_idiv C.1 C.2.1 dX0_ruling_73 (by decide) ?_
      refine lv_iload_n C.1 C.2.1 dX0_ruling_74 rfl (lv_at hl 2 rfl) ?_
      refine lv_iload_n C.1 C.2.1 dX0_ruling_75 rfl (lv_at hl 3 rfl) ?_
      obtain ⟨r3, hc4, hf⟩ := bd hf
      refine call_Vi (ws' := (wX0_ruling cI cL cS cH a_this a_this_near a_this_beside q_nodes q_all q_edition q_beside q_near)) (rest := []) C w (mX0_moves l D cI cL cS cH _ a_this a_this_near a_this_beside q_nodes q_all q_edition q_near ((x1 - (100 : Int32)) / (10 : Int32)) x2 x3 hc4) (cwV 3 C.2.2.2.2 gX0_ruling_X0_moves rfl rfl rfl (by decide +kernel) ⟨Nat.le_of_ble_eq_true rfl, Nat.le_of_ble_eq_true rfl⟩) [0, 2] [1] 3 ⟨rfl, rfl, trivial⟩ ⟨rfl, rfl, trivial⟩ ⟨⟨_, rfl, rfl⟩, trivial⟩ rfl (by decide) (by decide) (ci := 0) (q0 := 0) rfl rfl rfl hl.1 rfl (lv_room (Nat.le_of_ble_eq_true rfl)) dX0_ruling_76 ⟨Nat.zero_le _, Nat.zero_le _⟩ (fun H locs w => ?_)
      refine lv_iload_n C.1 C.2.1 dX0_ruling_79 rfl (lv_at hl 1 rfl) ?_
      refine lv_bipush (v := (10 : Int32)) C.1 C.2.1 dX0_ruling_80 (by decide) ?_
      refine lv_irem C.1 C.2.1 dX0_ruling_82 (by decide) ?_
      obtain ⟨r5, hc6, hf⟩ := bd hf
      refine call_Ni (ws' := (wX0_ruling cI cL cS cH a_this a_this_near a_this_beside q_nodes q_all q_edition q_beside q_near)) (rest := []) C w (mX7_has l D cI cL cS cH _ r3 (x1 - x1 / (10 : Int32) * (10 : Int32)) hc6) ⟨va_cnB 2 C.2.2.2.2 gX0_ruling_X7_has_n47 rfl rfl rfl (w.1.2.1 (RX0, 47, yX7_has) (by decide +kernel)) (C.2.2.2.2 (.initialized RX7) (by decide +kernel)) (by decide +kernel) ⟨Nat.le_of_ble_eq_true rfl, Nat.le_of_ble_eq_true rfl⟩, C.2.2.2.2 (.static yX7_has) (by decide +kernel), trivial⟩ [] [0, 1, 2] 3 trivial trivial ⟨⟨_, rfl, rfl⟩, ⟨_, rfl, rfl⟩, ⟨_, rfl, rfl⟩, trivial⟩ rfl (by decide) (by decide) rfl hl.1 rfl (lv_room (Nat.le_of_ble_eq_true rfl)) dX0_ruling_83 ⟨Nat.zero_le _, Nat.zero_le _⟩ (fun H locs w => ?_)
      refine lv_if_eq (tgt := 93) C.1 C.2.1 dX0_ruling_86 (by decide) (fun hq7 => ?_) (fun hq7 => ?_)
      · have hf := ite_t hf hq7
        refine lv_bipush (v := (-2 : Int32)) C.1 C.2.1 dX0_ruling_93 (by decide) ?_
        have hres := Option.some.inj hf
        subst hres
        exact ret_i C hr hlocks w rfl dX0_ruling_95
      · have hf := ite_f hf hq7
        refine lv_iconst (v := (0 : Int32)) C.1 C.2.1 dX0_ruling_89 (by decide) ?_
        refine lv_goto (tgt := 95) C.1 C.2.1 dX0_ruling_90 (by decide) ?_
        have hres := Option.some.inj hf
        subst hres
        exact ret_i C hr hlocks w rfl dX0_ruling_95
    · have hf := ite_f hf hq2
      refine lv_iload_n C.1 C.2.1 dX0_ruling_44 rfl (lv_at hl 2 rfl) ?_
      refine lv_iload_n C.1 C.2.1 dX0_ruling_45 rfl (lv_at hl 3 rfl) ?_
      obtain ⟨r8, hc9, hf⟩ := bd hf
      refine call_Si (ws' := (wX0_ruling cI cL cS cH a_this a_this_near a_this_beside q_nodes q_all q_edition q_beside q_near)) (rest := []) C w (mX0_takes l D cI cL cS cH _ x2 x3 hc9) (va_cwS 2 C.2.2.2.2 gX0_ruling_X0_takes rfl rfl rfl (by decide +kernel) ⟨Nat.le_of_ble_eq_true rfl, Nat.le_of_ble_eq_true rfl⟩) [] [0, 1, 2] 3 trivial trivial ⟨⟨_, rfl, rfl⟩, ⟨_, rfl, rfl⟩, ⟨_, rfl, rfl⟩, trivial⟩ rfl (by decide) (by decide) rfl hl.1 rfl (lv_room (Nat.le_of_ble_eq_true rfl)) dX0_ruling_46 ⟨Nat.zero_le _, Nat.zero_le _⟩ (fun H locs w => ?_)
      refine lv_iload_n C.1 C.2.1 dX0_ruling_49 rfl (lv_at hl 1 rfl) ?_
      refine lv_bipush (v := (10 : Int32)) C.1 C.2.1 dX0_ruling_50 (by decide) ?_
      refine lv_isub C.1 C.2.1 dX0_ruling_52 ?_
      obtain ⟨r10, hc11, hf⟩ := bd hf
      refine call_Ni (ws' := (wX0_ruling cI cL cS cH a_this a_this_near a_this_beside q_nodes q_all q_edition q_beside q_near)) (rest := []) C w (mX7_has l D cI cL cS cH _ r8 (x1 - (10 : Int32)) hc11) ⟨va_cnB 2 C.2.2.2.2 gX0_ruling_X7_has_n47 rfl rfl rfl (w.1.2.1 (RX0, 47, yX7_has) (by decide +kernel)) (C.2.2.2.2 (.initialized RX7) (by decide +kernel)) (by decide +kernel) ⟨Nat.le_of_ble_eq_true rfl, Nat.le_of_ble_eq_true rfl⟩, C.2.2.2.2 (.static yX7_has) (by decide +kernel), trivial⟩ [] [0, 1, 2] 3 trivial trivial ⟨⟨_, rfl, rfl⟩, ⟨_, rfl, rfl⟩, ⟨_, rfl, rfl⟩, trivial⟩ rfl (by decide) (by decide) rfl hl.1 rfl (lv_room (Nat.le_of_ble_eq_true rfl)) dX0_ruling_53 ⟨Nat.zero_le _, Nat.zero_le _⟩ (fun H locs w => ?_)
      refine lv_if_eq (tgt := 63) C.1 C.2.1 dX0_ruling_56 (by decide) (fun hq12 => ?_) (fun hq12 => ?_)
      · have hf := ite_t hf hq12
        refine lv_bipush (v := (-2 : Int32)) C.1 C.2.1 dX0_ruling_63 (by decide) ?_
        have hres := Option.some.inj hf
        subst hres
        exact ret_i C hr hlocks w rfl dX0_ruling_65
      · have hf := ite_f hf hq12
        refine lv_iconst (v := (0 : Int32)) C.1 C.2.1 dX0_ruling_59 (by decide) ?_
        refine lv_goto (tgt := 65) C.1 C.2.1 dX0_ruling_60 (by decide) ?_
        have hres := Option.some.inj hf
        subst hres
        exact ret_i C hr hlocks w rfl dX0_ruling_65
  · have hf := ite_f hf hq1
    refine lv_aload_n C.1 C.2.1 dX0_ruling_6 rfl (lv_at hl 0 rfl) ?_
    refine lv_iload_n C.1 C.2.1 dX0_ruling_7 rfl (lv_at hl 2 rfl) ?_
    refine lv_iload_n C.1 C.2.1 dX0_ruling_8 rfl (lv_at hl 3 rfl) ?_
    obtain ⟨r13, hc14, hf⟩ := bd hf
    refine call_Vi (ws' := (wX0_ruling cI cL cS cH a_this a_this_near a_this_beside q_nodes q_all q_edition q_beside q_near)) (rest := []) C w (mX0_puts l D cI cL cS cH _ a_this a_this_near a_this_beside q_nodes q_all q_edition q_beside x2 x3 hc14) (cwV 2 C.2.2.2.2 gX0_ruling_X0_puts rfl rfl rfl (by decide +kernel) ⟨Nat.le_of_ble_eq_true rfl, Nat.le_of_ble_eq_true rfl⟩) [0, 1] [2] 3 ⟨rfl, rfl, trivial⟩ ⟨rfl, rfl, trivial⟩ ⟨⟨_, rfl, rfl⟩, trivial⟩ rfl (by decide) (by decide) (ci := 0) (q0 := 0) rfl rfl rfl hl.1 rfl (lv_room (Nat.le_of_ble_eq_true rfl)) dX0_ruling_9 ⟨Nat.zero_le _, Nat.zero_le _⟩ (fun H locs w => ?_)
    refine lv_iload_n C.1 C.2.1 dX0_ruling_12 rfl (lv_at hl 1 rfl) ?_
    obtain ⟨r15, hc16, hf⟩ := bd hf
    refine call_Ni (ws' := (wX0_ruling cI cL cS cH a_this a_this_near a_this_beside q_nodes q_all q_edition q_beside q_near)) (rest := []) C w (mX7_has l D cI cL cS cH _ r13 x1 hc16) ⟨va_cnB 2 C.2.2.2.2 gX0_ruling_X7_has_n47 rfl rfl rfl (w.1.2.1 (RX0, 47, yX7_has) (by decide +kernel)) (C.2.2.2.2 (.initialized RX7) (by decide +kernel)) (by decide +kernel) ⟨Nat.le_of_ble_eq_true rfl, Nat.le_of_ble_eq_true rfl⟩, C.2.2.2.2 (.static yX7_has) (by decide +kernel), trivial⟩ [] [0, 1, 2] 3 trivial trivial ⟨⟨_, rfl, rfl⟩, ⟨_, rfl, rfl⟩, ⟨_, rfl, rfl⟩, trivial⟩ rfl (by decide) (by decide) rfl hl.1 rfl (lv_room (Nat.le_of_ble_eq_true rfl)) dX0_ruling_13 ⟨Nat.zero_le _, Nat.zero_le _⟩ (fun H locs w => ?_)
    refine lv_if_ne (tgt := 22) C.1 C.2.1 dX0_ruling_16 (by decide) (fun hq17 => ?_) (fun hq17 => ?_)
    · have hf := ite_f hf hq17
      refine lv_iload_n C.1 C.2.1 dX0_ruling_22 rfl (lv_at hl 2 rfl) ?_
      refine lv_iload C.1 C.2.1 dX0_ruling_23 (lv_at hl 4 rfl) ?_
      obtain ⟨r18, hc19, hf⟩ := bd hf
      refine call_Si (ws' := (wX0_ruling cI cL cS cH a_this a_this_near a_this_beside q_nodes q_all q_edition q_beside q_near)) (rest := []) C w (mX0_isFull l D cI cL cS cH _ x2 x4 hc19) (va_cwS 2 C.2.2.2.2 gX0_ruling_X0_isFull rfl rfl rfl (by decide +kernel) ⟨Nat.le_of_ble_eq_true rfl, Nat.le_of_ble_eq_true rfl⟩) [] [0, 1, 2] 3 trivial trivial ⟨⟨_, rfl, rfl⟩, ⟨_, rfl, rfl⟩, ⟨_, rfl, rfl⟩, trivial⟩ rfl (by decide) (by decide) rfl hl.1 rfl (lv_room (Nat.le_of_ble_eq_true rfl)) dX0_ruling_25 ⟨Nat.zero_le _, Nat.zero_le _⟩ (fun H locs w => ?_)
      refine lv_if_eq (tgt := 36) C.1 C.2.1 dX0_ruling_28 (by decide) (fun hq20 => ?_) (fun hq20 => ?_)
      · have hf := ite_t hf hq20
        refine lv_iconst (v := (0 : Int32)) C.1 C.2.1 dX0_ruling_36 (by decide) ?_
        have hres := Option.some.inj hf
        subst hres
        exact ret_i C hr hlocks w rfl dX0_ruling_37
      · have hf := ite_f hf hq20
        refine lv_bipush (v := (-3 : Int32)) C.1 C.2.1 dX0_ruling_31 (by decide) ?_
        refine lv_goto (tgt := 37) C.1 C.2.1 dX0_ruling_33 (by decide) ?_
        have hres := Option.some.inj hf
        subst hres
        exact ret_i C hr hlocks w rfl dX0_ruling_37
    · have hf := ite_t hf hq17
      refine lv_bipush (v := (-2 : Int32)) C.1 C.2.1 dX0_ruling_19 (by decide) ?_
      have hres := Option.some.inj hf
      subst hres
      exact ret_i C hr hlocks w rfl dX0_ruling_21

abbrev wX0_guardsAfter (cI cL cS cH : ClassId) : va_W := []
def fX0_guardsAfter  (x0 : Int32) (x1 : Int32) : Option (Int32) := (if (10 : Int32) ≤ x0 then (if (100 : Int32) ≤ x0 then some ((x1 &&& (((1 : Int32) <<< (((x0 - (100 : Int32)) / (10 : Int32)) &&& 31)) ^^^ (-1 : Int32))) ||| ((1 : Int32) <<< ((x0 - x0 / (10 : Int32) * (10 : Int32)) &&& 31))) else some (x1 &&& (((1 : Int32) <<< ((x0 - (10 : Int32)) &&& 31)) ^^^ (-1 : Int32)))) else some (x1 ||| ((1 : Int32) <<< (x0 &&& 31))))
set_option maxHeartbeats 4000000 in
set_option maxRecDepth 100000 in
theorem mX0_guardsAfter (l : Launch) (D : vg) (cI cL cS cH : ClassId) (sz : Nat) (x0 : Int32) (x1 : Int32) {res : Int32} (hf : fX0_guardsAfter x0 x1 = some res) : cti l yX0_guardsAfter wsX0_guardsAfter ({ frames := 0, cells := 0, slots := 0, locals := 0 }) D (ty4 cI cL cS cH) sz [.int x0, .int x1] (wX0_guardsAfter cI cL cS cH ) (wX0_guardsAfter cI cL cS cH ) res := by
  refine Met.ofW (cc := cX0_guardsAfter) (maxL := 2) (ret := (some .int)) (by decide) rfl ?_
  intro p e s m args below meth c s₁ B hml hv
  obtain ⟨rfl, hpre⟩ := hv
  obtain rfl := hpre.1
  have C : CallFix p m c cX0_guardsAfter 2 s _ wsX0_guardsAfter RX0 := ⟨B.exec, B.bytes, hml, findClass_of_methodNamed B.named, atoms_spec (ws := wsX0_guardsAfter) B.pre⟩
  have hr := B.returns
  have hlocks := B.notSynchronized
  have w := wd_start hpre
  clear hpre B
  have hl := lv_entry ([.int x0, .int x1]) (n := 2) (Nat.le_of_ble_eq_true rfl)
  rw [lg_entry_eq]
  generalize (lg_sl ([.int x0, .int x1]) ++ List.replicate (2 - (lg_sl ([.int x0, .int x1])).length) Slot.unset).toArray = ls at hl ⊢
  have hl : lv_has ls 2 [(0, .int x0), (1, .int x1)] := hl
  unfold fX0_guardsAfter at hf
  refine lv_iload_n C.1 C.2.1 dX0_guardsAfter_0 rfl (lv_at hl 0 rfl) ?_
  refine lv_bipush (v := (10 : Int32)) C.1 C.2.1 dX0_guardsAfter_1 (by decide) ?_
  refine lv_icmp_ge (tgt := 12) C.1 C.2.1 dX0_guardsAfter_3 (by decide) (fun hq1 => ?_) (fun hq1 => ?_)
  · have hf := ite_t hf hq1
    refine lv_iload_n C.1 C.2.1 dX0_guardsAfter_12 rfl (lv_at hl 0 rfl) ?_
    refine lv_bipush (v := (100 : Int32)) C.1 C.2.1 dX0_guardsAfter_13 (by decide) ?_
    refine lv_icmp_ge (tgt := 29) C.1 C.2.1 dX0_guardsAfter_15 (by decide) (fun hq2 => ?_) (fun hq2 => ?_)
    · have hf := ite_t hf hq2
      refine lv_iload_n C.1 C.2.1 dX0_guardsAfter_29 rfl (lv_at hl 1 rfl) ?_
      refine lv_iconst (v := (1 : Int32)) C.1 C.2.1 dX0_guardsAfter_30 (by decide) ?_
      refine lv_iload_n C.1 C.2.1 dX0_guardsAfter_31 rfl (lv_at hl 0 rfl) ?_
      refine lv_bipush (v := (100 : Int32)) C.1 C.2.1 dX0_guardsAfter_32 (by decide) ?_
      refine lv_isub C.1 C.2.1 dX0_guardsAfter_34 ?_
      refine lv_bipush (v := (10 : Int32)) C.1 C.2.1 dX0_guardsAfter_35 (by decide) ?_
      refine lv_idiv C.1 C.2.1 dX0_guardsAfter_37 (by decide) ?_
      refine lv_ishl C.1 C.2.1 dX0_guardsAfter_38 ?_
      refine lv_iconst (v := (-1 : Int32)) C.1 C.2.1 dX0_guardsAfter_39 (by decide) ?_
      refine lv_ixor C.1 C.2.1 dX0_guardsAfter_40 ?_
      refine lv_iand C.1 C.2.1 dX0_guardsAfter_41 ?_
      refine lv_iconst (v := (1 : Int32)) C.1 C.2.1 dX0_guardsAfter_42 (by decide) ?_
      refine lv_iload_n C.1 C.2.1 dX0_guardsAfter_43 rfl (lv_at hl 0 rfl) ?_
      refine lv_bipush (v := (10 : Int32)) C.1 C.2.1 dX0_guardsAfter_44 (by decide) ?_
      refine lv_irem C.1 C.2.1 dX0_guardsAfter_46 (by decide) ?_
      refine lv_ishl C.1 C.2.1 dX0_guardsAfter_47 ?_
      refine lv_ior C.1 C.2.1 dX0_guardsAfter_48 ?_
      have hres := Option.some.inj hf
      subst hres
      exact ret_i C hr hlocks w rfl dX0_guardsAfter_49
    · have hf := ite_f hf hq2
      refine lv_iload_n C.1 C.2.1 dX0_guardsAfter_18 rfl (lv_at hl 1 rfl) ?_
      refine lv_iconst (v := (1 : Int32)) C.1 C.2.1 dX0_guardsAfter_19 (by decide) ?_
      refine lv_iload_n C.1 C.2.1 dX0_guardsAfter_20 rfl (lv_at hl 0 rfl) ?_
      refine lv_bipush (v := (10 : Int32)) C.1 C.2.1 dX0_guardsAfter_21 (by decide) ?_
      refine lv_isub C.1 C.2.1 dX0_guardsAfter_23 ?_
      refine lv_ishl C.1 C.2.1 dX0_guardsAfter_24 ?_
      refine lv_iconst (v := (-1 : Int32)) C.1 C.2.1 dX0_guardsAfter_25 (by decide) ?_
      refine lv_ixor C.1 C.2.1 dX0_guardsAfter_26 ?_
      refine lv_iand C.1 C.2.1 dX0_guardsAfter_27 ?_
      have hres := Option.some.inj hf
      subst hres
      exact ret_i C hr hlocks w rfl dX0_guardsAfter_28
  · have hf := ite_f hf hq1
    refine lv_iload_n C.1 C.2.1 dX0_guardsAfter_6 rfl (lv_at hl 1 rfl) ?_
    refine lv_iconst (v := (1 : Int32)) C.1 C.2.1 dX0_guardsAfter_7 (by decide) ?_
    refine lv_iload_n C.1 C.2.1 dX0_guardsAfter_8 rfl (lv_at hl 0 rfl) ?_
    refine lv_ishl C.1 C.2.1 dX0_guardsAfter_9 ?_
    refine lv_ior C.1 C.2.1 dX0_guardsAfter_10 ?_
    have hres := Option.some.inj hf
    subst hres
    exact ret_i C hr hlocks w rfl dX0_guardsAfter_11
