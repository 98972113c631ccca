abbrev wJ6_bitCount_0f7a4 (cI cL cS cH : ClassId) : va_W := []
def fJ6_bitCount_0f7a4  (x0 : Int32) : Option (Int32) := bnd (x0 - (((x0).toUInt32 >>> (((1 : Int32)).toUInt32 &&& Int32.toUInt32 31)).toInt32 &&& (1431655765 : Int32))) (fun y1 => bnd ((y1 &&& (858993459 : Int32)) + (((y1).toUInt32 >>> (((2 : Int32)).toUInt32 &&& Int32.toUInt32 31)).toInt32 &&& (858993459 : Int32))) (fun y3 => bnd ((y3 + ((y3).toUInt32 >>> (((4 : Int32)).toUInt32 &&& Int32.toUInt32 31)).toInt32) &&& (252645135 : Int32)) (fun y5 => bnd (y5 + ((y5).toUInt32 >>> (((8 : Int32)).toUInt32 &&& Int32.toUInt32 31)).toInt32) (fun y7 => bnd (y7 + ((y7).toUInt32 >>> (((16 : Int32)).toUInt32 &&& Int32.toUInt32 31)).toInt32) (fun y9 => some (y9 &&& (63 : Int32)))))))
set_option maxHeartbeats 4000000 in
set_option maxRecDepth 100000 in
theorem mJ6_bitCount_0f7a4 (l : Launch) (D : vg) (cI cL cS cH : ClassId) (sz : Nat) (x0 : Int32) {res : Int32} (hf : fJ6_bitCount_0f7a4 x0 = some res) : cti l yJ6_bitCount_0f7a4 wsJ6_bitCount_0f7a4 ({ frames := 0, cells := 0, slots := 0, locals := 0 }) D (ty4 cI cL cS cH) sz [.int x0] (wJ6_bitCount_0f7a4 cI cL cS cH ) (wJ6_bitCount_0f7a4 cI cL cS cH ) res := by
  refine Met.ofW (cc := cJ6_bitCount_0f7a4) (maxL := 1) (ret := (some .int)) (by decide) rfl ?_
  intro p e s m args below meth c s₁ B hml hv
  obtain ⟨rfl, hpre⟩ := hv
  obtain rfl := hpre.1
  have C : CallFix p m c cJ6_bitCount_0f7a4 1 s _ wsJ6_bitCount_0f7a4 RJ6 := ⟨B.exec, B.bytes, hml, findClass_of_methodNamed B.named, atoms_spec (ws := wsJ6_bitCount_0f7a4) B.pre⟩
  have hr := B.returns
  have hlocks := B.notSynchronized
  have w := wd_start hpre
  clear hpre B
  have hl := lv_entry ([.int x0]) (n := 1) (Nat.le_of_ble_eq_true rfl)
  rw [lg_entry_eq]
  generalize (lg_sl ([.int x0]) ++ List.replicate (1 - (lg_sl ([.int x0])).length) Slot.unset).toArray = ls at hl ⊢
  have hl : lv_has ls 1 [(0, .int x0)] := hl
  unfold fJ6_bitCount_0f7a4 at hf
  refine lv_iload_n C.1 C.2.1 dJ6_bitCount_0f7a4_0 rfl (lv_at hl 0 rfl) ?_
  refine lv_iload_n C.1 C.2.1 dJ6_bitCount_0f7a4_1 rfl (lv_at hl 0 rfl) ?_
  refine lv_iconst (v := (1 : Int32)) C.1 C.2.1 dJ6_bitCount_0f7a4_2 (by decide) ?_
  refine lv_iushr C.1 C.2.1 dJ6_bitCount_0f7a4_3 rfl ?_
  refine lv_ldcw (v := (1431655765 : Int32)) C.1 C.2.1 C.2.2.2.1 (C.2.2.2.2 (.constant RJ6 265 (1431655765 : Int32)) (by decide +kernel)) dJ6_bitCount_0f7a4_4 ?_
  refine lv_iand C.1 C.2.1 dJ6_bitCount_0f7a4_7 ?_
  refine lv_isub C.1 C.2.1 dJ6_bitCount_0f7a4_8 ?_
  obtain ⟨y1, hy2, hf⟩ := bnd_e hf
  refine lt_topi hy2 ?_
  refine lv_istore_n (lv' := [(0, .int y1)]) C.1 C.2.1 dJ6_bitCount_0f7a4_9 rfl hl (by decide) rfl (fun ls hl => ?_)
  refine lv_iload_n C.1 C.2.1 dJ6_bitCount_0f7a4_10 rfl (lv_at hl 0 rfl) ?_
  refine lv_ldcw (v := (858993459 : Int32)) C.1 C.2.1 C.2.2.2.1 (C.2.2.2.2 (.constant RJ6 266 (858993459 : Int32)) (by decide +kernel)) dJ6_bitCount_0f7a4_11 ?_
  refine lv_iand C.1 C.2.1 dJ6_bitCount_0f7a4_14 ?_
  refine lv_iload_n C.1 C.2.1 dJ6_bitCount_0f7a4_15 rfl (lv_at hl 0 rfl) ?_
  refine lv_iconst (v := (2 : Int32)) C.1 C.2.1 dJ6_bitCount_0f7a4_16 (by decide) ?_
  refine lv_iushr C.1 C.2.1 dJ6_bitCount_0f7a4_17 rfl ?_
  refine lv_ldcw (v := (858993459 : Int32)) C.1 C.2.1 C.2.2.2.1 (C.2.2.2.2 (.constant RJ6 266 (858993459 : Int32)) (by decide +kernel)) dJ6_bitCount_0f7a4_18 ?_
  refine lv_iand C.1 C.2.1 dJ6_bitCount_0f7a4_21 ?_
  refine lv_iadd C.1 C.2.1 dJ6_bitCount_0f7a4_22 ?_
  obtain ⟨y3, hy4, hf⟩ := bnd_e hf
  refine lt_topi hy4 ?_
  refine lv_istore_n (lv' := [(0, .int y3)]) C.1 C.2.1 dJ6_bitCount_0f7a4_23 rfl hl (by decide) rfl (fun ls hl => ?_)
  refine lv_iload_n C.1 C.2.1 dJ6_bitCount_0f7a4_24 rfl (lv_at hl 0 rfl) ?_
  refine lv_iload_n C.1 C.2.1 dJ6_bitCount_0f7a4_25 rfl (lv_at hl 0 rfl) ?_
  refine lv_iconst (v := (4 : Int32)) C.1 C.2.1 dJ6_bitCount_0f7a4_26 (by decide) ?_
  refine lv_iushr C.1 C.2.1 dJ6_bitCount_0f7a4_27 rfl ?_
  refine lv_iadd C.1 C.2.1 dJ6_bitCount_0f7a4_28 ?_
  refine lv_ldcw (v := (252645135 : Int32)) C.1 C.2.1 C.2.2.2.1 (C.2.2.2.2 (.constant RJ6 267 (252645135 : Int32)) (by decide +kernel)) dJ6_bitCount_0f7a4_29 ?_
  refine lv_iand C.1 C.2.1 dJ6_bitCount_0f7a4_32 ?_
  obtain ⟨y5, hy6, hf⟩ := bnd_e hf
  refine lt_topi hy6 ?_
  refine lv_istore_n (lv' := [(0, .int y5)]) C.1 C.2.1 dJ6_bitCount_0f7a4_33 rfl hl (by decide) rfl (fun ls hl => ?_)
  refine lv_iload_n C.1 C.2.1 dJ6_bitCount_0f7a4_34 rfl (lv_at hl 0 rfl) ?_
  refine lv_iload_n C.1 C.2.1 dJ6_bitCount_0f7a4_35 rfl (lv_at hl 0 rfl) ?_
  refine lv_bipush (v := (8 : Int32)) C.1 C.2.1 dJ6_bitCount_0f7a4_36 (by decide) ?_
  refine lv_iushr C.1 C.2.1 dJ6_bitCount_0f7a4_38 rfl ?_
  refine lv_iadd C.1 C.2.1 dJ6_bitCount_0f7a4_39 ?_
  obtain ⟨y7, hy8, hf⟩ := bnd_e hf
  refine lt_topi hy8 ?_
  refine lv_istore_n (lv' := [(0, .int y7)]) C.1 C.2.1 dJ6_bitCount_0f7a4_40 rfl hl (by decide) rfl (fun ls hl => ?_)
  refine lv_iload_n C.1 C.2.1 dJ6_bitCount_0f7a4_41 rfl (lv_at hl 0 rfl) ?_
  refine lv_iload_n C.1 C.2.1 dJ6_bitCount_0f7a4_42 rfl (lv_at hl 0 rfl) ?_
  refine lv_bipush (v := (16 : Int32)) C.1 C.2.1 dJ6_bitCount_0f7a4_43 (by decide) ?_
  refine lv_iushr C.1 C.2.1 dJ6_bitCount_0f7a4_45 rfl ?_
  refine lv_iadd C.1 C.2.1 dJ6_bitCount_0f7a4_46 ?_
  obtain ⟨y9, hy10, hf⟩ := bnd_e hf
  refine lt_topi hy10 ?_
  refine lv_istore_n (lv' := [(0, .int y9)]) C.1 C.2.1 dJ6_bitCount_0f7a4_47 rfl hl (by decide) rfl (fun ls hl => ?_)
  refine lv_iload_n C.1 C.2.1 dJ6_bitCount_0f7a4_48 rfl (lv_at hl 0 rfl) ?_
  refine lv_bipush (v := (63 : Int32)) C.1 C.2.1 dJ6_bitCount_0f7a4_49 (by decide) ?_
  refine lv_iand C.1 C.2.1 dJ6_bitCount_0f7a4_51 ?_
  have hres := Option.some.inj hf
  subst hres
  exact ret_i C hr hlocks w rfl dJ6_bitCount_0f7a4_52

abbrev wX7_has (cI cL cS cH : ClassId) : va_W := []
def fX7_has  (x0 : Int32) (x1 : Int32) : Option (Int32) := (if ((x0 >>> (x1 &&& 31)) &&& (1 : Int32)) = 0 then some (0 : Int32) else some (1 : Int32))
set_option maxHeartbeats 4000000 in
set_option maxRecDepth 100000 in
theorem mX7_has (l : Launch) (D : vg) (cI cL cS cH : ClassId) (sz : Nat) (x0 : Int32) (x1 : Int32) {res : Int32} (hf : fX7_has x0 x1 = some res) : cti l yX7_has wsX7_has ({ frames := 0, cells := 0, slots := 0, locals := 0 }) D (ty4 cI cL cS cH) sz [.int x0, .int x1] (wX7_has cI cL cS cH ) (wX7_has cI cL cS cH ) res := by
  refine Met.ofW (cc := cX7_has) (maxL := 2) (ret := (some .boolean)) (by decide) rfl ?_
  intro p e s m args below meth c s₁ B hml hv
  obtain ⟨rfl, hpre⟩ := hv
  obtain rfl := hpre.1
  have C : CallFix p m c cX7_has 2 s _ wsX7_has RX7 := ⟨B.exec, B.bytes, hml, findClass_of_methodNamed B.named, atoms_spec (ws := wsX7_has) B.pre⟩
  have hr := B.returns
  have hlocks := B.notSynchronized
  have w := wd_start hpre
  clear hpre B
  have hl := lv_entry ([.int x0, .int x1]) (n := 2) (Nat.le_of_ble_eq_true rfl)
  rw [lg_entry_eq]
  generalize (lg_sl ([.int x0, .int x1]) ++ List.replicate (2 - (lg_sl ([.int x0, .int x1])).length) Slot.unset).toArray = ls at hl ⊢
  have hl : lv_has ls 2 [(0, .int x0), (1, .int x1)] := hl
  unfold fX7_has at hf
  refine lv_iload_n C.1 C.2.1 dX7_has_0 rfl (lv_at hl 0 rfl) ?_
  refine lv_iload_n C.1 C.2.1 dX7_has_1 rfl (lv_at hl 1 rfl) ?_
  refine lv_ishr C.1 C.2.1 dX7_has_2 ?_
  refine lv_iconst (v := (1 : Int32)) C.1 C.2.1 dX7_has_3 (by decide) ?_
  refine lv_iand C.1 C.2.1 dX7_has_4 ?_
  refine lv_if_eq (tgt := 12) C.1 C.2.1 dX7_has_5 (by decide) (fun hq1 => ?_) (fun hq1 => ?_)
  · have hf := ite_t hf hq1
    refine lv_iconst (v := (0 : Int32)) C.1 C.2.1 dX7_has_12 (by decide) ?_
    have hres := Option.some.inj hf
    subst hres
    exact ret_z C hr hlocks w (by decide) rfl dX7_has_13
  · have hf := ite_f hf hq1
    refine lv_iconst (v := (1 : Int32)) C.1 C.2.1 dX7_has_8 (by decide) ?_
    refine lv_goto (tgt := 13) C.1 C.2.1 dX7_has_9 (by decide) ?_
    have hres := Option.some.inj hf
    subst hres
    exact ret_z C hr hlocks w (by decide) rfl dX7_has_13

abbrev wX7_isKind (cI cL cS cH : ClassId) : va_W := []
def fX7_isKind  (x0 : Int32) : Option (Int32) := (if x0 < 0 then some (0 : Int32) else (if (3 : Int32) ≤ x0 then some (0 : Int32) else some (1 : Int32)))
set_option maxHeartbeats 4000000 in
set_option maxRecDepth 100000 in
theorem mX7_isKind (l : Launch) (D : vg) (cI cL cS cH : ClassId) (sz : Nat) (x0 : Int32) {res : Int32} (hf : fX7_isKind x0 = some res) : cti l yX7_isKind wsX7_isKind ({ frames := 0, cells := 0, slots := 0, locals := 0 }) D (ty4 cI cL cS cH) sz [.int x0] (wX7_isKind cI cL cS cH ) (wX7_isKind cI cL cS cH ) res := by
  refine Met.ofW (cc := cX7_isKind) (maxL := 1) (ret := (some .boolean)) (by decide) rfl ?_
  intro p e s m args below meth c s₁ B hml hv
  obtain ⟨rfl, hpre⟩ := hv
  obtain rfl := hpre.1
  have C : CallFix p m c cX7_isKind 1 s _ wsX7_isKind RX7 := ⟨B.exec, B.bytes, hml, findClass_of_methodNamed B.named, atoms_spec (ws := wsX7_isKind) B.pre⟩
  have hr := B.returns
  have hlocks := B.notSynchronized
  have w := wd_start hpre
  clear hpre B
  have hl := lv_entry ([.int x0]) (n := 1) (Nat.le_of_ble_eq_true rfl)
  rw [lg_entry_eq]
  generalize (lg_sl ([.int x0]) ++ List.replicate (1 - (lg_sl ([.int x0])).length) Slot.unset).toArray = ls at hl ⊢
  have hl : lv_has ls 1 [(0, .int x0)] := hl
  unfold fX7_isKind at hf
  refine lv_iload_n C.1 C.2.1 dX7_isKind_0 rfl (lv_at hl 0 rfl) ?_
  refine lv_if_lt (tgt := 13) C.1 C.2.1 dX7_isKind_1 (by decide) (fun hq1 => ?_) (fun hq1 => ?_)
  · have hf := ite_t hf hq1
    refine lv_iconst (v := (0 : Int32)) C.1 C.2.1 dX7_isKind_13 (by decide) ?_
    have hres := Option.some.inj hf
    subst hres
    exact ret_z C hr hlocks w (by decide) rfl dX7_isKind_14
  · have hf := ite_f hf hq1
    refine lv_iload_n C.1 C.2.1 dX7_isKind_4 rfl (lv_at hl 0 rfl) ?_
    refine lv_iconst (v := (3 : Int32)) C.1 C.2.1 dX7_isKind_5 (by decide) ?_
    refine lv_icmp_ge (tgt := 13) C.1 C.2.1 dX7_isKind_6 (by decide) (fun hq2 => ?_) (fun hq2 => ?_)
    · have hf := ite_t hf hq2
      refine lv_iconst (v := (0 : Int32)) C.1 C.2.1 dX7_isKind_13 (by decide) ?_
      have hres := Option.some.inj hf
      subst hres
      exact ret_z C hr hlocks w (by decide) rfl dX7_isKind_14
    · have hf := ite_f hf hq2
      refine lv_iconst (v := (1 : Int32)) C.1 C.2.1 dX7_isKind_9 (by decide) ?_
      refine lv_goto (tgt := 14) C.1 C.2.1 dX7_isKind_10 (by decide) ?_
      have hres := Option.some.inj hf
      subst hres
      exact ret_z C hr hlocks w (by decide) rfl dX7_isKind_14

abbrev wX7_isTeam (cI cL cS cH : ClassId) : va_W := []
def fX7_isTeam  (x0 : Int32) : Option (Int32) := (if x0 < (1 : Int32) then some (0 : Int32) else (if (7 : Int32) < x0 then some (0 : Int32) else some (1 : Int32)))
set_option maxHeartbeats 4000000 in
set_option maxRecDepth 100000 in
theorem mX7_isTeam (l : Launch) (D : vg) (cI cL cS cH : ClassId) (sz : Nat) (x0 : Int32) {res : Int32} (hf : fX7_isTeam x0 = some res) : cti l yX7_isTeam wsX7_isTeam ({ frames := 0, cells := 0, slots := 0, locals := 0 }) D (ty4 cI cL cS cH) sz [.int x0] (wX7_isTeam cI cL cS cH ) (wX7_isTeam cI cL cS cH ) res := by
  refine Met.ofW (cc := cX7_isTeam) (maxL := 1) (ret := (some .boolean)) (by decide) rfl ?_
  intro p e s m args below meth c s₁ B hml hv
  obtain ⟨rfl, hpre⟩ := hv
  obtain rfl := hpre.1
  have C : CallFix p m c cX7_isTeam 1 s _ wsX7_isTeam RX7 := ⟨B.exec, B.bytes, hml, findClass_of_methodNamed B.named, atoms_spec (ws := wsX7_isTeam) B.pre⟩
  have hr := B.returns
  have hlocks := B.notSynchronized
  have w := wd_start hpre
  clear hpre B
  have hl := lv_entry ([.int x0]) (n := 1) (Nat.le_of_ble_eq_true rfl)
  rw [lg_entry_eq]
  generalize (lg_sl ([.int x0]) ++ List.replicate (1 - (lg_sl ([.int x0])).length) Slot.unset).toArray = ls at hl ⊢
  have hl : lv_has ls 1 [(0, .int x0)] := hl
  unfold fX7_isTeam at hf
  refine lv_iload_n C.1 C.2.1 dX7_isTeam_0 rfl (lv_at hl 0 rfl) ?_
  refine lv_iconst (v := (1 : Int32)) C.1 C.2.1 dX7_isTeam_1 (by decide) ?_
  refine lv_icmp_lt (tgt := 15) C.1 C.2.1 dX7_isTeam_2 (by decide) (fun hq1 => ?_) (fun hq1 => ?_)
  · have hf := ite_t hf hq1
    refine lv_iconst (v := (0 : Int32)) C.1 C.2.1 dX7_isTeam_15 (by decide) ?_
    have hres := Option.some.inj hf
    subst hres
    exact ret_z C hr hlocks w (by decide) rfl dX7_isTeam_16
  · have hf := ite_f hf hq1
    refine lv_iload_n C.1 C.2.1 dX7_isTeam_5 rfl (lv_at hl 0 rfl) ?_
    refine lv_bipush (v := (7 : Int32)) C.1 C.2.1 dX7_isTeam_6 (by decide) ?_
    refine lv_icmp_gt (tgt := 15) C.1 C.2.1 dX7_isTeam_8 (by decide) (fun hq2 => ?_) (fun hq2 => ?_)
    · have hf := ite_t hf hq2
      refine lv_iconst (v := (0 : Int32)) C.1 C.2.1 dX7_isTeam_15 (by decide) ?_
      have hres := Option.some.inj hf
      subst hres
      exact ret_z C hr hlocks w (by decide) rfl dX7_isTeam_16
    · have hf := ite_f hf hq2
      refine lv_iconst (v := (1 : Int32)) C.1 C.2.1 dX7_isTeam_11 (by decide) ?_
      refine lv_goto (tgt := 16) C.1 C.2.1 dX7_isTeam_12 (by decide) ?_
      have hres := Option.some.inj hf
      subst hres
      exact ret_z C hr hlocks w (by decide) rfl dX7_isTeam_16

abbrev wX7_isOneOfTwo (cI cL cS cH : ClassId) : va_W := []
def jX7_isOneOfTwo_9   : Option (Int32) := some (1 : Int32)
def fX7_isOneOfTwo  (x0 : Int32) : Option (Int32) := (if x0 = 0 then jX7_isOneOfTwo_9  else (if x0 = (1 : Int32) then jX7_isOneOfTwo_9  else some (0 : Int32)))
abbrev gX7_isOneOfTwo (p : Program) (l : Launch) (e : Env) (s : State) (m : MethodId) (below : List Frame) (meth : Method) (c : Code) (D : vg) (cI cL cS cH : ClassId) (x0 : Int32) (res : Int32) (H : Heap) (locs : List Loc) (g : JFrame) : Prop := W p l e (headSpec wsX7_isOneOfTwo ({ frames := 0, cells := 0, slots := 0, locals := 0 })).room s m ([.int x0] : List Value).toArray below meth c H locs 0 0 (MQ below (va_Qi (fun r' (_ : Unit) => r' = res) (fun _ t => pos1 D s.heap.size (wX7_isOneOfTwo cI cL cS cH ) (wX7_isOneOfTwo cI cL cS cH ) t) (va_A (wX7_isOneOfTwo cI cL cS cH ) s.heap.size)) ([.int x0] : List Value).toArray s 0 0 (va_A (wX7_isOneOfTwo cI cL cS cH ) s.heap.size)) g
set_option maxHeartbeats 4000000 in
set_option maxRecDepth 100000 in
theorem mX7_isOneOfTwo (l : Launch) (D : vg) (cI cL cS cH : ClassId) (sz : Nat) (x0 : Int32) {res : Int32} (hf : fX7_isOneOfTwo x0 = some res) : cti l yX7_isOneOfTwo wsX7_isOneOfTwo ({ frames := 0, cells := 0, slots := 0, locals := 0 }) D (ty4 cI cL cS cH) sz [.int x0] (wX7_isOneOfTwo cI cL cS cH ) (wX7_isOneOfTwo cI cL cS cH ) res := by
  refine Met.ofW (cc := cX7_isOneOfTwo) (maxL := 1) (ret := (some .boolean)) (by decide) rfl ?_
  intro p e s m args below meth c s₁ B hml hv
  obtain ⟨rfl, hpre⟩ := hv
  obtain rfl := hpre.1
  have C : CallFix p m c cX7_isOneOfTwo 1 s _ wsX7_isOneOfTwo RX7 := ⟨B.exec, B.bytes, hml, findClass_of_methodNamed B.named, atoms_spec (ws := wsX7_isOneOfTwo) B.pre⟩
  have hr := B.returns
  have hlocks := B.notSynchronized
  have w := wd_start hpre
  clear hpre B
  have hl := lv_entry ([.int x0]) (n := 1) (Nat.le_of_ble_eq_true rfl)
  rw [lg_entry_eq]
  generalize (lg_sl ([.int x0]) ++ List.replicate (1 - (lg_sl ([.int x0])).length) Slot.unset).toArray = ls at hl ⊢
  have hl : lv_has ls 1 [(0, .int x0)] := hl
  unfold fX7_isOneOfTwo at hf
  have hj9 : ∀  (H : Heap) (locs : List Loc) (ls : Array Slot), wd D (ty4 cI cL cS cH) s (va_A (wX7_isOneOfTwo cI cL cS cH ) s.heap.size) s.heap H locs (wX7_isOneOfTwo cI cL cS cH ) → lv_has ls 1 [] → jX7_isOneOfTwo_9  = some res → gX7_isOneOfTwo p l e s m below meth c D cI cL cS cH x0 res H locs (F0 m 9 ls []) := by
    intro  H locs ls w hl hf
    unfold jX7_isOneOfTwo_9 at hf
    refine lv_iconst (v := (1 : Int32)) C.1 C.2.1 dX7_isOneOfTwo_9 (by decide) ?_
    refine lv_goto (tgt := 14) C.1 C.2.1 dX7_isOneOfTwo_10 (by decide) ?_
    have hres := Option.some.inj hf
    subst hres
    exact ret_z C hr hlocks w (by decide) rfl dX7_isOneOfTwo_14
  refine lv_iload_n C.1 C.2.1 dX7_isOneOfTwo_0 rfl (lv_at hl 0 rfl) ?_
  refine lv_if_eq (tgt := 9) C.1 C.2.1 dX7_isOneOfTwo_1 (by decide) (fun hq1 => ?_) (fun hq1 => ?_)
  · have hf := ite_t hf hq1
    exact hj9  _ _ _ w (lv_sub hl [] rfl) hf
  · have hf := ite_f hf hq1
    refine lv_iload_n C.1 C.2.1 dX7_isOneOfTwo_4 rfl (lv_at hl 0 rfl) ?_
    refine lv_iconst (v := (1 : Int32)) C.1 C.2.1 dX7_isOneOfTwo_5 (by decide) ?_
    refine lv_icmp_ne (tgt := 13) C.1 C.2.1 dX7_isOneOfTwo_6 (by decide) (fun hq2 => ?_) (fun hq2 => ?_)
    · have hf := ite_f hf hq2
      refine lv_iconst (v := (0 : Int32)) C.1 C.2.1 dX7_isOneOfTwo_13 (by decide) ?_
      have hres := Option.some.inj hf
      subst hres
      exact ret_z C hr hlocks w (by decide) rfl dX7_isOneOfTwo_14
    · have hf := ite_t hf hq2
      exact hj9  _ _ _ w (lv_sub hl [] rfl) hf

abbrev wX7_isSheet (cI cL cS cH : ClassId) : va_W := []
def fX7_isSheet  (x0 : Int32) : Option (Int32) := (if x0 < 0 then some (0 : Int32) else (if (4 : Int32) ≤ x0 then some (0 : Int32) else some (1 : Int32)))
set_option maxHeartbeats 4000000 in
set_option maxRecDepth 100000 in
theorem mX7_isSheet (l : Launch) (D : vg) (cI cL cS cH : ClassId) (sz : Nat) (x0 : Int32) {res : Int32} (hf : fX7_isSheet x0 = some res) : cti l yX7_isSheet wsX7_isSheet ({ frames := 0, cells := 0, slots := 0, locals := 0 }) D (ty4 cI cL cS cH) sz [.int x0] (wX7_isSheet cI cL cS cH ) (wX7_isSheet cI cL cS cH ) res := by
  refine Met.ofW (cc := cX7_isSheet) (maxL := 1) (ret := (some .boolean)) (by decide) rfl ?_
  intro p e s m args below meth c s₁ B hml hv
  obtain ⟨rfl, hpre⟩ := hv
  obtain rfl := hpre.1
  have C : CallFix p m c cX7_isSheet 1 s _ wsX7_isSheet RX7 := ⟨B.exec, B.bytes, hml, findClass_of_methodNamed B.named, atoms_spec (ws := wsX7_isSheet) B.pre⟩
  have hr := B.returns
  have hlocks := B.notSynchronized
  have w := wd_start hpre
  clear hpre B
  have hl := lv_entry ([.int x0]) (n := 1) (Nat.le_of_ble_eq_true rfl)
  rw [lg_entry_eq]
  generalize (lg_sl ([.int x0]) ++ List.replicate (1 - (lg_sl ([.int x0])).length) Slot.unset).toArray = ls at hl ⊢
  have hl : lv_has ls 1 [(0, .int x0)] := hl
  unfold fX7_isSheet at hf
  refine lv_iload_n C.1 C.2.1 dX7_isSheet_0 rfl (lv_at hl 0 rfl) ?_
  refine lv_if_lt (tgt := 13) C.1 C.2.1 dX7_isSheet_1 (by decide) (fun hq1 => ?_) (fun hq1 => ?_)
  · have hf := ite_t hf hq1
    refine lv_iconst (v := (0 : Int32)) C.1 C.2.1 dX7_isSheet_13 (by decide) ?_
    have hres := Option.some.inj hf
    subst hres
    exact ret_z C hr hlocks w (by decide) rfl dX7_isSheet_14
  · have hf := ite_f hf hq1
    refine lv_iload_n C.1 C.2.1 dX7_isSheet_4 rfl (lv_at hl 0 rfl) ?_
    refine lv_iconst (v := (4 : Int32)) C.1 C.2.1 dX7_isSheet_5 (by decide) ?_
    refine lv_icmp_ge (tgt := 13) C.1 C.2.1 dX7_isSheet_6 (by decide) (fun hq2 => ?_) (fun hq2 => ?_)
    · have hf := ite_t hf hq2
      refine lv_iconst (v := (0 : Int32)) C.1 C.2.1 dX7_isSheet_13 (by decide) ?_
      have hres := Option.some.inj hf
      subst hres
      exact ret_z C hr hlocks w (by decide) rfl dX7_isSheet_14
    · have hf := ite_f hf hq2
      refine lv_iconst (v := (1 : Int32)) C.1 C.2.1 dX7_isSheet_9 (by decide) ?_
      refine lv_goto (tgt := 14) C.1 C.2.1 dX7_isSheet_10 (by decide) ?_
      have hres := Option.some.inj hf
      subst hres
      exact ret_z C hr hlocks w (by decide) rfl dX7_isSheet_14

abbrev wX7_isLane (cI cL cS cH : ClassId) : va_W := []
def fX7_isLane  (x0 : Int32) : Option (Int32) := (if x0 < 0 then some (0 : Int32) else (if (4 : Int32) ≤ x0 then some (0 : Int32) else some (1 : Int32)))
set_option maxHeartbeats 4000000 in
set_option maxRecDepth 100000 in
theorem mX7_isLane (l : Launch) (D : vg) (cI cL cS cH : ClassId) (sz : Nat) (x0 : Int32) {res : Int32} (hf : fX7_isLane x0 = some res) : cti l yX7_isLane wsX7_isLane ({ frames := 0, cells := 0, slots := 0, locals := 0 }) D (ty4 cI cL cS cH) sz [.int x0] (wX7_isLane cI cL cS cH ) (wX7_isLane cI cL cS cH ) res := by
  refine Met.ofW (cc := cX7_isLane) (maxL := 1) (ret := (some .boolean)) (by decide) rfl ?_
  intro p e s m args below meth c s₁ B hml hv
  obtain ⟨rfl, hpre⟩ := hv
  obtain rfl := hpre.1
  have C : CallFix p m c cX7_isLane 1 s _ wsX7_isLane RX7 := ⟨B.exec, B.bytes, hml, findClass_of_methodNamed B.named, atoms_spec (ws := wsX7_isLane) B.pre⟩
  have hr := B.returns
  have hlocks := B.notSynchronized
  have w := wd_start hpre
  clear hpre B
  have hl := lv_entry ([.int x0]) (n := 1) (Nat.le_of_ble_eq_true rfl)
  rw [lg_entry_eq]
  generalize (lg_sl ([.int x0]) ++ List.replicate (1 - (lg_sl ([.int x0])).length) Slot.unset).toArray = ls at hl ⊢
  have hl : lv_has ls 1 [(0, .int x0)] := hl
  unfold fX7_isLane at hf
  refine lv_iload_n C.1 C.2.1 dX7_isLane_0 rfl (lv_at hl 0 rfl) ?_
  refine lv_if_lt (tgt := 13) C.1 C.2.1 dX7_isLane_1 (by decide) (fun hq1 => ?_) (fun hq1 => ?_)
  · have hf := ite_t hf hq1
    refine lv_iconst (v := (0 : Int32)) C.1 C.2.1 dX7_isLane_13 (by decide) ?_
    have hres := Option.some.inj hf
    subst hres
    exact ret_z C hr hlocks w (by decide) rfl dX7_isLane_14
  · have hf := ite_f hf hq1
    refine lv_iload_n C.1 C.2.1 dX7_isLane_4 rfl (lv_at hl 0 rfl) ?_
    refine lv_iconst (v := (4 : Int32)) C.1 C.2.1 dX7_isLane_5 (by decide) ?_
    refine lv_icmp_ge (tgt := 13) C.1 C.2.1 dX7_isLane_6 (by decide) (fun hq2 => ?_) (fun hq2 => ?_)
    · have hf := ite_t hf hq2
      refine lv_iconst (v := (0 : Int32)) C.1 C.2.1 dX7_isLane_13 (by decide) ?_
      have hres := Option.some.inj hf
      subst hres
      exact ret_z C hr hlocks w (by decide) rfl dX7_isLane_14
    · have hf := ite_f hf hq2
      refine lv_iconst (v := (1 : Int32)) C.1 C.2.1 dX7_isLane_9 (by decide) ?_
      refine lv_goto (tgt := 14) C.1 C.2.1 dX7_isLane_10 (by decide) ?_
      have hres := Option.some.inj hf
      subst hres
      exact ret_z C hr hlocks w (by decide) rfl dX7_isLane_14

abbrev wX7_power (cI cL cS cH : ClassId) : va_W := []
def bX7_power_4  (y4_0 : Int32) (y4_1 : Int32) (v4 : Int32 × Int32) : Option ((Int32 × Int32) ⊕ (Int32 × Int32)) := (if y4_1 ≤ v4.2 then some (.inr (v4.1, v4.2)) else some (.inl ((v4.1 * y4_0), (v4.2 + (1 : Int32)))))
def fX7_power  (x0 : Int32) (x1 : Int32) : Option (Int32) := Option.bind (itL (bX7_power_4 x0 x1) fu ((1 : Int32), (0 : Int32))) (fun ex2 => some ex2.1)
abbrev gX7_power (p : Program) (l : Launch) (e : Env) (s : State) (m : MethodId) (below : List Frame) (meth : Method) (c : Code) (D : vg) (cI cL cS cH : ClassId) (x0 : Int32) (x1 : Int32) (res : Int32) (H : Heap) (locs : List Loc) (g : JFrame) : Prop := W p l e (headSpec wsX7_power ({ frames := 0, cells := 0, slots := 0, locals := 0 })).room s m ([.int x0, .int x1] : List Value).toArray below meth c H locs 0 0 (MQ below (va_Qi (fun r' (_ : Unit) => r' = res) (fun _ t => pos1 D s.heap.size (wX7_power cI cL cS cH ) (wX7_power cI cL cS cH ) t) (va_A (wX7_power cI cL cS cH ) s.heap.size)) ([.int x0, .int x1] : List Value).toArray s 0 0 (va_A (wX7_power cI cL cS cH ) s.heap.size)) g
set_option maxHeartbeats 4000000 in
set_option maxRecDepth 100000 in
theorem mX7_power (l : Launch) (D : vg) (cI cL cS cH : ClassId) (sz : Nat) (x0 : Int32) (x1 : Int32) {res : Int32} (hf : fX7_power x0 x1 = some res) : cti l yX7_power wsX7_power ({ frames := 0, cells := 0, slots := 0, locals := 0 }) D (ty4 cI cL cS cH) sz [.int x0, .int x1] (wX7_power cI cL cS cH ) (wX7_power cI cL cS cH ) res := by
  refine Met.ofW (cc := cX7_power) (maxL := 4) (ret := (some .int)) (by decide) rfl ?_
  intro p e s m args below meth c s₁ B hml hv
  obtain ⟨rfl, hpre⟩ := hv
  obtain rfl := hpre.1
  have C : CallFix p m c cX7_power 4 s _ wsX7_power RX7 := ⟨B.exec, B.bytes, hml, findClass_of_methodNamed B.named, atoms_spec (ws := wsX7_power) B.pre⟩
  have hr := B.returns
  have hlocks := B.notSynchronized
  have w := wd_start hpre
  clear hpre B
  have hl := lv_entry ([.int x0, .int x1]) (n := 4) (Nat.le_of_ble_eq_true rfl)
  rw [lg_entry_eq]
  generalize (lg_sl ([.int x0, .int x1]) ++ List.replicate (4 - (lg_sl ([.int x0, .int x1])).length) Slot.unset).toArray = ls at hl ⊢
  have hl : lv_has ls 4 [(0, .int x0), (1, .int x1)] := hl
  unfold fX7_power at hf
  have hlp4 : ∀ (y4_0 : Int32) (y4_1 : Int32) (ex4 : Int32 × Int32) (hk : (∀ (H : Heap) (locs : List Loc) (ls : Array Slot), wd D (ty4 cI cL cS cH) s (va_A (wX7_power cI cL cS cH ) s.heap.size) s.heap H locs (wX7_power cI cL cS cH ) → lv_has ls 4 [(2, .int ex4.1)] → gX7_power p l e s m below meth c D cI cL cS cH x0 x1 res H locs (F0 m 19 ls []))) (n : Nat) (v4 : Int32 × Int32) (H : Heap) (locs : List Loc) (ls : Array Slot), itL (bX7_power_4 y4_0 y4_1) n v4 = some ex4 → wd D (ty4 cI cL cS cH) s (va_A (wX7_power cI cL cS cH ) s.heap.size) s.heap H locs (wX7_power cI cL cS cH ) → lv_has ls 4 [(0, .int y4_0), (1, .int y4_1), (2, .int v4.1), (3, .int v4.2)] → gX7_power p l e s m below meth c D cI cL cS cH x0 x1 res H locs (F0 m 4 ls []) := by
    intro y4_0 y4_1 ex4 hk n
    induction n with
    | zero => intro v4 H locs ls hi w hl; exact (itL_zero hi).elim
    | succ n ih =>
      intro v4 H locs ls hi w hl
      obtain ⟨o, hf, hn⟩ := itL_succ hi
      unfold bX7_power_4 at hf
      refine lv_iload_n C.1 C.2.1 dX7_power_4 rfl (lv_at hl 3 rfl) ?_
      refine lv_iload_n C.1 C.2.1 dX7_power_5 rfl (lv_at hl 1 rfl) ?_
      refine lv_icmp_ge (tgt := 19) C.1 C.2.1 dX7_power_6 (by decide) (fun hq1 => ?_) (fun hq1 => ?_)
      · have hf := ite_t hf hq1
        obtain rfl := Option.some.inj hf
        obtain rfl := hn
        exact hk _ _ _ w (lv_sub hl [2] rfl)
      · have hf := ite_f hf hq1
        refine lv_iload_n C.1 C.2.1 dX7_power_9 rfl (lv_at hl 2 rfl) ?_
        refine lv_iload_n C.1 C.2.1 dX7_power_10 rfl (lv_at hl 0 rfl) ?_
        refine lv_imul C.1 C.2.1 dX7_power_11 ?_
        refine lv_istore_n (lv' := [(2, .int (v4.1 * y4_0)), (0, .int y4_0), (1, .int y4_1), (3, .int v4.2)]) C.1 C.2.1 dX7_power_12 rfl hl (by decide) rfl (fun ls hl => ?_)
        refine lv_iinc (v := (v4.2 + (1 : Int32))) (lv' := [(3, .int (v4.2 + (1 : Int32))), (2, .int (v4.1 * y4_0)), (0, .int y4_0), (1, .int y4_1)]) C.1 C.2.1 dX7_power_13 hl (k := 3) rfl rfl (by decide) rfl (fun ls hl => ?_)
        refine lv_goto (tgt := 4) C.1 C.2.1 dX7_power_16 (by decide) ?_
        obtain rfl := Option.some.inj hf
        exact ih ((v4.1 * y4_0), (v4.2 + (1 : Int32))) _ _ _ hn w (lv_sub hl [2, 3, 1, 0] rfl)
  refine lv_iconst (v := (1 : Int32)) C.1 C.2.1 dX7_power_0 (by decide) ?_
  refine lv_istore_n (lv' := [(2, .int (1 : Int32)), (0, .int x0), (1, .int x1)]) C.1 C.2.1 dX7_power_1 rfl hl (by decide) rfl (fun ls hl => ?_)
  refine lv_iconst (v := (0 : Int32)) C.1 C.2.1 dX7_power_2 (by decide) ?_
  refine lv_istore_n (lv' := [(3, .int (0 : Int32)), (2, .int (1 : Int32)), (0, .int x0), (1, .int x1)]) C.1 C.2.1 dX7_power_3 rfl hl (by decide) rfl (fun ls hl => ?_)
  obtain ⟨ex2, hx3, hf⟩ := bd hf
  refine hlp4 x0 x1 ex2 ?_ fu ((1 : Int32), (0 : Int32)) _ _ _ hx3 w (lv_sub hl [2, 3, 1, 0] rfl)
  intro H locs ls w hl
  refine lv_iload_n C.1 C.2.1 dX7_power_19 rfl (lv_at hl 0 rfl) ?_
  have hres := Option.some.inj hf
  subst hres
  exact ret_i C hr hlocks w rfl dX7_power_20

abbrev wX7_commonDivisor (cI cL cS cH : ClassId) : va_W := []
def bX7_commonDivisor_7   (v7 : Int32 × Int32 × Int32) : Option ((Int32 × Int32 × Int32) ⊕ (Int32 × Int32 × Int32)) := (if (64 : Int32) ≤ v7.2.2 then some (.inr (v7.1, v7.2.1, v7.2.2)) else (if v7.2.1 = 0 then some (.inr (v7.1, v7.2.1, v7.2.2)) else Option.bind (rmd v7.1 v7.2.1) (fun y3 => some (.inl (v7.2.1, y3, (v7.2.2 + (1 : Int32)))))))
def fX7_commonDivisor  (x0 : Int32) (x1 : Int32) : Option (Int32) := Option.bind (itL (bX7_commonDivisor_7 ) fu (x0, x1, (0 : Int32))) (fun ex5 => some ex5.1)
abbrev gX7_commonDivisor (p : Program) (l : Launch) (e : Env) (s : State) (m : MethodId) (below : List Frame) (meth : Method) (c : Code) (D : vg) (cI cL cS cH : ClassId) (x0 : Int32) (x1 : Int32) (res : Int32) (H : Heap) (locs : List Loc) (g : JFrame) : Prop := W p l e (headSpec wsX7_commonDivisor ({ frames := 0, cells := 0, slots := 0, locals := 0 })).room s m ([.int x0, .int x1] : List Value).toArray below meth c H locs 0 0 (MQ below (va_Qi (fun r' (_ : Unit) => r' = res) (fun _ t => pos1 D s.heap.size (wX7_commonDivisor cI cL cS cH ) (wX7_commonDivisor cI cL cS cH ) t) (va_A (wX7_commonDivisor cI cL cS cH ) s.heap.size)) ([.int x0, .int x1] : List Value).toArray s 0 0 (va_A (wX7_commonDivisor cI cL cS cH ) s.heap.size)) g
set_option maxHeartbeats 4000000 in
set_option maxRecDepth 100000 in
theorem mX7_commonDivisor (l : Launch) (D : vg) (cI cL cS cH : ClassId) (sz : Nat) (x0 : Int32) (x1 : Int32) {res : Int32} (hf : fX7_commonDivisor x0 x1 = some res) : cti l yX7_commonDivisor wsX7_commonDivisor ({ frames := 0, cells := 0, slots := 0, locals := 0 }) D (ty4 cI cL cS cH) sz [.int x0, .int x1] (wX7_commonDivisor cI cL cS cH ) (wX7_commonDivisor cI cL cS cH ) res := by
  refine Met.ofW (cc := cX7_commonDivisor) (maxL := 6) (ret := (some .int)) (by decide) rfl ?_
  intro p e s m args below meth c s₁ B hml hv
  obtain ⟨rfl, hpre⟩ := hv
  obtain rfl := hpre.1
  have C : CallFix p m c cX7_commonDivisor 6 s _ wsX7_commonDivisor RX7 := ⟨B.exec, B.bytes, hml, findClass_of_methodNamed B.named, atoms_spec (ws := wsX7_commonDivisor) B.pre⟩
  have hr := B.returns
  have hlocks := B.notSynchronized
  have w := wd_start hpre
  clear hpre B
  have hl := lv_entry ([.int x0, .int x1]) (n := 6) (Nat.le_of_ble_eq_true rfl)
  rw [lg_entry_eq]
  generalize (lg_sl ([.int x0, .int x1]) ++ List.replicate (6 - (lg_sl ([.int x0, .int x1])).length) Slot.unset).toArray = ls at hl ⊢
  have hl : lv_has ls 6 [(0, .int x0), (1, .int x1)] := hl
  unfold fX7_commonDivisor at hf
  have hlp7 : ∀  (ex7 : Int32 × Int32 × Int32) (hk : (∀ (H : Heap) (locs : List Loc) (ls : Array Slot), wd D (ty4 cI cL cS cH) s (va_A (wX7_commonDivisor cI cL cS cH ) s.heap.size) s.heap H locs (wX7_commonDivisor cI cL cS cH ) → lv_has ls 6 [(2, .int ex7.1)] → gX7_commonDivisor p l e s m below meth c D cI cL cS cH x0 x1 res H locs (F0 m 34 ls []))) (n : Nat) (v7 : Int32 × Int32 × Int32) (H : Heap) (locs : List Loc) (ls : Array Slot), itL (bX7_commonDivisor_7 ) n v7 = some ex7 → wd D (ty4 cI cL cS cH) s (va_A (wX7_commonDivisor cI cL cS cH ) s.heap.size) s.heap H locs (wX7_commonDivisor cI cL cS cH ) → lv_has ls 6 [(2, .int v7.1), (3, .int v7.2.1), (4, .int v7.2.2)] → gX7_commonDivisor p l e s m below meth c D cI cL cS cH x0 x1 res H locs (F0 m 7 ls []) := by
    intro  ex7 hk n
    induction n with
    | zero => intro v7 H locs ls hi w hl; exact (itL_zero hi).elim
    | succ n ih =>
      intro v7 H locs ls hi w hl
      obtain ⟨o, hf, hn⟩ := itL_succ hi
      unfold bX7_commonDivisor_7 at hf
      refine lv_iload C.1 C.2.1 dX7_commonDivisor_7 (lv_at hl 2 rfl) ?_
      refine lv_bipush (v := (64 : Int32)) C.1 C.2.1 dX7_commonDivisor_9 (by decide) ?_
      refine lv_icmp_ge (tgt := 34) C.1 C.2.1 dX7_commonDivisor_11 (by decide) (fun hq1 => ?_) (fun hq1 => ?_)
      · have hf := ite_t hf hq1
        obtain rfl := Option.some.inj hf
        obtain rfl := hn
        exact hk _ _ _ w (lv_sub hl [0] rfl)
      · have hf := ite_f hf hq1
        refine lv_iload_n C.1 C.2.1 dX7_commonDivisor_14 rfl (lv_at hl 1 rfl) ?_
        refine lv_if_eq (tgt := 34) C.1 C.2.1 dX7_commonDivisor_15 (by decide) (fun hq2 => ?_) (fun hq2 => ?_)
        · have hf := ite_t hf hq2
          obtain rfl := Option.some.inj hf
          obtain rfl := hn
          exact hk _ _ _ w (lv_sub hl [0] rfl)
        · have hf := ite_f hf hq2
          refine lv_iload_n C.1 C.2.1 dX7_commonDivisor_18 rfl (lv_at hl 0 rfl) ?_
          refine lv_iload_n C.1 C.2.1 dX7_commonDivisor_19 rfl (lv_at hl 1 rfl) ?_
          obtain ⟨y3, hy4, hf⟩ := bd hf
          refine lv_irem C.1 C.2.1 dX7_commonDivisor_20 (rmd_in hy4).1 ?_
          refine lt_topi (rmd_in hy4).2 ?_
          refine lv_istore (lv' := [(5, .int y3), (2, .int v7.1), (3, .int v7.2.1), (4, .int v7.2.2)]) C.1 C.2.1 dX7_commonDivisor_21 hl (by decide) rfl (fun ls hl => ?_)
          refine lv_iload_n C.1 C.2.1 dX7_commonDivisor_23 rfl (lv_at hl 2 rfl) ?_
          refine lv_istore_n (lv' := [(2, .int v7.2.1), (5, .int y3), (3, .int v7.2.1), (4, .int v7.2.2)]) C.1 C.2.1 dX7_commonDivisor_24 rfl hl (by decide) rfl (fun ls hl => ?_)
          refine lv_iload C.1 C.2.1 dX7_commonDivisor_25 (lv_at hl 1 rfl) ?_
          refine lv_istore_n (lv' := [(3, .int y3), (2, .int v7.2.1), (5, .int y3), (4, .int v7.2.2)]) C.1 C.2.1 dX7_commonDivisor_27 rfl hl (by decide) rfl (fun ls hl => ?_)
          refine lv_iinc (v := (v7.2.2 + (1 : Int32))) (lv' := [(4, .int (v7.2.2 + (1 : Int32))), (3, .int y3), (2, .int v7.2.1), (5, .int y3)]) C.1 C.2.1 dX7_commonDivisor_28 hl (k := 3) rfl rfl (by decide) rfl (fun ls hl => ?_)
          refine lv_goto (tgt := 7) C.1 C.2.1 dX7_commonDivisor_31 (by decide) ?_
          obtain rfl := Option.some.inj hf
          exact ih (v7.2.1, y3, (v7.2.2 + (1 : Int32))) _ _ _ hn w (lv_sub hl [2, 1, 0] rfl)
  refine lv_iload_n C.1 C.2.1 dX7_commonDivisor_0 rfl (lv_at hl 0 rfl) ?_
  refine lv_istore_n (lv' := [(2, .int x0), (0, .int x0), (1, .int x1)]) C.1 C.2.1 dX7_commonDivisor_1 rfl hl (by decide) rfl (fun ls hl => ?_)
  refine lv_iload_n C.1 C.2.1 dX7_commonDivisor_2 rfl (lv_at hl 2 rfl) ?_
  refine lv_istore_n (lv' := [(3, .int x1), (2, .int x0), (0, .int x0), (1, .int x1)]) C.1 C.2.1 dX7_commonDivisor_3 rfl hl (by decide) rfl (fun ls hl => ?_)
  refine lv_iconst (v := (0 : Int32)) C.1 C.2.1 dX7_commonDivisor_4 (by decide) ?_
  refine lv_istore (lv' := [(4, .int (0 : Int32)), (3, .int x1), (2, .int x0), (0, .int x0), (1, .int x1)]) C.1 C.2.1 dX7_commonDivisor_5 hl (by decide) rfl (fun ls hl => ?_)
  obtain ⟨ex5, hx6, hf⟩ := bd hf
  refine hlp7  ex5 ?_ fu (x0, x1, (0 : Int32)) _ _ _ hx6 w (lv_sub hl [2, 1, 0] rfl)
  intro H locs ls w hl
  refine lv_iload_n C.1 C.2.1 dX7_commonDivisor_34 rfl (lv_at hl 0 rfl) ?_
  have hres := Option.some.inj hf
  subst hres
  exact ret_i C hr hlocks w rfl dX7_commonDivisor_35
