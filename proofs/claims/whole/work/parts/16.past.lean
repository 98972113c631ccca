/-! Past: the rows' order is held as addresses (R of the objects, and of their near rows); remembering turns it. -/
def rot6 {α : Type} (f : Nat → α) : Nat → α := fun k => if k = 5 then f 0 else f (k + 1)
def sel6 {β : Type} (i : Int32) (f : Nat → Option β) : Option β := if i = 0 then f 0 else if i = 1 then f 1 else if i = 2 then f 2 else if i = 3 then f 3 else if i = 4 then f 4 else if i = 5 then f 5 else none
theorem sel6_in {β : Type} {i : Int32} {f : Nat → Option β} {x : β} (h : sel6 i f = some x) : (i = 0 ∧ f 0 = some x) ∨ (i = 1 ∧ f 1 = some x) ∨ (i = 2 ∧ f 2 = some x) ∨ (i = 3 ∧ f 3 = some x) ∨ (i = 4 ∧ f 4 = some x) ∨ (i = 5 ∧ f 5 = some x) := by
  unfold sel6 at h
  split at h
  · exact Or.inl ⟨by assumption, h⟩
  · split at h
    · exact Or.inr (Or.inl ⟨by assumption, h⟩)
    · split at h
      · exact Or.inr (Or.inr (Or.inl ⟨by assumption, h⟩))
      · split at h
        · exact Or.inr (Or.inr (Or.inr (Or.inl ⟨by assumption, h⟩)))
        · split at h
          · exact Or.inr (Or.inr (Or.inr (Or.inr (Or.inl ⟨by assumption, h⟩))))
          · split at h
            · exact Or.inr (Or.inr (Or.inr (Or.inr (Or.inr ⟨by assumption, h⟩))))
            · cases h
section B3
variable {p : Program} {l : Launch} {e : Env} {R : Room} {s : State} {m : MethodId} {args : Array Value} {below : List Frame} {meth : Method} {c : Code} {H : Heap} {locs : List Loc} {cells slots : Nat} {Q : State → Prop}
variable {D : vg} {tys : List (ClassId × FieldType)} {A : Nat → Prop} {H0 : Heap} {ws ws' : va_W} {cc : ByteArray} {nL pc : Nat} {Ts : List Cond} {own : String} {ls : Array Slot} {rest : List Value}
theorem r_aast (C : CallFix p m c cc nL s args Ts own) (w : wd D tys s A H0 H locs ws) (q0 t0 qk ci : Nat) {a : Nat} {cA : ClassId} {r : vw_C} {n v : Nat} {vs : List Value} {f : Nat → Option Nat} (ha : ws[q0]? = some (a, .inl (cA, n, .inr (.inr (.inr (.inr f)))))) (ht : tys[t0]? = some (cA, .object r.1)) (hv : ws[qk]? = some (v, .inr (ci, vs))) (hc : vwCl[ci]? = some r) {i : Int32} (hin : vp_in i n) (hws : ws.set q0 (a, .inl (cA, n, .inr (.inr (.inr (.inr (va_up f i.toNatClampNeg (some v))))))) = ws') (hdg : decode cc pc = .ok (.aastore, 1))
    (kk : ∀ (H1 : Heap) (locs1 : List Loc), wd D tys s A H0 H1 locs1 ws' → W p l e R s m args below meth c H1 locs1 cells slots Q (F0 m (pc + 1) ls rest)) : W p l e R s m args below meth c H locs cells slots Q (F0 m pc ls (.ref v :: .int i :: .ref a :: rest)) := by
  subst hws
  exact va_astq C.1 C.2.1 w.1.1 w.2.1 w.2.2.1 w.2.2.2.1 q0 t0 qk ci ha ht hv hc hin hdg (fun H1 locs1 h1 h2 h3 => kk H1 locs1 ⟨w.1, h1, h2, h3, w.2.2.2.2⟩)
theorem arrV_congr {cA : ClassId} {n : Nat} {f g : Nat → Value} (h : ∀ k, k < n → f k = g k) : arrV cA n f = arrV cA n g := by
  unfold arrV
  rw [show (fun j : Fin n => f j.val) = (fun j : Fin n => g j.val) from funext (fun j => h j.val j.isLt)]
theorem wd_q (w : wd D tys s A H0 H locs ws) (q0 : Nat) {a n : Nat} {cA : ClassId} {f : Nat → Option Nat} (ha : ws[q0]? = some (a, .inl (cA, n, .inr (.inr (.inr (.inr f)))))) {g : Nat → Option Nat} (h : ∀ k, k < n → f k = g k) (hws : ws.set q0 (a, .inl (cA, n, .inr (.inr (.inr (.inr g))))) = ws') : wd D tys s A H0 H locs ws' := by
  have hlt : q0 < ws.length := (List.getElem?_eq_some_iff.mp ha).1
  have key : ∀ (k : Nat) (q : Nat × va_E), ws'[k]? = some q → (k = q0 ∧ q = (a, .inl (cA, n, .inr (.inr (.inr (.inr g)))))) ∨ (k ≠ q0 ∧ ws[k]? = some q) := by
    intro k q hk
    rw [← hws, List.getElem?_set] at hk
    split at hk
    · rename_i e
      exact Or.inl ⟨e.symm, (Option.some.inj hk).symm⟩
    · rename_i e
      exact Or.inr ⟨fun h => e h.symm, hk⟩
  refine ⟨w.1, fun k q hk => ?_, ⟨fun i j x y hx hy hxy => ?_, fun k q hk => ?_⟩, w.2.2.2⟩
  · rcases key k q hk with ⟨rfl, rfl⟩ | ⟨-, h2⟩
    · have h1 := w.2.1 _ _ ha
      show H[a]? = some (arrV cA n (fun j => va_rf (g j)))
      rw [← arrV_congr (f := fun j => va_rf (f j)) (fun k hk => by rw [h k hk])]
      exact h1
    · exact w.2.1 k q h2
  · rcases key i x hx with ⟨rfl, rfl⟩ | ⟨h1, h2⟩
    · rcases key j y hy with ⟨rfl, rfl⟩ | ⟨h3, h4⟩
      · rfl
      · exact w.2.2.1.1 _ _ _ _ ha h4 hxy
    · rcases key j y hy with ⟨rfl, rfl⟩ | ⟨h3, h4⟩
      · exact w.2.2.1.1 _ _ _ _ h2 ha hxy
      · exact w.2.2.1.1 _ _ _ _ h2 h4 hxy
  · rcases key k q hk with ⟨rfl, rfl⟩ | ⟨-, h2⟩
    · show A a
      exact w.2.2.1.2 _ _ ha
    · exact w.2.2.1.2 _ _ h2
theorem wd_perm (w : wd D tys s A H0 H locs ws) (is : List Nat) (hnd : is.Nodup) (hs : sameAt ws is ws') : wd D tys s A H0 H locs ws' := by
  refine ⟨w.1, sub_P w hs, ⟨(sub_D w hnd hs).1, fun k q hk => ?_⟩, w.2.2.2⟩
  obtain ⟨i, -, h⟩ := at_of hs k q hk
  exact w.2.2.1.2 i q h
end B3

abbrev wX1_lo (cI cL cS cH : ClassId) (a_this : Nat) (a_this_rows : Nat) (q_known : Int32) (q_rows_R : Nat → Nat) (q_rows_nodes : Nat → Int32) (q_rows_near_R : Nat → Nat) (q_rows_clean : Nat → Int32) (q_rows_guards : Nat → Int32) (q_rows_kind : Nat → Int32) (q_rows_team : Nat → Int32) (q_rows_draw : Nat → Int32) (q_rows_near : Nat → Nat → Int32) (ff : Nat → Option Nat) : va_W := [(a_this, .inr (1, [.int q_known, .ref a_this_rows])),
  (a_this_rows, .inl (cS, 6, .inr (.inr (.inr (.inr ff))))),
  ((q_rows_R 0), .inr (5, [.int (q_rows_nodes 0), .ref (q_rows_near_R 0), .int (q_rows_clean 0), .int (q_rows_guards 0), .int (q_rows_kind 0), .int (q_rows_team 0), .int (q_rows_draw 0)])),
  ((q_rows_near_R 0), .inl (cI, 7, .inl (q_rows_near 0))),
  ((q_rows_R 1), .inr (5, [.int (q_rows_nodes 1), .ref (q_rows_near_R 1), .int (q_rows_clean 1), .int (q_rows_guards 1), .int (q_rows_kind 1), .int (q_rows_team 1), .int (q_rows_draw 1)])),
  ((q_rows_near_R 1), .inl (cI, 7, .inl (q_rows_near 1))),
  ((q_rows_R 2), .inr (5, [.int (q_rows_nodes 2), .ref (q_rows_near_R 2), .int (q_rows_clean 2), .int (q_rows_guards 2), .int (q_rows_kind 2), .int (q_rows_team 2), .int (q_rows_draw 2)])),
  ((q_rows_near_R 2), .inl (cI, 7, .inl (q_rows_near 2))),
  ((q_rows_R 3), .inr (5, [.int (q_rows_nodes 3), .ref (q_rows_near_R 3), .int (q_rows_clean 3), .int (q_rows_guards 3), .int (q_rows_kind 3), .int (q_rows_team 3), .int (q_rows_draw 3)])),
  ((q_rows_near_R 3), .inl (cI, 7, .inl (q_rows_near 3))),
  ((q_rows_R 4), .inr (5, [.int (q_rows_nodes 4), .ref (q_rows_near_R 4), .int (q_rows_clean 4), .int (q_rows_guards 4), .int (q_rows_kind 4), .int (q_rows_team 4), .int (q_rows_draw 4)])),
  ((q_rows_near_R 4), .inl (cI, 7, .inl (q_rows_near 4))),
  ((q_rows_R 5), .inr (5, [.int (q_rows_nodes 5), .ref (q_rows_near_R 5), .int (q_rows_clean 5), .int (q_rows_guards 5), .int (q_rows_kind 5), .int (q_rows_team 5), .int (q_rows_draw 5)])),
  ((q_rows_near_R 5), .inl (cI, 7, .inl (q_rows_near 5)))]
set_option maxRecDepth 100000 in
theorem inX1_loseOldest_X1 : ∀ w ∈ u_ws RX1 TX1 2, w ∈ wsX1_loseOldest := by decide +kernel
set_option maxRecDepth 100000 in
theorem lkX1_loseOldest_17 : Cond.fieldLink RX1 17 "CleanNets$Past" "rows" "[LCleanNets$Standing;" ∈ wsX1_loseOldest := by decide +kernel
set_option maxRecDepth 100000 in
theorem lkX1_loseOldest_9 : Cond.fieldLink RX1 9 "CleanNets$Past" "known" "I" ∈ wsX1_loseOldest := by decide +kernel
abbrev wX1_loseOldest (cI cL cS cH : ClassId) (a_this : Nat) (a_this_rows : Nat) (q_known : Int32) (q_rows_R : Nat → Nat) (q_rows_nodes : Nat → Int32) (q_rows_near_R : Nat → Nat) (q_rows_clean : Nat → Int32) (q_rows_guards : Nat → Int32) (q_rows_kind : Nat → Int32) (q_rows_team : Nat → Int32) (q_rows_draw : Nat → Int32) (q_rows_near : Nat → Nat → Int32) : va_W := [(a_this, .inr (1, [.int q_known, .ref a_this_rows])),
  (a_this_rows, .inl (cS, 6, .inr (.inr (.inr (.inr (fun k => some (q_rows_R k))))))),
  ((q_rows_R 0), .inr (5, [.int (q_rows_nodes 0), .ref (q_rows_near_R 0), .int (q_rows_clean 0), .int (q_rows_guards 0), .int (q_rows_kind 0), .int (q_rows_team 0), .int (q_rows_draw 0)])),
  ((q_rows_near_R 0), .inl (cI, 7, .inl (q_rows_near 0))),
  ((q_rows_R 1), .inr (5, [.int (q_rows_nodes 1), .ref (q_rows_near_R 1), .int (q_rows_clean 1), .int (q_rows_guards 1), .int (q_rows_kind 1), .int (q_rows_team 1), .int (q_rows_draw 1)])),
  ((q_rows_near_R 1), .inl (cI, 7, .inl (q_rows_near 1))),
  ((q_rows_R 2), .inr (5, [.int (q_rows_nodes 2), .ref (q_rows_near_R 2), .int (q_rows_clean 2), .int (q_rows_guards 2), .int (q_rows_kind 2), .int (q_rows_team 2), .int (q_rows_draw 2)])),
  ((q_rows_near_R 2), .inl (cI, 7, .inl (q_rows_near 2))),
  ((q_rows_R 3), .inr (5, [.int (q_rows_nodes 3), .ref (q_rows_near_R 3), .int (q_rows_clean 3), .int (q_rows_guards 3), .int (q_rows_kind 3), .int (q_rows_team 3), .int (q_rows_draw 3)])),
  ((q_rows_near_R 3), .inl (cI, 7, .inl (q_rows_near 3))),
  ((q_rows_R 4), .inr (5, [.int (q_rows_nodes 4), .ref (q_rows_near_R 4), .int (q_rows_clean 4), .int (q_rows_guards 4), .int (q_rows_kind 4), .int (q_rows_team 4), .int (q_rows_draw 4)])),
  ((q_rows_near_R 4), .inl (cI, 7, .inl (q_rows_near 4))),
  ((q_rows_R 5), .inr (5, [.int (q_rows_nodes 5), .ref (q_rows_near_R 5), .int (q_rows_clean 5), .int (q_rows_guards 5), .int (q_rows_kind 5), .int (q_rows_team 5), .int (q_rows_draw 5)])),
  ((q_rows_near_R 5), .inl (cI, 7, .inl (q_rows_near 5)))]
def fX1_loseOldest (q_known : Int32) (q_rows_R : Nat → Nat) (q_rows_nodes : Nat → Int32) (q_rows_near_R : Nat → Nat) (q_rows_clean : Nat → Int32) (q_rows_guards : Nat → Int32) (q_rows_kind : Nat → Int32) (q_rows_team : Nat → Int32) (q_rows_draw : Nat → Int32) (q_rows_near : Nat → Nat → Int32) : Option (Int32 × (Nat → Nat) × (Nat → Int32) × (Nat → Nat) × (Nat → Int32) × (Nat → Int32) × (Nat → Int32) × (Nat → Int32) × (Nat → Int32) × (Nat → Nat → Int32)) := some ((q_known - (1 : Int32)), (rot6 q_rows_R), (rot6 q_rows_nodes), (rot6 q_rows_near_R), (rot6 q_rows_clean), (rot6 q_rows_guards), (rot6 q_rows_kind), (rot6 q_rows_team), (rot6 q_rows_draw), (rot6 q_rows_near))
set_option maxHeartbeats 4000000 in
set_option maxRecDepth 100000 in
theorem mX1_loseOldest (l : Launch) (D : vg) (cI cL cS cH : ClassId) (sz : Nat) (a_this : Nat) (a_this_rows : Nat) (q_known : Int32) (q_rows_R : Nat → Nat) (q_rows_nodes : Nat → Int32) (q_rows_near_R : Nat → Nat) (q_rows_clean : Nat → Int32) (q_rows_guards : Nat → Int32) (q_rows_kind : Nat → Int32) (q_rows_team : Nat → Int32) (q_rows_draw : Nat → Int32) (q_rows_near : Nat → Nat → Int32) {res : Int32 × (Nat → Nat) × (Nat → Int32) × (Nat → Nat) × (Nat → Int32) × (Nat → Int32) × (Nat → Int32) × (Nat → Int32) × (Nat → Int32) × (Nat → Nat → Int32)} (hf : fX1_loseOldest q_known q_rows_R q_rows_nodes q_rows_near_R q_rows_clean q_rows_guards q_rows_kind q_rows_team q_rows_draw q_rows_near = some res) : ctv l yX1_loseOldest wsX1_loseOldest ({ frames := 0, cells := 0, slots := 0, locals := 0 }) D (ty4 cI cL cS cH) sz [.ref a_this] (wX1_loseOldest cI cL cS cH a_this a_this_rows q_known q_rows_R q_rows_nodes q_rows_near_R q_rows_clean q_rows_guards q_rows_kind q_rows_team q_rows_draw q_rows_near) (wX1_loseOldest cI cL cS cH a_this a_this_rows res.1 res.2.1 res.2.2.1 res.2.2.2.1 res.2.2.2.2.1 res.2.2.2.2.2.1 res.2.2.2.2.2.2.1 res.2.2.2.2.2.2.2.1 res.2.2.2.2.2.2.2.2.1 res.2.2.2.2.2.2.2.2.2) := by
  refine Met.ofW (cc := cX1_loseOldest) (maxL := 3) (ret := none) (by decide) rfl ?_
  intro p e s m args below meth c s₁ B hml hv
  obtain ⟨rfl, hpre⟩ := hv
  obtain rfl := hpre.1
  have C : CallFix p m c cX1_loseOldest 3 s _ wsX1_loseOldest RX1 := ⟨B.exec, B.bytes, hml, findClass_of_methodNamed B.named, atoms_spec (ws := wsX1_loseOldest) B.pre⟩
  have hr := B.returns
  have hlocks := B.notSynchronized
  have w := wd_start hpre
  clear hpre B
  have hl := lv_entry ([.ref a_this]) (n := 3) (Nat.le_of_ble_eq_true rfl)
  rw [lg_entry_eq]
  generalize (lg_sl ([.ref a_this]) ++ List.replicate (3 - (lg_sl ([.ref a_this])).length) Slot.unset).toArray = ls at hl ⊢
  have hl : lv_has ls 3 [(0, .ref a_this)] := hl
  unfold fX1_loseOldest at hf
  have hres := Option.some.inj hf
  subst hres
  refine lv_aload_n C.1 C.2.1 dX1_loseOldest_0 rfl (lv_at hl 0 rfl) ?_
  refine r_get C w inX1_loseOldest_X1 0 rfl rfl 1 (by decide) lkX1_loseOldest_17 rfl dX1_loseOldest_1 ?_
  refine lv_iconst (v := (0 : Int32)) C.1 C.2.1 dX1_loseOldest_4 (by decide) ?_
  refine r_aald (v := q_rows_R 0) C w 1 2 rfl rfl ⟨inb_in (by decide), rfl⟩ dX1_loseOldest_5 ?_
  refine lv_astore_n (lv' := [(1, .ref (q_rows_R 0)), (0, .ref a_this)]) C.1 C.2.1 dX1_loseOldest_6 rfl hl (by decide) rfl (fun ls hl => ?_)
  refine lv_iconst (v := (1 : Int32)) C.1 C.2.1 dX1_loseOldest_7 (by decide) ?_
  refine lv_istore_n (lv' := [(2, .int (1 : Int32)), (1, .ref (q_rows_R 0)), (0, .ref a_this)]) C.1 C.2.1 dX1_loseOldest_8 rfl hl (by decide) rfl (fun ls hl => ?_)
  refine lv_iload_n C.1 C.2.1 dX1_loseOldest_9 rfl (lv_at hl 0 rfl) ?_
  refine lv_bipush (v := (6 : Int32)) C.1 C.2.1 dX1_loseOldest_10 (by decide) ?_
  refine lv_icmp_ge (tgt := 35) C.1 C.2.1 dX1_loseOldest_12 (by decide) (fun hq => absurd hq (by decide)) (fun _ => ?_)
  refine lv_aload_n C.1 C.2.1 dX1_loseOldest_15 rfl (lv_at hl 2 rfl) ?_
  refine r_get C w inX1_loseOldest_X1 0 rfl rfl 1 (by decide) lkX1_loseOldest_17 rfl dX1_loseOldest_16 ?_
  refine lv_iload_n C.1 C.2.1 dX1_loseOldest_19 rfl (lv_at hl 0 rfl) ?_
  refine lv_iconst (v := (1 : Int32)) C.1 C.2.1 dX1_loseOldest_20 (by decide) ?_
  refine lv_isub C.1 C.2.1 dX1_loseOldest_21 ?_
  refine lt_topi (y := (0 : Int32)) (by decide) ?_
  refine lv_aload_n C.1 C.2.1 dX1_loseOldest_22 rfl (lv_at hl 2 rfl) ?_
  refine r_get C w inX1_loseOldest_X1 0 rfl rfl 1 (by decide) lkX1_loseOldest_17 rfl dX1_loseOldest_23 ?_
  refine lv_iload_n C.1 C.2.1 dX1_loseOldest_26 rfl (lv_at hl 0 rfl) ?_
  refine r_aald (v := q_rows_R 1) C w 1 2 rfl rfl ⟨inb_in (by decide), rfl⟩ dX1_loseOldest_27 ?_
  refine r_aast (ws' := (wX1_lo cI cL cS cH a_this a_this_rows q_known q_rows_R q_rows_nodes q_rows_near_R q_rows_clean q_rows_guards q_rows_kind q_rows_team q_rows_draw q_rows_near (va_up (fun k => some (q_rows_R k)) 0 (some (q_rows_R 1))))) C w 1 2 4 5 rfl rfl rfl rfl (inb_in (by decide)) rfl dX1_loseOldest_28 (fun H locs w => ?_)
  refine lv_iinc (v := (2 : Int32)) (lv' := [(2, .int (2 : Int32)), (1, .ref (q_rows_R 0)), (0, .ref a_this)]) C.1 C.2.1 dX1_loseOldest_29 hl (k := 0) rfl (by decide) (by decide) rfl (fun ls hl => ?_)
  refine lv_goto (tgt := 9) C.1 C.2.1 dX1_loseOldest_32 (by decide) ?_
  refine lv_iload_n C.1 C.2.1 dX1_loseOldest_9 rfl (lv_at hl 0 rfl) ?_
  refine lv_bipush (v := (6 : Int32)) C.1 C.2.1 dX1_loseOldest_10 (by decide) ?_
  refine lv_icmp_ge (tgt := 35) C.1 C.2.1 dX1_loseOldest_12 (by decide) (fun hq => absurd hq (by decide)) (fun _ => ?_)
  refine lv_aload_n C.1 C.2.1 dX1_loseOldest_15 rfl (lv_at hl 2 rfl) ?_
  refine r_get C w inX1_loseOldest_X1 0 rfl rfl 1 (by decide) lkX1_loseOldest_17 rfl dX1_loseOldest_16 ?_
  refine lv_iload_n C.1 C.2.1 dX1_loseOldest_19 rfl (lv_at hl 0 rfl) ?_
  refine lv_iconst (v := (1 : Int32)) C.1 C.2.1 dX1_loseOldest_20 (by decide) ?_
  refine lv_isub C.1 C.2.1 dX1_loseOldest_21 ?_
  refine lt_topi (y := (1 : Int32)) (by decide) ?_
  refine lv_aload_n C.1 C.2.1 dX1_loseOldest_22 rfl (lv_at hl 2 rfl) ?_
  refine r_get C w inX1_loseOldest_X1 0 rfl rfl 1 (by decide) lkX1_loseOldest_17 rfl dX1_loseOldest_23 ?_
  refine lv_iload_n C.1 C.2.1 dX1_loseOldest_26 rfl (lv_at hl 0 rfl) ?_
  refine r_aald (v := q_rows_R 2) C w 1 2 rfl rfl ⟨inb_in (by decide), rfl⟩ dX1_loseOldest_27 ?_
  refine r_aast (ws' := (wX1_lo cI cL cS cH a_this a_this_rows q_known q_rows_R q_rows_nodes q_rows_near_R q_rows_clean q_rows_guards q_rows_kind q_rows_team q_rows_draw q_rows_near (va_up (va_up (fun k => some (q_rows_R k)) 0 (some (q_rows_R 1))) 1 (some (q_rows_R 2))))) C w 1 2 6 5 rfl rfl rfl rfl (inb_in (by decide)) rfl dX1_loseOldest_28 (fun H locs w => ?_)
  refine lv_iinc (v := (3 : Int32)) (lv' := [(2, .int (3 : Int32)), (1, .ref (q_rows_R 0)), (0, .ref a_this)]) C.1 C.2.1 dX1_loseOldest_29 hl (k := 0) rfl (by decide) (by decide) rfl (fun ls hl => ?_)
  refine lv_goto (tgt := 9) C.1 C.2.1 dX1_loseOldest_32 (by decide) ?_
  refine lv_iload_n C.1 C.2.1 dX1_loseOldest_9 rfl (lv_at hl 0 rfl) ?_
  refine lv_bipush (v := (6 : Int32)) C.1 C.2.1 dX1_loseOldest_10 (by decide) ?_
  refine lv_icmp_ge (tgt := 35) C.1 C.2.1 dX1_loseOldest_12 (by decide) (fun hq => absurd hq (by decide)) (fun _ => ?_)
  refine lv_aload_n C.1 C.2.1 dX1_loseOldest_15 rfl (lv_at hl 2 rfl) ?_
  refine r_get C w inX1_loseOldest_X1 0 rfl rfl 1 (by decide) lkX1_loseOldest_17 rfl dX1_loseOldest_16 ?_
  refine lv_iload_n C.1 C.2.1 dX1_loseOldest_19 rfl (lv_at hl 0 rfl) ?_
  refine lv_iconst (v := (1 : Int32)) C.1 C.2.1 dX1_loseOldest_20 (by decide) ?_
  refine lv_isub C.1 C.2.1 dX1_loseOldest_21 ?_
  refine lt_topi (y := (2 : Int32)) (by decide) ?_
  refine lv_aload_n C.1 C.2.1 dX1_loseOldest_22 rfl (lv_at hl 2 rfl) ?_
  refine r_get C w inX1_loseOldest_X1 0 rfl rfl 1 (by decide) lkX1_loseOldest_17 rfl dX1_loseOldest_23 ?_
  refine lv_iload_n C.1 C.2.1 dX1_loseOldest_26 rfl (lv_at hl 0 rfl) ?_
  refine r_aald (v := q_rows_R 3) C w 1 2 rfl rfl ⟨inb_in (by decide), rfl⟩ dX1_loseOldest_27 ?_
  refine r_aast (ws' := (wX1_lo cI cL cS cH a_this a_this_rows q_known q_rows_R q_rows_nodes q_rows_near_R q_rows_clean q_rows_guards q_rows_kind q_rows_team q_rows_draw q_rows_near (va_up (va_up (va_up (fun k => some (q_rows_R k)) 0 (some (q_rows_R 1))) 1 (some (q_rows_R 2))) 2 (some (q_rows_R 3))))) C w 1 2 8 5 rfl rfl rfl rfl (inb_in (by decide)) rfl dX1_loseOldest_28 (fun H locs w => ?_)
  refine lv_iinc (v := (4 : Int32)) (lv' := [(2, .int (4 : Int32)), (1, .ref (q_rows_R 0)), (0, .ref a_this)]) C.1 C.2.1 dX1_loseOldest_29 hl (k := 0) rfl (by decide) (by decide) rfl (fun ls hl => ?_)
  refine lv_goto (tgt := 9) C.1 C.2.1 dX1_loseOldest_32 (by decide) ?_
  refine lv_iload_n C.1 C.2.1 dX1_loseOldest_9 rfl (lv_at hl 0 rfl) ?_
  refine lv_bipush (v := (6 : Int32)) C.1 C.2.1 dX1_loseOldest_10 (by decide) ?_
  refine lv_icmp_ge (tgt := 35) C.1 C.2.1 dX1_loseOldest_12 (by decide) (fun hq => absurd hq (by decide)) (fun _ => ?_)
  refine lv_aload_n C.1 C.2.1 dX1_loseOldest_15 rfl (lv_at hl 2 rfl) ?_
  refine r_get C w inX1_loseOldest_X1 0 rfl rfl 1 (by decide) lkX1_loseOldest_17 rfl dX1_loseOldest_16 ?_
  refine lv_iload_n C.1 C.2.1 dX1_loseOldest_19 rfl (lv_at hl 0 rfl) ?_
  refine lv_iconst (v := (1 : Int32)) C.1 C.2.1 dX1_loseOldest_20 (by decide) ?_
  refine lv_isub C.1 C.2.1 dX1_loseOldest_21 ?_
  refine lt_topi (y := (3 : Int32)) (by decide) ?_
  refine lv_aload_n C.1 C.2.1 dX1_loseOldest_22 rfl (lv_at hl 2 rfl) ?_
  refine r_get C w inX1_loseOldest_X1 0 rfl rfl 1 (by decide) lkX1_loseOldest_17 rfl dX1_loseOldest_23 ?_
  refine lv_iload_n C.1 C.2.1 dX1_loseOldest_26 rfl (lv_at hl 0 rfl) ?_
  refine r_aald (v := q_rows_R 4) C w 1 2 rfl rfl ⟨inb_in (by decide), rfl⟩ dX1_loseOldest_27 ?_
  refine r_aast (ws' := (wX1_lo cI cL cS cH a_this a_this_rows q_known q_rows_R q_rows_nodes q_rows_near_R q_rows_clean q_rows_guards q_rows_kind q_rows_team q_rows_draw q_rows_near (va_up (va_up (va_up (va_up (fun k => some (q_rows_R k)) 0 (some (q_rows_R 1))) 1 (some (q_rows_R 2))) 2 (some (q_rows_R 3))) 3 (some (q_rows_R 4))))) C w 1 2 10 5 rfl rfl rfl rfl (inb_in (by decide)) rfl dX1_loseOldest_28 (fun H locs w => ?_)
  refine lv_iinc (v := (5 : Int32)) (lv' := [(2, .int (5 : Int32)), (1, .ref (q_rows_R 0)), (0, .ref a_this)]) C.1 C.2.1 dX1_loseOldest_29 hl (k := 0) rfl (by decide) (by decide) rfl (fun ls hl => ?_)
  refine lv_goto (tgt := 9) C.1 C.2.1 dX1_loseOldest_32 (by decide) ?_
  refine lv_iload_n C.1 C.2.1 dX1_loseOldest_9 rfl (lv_at hl 0 rfl) ?_
  refine lv_bipush (v := (6 : Int32)) C.1 C.2.1 dX1_loseOldest_10 (by decide) ?_
  refine lv_icmp_ge (tgt := 35) C.1 C.2.1 dX1_loseOldest_12 (by decide) (fun hq => absurd hq (by decide)) (fun _ => ?_)
  refine lv_aload_n C.1 C.2.1 dX1_loseOldest_15 rfl (lv_at hl 2 rfl) ?_
  refine r_get C w inX1_loseOldest_X1 0 rfl rfl 1 (by decide) lkX1_loseOldest_17 rfl dX1_loseOldest_16 ?_
  refine lv_iload_n C.1 C.2.1 dX1_loseOldest_19 rfl (lv_at hl 0 rfl) ?_
  refine lv_iconst (v := (1 : Int32)) C.1 C.2.1 dX1_loseOldest_20 (by decide) ?_
  refine lv_isub C.1 C.2.1 dX1_loseOldest_21 ?_
  refine lt_topi (y := (4 : Int32)) (by decide) ?_
  refine lv_aload_n C.1 C.2.1 dX1_loseOldest_22 rfl (lv_at hl 2 rfl) ?_
  refine r_get C w inX1_loseOldest_X1 0 rfl rfl 1 (by decide) lkX1_loseOldest_17 rfl dX1_loseOldest_23 ?_
  refine lv_iload_n C.1 C.2.1 dX1_loseOldest_26 rfl (lv_at hl 0 rfl) ?_
  refine r_aald (v := q_rows_R 5) C w 1 2 rfl rfl ⟨inb_in (by decide), rfl⟩ dX1_loseOldest_27 ?_
  refine r_aast (ws' := (wX1_lo cI cL cS cH a_this a_this_rows q_known q_rows_R q_rows_nodes q_rows_near_R q_rows_clean q_rows_guards q_rows_kind q_rows_team q_rows_draw q_rows_near (va_up (va_up (va_up (va_up (va_up (fun k => some (q_rows_R k)) 0 (some (q_rows_R 1))) 1 (some (q_rows_R 2))) 2 (some (q_rows_R 3))) 3 (some (q_rows_R 4))) 4 (some (q_rows_R 5))))) C w 1 2 12 5 rfl rfl rfl rfl (inb_in (by decide)) rfl dX1_loseOldest_28 (fun H locs w => ?_)
  refine lv_iinc (v := (6 : Int32)) (lv' := [(2, .int (6 : Int32)), (1, .ref (q_rows_R 0)), (0, .ref a_this)]) C.1 C.2.1 dX1_loseOldest_29 hl (k := 0) rfl (by decide) (by decide) rfl (fun ls hl => ?_)
  refine lv_goto (tgt := 9) C.1 C.2.1 dX1_loseOldest_32 (by decide) ?_
  refine lv_iload_n C.1 C.2.1 dX1_loseOldest_9 rfl (lv_at hl 0 rfl) ?_
  refine lv_bipush (v := (6 : Int32)) C.1 C.2.1 dX1_loseOldest_10 (by decide) ?_
  refine lv_icmp_ge (tgt := 35) C.1 C.2.1 dX1_loseOldest_12 (by decide) (fun _ => ?_) (fun hq => absurd (by decide) hq)
  refine lv_aload_n C.1 C.2.1 dX1_loseOldest_35 rfl (lv_at hl 2 rfl) ?_
  refine r_get C w inX1_loseOldest_X1 0 rfl rfl 1 (by decide) lkX1_loseOldest_17 rfl dX1_loseOldest_36 ?_
  refine lv_iconst (v := (5 : Int32)) C.1 C.2.1 dX1_loseOldest_39 (by decide) ?_
  refine lv_aload_n C.1 C.2.1 dX1_loseOldest_40 rfl (lv_at hl 1 rfl) ?_
  refine r_aast (ws' := (wX1_lo cI cL cS cH a_this a_this_rows q_known q_rows_R q_rows_nodes q_rows_near_R q_rows_clean q_rows_guards q_rows_kind q_rows_team q_rows_draw q_rows_near (va_up (va_up (va_up (va_up (va_up (va_up (fun k => some (q_rows_R k)) 0 (some (q_rows_R 1))) 1 (some (q_rows_R 2))) 2 (some (q_rows_R 3))) 3 (some (q_rows_R 4))) 4 (some (q_rows_R 5))) 5 (some (q_rows_R 0))))) C w 1 2 2 5 rfl rfl rfl rfl (inb_in (by decide)) rfl dX1_loseOldest_41 (fun H locs w => ?_)
  refine lv_aload_n C.1 C.2.1 dX1_loseOldest_42 rfl (lv_at hl 2 rfl) ?_
  refine lv_dup C.1 C.2.1 dX1_loseOldest_43 rfl ?_
  refine r_get C w inX1_loseOldest_X1 0 rfl rfl 0 (by decide) lkX1_loseOldest_9 rfl dX1_loseOldest_44 ?_
  refine lv_iconst (v := (1 : Int32)) C.1 C.2.1 dX1_loseOldest_47 (by decide) ?_
  refine lv_isub C.1 C.2.1 dX1_loseOldest_48 ?_
  refine r_put (ws' := (wX1_lo cI cL cS cH a_this a_this_rows (q_known - (1 : Int32)) q_rows_R q_rows_nodes q_rows_near_R q_rows_clean q_rows_guards q_rows_kind q_rows_team q_rows_draw q_rows_near (va_up (va_up (va_up (va_up (va_up (va_up (fun k => some (q_rows_R k)) 0 (some (q_rows_R 1))) 1 (some (q_rows_R 2))) 2 (some (q_rows_R 3))) 3 (some (q_rows_R 4))) 4 (some (q_rows_R 5))) 5 (some (q_rows_R 0))))) C w inX1_loseOldest_X1 tyX1 tyX1_ok nmX1 0 rfl rfl 0 (by decide) lkX1_loseOldest_9 rfl rfl rfl (Nat.le_of_ble_eq_true rfl) rfl dX1_loseOldest_49 (fun H locs w => ?_)
  have w := wd_q (ws' := (wX1_lo cI cL cS cH a_this a_this_rows (q_known - (1 : Int32)) q_rows_R q_rows_nodes q_rows_near_R q_rows_clean q_rows_guards q_rows_kind q_rows_team q_rows_draw q_rows_near (fun k => some (rot6 q_rows_R k)))) w 1 rfl (g := (fun k => some (rot6 q_rows_R k))) (by intro k hk; rcases (show k = 0 ∨ k = 1 ∨ k = 2 ∨ k = 3 ∨ k = 4 ∨ k = 5 by omega) with rfl | rfl | rfl | rfl | rfl | rfl <;> rfl) rfl
  have w := wd_perm (ws' := (wX1_loseOldest cI cL cS cH a_this a_this_rows (q_known - (1 : Int32)) (rot6 q_rows_R) (rot6 q_rows_nodes) (rot6 q_rows_near_R) (rot6 q_rows_clean) (rot6 q_rows_guards) (rot6 q_rows_kind) (rot6 q_rows_team) (rot6 q_rows_draw) (rot6 q_rows_near))) w [0, 1, 4, 5, 6, 7, 8, 9, 10, 11, 12, 13, 2, 3] (by decide) ⟨rfl, rfl, rfl, rfl, rfl, rfl, rfl, rfl, rfl, rfl, rfl, rfl, rfl, rfl, trivial⟩
  exact ret_v C hr hlocks w dX1_loseOldest_52

set_option maxRecDepth 100000 in
theorem inX1_remember_X1 : ∀ w ∈ u_ws RX1 TX1 2, w ∈ wsX1_remember := by decide +kernel
set_option maxRecDepth 100000 in
theorem lkX1_remember_17 : Cond.fieldLink RX1 17 "CleanNets$Past" "rows" "[LCleanNets$Standing;" ∈ wsX1_remember := by decide +kernel
set_option maxRecDepth 100000 in
theorem lkX1_remember_9 : Cond.fieldLink RX1 9 "CleanNets$Past" "known" "I" ∈ wsX1_remember := by decide +kernel
abbrev wX1_remember (cI cL cS cH : ClassId) (a_p1 : Nat) (a_p1_near : Nat) (a_this : Nat) (a_this_rows : Nat) (q_p1_nodes : Int32) (q_p1_clean : Int32) (q_p1_guards : Int32) (q_p1_kind : Int32) (q_p1_team : Int32) (q_p1_draw : Int32) (q_p1_near : Nat → Int32) (q_known : Int32) (q_rows_R : Nat → Nat) (q_rows_nodes : Nat → Int32) (q_rows_near_R : Nat → Nat) (q_rows_clean : Nat → Int32) (q_rows_guards : Nat → Int32) (q_rows_kind : Nat → Int32) (q_rows_team : Nat → Int32) (q_rows_draw : Nat → Int32) (q_rows_near : Nat → Nat → Int32) : va_W := [(a_p1, .inr (5, [.int q_p1_nodes, .ref a_p1_near, .int q_p1_clean, .int q_p1_guards, .int q_p1_kind, .int q_p1_team, .int q_p1_draw])),
  (a_p1_near, .inl (cI, 7, .inl q_p1_near)),
  (a_this, .inr (1, [.int q_known, .ref a_this_rows])),
  (a_this_rows, .inl (cS, 6, .inr (.inr (.inr (.inr (fun k => some (q_rows_R k))))))),
  ((q_rows_R 0), .inr (5, [.int (q_rows_nodes 0), .ref (q_rows_near_R 0), .int (q_rows_clean 0), .int (q_rows_guards 0), .int (q_rows_kind 0), .int (q_rows_team 0), .int (q_rows_draw 0)])),
  ((q_rows_near_R 0), .inl (cI, 7, .inl (q_rows_near 0))),
  ((q_rows_R 1), .inr (5, [.int (q_rows_nodes 1), .ref (q_rows_near_R 1), .int (q_rows_clean 1), .int (q_rows_guards 1), .int (q_rows_kind 1), .int (q_rows_team 1), .int (q_rows_draw 1)])),
  ((q_rows_near_R 1), .inl (cI, 7, .inl (q_rows_near 1))),
  ((q_rows_R 2), .inr (5, [.int (q_rows_nodes 2), .ref (q_rows_near_R 2), .int (q_rows_clean 2), .int (q_rows_guards 2), .int (q_rows_kind 2), .int (q_rows_team 2), .int (q_rows_draw 2)])),
  ((q_rows_near_R 2), .inl (cI, 7, .inl (q_rows_near 2))),
  ((q_rows_R 3), .inr (5, [.int (q_rows_nodes 3), .ref (q_rows_near_R 3), .int (q_rows_clean 3), .int (q_rows_guards 3), .int (q_rows_kind 3), .int (q_rows_team 3), .int (q_rows_draw 3)])),
  ((q_rows_near_R 3), .inl (cI, 7, .inl (q_rows_near 3))),
  ((q_rows_R 4), .inr (5, [.int (q_rows_nodes 4), .ref (q_rows_near_R 4), .int (q_rows_clean 4), .int (q_rows_guards 4), .int (q_rows_kind 4), .int (q_rows_team 4), .int (q_rows_draw 4)])),
  ((q_rows_near_R 4), .inl (cI, 7, .inl (q_rows_near 4))),
  ((q_rows_R 5), .inr (5, [.int (q_rows_nodes 5), .ref (q_rows_near_R 5), .int (q_rows_clean 5), .int (q_rows_guards 5), .int (q_rows_kind 5), .int (q_rows_team 5), .int (q_rows_draw 5)])),
  ((q_rows_near_R 5), .inl (cI, 7, .inl (q_rows_near 5)))]
def jX1_remember_13 (q_p1_nodes : Int32) (q_p1_clean : Int32) (q_p1_guards : Int32) (q_p1_kind : Int32) (q_p1_team : Int32) (q_p1_draw : Int32) (q_p1_near : Nat → Int32) (k13_q_known : Int32) (k13_q_rows_R : Nat → Nat) (k13_q_rows_nodes : Nat → Int32) (k13_q_rows_near_R : Nat → Nat) (k13_q_rows_clean : Nat → Int32) (k13_q_rows_guards : Nat → Int32) (k13_q_rows_kind : Nat → Int32) (k13_q_rows_team : Nat → Int32) (k13_q_rows_draw : Nat → Int32) (k13_q_rows_near : Nat → Nat → Int32) : Option (Int32 × (Nat → Nat) × (Nat → Int32) × (Nat → Nat) × (Nat → Int32) × (Nat → Int32) × (Nat → Int32) × (Nat → Int32) × (Nat → Int32) × (Nat → Nat → Int32)) := sel6 k13_q_known (fun k21 => Option.bind (fX5_become q_p1_nodes q_p1_clean q_p1_guards q_p1_kind q_p1_team q_p1_draw q_p1_near (k13_q_rows_nodes k21) (k13_q_rows_clean k21) (k13_q_rows_guards k21) (k13_q_rows_kind k21) (k13_q_rows_team k21) (k13_q_rows_draw k21) (k13_q_rows_near k21)) (fun r1 => some ((k13_q_known + (1 : Int32)), k13_q_rows_R, (va_up k13_q_rows_nodes k21 r1.1), k13_q_rows_near_R, (va_up k13_q_rows_clean k21 r1.2.1), (va_up k13_q_rows_guards k21 r1.2.2.1), (va_up k13_q_rows_kind k21 r1.2.2.2.1), (va_up k13_q_rows_team k21 r1.2.2.2.2.1), (va_up k13_q_rows_draw k21 r1.2.2.2.2.2.1), (va_up k13_q_rows_near k21 r1.2.2.2.2.2.2))))
def fX1_remember (q_p1_nodes : Int32) (q_p1_clean : Int32) (q_p1_guards : Int32) (q_p1_kind : Int32) (q_p1_team : Int32) (q_p1_draw : Int32) (q_p1_near : Nat → Int32) (q_known : Int32) (q_rows_R : Nat → Nat) (q_rows_nodes : Nat → Int32) (q_rows_near_R : Nat → Nat) (q_rows_clean : Nat → Int32) (q_rows_guards : Nat → Int32) (q_rows_kind : Nat → Int32) (q_rows_team : Nat → Int32) (q_rows_draw : Nat → Int32) (q_rows_near : Nat → Nat → Int32)  : Option (Int32 × (Nat → Nat) × (Nat → Int32) × (Nat → Nat) × (Nat → Int32) × (Nat → Int32) × (Nat → Int32) × (Nat → Int32) × (Nat → Int32) × (Nat → Nat → Int32)) := (if q_known = (6 : Int32) then Option.bind (fX1_loseOldest q_known q_rows_R q_rows_nodes q_rows_near_R q_rows_clean q_rows_guards q_rows_kind q_rows_team q_rows_draw q_rows_near) (fun r4 => jX1_remember_13 q_p1_nodes q_p1_clean q_p1_guards q_p1_kind q_p1_team q_p1_draw q_p1_near r4.1 r4.2.1 r4.2.2.1 r4.2.2.2.1 r4.2.2.2.2.1 r4.2.2.2.2.2.1 r4.2.2.2.2.2.2.1 r4.2.2.2.2.2.2.2.1 r4.2.2.2.2.2.2.2.2.1 r4.2.2.2.2.2.2.2.2.2) else jX1_remember_13 q_p1_nodes q_p1_clean q_p1_guards q_p1_kind q_p1_team q_p1_draw q_p1_near q_known q_rows_R q_rows_nodes q_rows_near_R q_rows_clean q_rows_guards q_rows_kind q_rows_team q_rows_draw q_rows_near)
abbrev gX1_remember (p : Program) (l : Launch) (e : Env) (s : State) (m : MethodId) (below : List Frame) (meth : Method) (c : Code) (D : vg) (cI cL cS cH : ClassId) (a_p1 : Nat) (a_p1_near : Nat) (a_this : Nat) (a_this_rows : Nat) (q_p1_nodes : Int32) (q_p1_clean : Int32) (q_p1_guards : Int32) (q_p1_kind : Int32) (q_p1_team : Int32) (q_p1_draw : Int32) (q_p1_near : Nat → Int32) (q_known : Int32) (q_rows_R : Nat → Nat) (q_rows_nodes : Nat → Int32) (q_rows_near_R : Nat → Nat) (q_rows_clean : Nat → Int32) (q_rows_guards : Nat → Int32) (q_rows_kind : Nat → Int32) (q_rows_team : Nat → Int32) (q_rows_draw : Nat → Int32) (q_rows_near : Nat → Nat → Int32) (res : Int32 × (Nat → Nat) × (Nat → Int32) × (Nat → Nat) × (Nat → Int32) × (Nat → Int32) × (Nat → Int32) × (Nat → Int32) × (Nat → Int32) × (Nat → Nat → Int32)) (H : Heap) (locs : List Loc) (g : JFrame) : Prop := W p l e (headSpec wsX1_remember ({ frames := 2, cells := 0, slots := 0, locals := 61 })).room s m ([.ref a_this, .ref a_p1] : List Value).toArray below meth c H locs 0 0 (MQ below (va_Qv (fun (_ : Unit) => True) (fun _ t => pos1 D s.heap.size (wX1_remember cI cL cS cH a_p1 a_p1_near a_this a_this_rows q_p1_nodes q_p1_clean q_p1_guards q_p1_kind q_p1_team q_p1_draw q_p1_near q_known q_rows_R q_rows_nodes q_rows_near_R q_rows_clean q_rows_guards q_rows_kind q_rows_team q_rows_draw q_rows_near) (wX1_remember cI cL cS cH a_p1 a_p1_near a_this a_this_rows q_p1_nodes q_p1_clean q_p1_guards q_p1_kind q_p1_team q_p1_draw q_p1_near res.1 res.2.1 res.2.2.1 res.2.2.2.1 res.2.2.2.2.1 res.2.2.2.2.2.1 res.2.2.2.2.2.2.1 res.2.2.2.2.2.2.2.1 res.2.2.2.2.2.2.2.2.1 res.2.2.2.2.2.2.2.2.2) t) (va_A (wX1_remember cI cL cS cH a_p1 a_p1_near a_this a_this_rows q_p1_nodes q_p1_clean q_p1_guards q_p1_kind q_p1_team q_p1_draw q_p1_near q_known q_rows_R q_rows_nodes q_rows_near_R q_rows_clean q_rows_guards q_rows_kind q_rows_team q_rows_draw q_rows_near) s.heap.size)) ([.ref a_this, .ref a_p1] : List Value).toArray s 0 0 (va_A (wX1_remember cI cL cS cH a_p1 a_p1_near a_this a_this_rows q_p1_nodes q_p1_clean q_p1_guards q_p1_kind q_p1_team q_p1_draw q_p1_near q_known q_rows_R q_rows_nodes q_rows_near_R q_rows_clean q_rows_guards q_rows_kind q_rows_team q_rows_draw q_rows_near) s.heap.size)) g
set_option maxHeartbeats 4000000 in
set_option maxRecDepth 100000 in
theorem mX1_remember (l : Launch) (D : vg) (cI cL cS cH : ClassId) (sz : Nat) (a_p1 : Nat) (a_p1_near : Nat) (a_this : Nat) (a_this_rows : Nat) (q_p1_nodes : Int32) (q_p1_clean : Int32) (q_p1_guards : Int32) (q_p1_kind : Int32) (q_p1_team : Int32) (q_p1_draw : Int32) (q_p1_near : Nat → Int32) (q_known : Int32) (q_rows_R : Nat → Nat) (q_rows_nodes : Nat → Int32) (q_rows_near_R : Nat → Nat) (q_rows_clean : Nat → Int32) (q_rows_guards : Nat → Int32) (q_rows_kind : Nat → Int32) (q_rows_team : Nat → Int32) (q_rows_draw : Nat → Int32) (q_rows_near : Nat → Nat → Int32) {res : Int32 × (Nat → Nat) × (Nat → Int32) × (Nat → Nat) × (Nat → Int32) × (Nat → Int32) × (Nat → Int32) × (Nat → Int32) × (Nat → Int32) × (Nat → Nat → Int32)} (hf : fX1_remember q_p1_nodes q_p1_clean q_p1_guards q_p1_kind q_p1_team q_p1_draw q_p1_near q_known q_rows_R q_rows_nodes q_rows_near_R q_rows_clean q_rows_guards q_rows_kind q_rows_team q_rows_draw q_rows_near = some res) : ctv l yX1_remember wsX1_remember ({ frames := 2, cells := 0, slots := 0, locals := 61 }) D (ty4 cI cL cS cH) sz [.ref a_this, .ref a_p1] (wX1_remember cI cL cS cH a_p1 a_p1_near a_this a_this_rows q_p1_nodes q_p1_clean q_p1_guards q_p1_kind q_p1_team q_p1_draw q_p1_near q_known q_rows_R q_rows_nodes q_rows_near_R q_rows_clean q_rows_guards q_rows_kind q_rows_team q_rows_draw q_rows_near) (wX1_remember cI cL cS cH a_p1 a_p1_near a_this a_this_rows q_p1_nodes q_p1_clean q_p1_guards q_p1_kind q_p1_team q_p1_draw q_p1_near res.1 res.2.1 res.2.2.1 res.2.2.2.1 res.2.2.2.2.1 res.2.2.2.2.2.1 res.2.2.2.2.2.2.1 res.2.2.2.2.2.2.2.1 res.2.2.2.2.2.2.2.2.1 res.2.2.2.2.2.2.2.2.2) := by
  refine Met.ofW (cc := cX1_remember) (maxL := 2) (ret := none) (by decide) rfl ?_
  intro p e s m args below meth c s₁ B hml hv
  obtain ⟨rfl, hpre⟩ := hv
  obtain rfl := hpre.1
  have C : CallFix p m c cX1_remember 2 s _ wsX1_remember RX1 := ⟨B.exec, B.bytes, hml, findClass_of_methodNamed B.named, atoms_spec (ws := wsX1_remember) B.pre⟩
  have hr := B.returns
  have hlocks := B.notSynchronized
  have w := wd_start hpre
  clear hpre B
  have hl := lv_entry ([.ref a_this, .ref a_p1]) (n := 2) (Nat.le_of_ble_eq_true rfl)
  rw [lg_entry_eq]
  generalize (lg_sl ([.ref a_this, .ref a_p1]) ++ List.replicate (2 - (lg_sl ([.ref a_this, .ref a_p1])).length) Slot.unset).toArray = ls at hl ⊢
  have hl : lv_has ls 2 [(0, .ref a_this), (1, .ref a_p1)] := hl
  unfold fX1_remember at hf
  have hj13 : ∀ (k13_q_known : Int32) (k13_q_rows_R : Nat → Nat) (k13_q_rows_nodes : Nat → Int32) (k13_q_rows_near_R : Nat → Nat) (k13_q_rows_clean : Nat → Int32) (k13_q_rows_guards : Nat → Int32) (k13_q_rows_kind : Nat → Int32) (k13_q_rows_team : Nat → Int32) (k13_q_rows_draw : Nat → Int32) (k13_q_rows_near : Nat → Nat → Int32) (H : Heap) (locs : List Loc) (ls : Array Slot), wd D (ty4 cI cL cS cH) s (va_A (wX1_remember cI cL cS cH a_p1 a_p1_near a_this a_this_rows q_p1_nodes q_p1_clean q_p1_guards q_p1_kind q_p1_team q_p1_draw q_p1_near q_known q_rows_R q_rows_nodes q_rows_near_R q_rows_clean q_rows_guards q_rows_kind q_rows_team q_rows_draw q_rows_near) s.heap.size) s.heap H locs (wX1_remember cI cL cS cH a_p1 a_p1_near a_this a_this_rows q_p1_nodes q_p1_clean q_p1_guards q_p1_kind q_p1_team q_p1_draw q_p1_near k13_q_known k13_q_rows_R k13_q_rows_nodes k13_q_rows_near_R k13_q_rows_clean k13_q_rows_guards k13_q_rows_kind k13_q_rows_team k13_q_rows_draw k13_q_rows_near) → lv_has ls 2 [(0, .ref a_this), (1, .ref a_p1)] → jX1_remember_13 q_p1_nodes q_p1_clean q_p1_guards q_p1_kind q_p1_team q_p1_draw q_p1_near k13_q_known k13_q_rows_R k13_q_rows_nodes k13_q_rows_near_R k13_q_rows_clean k13_q_rows_guards k13_q_rows_kind k13_q_rows_team k13_q_rows_draw k13_q_rows_near = some res → gX1_remember p l e s m below meth c D cI cL cS cH a_p1 a_p1_near a_this a_this_rows q_p1_nodes q_p1_clean q_p1_guards q_p1_kind q_p1_team q_p1_draw q_p1_near q_known q_rows_R q_rows_nodes q_rows_near_R q_rows_clean q_rows_guards q_rows_kind q_rows_team q_rows_draw q_rows_near res H locs (F0 m 13 ls []) := by
    intro k13_q_known k13_q_rows_R k13_q_rows_nodes k13_q_rows_near_R k13_q_rows_clean k13_q_rows_guards k13_q_rows_kind k13_q_rows_team k13_q_rows_draw k13_q_rows_near H locs ls w hl hf
    unfold jX1_remember_13 at hf
    refine lv_aload_n C.1 C.2.1 dX1_remember_13 rfl (lv_at hl 0 rfl) ?_
    refine r_get C w inX1_remember_X1 2 rfl rfl 1 (by decide) lkX1_remember_17 rfl dX1_remember_14 ?_
    refine lv_aload_n C.1 C.2.1 dX1_remember_17 rfl (lv_at hl 0 rfl) ?_
    refine r_get C w inX1_remember_X1 2 rfl rfl 0 (by decide) lkX1_remember_9 rfl dX1_remember_18 ?_
    rcases sel6_in hf with ⟨hx21, hf⟩ | ⟨hx21, hf⟩ | ⟨hx21, hf⟩ | ⟨hx21, hf⟩ | ⟨hx21, hf⟩ | ⟨hx21, hf⟩
    · refine r_aald (v := (k13_q_rows_R 0)) C w 3 2 rfl rfl (by rw [hx21]; exact ⟨inb_in (by decide), rfl⟩) dX1_remember_21 ?_
      refine lv_aload_n C.1 C.2.1 dX1_remember_22 rfl (lv_at hl 1 rfl) ?_
      obtain ⟨r1, hc2, hf⟩ := bd hf
      refine call_Vv (ws' := (wX1_remember cI cL cS cH a_p1 a_p1_near a_this a_this_rows q_p1_nodes q_p1_clean q_p1_guards q_p1_kind q_p1_team q_p1_draw q_p1_near k13_q_known k13_q_rows_R (va_up k13_q_rows_nodes 0 r1.1) k13_q_rows_near_R (va_up k13_q_rows_clean 0 r1.2.1) (va_up k13_q_rows_guards 0 r1.2.2.1) (va_up k13_q_rows_kind 0 r1.2.2.2.1) (va_up k13_q_rows_team 0 r1.2.2.2.2.1) (va_up k13_q_rows_draw 0 r1.2.2.2.2.2.1) (va_up k13_q_rows_near 0 r1.2.2.2.2.2.2))) (rest := []) C w (mX5_become l D cI cL cS cH _ a_p1 a_p1_near (k13_q_rows_R 0) (k13_q_rows_near_R 0) q_p1_nodes q_p1_clean q_p1_guards q_p1_kind q_p1_team q_p1_draw q_p1_near (k13_q_rows_nodes 0) (k13_q_rows_clean 0) (k13_q_rows_guards 0) (k13_q_rows_kind 0) (k13_q_rows_team 0) (k13_q_rows_draw 0) (k13_q_rows_near 0) hc2) (cwV 1 C.2.2.2.2 gX1_remember_X5_become rfl rfl rfl (by decide +kernel) ⟨Nat.le_of_ble_eq_true rfl, Nat.le_of_ble_eq_true rfl⟩) [0, 1, 4, 5] [2, 3, 6, 7, 8, 9, 10, 11, 12, 13, 14, 15] 16 ⟨rfl, rfl, rfl, rfl, trivial⟩ ⟨rfl, rfl, rfl, rfl, trivial⟩ ⟨⟨_, rfl, rfl⟩, ⟨_, rfl, rfl⟩, ⟨_, rfl, rfl⟩, ⟨_, rfl, rfl⟩, ⟨_, rfl, rfl⟩, ⟨_, rfl, rfl⟩, ⟨_, rfl, rfl⟩, ⟨_, rfl, rfl⟩, ⟨_, rfl, rfl⟩, ⟨_, rfl, rfl⟩, ⟨_, rfl, rfl⟩, ⟨_, rfl, rfl⟩, trivial⟩ rfl (by decide) (by decide) (ci := 5) (q0 := 4) rfl rfl rfl hl.1 rfl (lv_room (Nat.le_of_ble_eq_true rfl)) dX1_remember_23 ⟨Nat.zero_le _, Nat.zero_le _⟩ (fun H locs w => ?_)
      refine lv_aload_n C.1 C.2.1 dX1_remember_26 rfl (lv_at hl 0 rfl) ?_
      refine lv_dup C.1 C.2.1 dX1_remember_27 rfl ?_
      refine r_get C w inX1_remember_X1 2 rfl rfl 0 (by decide) lkX1_remember_9 rfl dX1_remember_28 ?_
      refine lv_iconst (v := (1 : Int32)) C.1 C.2.1 dX1_remember_31 (by decide) ?_
      refine lv_iadd C.1 C.2.1 dX1_remember_32 ?_
      refine r_put (ws' := (wX1_remember cI cL cS cH a_p1 a_p1_near a_this a_this_rows q_p1_nodes q_p1_clean q_p1_guards q_p1_kind q_p1_team q_p1_draw q_p1_near (k13_q_known + (1 : Int32)) k13_q_rows_R (va_up k13_q_rows_nodes 0 r1.1) k13_q_rows_near_R (va_up k13_q_rows_clean 0 r1.2.1) (va_up k13_q_rows_guards 0 r1.2.2.1) (va_up k13_q_rows_kind 0 r1.2.2.2.1) (va_up k13_q_rows_team 0 r1.2.2.2.2.1) (va_up k13_q_rows_draw 0 r1.2.2.2.2.2.1) (va_up k13_q_rows_near 0 r1.2.2.2.2.2.2))) C w inX1_remember_X1 tyX1 tyX1_ok nmX1 2 rfl rfl 0 (by decide) lkX1_remember_9 rfl rfl rfl (Nat.le_of_ble_eq_true rfl) rfl dX1_remember_33 (fun H locs w => ?_)
      have hres := Option.some.inj hf
      subst hres
      exact ret_v C hr hlocks w dX1_remember_36
    · refine r_aald (v := (k13_q_rows_R 1)) C w 3 2 rfl rfl (by rw [hx21]; exact ⟨inb_in (by decide), rfl⟩) dX1_remember_21 ?_
      refine lv_aload_n C.1 C.2.1 dX1_remember_22 rfl (lv_at hl 1 rfl) ?_
      obtain ⟨r1, hc2, hf⟩ := bd hf
      refine call_Vv (ws' := (wX1_remember cI cL cS cH a_p1 a_p1_near a_this a_this_rows q_p1_nodes q_p1_clean q_p1_guards q_p1_kind q_p1_team q_p1_draw q_p1_near k13_q_known k13_q_rows_R (va_up k13_q_rows_nodes 1 r1.1) k13_q_rows_near_R (va_up k13_q_rows_clean 1 r1.2.1) (va_up k13_q_rows_guards 1 r1.2.2.1) (va_up k13_q_rows_kind 1 r1.2.2.2.1) (va_up k13_q_rows_team 1 r1.2.2.2.2.1) (va_up k13_q_rows_draw 1 r1.2.2.2.2.2.1) (va_up k13_q_rows_near 1 r1.2.2.2.2.2.2))) (rest := []) C w (mX5_become l D cI cL cS cH _ a_p1 a_p1_near (k13_q_rows_R 1) (k13_q_rows_near_R 1) q_p1_nodes q_p1_clean q_p1_guards q_p1_kind q_p1_team q_p1_draw q_p1_near (k13_q_rows_nodes 1) (k13_q_rows_clean 1) (k13_q_rows_guards 1) (k13_q_rows_kind 1) (k13_q_rows_team 1) (k13_q_rows_draw 1) (k13_q_rows_near 1) hc2) (cwV 1 C.2.2.2.2 gX1_remember_X5_become rfl rfl rfl (by decide +kernel) ⟨Nat.le_of_ble_eq_true rfl, Nat.le_of_ble_eq_true rfl⟩) [0, 1, 6, 7] [2, 3, 4, 5, 8, 9, 10, 11, 12, 13, 14, 15] 16 ⟨rfl, rfl, rfl, rfl, trivial⟩ ⟨rfl, rfl, rfl, rfl, trivial⟩ ⟨⟨_, rfl, rfl⟩, ⟨_, rfl, rfl⟩, ⟨_, rfl, rfl⟩, ⟨_, rfl, rfl⟩, ⟨_, rfl, rfl⟩, ⟨_, rfl, rfl⟩, ⟨_, rfl, rfl⟩, ⟨_, rfl, rfl⟩, ⟨_, rfl, rfl⟩, ⟨_, rfl, rfl⟩, ⟨_, rfl, rfl⟩, ⟨_, rfl, rfl⟩, trivial⟩ rfl (by decide) (by decide) (ci := 5) (q0 := 6) rfl rfl rfl hl.1 rfl (lv_room (Nat.le_of_ble_eq_true rfl)) dX1_remember_23 ⟨Nat.zero_le _, Nat.zero_le _⟩ (fun H locs w => ?_)
      refine lv_aload_n C.1 C.2.1 dX1_remember_26 rfl (lv_at hl 0 rfl) ?_
      refine lv_dup C.1 C.2.1 dX1_remember_27 rfl ?_
      refine r_get C w inX1_remember_X1 2 rfl rfl 0 (by decide) lkX1_remember_9 rfl dX1_remember_28 ?_
      refine lv_iconst (v := (1 : Int32)) C.1 C.2.1 dX1_remember_31 (by decide) ?_
      refine lv_iadd C.1 C.2.1 dX1_remember_32 ?_
      refine r_put (ws' := (wX1_remember cI cL cS cH a_p1 a_p1_near a_this a_this_rows q_p1_nodes q_p1_clean q_p1_guards q_p1_kind q_p1_team q_p1_draw q_p1_near (k13_q_known + (1 : Int32)) k13_q_rows_R (va_up k13_q_rows_nodes 1 r1.1) k13_q_rows_near_R (va_up k13_q_rows_clean 1 r1.2.1) (va_up k13_q_rows_guards 1 r1.2.2.1) (va_up k13_q_rows_kind 1 r1.2.2.2.1) (va_up k13_q_rows_team 1 r1.2.2.2.2.1) (va_up k13_q_rows_draw 1 r1.2.2.2.2.2.1) (va_up k13_q_rows_near 1 r1.2.2.2.2.2.2))) C w inX1_remember_X1 tyX1 tyX1_ok nmX1 2 rfl rfl 0 (by decide) lkX1_remember_9 rfl rfl rfl (Nat.le_of_ble_eq_true rfl) rfl dX1_remember_33 (fun H locs w => ?_)
      have hres := Option.some.inj hf
      subst hres
      exact ret_v C hr hlocks w dX1_remember_36
    · refine r_aald (v := (k13_q_rows_R 2)) C w 3 2 rfl rfl (by rw [hx21]; exact ⟨inb_in (by decide), rfl⟩) dX1_remember_21 ?_
      refine lv_aload_n C.1 C.2.1 dX1_remember_22 rfl (lv_at hl 1 rfl) ?_
      obtain ⟨r1, hc2, hf⟩ := bd hf
      refine call_Vv (ws' := (wX1_remember cI cL cS cH a_p1 a_p1_near a_this a_this_rows q_p1_nodes q_p1_clean q_p1_guards q_p1_kind q_p1_team q_p1_draw q_p1_near k13_q_known k13_q_rows_R (va_up k13_q_rows_nodes 2 r1.1) k13_q_rows_near_R (va_up k13_q_rows_clean 2 r1.2.1) (va_up k13_q_rows_guards 2 r1.2.2.1) (va_up k13_q_rows_kind 2 r1.2.2.2.1) (va_up k13_q_rows_team 2 r1.2.2.2.2.1) (va_up k13_q_rows_draw 2 r1.2.2.2.2.2.1) (va_up k13_q_rows_near 2 r1.2.2.2.2.2.2))) (rest := []) C w (mX5_become l D cI cL cS cH _ a_p1 a_p1_near (k13_q_rows_R 2) (k13_q_rows_near_R 2) q_p1_nodes q_p1_clean q_p1_guards q_p1_kind q_p1_team q_p1_draw q_p1_near (k13_q_rows_nodes 2) (k13_q_rows_clean 2) (k13_q_rows_guards 2) (k13_q_rows_kind 2) (k13_q_rows_team 2) (k13_q_rows_draw 2) (k13_q_rows_near 2) hc2) (cwV 1 C.2.2.2.2 gX1_remember_X5_become rfl rfl rfl (by decide +kernel) ⟨Nat.le_of_ble_eq_true rfl, Nat.le_of_ble_eq_true rfl⟩) [0, 1, 8, 9] [2, 3, 4, 5, 6, 7, 10, 11, 12, 13, 14, 15] 16 ⟨rfl, rfl, rfl, rfl, trivial⟩ ⟨rfl, rfl, rfl, rfl, trivial⟩ ⟨⟨_, rfl, rfl⟩, ⟨_, rfl, rfl⟩, ⟨_, rfl, rfl⟩, ⟨_, rfl, rfl⟩, ⟨_, rfl, rfl⟩, ⟨_, rfl, rfl⟩, ⟨_, rfl, rfl⟩, ⟨_, rfl, rfl⟩, ⟨_, rfl, rfl⟩, ⟨_, rfl, rfl⟩, ⟨_, rfl, rfl⟩, ⟨_, rfl, rfl⟩, trivial⟩ rfl (by decide) (by decide) (ci := 5) (q0 := 8) rfl rfl rfl hl.1 rfl (lv_room (Nat.le_of_ble_eq_true rfl)) dX1_remember_23 ⟨Nat.zero_le _, Nat.zero_le _⟩ (fun H locs w => ?_)
      refine lv_aload_n C.1 C.2.1 dX1_remember_26 rfl (lv_at hl 0 rfl) ?_
      refine lv_dup C.1 C.2.1 dX1_remember_27 rfl ?_
      refine r_get C w inX1_remember_X1 2 rfl rfl 0 (by decide) lkX1_remember_9 rfl dX1_remember_28 ?_
      refine lv_iconst (v := (1 : Int32)) C.1 C.2.1 dX1_remember_31 (by decide) ?_
      refine lv_iadd C.1 C.2.1 dX1_remember_32 ?_
      refine r_put (ws' := (wX1_remember cI cL cS cH a_p1 a_p1_near a_this a_this_rows q_p1_nodes q_p1_clean q_p1_guards q_p1_kind q_p1_team q_p1_draw q_p1_near (k13_q_known + (1 : Int32)) k13_q_rows_R (va_up k13_q_rows_nodes 2 r1.1) k13_q_rows_near_R (va_up k13_q_rows_clean 2 r1.2.1) (va_up k13_q_rows_guards 2 r1.2.2.1) (va_up k13_q_rows_kind 2 r1.2.2.2.1) (va_up k13_q_rows_team 2 r1.2.2.2.2.1) (va_up k13_q_rows_draw 2 r1.2.2.2.2.2.1) (va_up k13_q_rows_near 2 r1.2.2.2.2.2.2))) C w inX1_remember_X1 tyX1 tyX1_ok nmX1 2 rfl rfl 0 (by decide) lkX1_remember_9 rfl rfl rfl (Nat.le_of_ble_eq_true rfl) rfl dX1_remember_33 (fun H locs w => ?_)
      have hres := Option.some.inj hf
      subst hres
      exact ret_v C hr hlocks w dX1_remember_36
    · refine r_aald (v := (k13_q_rows_R 3)) C w 3 2 rfl rfl (by rw [hx21]; exact ⟨inb_in (by decide), rfl⟩) dX1_remember_21 ?_
      refine lv_aload_n C.1 C.2.1 dX1_remember_22 rfl (lv_at hl 1 rfl) ?_
      obtain ⟨r1, hc2, hf⟩ := bd hf
      refine call_Vv (ws' := (wX1_remember cI cL cS cH a_p1 a_p1_near a_this a_this_rows q_p1_nodes q_p1_clean q_p1_guards q_p1_kind q_p1_team q_p1_draw q_p1_near k13_q_known k13_q_rows_R (va_up k13_q_rows_nodes 3 r1.1) k13_q_rows_near_R (va_up k13_q_rows_clean 3 r1.2.1) (va_up k13_q_rows_guards 3 r1.2.2.1) (va_up k13_q_rows_kind 3 r1.2.2.2.1) (va_up k13_q_rows_team 3 r1.2.2.2.2.1) (va_up k13_q_rows_draw 3 r1.2.2.2.2.2.1) (va_up k13_q_rows_near 3 r1.2.2.2.2.2.2))) (rest := []) C w (mX5_become l D cI cL cS cH _ a_p1 a_p1_near (k13_q_rows_R 3) (k13_q_rows_near_R 3) q_p1_nodes q_p1_clean q_p1_guards q_p1_kind q_p1_team q_p1_draw q_p1_near (k13_q_rows_nodes 3) (k13_q_rows_clean 3) (k13_q_rows_guards 3) (k13_q_rows_kind 3) (k13_q_rows_team 3) (k13_q_rows_draw 3) (k13_q_rows_near 3) hc2) (cwV 1 C.2.2.2.2 gX1_remember_X5_become rfl rfl rfl (by decide +kernel) ⟨Nat.le_of_ble_eq_true rfl, Nat.le_of_ble_eq_true rfl⟩) [0, 1, 10, 11] [2, 3, 4, 5, 6, 7, 8, 9, 12, 13, 14, 15] 16 ⟨rfl, rfl, rfl, rfl, trivial⟩ ⟨rfl, rfl, rfl, rfl, trivial⟩ ⟨⟨_, rfl, rfl⟩, ⟨_, rfl, rfl⟩, ⟨_, rfl, rfl⟩, ⟨_, rfl, rfl⟩, ⟨_, rfl, rfl⟩, ⟨_, rfl, rfl⟩, ⟨_, rfl, rfl⟩, ⟨_, rfl, rfl⟩, ⟨_, rfl, rfl⟩, ⟨_, rfl, rfl⟩, ⟨_, rfl, rfl⟩, ⟨_, rfl, rfl⟩, trivial⟩ rfl (by decide) (by decide) (ci := 5) (q0 := 10) rfl rfl rfl hl.1 rfl (lv_room (Nat.le_of_ble_eq_true rfl)) dX1_remember_23 ⟨Nat.zero_le _, Nat.zero_le _⟩ (fun H locs w => ?_)
      refine lv_aload_n C.1 C.2.1 dX1_remember_26 rfl (lv_at hl 0 rfl) ?_
      refine lv_dup C.1 C.2.1 dX1_remember_27 rfl ?_
      refine r_get C w inX1_remember_X1 2 rfl rfl 0 (by decide) lkX1_remember_9 rfl dX1_remember_28 ?_
      refine lv_iconst (v := (1 : Int32)) C.1 C.2.1 dX1_remember_31 (by decide) ?_
      refine lv_iadd C.1 C.2.1 dX1_remember_32 ?_
      refine r_put (ws' := (wX1_remember cI cL cS cH a_p1 a_p1_near a_this a_this_rows q_p1_nodes q_p1_clean q_p1_guards q_p1_kind q_p1_team q_p1_draw q_p1_near (k13_q_known + (1 : Int32)) k13_q_rows_R (va_up k13_q_rows_nodes 3 r1.1) k13_q_rows_near_R (va_up k13_q_rows_clean 3 r1.2.1) (va_up k13_q_rows_guards 3 r1.2.2.1) (va_up k13_q_rows_kind 3 r1.2.2.2.1) (va_up k13_q_rows_team 3 r1.2.2.2.2.1) (va_up k13_q_rows_draw 3 r1.2.2.2.2.2.1) (va_up k13_q_rows_near 3 r1.2.2.2.2.2.2))) C w inX1_remember_X1 tyX1 tyX1_ok nmX1 2 rfl rfl 0 (by decide) lkX1_remember_9 rfl rfl rfl (Nat.le_of_ble_eq_true rfl) rfl dX1_remember_33 (fun H locs w => ?_)
      have hres := Option.some.inj hf
      subst hres
      exact ret_v C hr hlocks w dX1_remember_36
    · refine r_aald (v := (k13_q_rows_R 4)) C w 3 2 rfl rfl (by rw [hx21]; exact ⟨inb_in (by decide), rfl⟩) dX1_remember_21 ?_
      refine lv_aload_n C.1 C.2.1 dX1_remember_22 rfl (lv_at hl 1 rfl) ?_
      obtain ⟨r1, hc2, hf⟩ := bd hf
      refine call_Vv (ws' := (wX1_remember cI cL cS cH a_p1 a_p1_near a_this a_this_rows q_p1_nodes q_p1_clean q_p1_guards q_p1_kind q_p1_team q_p1_draw q_p1_near k13_q_known k13_q_rows_R (va_up k13_q_rows_nodes 4 r1.1) k13_q_rows_near_R (va_up k13_q_rows_clean 4 r1.2.1) (va_up k13_q_rows_guards 4 r1.2.2.1) (va_up k13_q_rows_kind 4 r1.2.2.2.1) (va_up k13_q_rows_team 4 r1.2.2.2.2.1) (va_up k13_q_rows_draw 4 r1.2.2.2.2.2.1) (va_up k13_q_rows_near 4 r1.2.2.2.2.2.2))) (rest := []) C w (mX5_become l D cI cL cS cH _ a_p1 a_p1_near (k13_q_rows_R 4) (k13_q_rows_near_R 4) q_p1_nodes q_p1_clean q_p1_guards q_p1_kind q_p1_team q_p1_draw q_p1_near (k13_q_rows_nodes 4) (k13_q_rows_clean 4) (k13_q_rows_guards 4) (k13_q_rows_kind 4) (k13_q_rows_team 4) (k13_q_rows_draw 4) (k13_q_rows_near 4) hc2) (cwV 1 C.2.2.2.2 gX1_remember_X5_become rfl rfl rfl (by decide +kernel) ⟨Nat.le_of_ble_eq_true rfl, Nat.le_of_ble_eq_true rfl⟩) [0, 1, 12, 13] [2, 3, 4, 5, 6, 7, 8, 9, 10, 11, 14, 15] 16 ⟨rfl, rfl, rfl, rfl, trivial⟩ ⟨rfl, rfl, rfl, rfl, trivial⟩ ⟨⟨_, rfl, rfl⟩, ⟨_, rfl, rfl⟩, ⟨_, rfl, rfl⟩, ⟨_, rfl, rfl⟩, ⟨_, rfl, rfl⟩, ⟨_, rfl, rfl⟩, ⟨_, rfl, rfl⟩, ⟨_, rfl, rfl⟩, ⟨_, rfl, rfl⟩, ⟨_, rfl, rfl⟩, ⟨_, rfl, rfl⟩, ⟨_, rfl, rfl⟩, trivial⟩ rfl (by decide) (by decide) (ci := 5) (q0 := 12) rfl rfl rfl hl.1 rfl (lv_room (Nat.le_of_ble_eq_true rfl)) dX1_remember_23 ⟨Nat.zero_le _, Nat.zero_le _⟩ (fun H locs w => ?_)
      refine lv_aload_n C.1 C.2.1 dX1_remember_26 rfl (lv_at hl 0 rfl) ?_
      refine lv_dup C.1 C.2.1 dX1_remember_27 rfl ?_
      refine r_get C w inX1_remember_X1 2 rfl rfl 0 (by decide) lkX1_remember_9 rfl dX1_remember_28 ?_
      refine lv_iconst (v := (1 : Int32)) C.1 C.2.1 dX1_remember_31 (by decide) ?_
      refine lv_iadd C.1 C.2.1 dX1_remember_32 ?_
      refine r_put (ws' := (wX1_remember cI cL cS cH a_p1 a_p1_near a_this a_this_rows q_p1_nodes q_p1_clean q_p1_guards q_p1_kind q_p1_team q_p1_draw q_p1_near (k13_q_known + (1 : Int32)) k13_q_rows_R (va_up k13_q_rows_nodes 4 r1.1) k13_q_rows_near_R (va_up k13_q_rows_clean 4 r1.2.1) (va_up k13_q_rows_guards 4 r1.2.2.1) (va_up k13_q_rows_kind 4 r1.2.2.2.1) (va_up k13_q_rows_team 4 r1.2.2.2.2.1) (va_up k13_q_rows_draw 4 r1.2.2.2.2.2.1) (va_up k13_q_rows_near 4 r1.2.2.2.2.2.2))) C w inX1_remember_X1 tyX1 tyX1_ok nmX1 2 rfl rfl 0 (by decide) lkX1_remember_9 rfl rfl rfl (Nat.le_of_ble_eq_true rfl) rfl dX1_remember_33 (fun H locs w => ?_)
      have hres := Option.some.inj hf
      subst hres
      exact ret_v C hr hlocks w dX1_remember_36
    · refine r_aald (v := (k13_q_rows_R 5)) C w 3 2 rfl rfl (by rw [hx21]; exact ⟨inb_in (by decide), rfl⟩) dX1_remember_21 ?_
      refine lv_aload_n C.1 C.2.1 dX1_remember_22 rfl (lv_at hl 1 rfl) ?_
      obtain ⟨r1, hc2, hf⟩ := bd hf
      refine call_Vv (ws' := (wX1_remember cI cL cS cH a_p1 a_p1_near a_this a_this_rows q_p1_nodes q_p1_clean q_p1_guards q_p1_kind q_p1_team q_p1_draw q_p1_near k13_q_known k13_q_rows_R (va_up k13_q_rows_nodes 5 r1.1) k13_q_rows_near_R (va_up k13_q_rows_clean 5 r1.2.1) (va_up k13_q_rows_guards 5 r1.2.2.1) (va_up k13_q_rows_kind 5 r1.2.2.2.1) (va_up k13_q_rows_team 5 r1.2.2.2.2.1) (va_up k13_q_rows_draw 5 r1.2.2.2.2.2.1) (va_up k13_q_rows_near 5 r1.2.2.2.2.2.2))) (rest := []) C w (mX5_become l D cI cL cS cH _ a_p1 a_p1_near (k13_q_rows_R 5) (k13_q_rows_near_R 5) q_p1_nodes q_p1_clean q_p1_guards q_p1_kind q_p1_team q_p1_draw q_p1_near (k13_q_rows_nodes 5) (k13_q_rows_clean 5) (k13_q_rows_guards 5) (k13_q_rows_kind 5) (k13_q_rows_team 5) (k13_q_rows_draw 5) (k13_q_rows_near 5) hc2) (cwV 1 C.2.2.2.2 gX1_remember_X5_become rfl rfl rfl (by decide +kernel) ⟨Nat.le_of_ble_eq_true rfl, Nat.le_of_ble_eq_true rfl⟩) [0, 1, 14, 15] [2, 3, 4, 5, 6, 7, 8, 9, 10, 11, 12, 13] 16 ⟨rfl, rfl, rfl, rfl, trivial⟩ ⟨rfl, rfl, rfl, rfl, trivial⟩ ⟨⟨_, rfl, rfl⟩, ⟨_, rfl, rfl⟩, ⟨_, rfl, rfl⟩, ⟨_, rfl, rfl⟩, ⟨_, rfl, rfl⟩, ⟨_, rfl, rfl⟩, ⟨_, rfl, rfl⟩, ⟨_, rfl, rfl⟩, ⟨_, rfl, rfl⟩, ⟨_, rfl, rfl⟩, ⟨_, rfl, rfl⟩, ⟨_, rfl, rfl⟩, trivial⟩ rfl (by decide) (by decide) (ci := 5) (q0 := 14) rfl rfl rfl hl.1 rfl (lv_room (Nat.le_of_ble_eq_true rfl)) dX1_remember_23 ⟨Nat.zero_le _, Nat.zero_le _⟩ (fun H locs w => ?_)
      refine lv_aload_n C.1 C.2.1 dX1_remember_26 rfl (lv_at hl 0 rfl) ?_
      refine lv_dup C.1 C.2.1 dX1_remember_27 rfl ?_
      refine r_get C w inX1_remember_X1 2 rfl rfl 0 (by decide) lkX1_remember_9 rfl dX1_remember_28 ?_
      refine lv_iconst (v := (1 : Int32)) C.1 C.2.1 dX1_remember_31 (by decide) ?_
      refine lv_iadd C.1 C.2.1 dX1_remember_32 ?_
      refine r_put (ws' := (wX1_remember cI cL cS cH a_p1 a_p1_near a_this a_this_rows q_p1_nodes q_p1_clean q_p1_guards q_p1_kind q_p1_team q_p1_draw q_p1_near (k13_q_known + (1 : Int32)) k13_q_rows_R (va_up k13_q_rows_nodes 5 r1.1) k13_q_rows_near_R (va_up k13_q_rows_clean 5 r1.2.1) (va_up k13_q_rows_guards 5 r1.2.2.1) (va_up k13_q_rows_kind 5 r1.2.2.2.1) (va_up k13_q_rows_team 5 r1.2.2.2.2.1) (va_up k13_q_rows_draw 5 r1.2.2.2.2.2.1) (va_up k13_q_rows_near 5 r1.2.2.2.2.2.2))) C w inX1_remember_X1 tyX1 tyX1_ok nmX1 2 rfl rfl 0 (by decide) lkX1_remember_9 rfl rfl rfl (Nat.le_of_ble_eq_true rfl) rfl dX1_remember_33 (fun H locs w => ?_)
      have hres := Option.some.inj hf
      subst hres
      exact ret_v C hr hlocks w dX1_remember_36
  refine lv_aload_n C.1 C.2.1 dX1_remember_0 rfl (lv_at hl 0 rfl) ?_
  refine r_get C w inX1_remember_X1 2 rfl rfl 0 (by decide) lkX1_remember_9 rfl dX1_remember_1 ?_
  refine lv_bipush (v := (6 : Int32)) C.1 C.2.1 dX1_remember_4 (by decide) ?_
  refine lv_icmp_ne (tgt := 13) C.1 C.2.1 dX1_remember_6 (by decide) (fun hq3 => ?_) (fun hq3 => ?_)
  · have hf := ite_f hf hq3
    exact hj13 q_known q_rows_R q_rows_nodes q_rows_near_R q_rows_clean q_rows_guards q_rows_kind q_rows_team q_rows_draw q_rows_near _ _ _ w (lv_sub hl [0, 1] rfl) hf
  · have hf := ite_t hf hq3
    refine lv_aload_n C.1 C.2.1 dX1_remember_9 rfl (lv_at hl 0 rfl) ?_
    obtain ⟨r4, hc5, hf⟩ := bd hf
    refine call_Vv (ws' := (wX1_remember cI cL cS cH a_p1 a_p1_near a_this a_this_rows q_p1_nodes q_p1_clean q_p1_guards q_p1_kind q_p1_team q_p1_draw q_p1_near r4.1 r4.2.1 r4.2.2.1 r4.2.2.2.1 r4.2.2.2.2.1 r4.2.2.2.2.2.1 r4.2.2.2.2.2.2.1 r4.2.2.2.2.2.2.2.1 r4.2.2.2.2.2.2.2.2.1 r4.2.2.2.2.2.2.2.2.2)) (rest := []) C w (mX1_loseOldest l D cI cL cS cH _ a_this a_this_rows q_known q_rows_R q_rows_nodes q_rows_near_R q_rows_clean q_rows_guards q_rows_kind q_rows_team q_rows_draw q_rows_near hc5) (cwV 0 C.2.2.2.2 gX1_remember_X1_loseOldest rfl rfl rfl (by decide +kernel) ⟨Nat.le_of_ble_eq_true rfl, Nat.le_of_ble_eq_true rfl⟩) [2, 3, 4, 5, 6, 7, 8, 9, 10, 11, 12, 13, 14, 15] [0, 1] 16 ⟨rfl, rfl, rfl, rfl, rfl, rfl, rfl, rfl, rfl, rfl, rfl, rfl, rfl, rfl, trivial⟩ ⟨rfl, rfl, rfl, rfl, rfl, rfl, rfl, rfl, rfl, rfl, rfl, rfl, rfl, rfl, trivial⟩ ⟨⟨_, rfl, rfl⟩, ⟨_, rfl, rfl⟩, trivial⟩ rfl (by decide) (by decide) (ci := 1) (q0 := 2) rfl rfl rfl hl.1 rfl (lv_room (Nat.le_of_ble_eq_true rfl)) dX1_remember_10 ⟨Nat.zero_le _, Nat.zero_le _⟩ (fun H locs w => ?_)
    exact hj13 r4.1 r4.2.1 r4.2.2.1 r4.2.2.2.1 r4.2.2.2.2.1 r4.2.2.2.2.2.1 r4.2.2.2.2.2.2.1 r4.2.2.2.2.2.2.2.1 r4.2.2.2.2.2.2.2.2.1 r4.2.2.2.2.2.2.2.2.2 _ _ _ w (lv_sub hl [0, 1] rfl) hf

set_option maxRecDepth 100000 in
theorem inX1_giveBack_X1 : ∀ w ∈ u_ws RX1 TX1 2, w ∈ wsX1_giveBack := by decide +kernel
set_option maxRecDepth 100000 in
theorem lkX1_giveBack_9 : Cond.fieldLink RX1 9 "CleanNets$Past" "known" "I" ∈ wsX1_giveBack := by decide +kernel
set_option maxRecDepth 100000 in
theorem lkX1_giveBack_17 : Cond.fieldLink RX1 17 "CleanNets$Past" "rows" "[LCleanNets$Standing;" ∈ wsX1_giveBack := by decide +kernel
abbrev wX1_giveBack (cI cL cS cH : ClassId) (a_p1 : Nat) (a_p1_near : Nat) (a_this : Nat) (a_this_rows : Nat) (q_p1_nodes : Int32) (q_p1_clean : Int32) (q_p1_guards : Int32) (q_p1_kind : Int32) (q_p1_team : Int32) (q_p1_draw : Int32) (q_p1_near : Nat → Int32) (q_known : Int32) (q_rows_R : Nat → Nat) (q_rows_nodes : Nat → Int32) (q_rows_near_R : Nat → Nat) (q_rows_clean : Nat → Int32) (q_rows_guards : Nat → Int32) (q_rows_kind : Nat → Int32) (q_rows_team : Nat → Int32) (q_rows_draw : Nat → Int32) (q_rows_near : Nat → Nat → Int32) : va_W := [(a_p1, .inr (5, [.int q_p1_nodes, .ref a_p1_near, .int q_p1_clean, .int q_p1_guards, .int q_p1_kind, .int q_p1_team, .int q_p1_draw])),
  (a_p1_near, .inl (cI, 7, .inl q_p1_near)),
  (a_this, .inr (1, [.int q_known, .ref a_this_rows])),
  (a_this_rows, .inl (cS, 6, .inr (.inr (.inr (.inr (fun k => some (q_rows_R k))))))),
  ((q_rows_R 0), .inr (5, [.int (q_rows_nodes 0), .ref (q_rows_near_R 0), .int (q_rows_clean 0), .int (q_rows_guards 0), .int (q_rows_kind 0), .int (q_rows_team 0), .int (q_rows_draw 0)])),
  ((q_rows_near_R 0), .inl (cI, 7, .inl (q_rows_near 0))),
  ((q_rows_R 1), .inr (5, [.int (q_rows_nodes 1), .ref (q_rows_near_R 1), .int (q_rows_clean 1), .int (q_rows_guards 1), .int (q_rows_kind 1), .int (q_rows_team 1), .int (q_rows_draw 1)])),
  ((q_rows_near_R 1), .inl (cI, 7, .inl (q_rows_near 1))),
  ((q_rows_R 2), .inr (5, [.int (q_rows_nodes 2), .ref (q_rows_near_R 2), .int (q_rows_clean 2), .int (q_rows_guards 2), .int (q_rows_kind 2), .int (q_rows_team 2), .int (q_rows_draw 2)])),
  ((q_rows_near_R 2), .inl (cI, 7, .inl (q_rows_near 2))),
  ((q_rows_R 3), .inr (5, [.int (q_rows_nodes 3), .ref (q_rows_near_R 3), .int (q_rows_clean 3), .int (q_rows_guards 3), .int (q_rows_kind 3), .int (q_rows_team 3), .int (q_rows_draw 3)])),
  ((q_rows_near_R 3), .inl (cI, 7, .inl (q_rows_near 3))),
  ((q_rows_R 4), .inr (5, [.int (q_rows_nodes 4), .ref (q_rows_near_R 4), .int (q_rows_clean 4), .int (q_rows_guards 4), .int (q_rows_kind 4), .int (q_rows_team 4), .int (q_rows_draw 4)])),
  ((q_rows_near_R 4), .inl (cI, 7, .inl (q_rows_near 4))),
  ((q_rows_R 5), .inr (5, [.int (q_rows_nodes 5), .ref (q_rows_near_R 5), .int (q_rows_clean 5), .int (q_rows_guards 5), .int (q_rows_kind 5), .int (q_rows_team 5), .int (q_rows_draw 5)])),
  ((q_rows_near_R 5), .inl (cI, 7, .inl (q_rows_near 5)))]
def fX1_giveBack (q_p1_nodes : Int32) (q_p1_clean : Int32) (q_p1_guards : Int32) (q_p1_kind : Int32) (q_p1_team : Int32) (q_p1_draw : Int32) (q_p1_near : Nat → Int32) (q_known : Int32) (q_rows_nodes : Nat → Int32) (q_rows_clean : Nat → Int32) (q_rows_guards : Nat → Int32) (q_rows_kind : Nat → Int32) (q_rows_team : Nat → Int32) (q_rows_draw : Nat → Int32) (q_rows_near : Nat → Nat → Int32)  : Option (Int32 × Int32 × Int32 × Int32 × Int32 × Int32 × Int32 × (Nat → Int32) × Int32) := (if q_known = 0 then some ((0 : Int32), q_p1_nodes, q_p1_clean, q_p1_guards, q_p1_kind, q_p1_team, q_p1_draw, q_p1_near, q_known) else sel6 (q_known - (1 : Int32)) (fun k28 => Option.bind (fX5_become (q_rows_nodes k28) (q_rows_clean k28) (q_rows_guards k28) (q_rows_kind k28) (q_rows_team k28) (q_rows_draw k28) (q_rows_near k28) q_p1_nodes q_p1_clean q_p1_guards q_p1_kind q_p1_team q_p1_draw q_p1_near) (fun r2 => some ((1 : Int32), r2.1, r2.2.1, r2.2.2.1, r2.2.2.2.1, r2.2.2.2.2.1, r2.2.2.2.2.2.1, r2.2.2.2.2.2.2, (q_known - (1 : Int32))))))
set_option maxHeartbeats 4000000 in
set_option maxRecDepth 100000 in
theorem mX1_giveBack (l : Launch) (D : vg) (cI cL cS cH : ClassId) (sz : Nat) (a_p1 : Nat) (a_p1_near : Nat) (a_this : Nat) (a_this_rows : Nat) (q_p1_nodes : Int32) (q_p1_clean : Int32) (q_p1_guards : Int32) (q_p1_kind : Int32) (q_p1_team : Int32) (q_p1_draw : Int32) (q_p1_near : Nat → Int32) (q_known : Int32) (q_rows_R : Nat → Nat) (q_rows_nodes : Nat → Int32) (q_rows_near_R : Nat → Nat) (q_rows_clean : Nat → Int32) (q_rows_guards : Nat → Int32) (q_rows_kind : Nat → Int32) (q_rows_team : Nat → Int32) (q_rows_draw : Nat → Int32) (q_rows_near : Nat → Nat → Int32) {res : Int32 × Int32 × Int32 × Int32 × Int32 × Int32 × Int32 × (Nat → Int32) × Int32} (hf : fX1_giveBack q_p1_nodes q_p1_clean q_p1_guards q_p1_kind q_p1_team q_p1_draw q_p1_near q_known q_rows_nodes q_rows_clean q_rows_guards q_rows_kind q_rows_team q_rows_draw q_rows_near = some res) : cti l yX1_giveBack wsX1_giveBack ({ frames := 2, cells := 0, slots := 0, locals := 61 }) D (ty4 cI cL cS cH) sz [.ref a_this, .ref a_p1] (wX1_giveBack cI cL cS cH a_p1 a_p1_near a_this a_this_rows q_p1_nodes q_p1_clean q_p1_guards q_p1_kind q_p1_team q_p1_draw q_p1_near q_known q_rows_R q_rows_nodes q_rows_near_R q_rows_clean q_rows_guards q_rows_kind q_rows_team q_rows_draw q_rows_near) (wX1_giveBack cI cL cS cH a_p1 a_p1_near a_this a_this_rows res.2.1 res.2.2.1 res.2.2.2.1 res.2.2.2.2.1 res.2.2.2.2.2.1 res.2.2.2.2.2.2.1 res.2.2.2.2.2.2.2.1 res.2.2.2.2.2.2.2.2 q_rows_R q_rows_nodes q_rows_near_R q_rows_clean q_rows_guards q_rows_kind q_rows_team q_rows_draw q_rows_near) res.1 := by
  refine Met.ofW (cc := cX1_giveBack) (maxL := 2) (ret := (some .boolean)) (by decide) rfl ?_
  intro p e s m args below meth c s₁ B hml hv
  obtain ⟨rfl, hpre⟩ := hv
  obtain rfl := hpre.1
  have C : CallFix p m c cX1_giveBack 2 s _ wsX1_giveBack RX1 := ⟨B.exec, B.bytes, hml, findClass_of_methodNamed B.named, atoms_spec (ws := wsX1_giveBack) B.pre⟩
  have hr := B.returns
  have hlocks := B.notSynchronized
  have w := wd_start hpre
  clear hpre B
  have hl := lv_entry ([.ref a_this, .ref a_p1]) (n := 2) (Nat.le_of_ble_eq_true rfl)
  rw [lg_entry_eq]
  generalize (lg_sl ([.ref a_this, .ref a_p1]) ++ List.replicate (2 - (lg_sl ([.ref a_this, .ref a_p1])).length) Slot.unset).toArray = ls at hl ⊢
  have hl : lv_has ls 2 [(0, .ref a_this), (1, .ref a_p1)] := hl
  unfold fX1_giveBack at hf
  refine lv_aload_n C.1 C.2.1 dX1_giveBack_0 rfl (lv_at hl 0 rfl) ?_
  refine r_get C w inX1_giveBack_X1 2 rfl rfl 0 (by decide) lkX1_giveBack_9 rfl dX1_giveBack_1 ?_
  refine lv_if_ne (tgt := 9) C.1 C.2.1 dX1_giveBack_4 (by decide) (fun hq1 => ?_) (fun hq1 => ?_)
  · have hf := ite_f hf hq1
    refine lv_aload_n C.1 C.2.1 dX1_giveBack_9 rfl (lv_at hl 0 rfl) ?_
    refine lv_dup C.1 C.2.1 dX1_giveBack_10 rfl ?_
    refine r_get C w inX1_giveBack_X1 2 rfl rfl 0 (by decide) lkX1_giveBack_9 rfl dX1_giveBack_11 ?_
    refine lv_iconst (v := (1 : Int32)) C.1 C.2.1 dX1_giveBack_14 (by decide) ?_
    refine lv_isub C.1 C.2.1 dX1_giveBack_15 ?_
    refine r_put (ws' := (wX1_giveBack cI cL cS cH a_p1 a_p1_near a_this a_this_rows q_p1_nodes q_p1_clean q_p1_guards q_p1_kind q_p1_team q_p1_draw q_p1_near (q_known - (1 : Int32)) q_rows_R q_rows_nodes q_rows_near_R q_rows_clean q_rows_guards q_rows_kind q_rows_team q_rows_draw q_rows_near)) C w inX1_giveBack_X1 tyX1 tyX1_ok nmX1 2 rfl rfl 0 (by decide) lkX1_giveBack_9 rfl rfl rfl (Nat.le_of_ble_eq_true rfl) rfl dX1_giveBack_16 (fun H locs w => ?_)
    refine lv_aload_n C.1 C.2.1 dX1_giveBack_19 rfl (lv_at hl 1 rfl) ?_
    refine lv_aload_n C.1 C.2.1 dX1_giveBack_20 rfl (lv_at hl 0 rfl) ?_
    refine r_get C w inX1_giveBack_X1 2 rfl rfl 1 (by decide) lkX1_giveBack_17 rfl dX1_giveBack_21 ?_
    refine lv_aload_n C.1 C.2.1 dX1_giveBack_24 rfl (lv_at hl 0 rfl) ?_
    refine r_get C w inX1_giveBack_X1 2 rfl rfl 0 (by decide) lkX1_giveBack_9 rfl dX1_giveBack_25 ?_
    rcases sel6_in hf with ⟨hx28, hf⟩ | ⟨hx28, hf⟩ | ⟨hx28, hf⟩ | ⟨hx28, hf⟩ | ⟨hx28, hf⟩ | ⟨hx28, hf⟩
    · refine r_aald (v := (q_rows_R 0)) C w 3 2 rfl rfl (by rw [hx28]; exact ⟨inb_in (by decide), rfl⟩) dX1_giveBack_28 ?_
      obtain ⟨r2, hc3, hf⟩ := bd hf
      refine call_Vv (ws' := (wX1_giveBack cI cL cS cH a_p1 a_p1_near a_this a_this_rows r2.1 r2.2.1 r2.2.2.1 r2.2.2.2.1 r2.2.2.2.2.1 r2.2.2.2.2.2.1 r2.2.2.2.2.2.2 (q_known - (1 : Int32)) q_rows_R q_rows_nodes q_rows_near_R q_rows_clean q_rows_guards q_rows_kind q_rows_team q_rows_draw q_rows_near)) (rest := []) C w (mX5_become l D cI cL cS cH _ (q_rows_R 0) (q_rows_near_R 0) a_p1 a_p1_near (q_rows_nodes 0) (q_rows_clean 0) (q_rows_guards 0) (q_rows_kind 0) (q_rows_team 0) (q_rows_draw 0) (q_rows_near 0) q_p1_nodes q_p1_clean q_p1_guards q_p1_kind q_p1_team q_p1_draw q_p1_near hc3) (cwV 1 C.2.2.2.2 gX1_giveBack_X5_become rfl rfl rfl (by decide +kernel) ⟨Nat.le_of_ble_eq_true rfl, Nat.le_of_ble_eq_true rfl⟩) [4, 5, 0, 1] [2, 3, 6, 7, 8, 9, 10, 11, 12, 13, 14, 15] 16 ⟨rfl, rfl, rfl, rfl, trivial⟩ ⟨rfl, rfl, rfl, rfl, trivial⟩ ⟨⟨_, rfl, rfl⟩, ⟨_, rfl, rfl⟩, ⟨_, rfl, rfl⟩, ⟨_, rfl, rfl⟩, ⟨_, rfl, rfl⟩, ⟨_, rfl, rfl⟩, ⟨_, rfl, rfl⟩, ⟨_, rfl, rfl⟩, ⟨_, rfl, rfl⟩, ⟨_, rfl, rfl⟩, ⟨_, rfl, rfl⟩, ⟨_, rfl, rfl⟩, trivial⟩ rfl (by decide) (by decide) (ci := 5) (q0 := 0) rfl rfl rfl hl.1 rfl (lv_room (Nat.le_of_ble_eq_true rfl)) dX1_giveBack_29 ⟨Nat.zero_le _, Nat.zero_le _⟩ (fun H locs w => ?_)
      refine lv_iconst (v := (1 : Int32)) C.1 C.2.1 dX1_giveBack_32 (by decide) ?_
      have hres := Option.some.inj hf
      subst hres
      exact ret_z C hr hlocks w (by decide) rfl dX1_giveBack_33
    · refine r_aald (v := (q_rows_R 1)) C w 3 2 rfl rfl (by rw [hx28]; exact ⟨inb_in (by decide), rfl⟩) dX1_giveBack_28 ?_
      obtain ⟨r2, hc3, hf⟩ := bd hf
      refine call_Vv (ws' := (wX1_giveBack cI cL cS cH a_p1 a_p1_near a_this a_this_rows r2.1 r2.2.1 r2.2.2.1 r2.2.2.2.1 r2.2.2.2.2.1 r2.2.2.2.2.2.1 r2.2.2.2.2.2.2 (q_known - (1 : Int32)) q_rows_R q_rows_nodes q_rows_near_R q_rows_clean q_rows_guards q_rows_kind q_rows_team q_rows_draw q_rows_near)) (rest := []) C w (mX5_become l D cI cL cS cH _ (q_rows_R 1) (q_rows_near_R 1) a_p1 a_p1_near (q_rows_nodes 1) (q_rows_clean 1) (q_rows_guards 1) (q_rows_kind 1) (q_rows_team 1) (q_rows_draw 1) (q_rows_near 1) q_p1_nodes q_p1_clean q_p1_guards q_p1_kind q_p1_team q_p1_draw q_p1_near hc3) (cwV 1 C.2.2.2.2 gX1_giveBack_X5_become rfl rfl rfl (by decide +kernel) ⟨Nat.le_of_ble_eq_true rfl, Nat.le_of_ble_eq_true rfl⟩) [6, 7, 0, 1] [2, 3, 4, 5, 8, 9, 10, 11, 12, 13, 14, 15] 16 ⟨rfl, rfl, rfl, rfl, trivial⟩ ⟨rfl, rfl, rfl, rfl, trivial⟩ ⟨⟨_, rfl, rfl⟩, ⟨_, rfl, rfl⟩, ⟨_, rfl, rfl⟩, ⟨_, rfl, rfl⟩, ⟨_, rfl, rfl⟩, ⟨_, rfl, rfl⟩, ⟨_, rfl, rfl⟩, ⟨_, rfl, rfl⟩, ⟨_, rfl, rfl⟩, ⟨_, rfl, rfl⟩, ⟨_, rfl, rfl⟩, ⟨_, rfl, rfl⟩, trivial⟩ rfl (by decide) (by decide) (ci := 5) (q0 := 0) rfl rfl rfl hl.1 rfl (lv_room (Nat.le_of_ble_eq_true rfl)) dX1_giveBack_29 ⟨Nat.zero_le _, Nat.zero_le _⟩ (fun H locs w => ?_)
      refine lv_iconst (v := (1 : Int32)) C.1 C.2.1 dX1_giveBack_32 (by decide) ?_
      have hres := Option.some.inj hf
      subst hres
      exact ret_z C hr hlocks w (by decide) rfl dX1_giveBack_33
    · refine r_aald (v := (q_rows_R 2)) C w 3 2 rfl rfl (by rw [hx28]; exact ⟨inb_in (by decide), rfl⟩) dX1_giveBack_28 ?_
      obtain ⟨r2, hc3, hf⟩ := bd hf
      refine call_Vv (ws' := (wX1_giveBack cI cL cS cH a_p1 a_p1_near a_this a_this_rows r2.1 r2.2.1 r2.2.2.1 r2.2.2.2.1 r2.2.2.2.2.1 r2.2.2.2.2.2.1 r2.2.2.2.2.2.2 (q_known - (1 : Int32)) q_rows_R q_rows_nodes q_rows_near_R q_rows_clean q_rows_guards q_rows_kind q_rows_team q_rows_draw q_rows_near)) (rest := []) C w (mX5_become l D cI cL cS cH _ (q_rows_R 2) (q_rows_near_R 2) a_p1 a_p1_near (q_rows_nodes 2) (q_rows_clean 2) (q_rows_guards 2) (q_rows_kind 2) (q_rows_team 2) (q_rows_draw 2) (q_rows_near 2) q_p1_nodes q_p1_clean q_p1_guards q_p1_kind q_p1_team q_p1_draw q_p1_near hc3) (cwV 1 C.2.2.2.2 gX1_giveBack_X5_become rfl rfl rfl (by decide +kernel) ⟨Nat.le_of_ble_eq_true rfl, Nat.le_of_ble_eq_true rfl⟩) [8, 9, 0, 1] [2, 3, 4, 5, 6, 7, 10, 11, 12, 13, 14, 15] 16 ⟨rfl, rfl, rfl, rfl, trivial⟩ ⟨rfl, rfl, rfl, rfl, trivial⟩ ⟨⟨_, rfl, rfl⟩, ⟨_, rfl, rfl⟩, ⟨_, rfl, rfl⟩, ⟨_, rfl, rfl⟩, ⟨_, rfl, rfl⟩, ⟨_, rfl, rfl⟩, ⟨_, rfl, rfl⟩, ⟨_, rfl, rfl⟩, ⟨_, rfl, rfl⟩, ⟨_, rfl, rfl⟩, ⟨_, rfl, rfl⟩, ⟨_, rfl, rfl⟩, trivial⟩ rfl (by decide) (by decide) (ci := 5) (q0 := 0) rfl rfl rfl hl.1 rfl (lv_room (Nat.le_of_ble_eq_true rfl)) dX1_giveBack_29 ⟨Nat.zero_le _, Nat.zero_le _⟩ (fun H locs w => ?_)
      refine lv_iconst (v := (1 : Int32)) C.1 C.2.1 dX1_giveBack_32 (by decide) ?_
      have hres := Option.some.inj hf
      subst hres
      exact ret_z C hr hlocks w (by decide) rfl dX1_giveBack_33
    · refine r_aald (v := (q_rows_R 3)) C w 3 2 rfl rfl (by rw [hx28]; exact ⟨inb_in (by decide), rfl⟩) dX1_giveBack_28 ?_
      obtain ⟨r2, hc3, hf⟩ := bd hf
      refine call_Vv (ws' := (wX1_giveBack cI cL cS cH a_p1 a_p1_near a_this a_this_rows r2.1 r2.2.1 r2.2.2.1 r2.2.2.2.1 r2.2.2.2.2.1 r2.2.2.2.2.2.1 r2.2.2.2.2.2.2 (q_known - (1 : Int32)) q_rows_R q_rows_nodes q_rows_near_R q_rows_clean q_rows_guards q_rows_kind q_rows_team q_rows_draw q_rows_near)) (rest := []) C w (mX5_become l D cI cL cS cH _ (q_rows_R 3) (q_rows_near_R 3) a_p1 a_p1_near (q_rows_nodes 3) (q_rows_clean 3) (q_rows_guards 3) (q_rows_kind 3) (q_rows_team 3) (q_rows_draw 3) (q_rows_near 3) q_p1_nodes q_p1_clean q_p1_guards q_p1_kind q_p1_team q_p1_draw q_p1_near hc3) (cwV 1 C.2.2.2.2 gX1_giveBack_X5_become rfl rfl rfl (by decide +kernel) ⟨Nat.le_of_ble_eq_true rfl, Nat.le_of_ble_eq_true rfl⟩) [10, 11, 0, 1] [2, 3, 4, 5, 6, 7, 8, 9, 12, 13, 14, 15] 16 ⟨rfl, rfl, rfl, rfl, trivial⟩ ⟨rfl, rfl, rfl, rfl, trivial⟩ ⟨⟨_, rfl, rfl⟩, ⟨_, rfl, rfl⟩, ⟨_, rfl, rfl⟩, ⟨_, rfl, rfl⟩, ⟨_, rfl, rfl⟩, ⟨_, rfl, rfl⟩, ⟨_, rfl, rfl⟩, ⟨_, rfl, rfl⟩, ⟨_, rfl, rfl⟩, ⟨_, rfl, rfl⟩, ⟨_, rfl, rfl⟩, ⟨_, rfl, rfl⟩, trivial⟩ rfl (by decide) (by decide) (ci := 5) (q0 := 0) rfl rfl rfl hl.1 rfl (lv_room (Nat.le_of_ble_eq_true rfl)) dX1_giveBack_29 ⟨Nat.zero_le _, Nat.zero_le _⟩ (fun H locs w => ?_)
      refine lv_iconst (v := (1 : Int32)) C.1 C.2.1 dX1_giveBack_32 (by decide) ?_
      have hres := Option.some.inj hf
      subst hres
      exact ret_z C hr hlocks w (by decide) rfl dX1_giveBack_33
    · refine r_aald (v := (q_rows_R 4)) C w 3 2 rfl rfl (by rw [hx28]; exact ⟨inb_in (by decide), rfl⟩) dX1_giveBack_28 ?_
      obtain ⟨r2, hc3, hf⟩ := bd hf
      refine call_Vv (ws' := (wX1_giveBack cI cL cS cH a_p1 a_p1_near a_this a_this_rows r2.1 r2.2.1 r2.2.2.1 r2.2.2.2.1 r2.2.2.2.2.1 r2.2.2.2.2.2.1 r2.2.2.2.2.2.2 (q_known - (1 : Int32)) q_rows_R q_rows_nodes q_rows_near_R q_rows_clean q_rows_guards q_rows_kind q_rows_team q_rows_draw q_rows_near)) (rest := []) C w (mX5_become l D cI cL cS cH _ (q_rows_R 4) (q_rows_near_R 4) a_p1 a_p1_near (q_rows_nodes 4) (q_rows_clean 4) (q_rows_guards 4) (q_rows_kind 4) (q_rows_team 4) (q_rows_draw 4) (q_rows_near 4) q_p1_nodes q_p1_clean q_p1_guards q_p1_kind q_p1_team q_p1_draw q_p1_near hc3) (cwV 1 C.2.2.2.2 gX1_giveBack_X5_become rfl rfl rfl (by decide +kernel) ⟨Nat.le_of_ble_eq_true rfl, Nat.le_of_ble_eq_true rfl⟩) [12, 13, 0, 1] [2, 3, 4, 5, 6, 7, 8, 9, 10, 11, 14, 15] 16 ⟨rfl, rfl, rfl, rfl, trivial⟩ ⟨rfl, rfl, rfl, rfl, trivial⟩ ⟨⟨_, rfl, rfl⟩, ⟨_, rfl, rfl⟩, ⟨_, rfl, rfl⟩, ⟨_, rfl, rfl⟩, ⟨_, rfl, rfl⟩, ⟨_, rfl, rfl⟩, ⟨_, rfl, rfl⟩, ⟨_, rfl, rfl⟩, ⟨_, rfl, rfl⟩, ⟨_, rfl, rfl⟩, ⟨_, rfl, rfl⟩, ⟨_, rfl, rfl⟩, trivial⟩ rfl (by decide) (by decide) (ci := 5) (q0 := 0) rfl rfl rfl hl.1 rfl (lv_room (Nat.le_of_ble_eq_true rfl)) dX1_giveBack_29 ⟨Nat.zero_le _, Nat.zero_le _⟩ (fun H locs w => ?_)
      refine lv_iconst (v := (1 : Int32)) C.1 C.2.1 dX1_giveBack_32 (by decide) ?_
      have hres := Option.some.inj hf
      subst hres
      exact ret_z C hr hlocks w (by decide) rfl dX1_giveBack_33
    · refine r_aald (v := (q_rows_R 5)) C w 3 2 rfl rfl (by rw [hx28]; exact ⟨inb_in (by decide), rfl⟩) dX1_giveBack_28 ?_
      obtain ⟨r2, hc3, hf⟩ := bd hf
      refine call_Vv (ws' := (wX1_giveBack cI cL cS cH a_p1 a_p1_near a_this a_this_rows r2.1 r2.2.1 r2.2.2.1 r2.2.2.2.1 r2.2.2.2.2.1 r2.2.2.2.2.2.1 r2.2.2.2.2.2.2 (q_known - (1 : Int32)) q_rows_R q_rows_nodes q_rows_near_R q_rows_clean q_rows_guards q_rows_kind q_rows_team q_rows_draw q_rows_near)) (rest := []) C w (mX5_become l D cI cL cS cH _ (q_rows_R 5) (q_rows_near_R 5) a_p1 a_p1_near (q_rows_nodes 5) (q_rows_clean 5) (q_rows_guards 5) (q_rows_kind 5) (q_rows_team 5) (q_rows_draw 5) (q_rows_near 5) q_p1_nodes q_p1_clean q_p1_guards q_p1_kind q_p1_team q_p1_draw q_p1_near hc3) (cwV 1 C.2.2.2.2 gX1_giveBack_X5_become rfl rfl rfl (by decide +kernel) ⟨Nat.le_of_ble_eq_true rfl, Nat.le_of_ble_eq_true rfl⟩) [14, 15, 0, 1] [2, 3, 4, 5, 6, 7, 8, 9, 10, 11, 12, 13] 16 ⟨rfl, rfl, rfl, rfl, trivial⟩ ⟨rfl, rfl, rfl, rfl, trivial⟩ ⟨⟨_, rfl, rfl⟩, ⟨_, rfl, rfl⟩, ⟨_, rfl, rfl⟩, ⟨_, rfl, rfl⟩, ⟨_, rfl, rfl⟩, ⟨_, rfl, rfl⟩, ⟨_, rfl, rfl⟩, ⟨_, rfl, rfl⟩, ⟨_, rfl, rfl⟩, ⟨_, rfl, rfl⟩, ⟨_, rfl, rfl⟩, ⟨_, rfl, rfl⟩, trivial⟩ rfl (by decide) (by decide) (ci := 5) (q0 := 0) rfl rfl rfl hl.1 rfl (lv_room (Nat.le_of_ble_eq_true rfl)) dX1_giveBack_29 ⟨Nat.zero_le _, Nat.zero_le _⟩ (fun H locs w => ?_)
      refine lv_iconst (v := (1 : Int32)) C.1 C.2.1 dX1_giveBack_32 (by decide) ?_
      have hres := Option.some.inj hf
      subst hres
      exact ret_z C hr hlocks w (by decide) rfl dX1_giveBack_33
  · have hf := ite_t hf hq1
    refine lv_iconst (v := (0 : Int32)) C.1 C.2.1 dX1_giveBack_7 (by decide) ?_
    have hres := Option.some.inj hf
    subst hres
    exact ret_z C hr hlocks w (by decide) rfl dX1_giveBack_8

set_option maxRecDepth 100000 in
theorem inX1_become_X1 : ∀ w ∈ u_ws RX1 TX1 2, w ∈ wsX1_become := by decide +kernel
set_option maxRecDepth 100000 in
theorem lkX1_become_9 : Cond.fieldLink RX1 9 "CleanNets$Past" "known" "I" ∈ wsX1_become := by decide +kernel
set_option maxRecDepth 100000 in
theorem lkX1_become_17 : Cond.fieldLink RX1 17 "CleanNets$Past" "rows" "[LCleanNets$Standing;" ∈ wsX1_become := by decide +kernel
abbrev wX1_become (cI cL cS cH : ClassId) (a_p1 : Nat) (a_p1_rows : Nat) (a_this : Nat) (a_this_rows : Nat) (q_p1_known : Int32) (q_p1_rows_R : Nat → Nat) (q_p1_rows_nodes : Nat → Int32) (q_p1_rows_near_R : Nat → Nat) (q_p1_rows_clean : Nat → Int32) (q_p1_rows_guards : Nat → Int32) (q_p1_rows_kind : Nat → Int32) (q_p1_rows_team : Nat → Int32) (q_p1_rows_draw : Nat → Int32) (q_p1_rows_near : Nat → Nat → Int32) (q_known : Int32) (q_rows_R : Nat → Nat) (q_rows_nodes : Nat → Int32) (q_rows_near_R : Nat → Nat) (q_rows_clean : Nat → Int32) (q_rows_guards : Nat → Int32) (q_rows_kind : Nat → Int32) (q_rows_team : Nat → Int32) (q_rows_draw : Nat → Int32) (q_rows_near : Nat → Nat → Int32) : va_W := [(a_p1, .inr (1, [.int q_p1_known, .ref a_p1_rows])),
  (a_p1_rows, .inl (cS, 6, .inr (.inr (.inr (.inr (fun k => some (q_p1_rows_R k))))))),
  ((q_p1_rows_R 0), .inr (5, [.int (q_p1_rows_nodes 0), .ref (q_p1_rows_near_R 0), .int (q_p1_rows_clean 0), .int (q_p1_rows_guards 0), .int (q_p1_rows_kind 0), .int (q_p1_rows_team 0), .int (q_p1_rows_draw 0)])),
  ((q_p1_rows_near_R 0), .inl (cI, 7, .inl (q_p1_rows_near 0))),
  ((q_p1_rows_R 1), .inr (5, [.int (q_p1_rows_nodes 1), .ref (q_p1_rows_near_R 1), .int (q_p1_rows_clean 1), .int (q_p1_rows_guards 1), .int (q_p1_rows_kind 1), .int (q_p1_rows_team 1), .int (q_p1_rows_draw 1)])),
  ((q_p1_rows_near_R 1), .inl (cI, 7, .inl (q_p1_rows_near 1))),
  ((q_p1_rows_R 2), .inr (5, [.int (q_p1_rows_nodes 2), .ref (q_p1_rows_near_R 2), .int (q_p1_rows_clean 2), .int (q_p1_rows_guards 2), .int (q_p1_rows_kind 2), .int (q_p1_rows_team 2), .int (q_p1_rows_draw 2)])),
  ((q_p1_rows_near_R 2), .inl (cI, 7, .inl (q_p1_rows_near 2))),
  ((q_p1_rows_R 3), .inr (5, [.int (q_p1_rows_nodes 3), .ref (q_p1_rows_near_R 3), .int (q_p1_rows_clean 3), .int (q_p1_rows_guards 3), .int (q_p1_rows_kind 3), .int (q_p1_rows_team 3), .int (q_p1_rows_draw 3)])),
  ((q_p1_rows_near_R 3), .inl (cI, 7, .inl (q_p1_rows_near 3))),
  ((q_p1_rows_R 4), .inr (5, [.int (q_p1_rows_nodes 4), .ref (q_p1_rows_near_R 4), .int (q_p1_rows_clean 4), .int (q_p1_rows_guards 4), .int (q_p1_rows_kind 4), .int (q_p1_rows_team 4), .int (q_p1_rows_draw 4)])),
  ((q_p1_rows_near_R 4), .inl (cI, 7, .inl (q_p1_rows_near 4))),
  ((q_p1_rows_R 5), .inr (5, [.int (q_p1_rows_nodes 5), .ref (q_p1_rows_near_R 5), .int (q_p1_rows_clean 5), .int (q_p1_rows_guards 5), .int (q_p1_rows_kind 5), .int (q_p1_rows_team 5), .int (q_p1_rows_draw 5)])),
  ((q_p1_rows_near_R 5), .inl (cI, 7, .inl (q_p1_rows_near 5))),
  (a_this, .inr (1, [.int q_known, .ref a_this_rows])),
  (a_this_rows, .inl (cS, 6, .inr (.inr (.inr (.inr (fun k => some (q_rows_R k))))))),
  ((q_rows_R 0), .inr (5, [.int (q_rows_nodes 0), .ref (q_rows_near_R 0), .int (q_rows_clean 0), .int (q_rows_guards 0), .int (q_rows_kind 0), .int (q_rows_team 0), .int (q_rows_draw 0)])),
  ((q_rows_near_R 0), .inl (cI, 7, .inl (q_rows_near 0))),
  ((q_rows_R 1), .inr (5, [.int (q_rows_nodes 1), .ref (q_rows_near_R 1), .int (q_rows_clean 1), .int (q_rows_guards 1), .int (q_rows_kind 1), .int (q_rows_team 1), .int (q_rows_draw 1)])),
  ((q_rows_near_R 1), .inl (cI, 7, .inl (q_rows_near 1))),
  ((q_rows_R 2), .inr (5, [.int (q_rows_nodes 2), .ref (q_rows_near_R 2), .int (q_rows_clean 2), .int (q_rows_guards 2), .int (q_rows_kind 2), .int (q_rows_team 2), .int (q_rows_draw 2)])),
  ((q_rows_near_R 2), .inl (cI, 7, .inl (q_rows_near 2))),
  ((q_rows_R 3), .inr (5, [.int (q_rows_nodes 3), .ref (q_rows_near_R 3), .int (q_rows_clean 3), .int (q_rows_guards 3), .int (q_rows_kind 3), .int (q_rows_team 3), .int (q_rows_draw 3)])),
  ((q_rows_near_R 3), .inl (cI, 7, .inl (q_rows_near 3))),
  ((q_rows_R 4), .inr (5, [.int (q_rows_nodes 4), .ref (q_rows_near_R 4), .int (q_rows_clean 4), .int (q_rows_guards 4), .int (q_rows_kind 4), .int (q_rows_team 4), .int (q_rows_draw 4)])),
  ((q_rows_near_R 4), .inl (cI, 7, .inl (q_rows_near 4))),
  ((q_rows_R 5), .inr (5, [.int (q_rows_nodes 5), .ref (q_rows_near_R 5), .int (q_rows_clean 5), .int (q_rows_guards 5), .int (q_rows_kind 5), .int (q_rows_team 5), .int (q_rows_draw 5)])),
  ((q_rows_near_R 5), .inl (cI, 7, .inl (q_rows_near 5)))]
def bX1_become_10 (q_p1_known : Int32) (q_p1_rows_nodes : Nat → Int32) (q_p1_rows_clean : Nat → Int32) (q_p1_rows_guards : Nat → Int32) (q_p1_rows_kind : Nat → Int32) (q_p1_rows_team : Nat → Int32) (q_p1_rows_draw : Nat → Int32) (q_p1_rows_near : Nat → Nat → Int32) (k10_q_known : Int32) (v10 : Int32 × (Nat → Int32) × (Nat → Int32) × (Nat → Int32) × (Nat → Int32) × (Nat → Int32) × (Nat → Int32) × (Nat → Nat → Int32)) : Option ((Int32 × (Nat → Int32) × (Nat → Int32) × (Nat → Int32) × (Nat → Int32) × (Nat → Int32) × (Nat → Int32) × (Nat → Nat → Int32)) ⊕ (Int32 × (Nat → Int32) × (Nat → Int32) × (Nat → Int32) × (Nat → Int32) × (Nat → Int32) × (Nat → Int32) × (Nat → Nat → Int32))) := (if k10_q_known ≤ v10.1 then some (.inr (v10.1, v10.2.1, v10.2.2.1, v10.2.2.2.1, v10.2.2.2.2.1, v10.2.2.2.2.2.1, v10.2.2.2.2.2.2.1, v10.2.2.2.2.2.2.2)) else sel6 v10.1 (fun k23 => Option.bind (fX5_become (q_p1_rows_nodes k23) (q_p1_rows_clean k23) (q_p1_rows_guards k23) (q_p1_rows_kind k23) (q_p1_rows_team k23) (q_p1_rows_draw k23) (q_p1_rows_near k23) (v10.2.1 k23) (v10.2.2.1 k23) (v10.2.2.2.1 k23) (v10.2.2.2.2.1 k23) (v10.2.2.2.2.2.1 k23) (v10.2.2.2.2.2.2.1 k23) (v10.2.2.2.2.2.2.2 k23)) (fun r2 => some (.inl ((v10.1 + (1 : Int32)), (va_up v10.2.1 k23 r2.1), (va_up v10.2.2.1 k23 r2.2.1), (va_up v10.2.2.2.1 k23 r2.2.2.1), (va_up v10.2.2.2.2.1 k23 r2.2.2.2.1), (va_up v10.2.2.2.2.2.1 k23 r2.2.2.2.2.1), (va_up v10.2.2.2.2.2.2.1 k23 r2.2.2.2.2.2.1), (va_up v10.2.2.2.2.2.2.2 k23 r2.2.2.2.2.2.2))))))
def fX1_become (q_p1_known : Int32) (q_p1_rows_nodes : Nat → Int32) (q_p1_rows_clean : Nat → Int32) (q_p1_rows_guards : Nat → Int32) (q_p1_rows_kind : Nat → Int32) (q_p1_rows_team : Nat → Int32) (q_p1_rows_draw : Nat → Int32) (q_p1_rows_near : Nat → Nat → Int32) (q_known : Int32) (q_rows_nodes : Nat → Int32) (q_rows_clean : Nat → Int32) (q_rows_guards : Nat → Int32) (q_rows_kind : Nat → Int32) (q_rows_team : Nat → Int32) (q_rows_draw : Nat → Int32) (q_rows_near : Nat → Nat → Int32)  : Option (Int32 × (Nat → Int32) × (Nat → Int32) × (Nat → Int32) × (Nat → Int32) × (Nat → Int32) × (Nat → Int32) × (Nat → Nat → Int32)) := Option.bind (itL (bX1_become_10 q_p1_known q_p1_rows_nodes q_p1_rows_clean q_p1_rows_guards q_p1_rows_kind q_p1_rows_team q_p1_rows_draw q_p1_rows_near q_p1_known) fu ((0 : Int32), q_rows_nodes, q_rows_clean, q_rows_guards, q_rows_kind, q_rows_team, q_rows_draw, q_rows_near)) (fun ex4 => some (q_p1_known, ex4.2.1, ex4.2.2.1, ex4.2.2.2.1, ex4.2.2.2.2.1, ex4.2.2.2.2.2.1, ex4.2.2.2.2.2.2.1, ex4.2.2.2.2.2.2.2))
abbrev gX1_become (p : Program) (l : Launch) (e : Env) (s : State) (m : MethodId) (below : List Frame) (meth : Method) (c : Code) (D : vg) (cI cL cS cH : ClassId) (a_p1 : Nat) (a_p1_rows : Nat) (a_this : Nat) (a_this_rows : Nat) (q_p1_known : Int32) (q_p1_rows_R : Nat → Nat) (q_p1_rows_nodes : Nat → Int32) (q_p1_rows_near_R : Nat → Nat) (q_p1_rows_clean : Nat → Int32) (q_p1_rows_guards : Nat → Int32) (q_p1_rows_kind : Nat → Int32) (q_p1_rows_team : Nat → Int32) (q_p1_rows_draw : Nat → Int32) (q_p1_rows_near : Nat → Nat → Int32) (q_known : Int32) (q_rows_R : Nat → Nat) (q_rows_nodes : Nat → Int32) (q_rows_near_R : Nat → Nat) (q_rows_clean : Nat → Int32) (q_rows_guards : Nat → Int32) (q_rows_kind : Nat → Int32) (q_rows_team : Nat → Int32) (q_rows_draw : Nat → Int32) (q_rows_near : Nat → Nat → Int32) (res : Int32 × (Nat → Int32) × (Nat → Int32) × (Nat → Int32) × (Nat → Int32) × (Nat → Int32) × (Nat → Int32) × (Nat → Nat → Int32)) (H : Heap) (locs : List Loc) (g : JFrame) : Prop := W p l e (headSpec wsX1_become ({ frames := 2, cells := 0, slots := 0, locals := 61 })).room s m ([.ref a_this, .ref a_p1] : List Value).toArray below meth c H locs 0 0 (MQ below (va_Qv (fun (_ : Unit) => True) (fun _ t => pos1 D s.heap.size (wX1_become cI cL cS cH a_p1 a_p1_rows a_this a_this_rows q_p1_known q_p1_rows_R q_p1_rows_nodes q_p1_rows_near_R q_p1_rows_clean q_p1_rows_guards q_p1_rows_kind q_p1_rows_team q_p1_rows_draw q_p1_rows_near q_known q_rows_R q_rows_nodes q_rows_near_R q_rows_clean q_rows_guards q_rows_kind q_rows_team q_rows_draw q_rows_near) (wX1_become cI cL cS cH a_p1 a_p1_rows a_this a_this_rows q_p1_known q_p1_rows_R q_p1_rows_nodes q_p1_rows_near_R q_p1_rows_clean q_p1_rows_guards q_p1_rows_kind q_p1_rows_team q_p1_rows_draw q_p1_rows_near res.1 q_rows_R res.2.1 q_rows_near_R res.2.2.1 res.2.2.2.1 res.2.2.2.2.1 res.2.2.2.2.2.1 res.2.2.2.2.2.2.1 res.2.2.2.2.2.2.2) t) (va_A (wX1_become cI cL cS cH a_p1 a_p1_rows a_this a_this_rows q_p1_known q_p1_rows_R q_p1_rows_nodes q_p1_rows_near_R q_p1_rows_clean q_p1_rows_guards q_p1_rows_kind q_p1_rows_team q_p1_rows_draw q_p1_rows_near q_known q_rows_R q_rows_nodes q_rows_near_R q_rows_clean q_rows_guards q_rows_kind q_rows_team q_rows_draw q_rows_near) s.heap.size)) ([.ref a_this, .ref a_p1] : List Value).toArray s 0 0 (va_A (wX1_become cI cL cS cH a_p1 a_p1_rows a_this a_this_rows q_p1_known q_p1_rows_R q_p1_rows_nodes q_p1_rows_near_R q_p1_rows_clean q_p1_rows_guards q_p1_rows_kind q_p1_rows_team q_p1_rows_draw q_p1_rows_near q_known q_rows_R q_rows_nodes q_rows_near_R q_rows_clean q_rows_guards q_rows_kind q_rows_team q_rows_draw q_rows_near) s.heap.size)) g
set_option maxHeartbeats 4000000 in
set_option maxRecDepth 100000 in
theorem mX1_become (l : Launch) (D : vg) (cI cL cS cH : ClassId) (sz : Nat) (a_p1 : Nat) (a_p1_rows : Nat) (a_this : Nat) (a_this_rows : Nat) (q_p1_known : Int32) (q_p1_rows_R : Nat → Nat) (q_p1_rows_nodes : Nat → Int32) (q_p1_rows_near_R : Nat → Nat) (q_p1_rows_clean : Nat → Int32) (q_p1_rows_guards : Nat → Int32) (q_p1_rows_kind : Nat → Int32) (q_p1_rows_team : Nat → Int32) (q_p1_rows_draw : Nat → Int32) (q_p1_rows_near : Nat → Nat → Int32) (q_known : Int32) (q_rows_R : Nat → Nat) (q_rows_nodes : Nat → Int32) (q_rows_near_R : Nat → Nat) (q_rows_clean : Nat → Int32) (q_rows_guards : Nat → Int32) (q_rows_kind : Nat → Int32) (q_rows_team : Nat → Int32) (q_rows_draw : Nat → Int32) (q_rows_near : Nat → Nat → Int32) {res : Int32 × (Nat → Int32) × (Nat → Int32) × (Nat → Int32) × (Nat → Int32) × (Nat → Int32) × (Nat → Int32) × (Nat → Nat → Int32)} (hf : fX1_become q_p1_known q_p1_rows_nodes q_p1_rows_clean q_p1_rows_guards q_p1_rows_kind q_p1_rows_team q_p1_rows_draw q_p1_rows_near q_known q_rows_nodes q_rows_clean q_rows_guards q_rows_kind q_rows_team q_rows_draw q_rows_near = some res) : ctv l yX1_become wsX1_become ({ frames := 2, cells := 0, slots := 0, locals := 61 }) D (ty4 cI cL cS cH) sz [.ref a_this, .ref a_p1] (wX1_become cI cL cS cH a_p1 a_p1_rows a_this a_this_rows q_p1_known q_p1_rows_R q_p1_rows_nodes q_p1_rows_near_R q_p1_rows_clean q_p1_rows_guards q_p1_rows_kind q_p1_rows_team q_p1_rows_draw q_p1_rows_near q_known q_rows_R q_rows_nodes q_rows_near_R q_rows_clean q_rows_guards q_rows_kind q_rows_team q_rows_draw q_rows_near) (wX1_become cI cL cS cH a_p1 a_p1_rows a_this a_this_rows q_p1_known q_p1_rows_R q_p1_rows_nodes q_p1_rows_near_R q_p1_rows_clean q_p1_rows_guards q_p1_rows_kind q_p1_rows_team q_p1_rows_draw q_p1_rows_near res.1 q_rows_R res.2.1 q_rows_near_R res.2.2.1 res.2.2.2.1 res.2.2.2.2.1 res.2.2.2.2.2.1 res.2.2.2.2.2.2.1 res.2.2.2.2.2.2.2) := by
  refine Met.ofW (cc := cX1_become) (maxL := 3) (ret := none) (by decide) rfl ?_
  intro p e s m args below meth c s₁ B hml hv
  obtain ⟨rfl, hpre⟩ := hv
  obtain rfl := hpre.1
  have C : CallFix p m c cX1_become 3 s _ wsX1_become RX1 := ⟨B.exec, B.bytes, hml, findClass_of_methodNamed B.named, atoms_spec (ws := wsX1_become) B.pre⟩
  have hr := B.returns
  have hlocks := B.notSynchronized
  have w := wd_start hpre
  clear hpre B
  have hl := lv_entry ([.ref a_this, .ref a_p1]) (n := 3) (Nat.le_of_ble_eq_true rfl)
  rw [lg_entry_eq]
  generalize (lg_sl ([.ref a_this, .ref a_p1]) ++ List.replicate (3 - (lg_sl ([.ref a_this, .ref a_p1])).length) Slot.unset).toArray = ls at hl ⊢
  have hl : lv_has ls 3 [(0, .ref a_this), (1, .ref a_p1)] := hl
  unfold fX1_become at hf
  have hlp10 : ∀ (k10_q_known : Int32) (ex10 : Int32 × (Nat → Int32) × (Nat → Int32) × (Nat → Int32) × (Nat → Int32) × (Nat → Int32) × (Nat → Int32) × (Nat → Nat → Int32)) (hk : (∀ (H : Heap) (locs : List Loc) (ls : Array Slot), wd D (ty4 cI cL cS cH) s (va_A (wX1_become cI cL cS cH a_p1 a_p1_rows a_this a_this_rows q_p1_known q_p1_rows_R q_p1_rows_nodes q_p1_rows_near_R q_p1_rows_clean q_p1_rows_guards q_p1_rows_kind q_p1_rows_team q_p1_rows_draw q_p1_rows_near q_known q_rows_R q_rows_nodes q_rows_near_R q_rows_clean q_rows_guards q_rows_kind q_rows_team q_rows_draw q_rows_near) s.heap.size) s.heap H locs (wX1_become cI cL cS cH a_p1 a_p1_rows a_this a_this_rows q_p1_known q_p1_rows_R q_p1_rows_nodes q_p1_rows_near_R q_p1_rows_clean q_p1_rows_guards q_p1_rows_kind q_p1_rows_team q_p1_rows_draw q_p1_rows_near k10_q_known q_rows_R ex10.2.1 q_rows_near_R ex10.2.2.1 ex10.2.2.2.1 ex10.2.2.2.2.1 ex10.2.2.2.2.2.1 ex10.2.2.2.2.2.2.1 ex10.2.2.2.2.2.2.2) → lv_has ls 3 [] → gX1_become p l e s m below meth c D cI cL cS cH a_p1 a_p1_rows a_this a_this_rows q_p1_known q_p1_rows_R q_p1_rows_nodes q_p1_rows_near_R q_p1_rows_clean q_p1_rows_guards q_p1_rows_kind q_p1_rows_team q_p1_rows_draw q_p1_rows_near q_known q_rows_R q_rows_nodes q_rows_near_R q_rows_clean q_rows_guards q_rows_kind q_rows_team q_rows_draw q_rows_near res H locs (F0 m 39 ls []))) (n : Nat) (v10 : Int32 × (Nat → Int32) × (Nat → Int32) × (Nat → Int32) × (Nat → Int32) × (Nat → Int32) × (Nat → Int32) × (Nat → Nat → Int32)) (H : Heap) (locs : List Loc) (ls : Array Slot), itL (bX1_become_10 q_p1_known q_p1_rows_nodes q_p1_rows_clean q_p1_rows_guards q_p1_rows_kind q_p1_rows_team q_p1_rows_draw q_p1_rows_near k10_q_known) n v10 = some ex10 → wd D (ty4 cI cL cS cH) s (va_A (wX1_become cI cL cS cH a_p1 a_p1_rows a_this a_this_rows q_p1_known q_p1_rows_R q_p1_rows_nodes q_p1_rows_near_R q_p1_rows_clean q_p1_rows_guards q_p1_rows_kind q_p1_rows_team q_p1_rows_draw q_p1_rows_near q_known q_rows_R q_rows_nodes q_rows_near_R q_rows_clean q_rows_guards q_rows_kind q_rows_team q_rows_draw q_rows_near) s.heap.size) s.heap H locs (wX1_become cI cL cS cH a_p1 a_p1_rows a_this a_this_rows q_p1_known q_p1_rows_R q_p1_rows_nodes q_p1_rows_near_R q_p1_rows_clean q_p1_rows_guards q_p1_rows_kind q_p1_rows_team q_p1_rows_draw q_p1_rows_near k10_q_known q_rows_R v10.2.1 q_rows_near_R v10.2.2.1 v10.2.2.2.1 v10.2.2.2.2.1 v10.2.2.2.2.2.1 v10.2.2.2.2.2.2.1 v10.2.2.2.2.2.2.2) → lv_has ls 3 [(0, .ref a_this), (1, .ref a_p1), (2, .int v10.1)] → gX1_become p l e s m below meth c D cI cL cS cH a_p1 a_p1_rows a_this a_this_rows q_p1_known q_p1_rows_R q_p1_rows_nodes q_p1_rows_near_R q_p1_rows_clean q_p1_rows_guards q_p1_rows_kind q_p1_rows_team q_p1_rows_draw q_p1_rows_near q_known q_rows_R q_rows_nodes q_rows_near_R q_rows_clean q_rows_guards q_rows_kind q_rows_team q_rows_draw q_rows_near res H locs (F0 m 10 ls []) := by
    intro k10_q_known ex10 hk n
    induction n with
    | zero => intro v10 H locs ls hi w hl; exact (itL_zero hi).elim
    | succ n ih =>
      intro v10 H locs ls hi w hl
      obtain ⟨o, hf, hn⟩ := itL_succ hi
      unfold bX1_become_10 at hf
      refine lv_iload_n C.1 C.2.1 dX1_become_10 rfl (lv_at hl 2 rfl) ?_
      refine lv_aload_n C.1 C.2.1 dX1_become_11 rfl (lv_at hl 0 rfl) ?_
      refine r_get C w inX1_become_X1 14 rfl rfl 0 (by decide) lkX1_become_9 rfl dX1_become_12 ?_
      refine lv_icmp_ge (tgt := 39) C.1 C.2.1 dX1_become_15 (by decide) (fun hq1 => ?_) (fun hq1 => ?_)
      · have hf := ite_t hf hq1
        obtain rfl := Option.some.inj hf
        obtain rfl := hn
        exact hk _ _ _ w (lv_sub hl [] rfl)
      · have hf := ite_f hf hq1
        refine lv_aload_n C.1 C.2.1 dX1_become_18 rfl (lv_at hl 0 rfl) ?_
        refine r_get C w inX1_become_X1 14 rfl rfl 1 (by decide) lkX1_become_17 rfl dX1_become_19 ?_
        refine lv_iload_n C.1 C.2.1 dX1_become_22 rfl (lv_at hl 2 rfl) ?_
        rcases sel6_in hf with ⟨hx23, hf⟩ | ⟨hx23, hf⟩ | ⟨hx23, hf⟩ | ⟨hx23, hf⟩ | ⟨hx23, hf⟩ | ⟨hx23, hf⟩
        · refine r_aald (v := (q_rows_R 0)) C w 15 2 rfl rfl (by rw [hx23]; exact ⟨inb_in (by decide), rfl⟩) dX1_become_23 ?_
          refine lv_aload_n C.1 C.2.1 dX1_become_24 rfl (lv_at hl 1 rfl) ?_
          refine r_get C w inX1_become_X1 0 rfl rfl 1 (by decide) lkX1_become_17 rfl dX1_become_25 ?_
          refine lv_iload_n C.1 C.2.1 dX1_become_28 rfl (lv_at hl 2 rfl) ?_
          refine r_aald (v := (q_p1_rows_R 0)) C w 1 2 rfl rfl (by rw [hx23]; exact ⟨inb_in (by decide), rfl⟩) dX1_become_29 ?_
          obtain ⟨r2, hc3, hf⟩ := bd hf
          refine call_Vv (ws' := (wX1_become cI cL cS cH a_p1 a_p1_rows a_this a_this_rows q_p1_known q_p1_rows_R q_p1_rows_nodes q_p1_rows_near_R q_p1_rows_clean q_p1_rows_guards q_p1_rows_kind q_p1_rows_team q_p1_rows_draw q_p1_rows_near k10_q_known q_rows_R (va_up v10.2.1 0 r2.1) q_rows_near_R (va_up v10.2.2.1 0 r2.2.1) (va_up v10.2.2.2.1 0 r2.2.2.1) (va_up v10.2.2.2.2.1 0 r2.2.2.2.1) (va_up v10.2.2.2.2.2.1 0 r2.2.2.2.2.1) (va_up v10.2.2.2.2.2.2.1 0 r2.2.2.2.2.2.1) (va_up v10.2.2.2.2.2.2.2 0 r2.2.2.2.2.2.2))) (rest := []) C w (mX5_become l D cI cL cS cH _ (q_p1_rows_R 0) (q_p1_rows_near_R 0) (q_rows_R 0) (q_rows_near_R 0) (q_p1_rows_nodes 0) (q_p1_rows_clean 0) (q_p1_rows_guards 0) (q_p1_rows_kind 0) (q_p1_rows_team 0) (q_p1_rows_draw 0) (q_p1_rows_near 0) (v10.2.1 0) (v10.2.2.1 0) (v10.2.2.2.1 0) (v10.2.2.2.2.1 0) (v10.2.2.2.2.2.1 0) (v10.2.2.2.2.2.2.1 0) (v10.2.2.2.2.2.2.2 0) hc3) (cwV 1 C.2.2.2.2 gX1_become_X5_become rfl rfl rfl (by decide +kernel) ⟨Nat.le_of_ble_eq_true rfl, Nat.le_of_ble_eq_true rfl⟩) [2, 3, 16, 17] [0, 1, 4, 5, 6, 7, 8, 9, 10, 11, 12, 13, 14, 15, 18, 19, 20, 21, 22, 23, 24, 25, 26, 27] 28 ⟨rfl, rfl, rfl, rfl, trivial⟩ ⟨rfl, rfl, rfl, rfl, trivial⟩ ⟨⟨_, rfl, rfl⟩, ⟨_, rfl, rfl⟩, ⟨_, rfl, rfl⟩, ⟨_, rfl, rfl⟩, ⟨_, rfl, rfl⟩, ⟨_, rfl, rfl⟩, ⟨_, rfl, rfl⟩, ⟨_, rfl, rfl⟩, ⟨_, rfl, rfl⟩, ⟨_, rfl, rfl⟩, ⟨_, rfl, rfl⟩, ⟨_, rfl, rfl⟩, ⟨_, rfl, rfl⟩, ⟨_, rfl, rfl⟩, ⟨_, rfl, rfl⟩, ⟨_, rfl, rfl⟩, ⟨_, rfl, rfl⟩, ⟨_, rfl, rfl⟩, ⟨_, rfl, rfl⟩, ⟨_, rfl, rfl⟩, ⟨_, rfl, rfl⟩, ⟨_, rfl, rfl⟩, ⟨_, rfl, rfl⟩, ⟨_, rfl, rfl⟩, trivial⟩ rfl (by decide) (by decide) (ci := 5) (q0 := 16) rfl rfl rfl hl.1 rfl (lv_room (Nat.le_of_ble_eq_true rfl)) dX1_become_30 ⟨Nat.zero_le _, Nat.zero_le _⟩ (fun H locs w => ?_)
          refine lv_iinc (v := (v10.1 + (1 : Int32))) (lv' := [(2, .int (v10.1 + (1 : Int32))), (0, .ref a_this), (1, .ref a_p1)]) C.1 C.2.1 dX1_become_33 hl (k := 2) rfl rfl (by decide) rfl (fun ls hl => ?_)
          refine lv_goto (tgt := 10) C.1 C.2.1 dX1_become_36 (by decide) ?_
          obtain rfl := Option.some.inj hf
          exact ih ((v10.1 + (1 : Int32)), (va_up v10.2.1 0 r2.1), (va_up v10.2.2.1 0 r2.2.1), (va_up v10.2.2.2.1 0 r2.2.2.1), (va_up v10.2.2.2.2.1 0 r2.2.2.2.1), (va_up v10.2.2.2.2.2.1 0 r2.2.2.2.2.1), (va_up v10.2.2.2.2.2.2.1 0 r2.2.2.2.2.2.1), (va_up v10.2.2.2.2.2.2.2 0 r2.2.2.2.2.2.2)) _ _ _ hn w (lv_sub hl [1, 2, 0] rfl)
        · refine r_aald (v := (q_rows_R 1)) C w 15 2 rfl rfl (by rw [hx23]; exact ⟨inb_in (by decide), rfl⟩) dX1_become_23 ?_
          refine lv_aload_n C.1 C.2.1 dX1_become_24 rfl (lv_at hl 1 rfl) ?_
          refine r_get C w inX1_become_X1 0 rfl rfl 1 (by decide) lkX1_become_17 rfl dX1_become_25 ?_
          refine lv_iload_n C.1 C.2.1 dX1_become_28 rfl (lv_at hl 2 rfl) ?_
          refine r_aald (v := (q_p1_rows_R 1)) C w 1 2 rfl rfl (by rw [hx23]; exact ⟨inb_in (by decide), rfl⟩) dX1_become_29 ?_
          obtain ⟨r2, hc3, hf⟩ := bd hf
          refine call_Vv (ws' := (wX1_become cI cL cS cH a_p1 a_p1_rows a_this a_this_rows q_p1_known q_p1_rows_R q_p1_rows_nodes q_p1_rows_near_R q_p1_rows_clean q_p1_rows_guards q_p1_rows_kind q_p1_rows_team q_p1_rows_draw q_p1_rows_near k10_q_known q_rows_R (va_up v10.2.1 1 r2.1) q_rows_near_R (va_up v10.2.2.1 1 r2.2.1) (va_up v10.2.2.2.1 1 r2.2.2.1) (va_up v10.2.2.2.2.1 1 r2.2.2.2.1) (va_up v10.2.2.2.2.2.1 1 r2.2.2.2.2.1) (va_up v10.2.2.2.2.2.2.1 1 r2.2.2.2.2.2.1) (va_up v10.2.2.2.2.2.2.2 1 r2.2.2.2.2.2.2))) (rest := []) C w (mX5_become l D cI cL cS cH _ (q_p1_rows_R 1) (q_p1_rows_near_R 1) (q_rows_R 1) (q_rows_near_R 1) (q_p1_rows_nodes 1) (q_p1_rows_clean 1) (q_p1_rows_guards 1) (q_p1_rows_kind 1) (q_p1_rows_team 1) (q_p1_rows_draw 1) (q_p1_rows_near 1) (v10.2.1 1) (v10.2.2.1 1) (v10.2.2.2.1 1) (v10.2.2.2.2.1 1) (v10.2.2.2.2.2.1 1) (v10.2.2.2.2.2.2.1 1) (v10.2.2.2.2.2.2.2 1) hc3) (cwV 1 C.2.2.2.2 gX1_become_X5_become rfl rfl rfl (by decide +kernel) ⟨Nat.le_of_ble_eq_true rfl, Nat.le_of_ble_eq_true rfl⟩) [4, 5, 18, 19] [0, 1, 2, 3, 6, 7, 8, 9, 10, 11, 12, 13, 14, 15, 16, 17, 20, 21, 22, 23, 24, 25, 26, 27] 28 ⟨rfl, rfl, rfl, rfl, trivial⟩ ⟨rfl, rfl, rfl, rfl, trivial⟩ ⟨⟨_, rfl, rfl⟩, ⟨_, rfl, rfl⟩, ⟨_, rfl, rfl⟩, ⟨_, rfl, rfl⟩, ⟨_, rfl, rfl⟩, ⟨_, rfl, rfl⟩, ⟨_, rfl, rfl⟩, ⟨_, rfl, rfl⟩, ⟨_, rfl, rfl⟩, ⟨_, rfl, rfl⟩, ⟨_, rfl, rfl⟩, ⟨_, rfl, rfl⟩, ⟨_, rfl, rfl⟩, ⟨_, rfl, rfl⟩, ⟨_, rfl, rfl⟩, ⟨_, rfl, rfl⟩, ⟨_, rfl, rfl⟩, ⟨_, rfl, rfl⟩, ⟨_, rfl, rfl⟩, ⟨_, rfl, rfl⟩, ⟨_, rfl, rfl⟩, ⟨_, rfl, rfl⟩, ⟨_, rfl, rfl⟩, ⟨_, rfl, rfl⟩, trivial⟩ rfl (by decide) (by decide) (ci := 5) (q0 := 18) rfl rfl rfl hl.1 rfl (lv_room (Nat.le_of_ble_eq_true rfl)) dX1_become_30 ⟨Nat.zero_le _, Nat.zero_le _⟩ (fun H locs w => ?_)
          refine lv_iinc (v := (v10.1 + (1 : Int32))) (lv' := [(2, .int (v10.1 + (1 : Int32))), (0, .ref a_this), (1, .ref a_p1)]) C.1 C.2.1 dX1_become_33 hl (k := 2) rfl rfl (by decide) rfl (fun ls hl => ?_)
          refine lv_goto (tgt := 10) C.1 C.2.1 dX1_become_36 (by decide) ?_
          obtain rfl := Option.some.inj hf
          exact ih ((v10.1 + (1 : Int32)), (va_up v10.2.1 1 r2.1), (va_up v10.2.2.1 1 r2.2.1), (va_up v10.2.2.2.1 1 r2.2.2.1), (va_up v10.2.2.2.2.1 1 r2.2.2.2.1), (va_up v10.2.2.2.2.2.1 1 r2.2.2.2.2.1), (va_up v10.2.2.2.2.2.2.1 1 r2.2.2.2.2.2.1), (va_up v10.2.2.2.2.2.2.2 1 r2.2.2.2.2.2.2)) _ _ _ hn w (lv_sub hl [1, 2, 0] rfl)
        · refine r_aald (v := (q_rows_R 2)) C w 15 2 rfl rfl (by rw [hx23]; exact ⟨inb_in (by decide), rfl⟩) dX1_become_23 ?_
          refine lv_aload_n C.1 C.2.1 dX1_become_24 rfl (lv_at hl 1 rfl) ?_
          refine r_get C w inX1_become_X1 0 rfl rfl 1 (by decide) lkX1_become_17 rfl dX1_become_25 ?_
          refine lv_iload_n C.1 C.2.1 dX1_become_28 rfl (lv_at hl 2 rfl) ?_
          refine r_aald (v := (q_p1_rows_R 2)) C w 1 2 rfl rfl (by rw [hx23]; exact ⟨inb_in (by decide), rfl⟩) dX1_become_29 ?_
          obtain ⟨r2, hc3, hf⟩ := bd hf
          refine call_Vv (ws' := (wX1_become cI cL cS cH a_p1 a_p1_rows a_this a_this_rows q_p1_known q_p1_rows_R q_p1_rows_nodes q_p1_rows_near_R q_p1_rows_clean q_p1_rows_guards q_p1_rows_kind q_p1_rows_team q_p1_rows_draw q_p1_rows_near k10_q_known q_rows_R (va_up v10.2.1 2 r2.1) q_rows_near_R (va_up v10.2.2.1 2 r2.2.1) (va_up v10.2.2.2.1 2 r2.2.2.1) (va_up v10.2.2.2.2.1 2 r2.2.2.2.1) (va_up v10.2.2.2.2.2.1 2 r2.2.2.2.2.1) (va_up v10.2.2.2.2.2.2.1 2 r2.2.2.2.2.2.1) (va_up v10.2.2.2.2.2.2.2 2 r2.2.2.2.2.2.2))) (rest := []) C w (mX5_become l D cI cL cS cH _ (q_p1_rows_R 2) (q_p1_rows_near_R 2) (q_rows_R 2) (q_rows_near_R 2) (q_p1_rows_nodes 2) (q_p1_rows_clean 2) (q_p1_rows_guards 2) (q_p1_rows_kind 2) (q_p1_rows_team 2) (q_p1_rows_draw 2) (q_p1_rows_near 2) (v10.2.1 2) (v10.2.2.1 2) (v10.2.2.2.1 2) (v10.2.2.2.2.1 2) (v10.2.2.2.2.2.1 2) (v10.2.2.2.2.2.2.1 2) (v10.2.2.2.2.2.2.2 2) hc3) (cwV 1 C.2.2.2.2 gX1_become_X5_become rfl rfl rfl (by decide +kernel) ⟨Nat.le_of_ble_eq_true rfl, Nat.le_of_ble_eq_true rfl⟩) [6, 7, 20, 21] [0, 1, 2, 3, 4, 5, 8, 9, 10, 11, 12, 13, 14, 15, 16, 17, 18, 19, 22, 23, 24, 25, 26, 27] 28 ⟨rfl, rfl, rfl, rfl, trivial⟩ ⟨rfl, rfl, rfl, rfl, trivial⟩ ⟨⟨_, rfl, rfl⟩, ⟨_, rfl, rfl⟩, ⟨_, rfl, rfl⟩, ⟨_, rfl, rfl⟩, ⟨_, rfl, rfl⟩, ⟨_, rfl, rfl⟩, ⟨_, rfl, rfl⟩, ⟨_, rfl, rfl⟩, ⟨_, rfl, rfl⟩, ⟨_, rfl, rfl⟩, ⟨_, rfl, rfl⟩, ⟨_, rfl, rfl⟩, ⟨_, rfl, rfl⟩, ⟨_, rfl, rfl⟩, ⟨_, rfl, rfl⟩, ⟨_, rfl, rfl⟩, ⟨_, rfl, rfl⟩, ⟨_, rfl, rfl⟩, ⟨_, rfl, rfl⟩, ⟨_, rfl, rfl⟩, ⟨_, rfl, rfl⟩, ⟨_, rfl, rfl⟩, ⟨_, rfl, rfl⟩, ⟨_, rfl, rfl⟩, trivial⟩ rfl (by decide) (by decide) (ci := 5) (q0 := 20) rfl rfl rfl hl.1 rfl (lv_room (Nat.le_of_ble_eq_true rfl)) dX1_become_30 ⟨Nat.zero_le _, Nat.zero_le _⟩ (fun H locs w => ?_)
          refine lv_iinc (v := (v10.1 + (1 : Int32))) (lv' := [(2, .int (v10.1 + (1 : Int32))), (0, .ref a_this), (1, .ref a_p1)]) C.1 C.2.1 dX1_become_33 hl (k := 2) rfl rfl (by decide) rfl (fun ls hl => ?_)
          refine lv_goto (tgt := 10) C.1 C.2.1 dX1_become_36 (by decide) ?_
          obtain rfl := Option.some.inj hf
          exact ih ((v10.1 + (1 : Int32)), (va_up v10.2.1 2 r2.1), (va_up v10.2.2.1 2 r2.2.1), (va_up v10.2.2.2.1 2 r2.2.2.1), (va_up v10.2.2.2.2.1 2 r2.2.2.2.1), (va_up v10.2.2.2.2.2.1 2 r2.2.2.2.2.1), (va_up v10.2.2.2.2.2.2.1 2 r2.2.2.2.2.2.1), (va_up v10.2.2.2.2.2.2.2 2 r2.2.2.2.2.2.2)) _ _ _ hn w (lv_sub hl [1, 2, 0] rfl)
        · refine r_aald (v := (q_rows_R 3)) C w 15 2 rfl rfl (by rw [hx23]; exact ⟨inb_in (by decide), rfl⟩) dX1_become_23 ?_
          refine lv_aload_n C.1 C.2.1 dX1_become_24 rfl (lv_at hl 1 rfl) ?_
          refine r_get C w inX1_become_X1 0 rfl rfl 1 (by decide) lkX1_become_17 rfl dX1_become_25 ?_
          refine lv_iload_n C.1 C.2.1 dX1_become_28 rfl (lv_at hl 2 rfl) ?_
          refine r_aald (v := (q_p1_rows_R 3)) C w 1 2 rfl rfl (by rw [hx23]; exact ⟨inb_in (by decide), rfl⟩) dX1_become_29 ?_
          obtain ⟨r2, hc3, hf⟩ := bd hf
          refine call_Vv (ws' := (wX1_become cI cL cS cH a_p1 a_p1_rows a_this a_this_rows q_p1_known q_p1_rows_R q_p1_rows_nodes q_p1_rows_near_R q_p1_rows_clean q_p1_rows_guards q_p1_rows_kind q_p1_rows_team q_p1_rows_draw q_p1_rows_near k10_q_known q_rows_R (va_up v10.2.1 3 r2.1) q_rows_near_R (va_up v10.2.2.1 3 r2.2.1) (va_up v10.2.2.2.1 3 r2.2.2.1) (va_up v10.2.2.2.2.1 3 r2.2.2.2.1) (va_up v10.2.2.2.2.2.1 3 r2.2.2.2.2.1) (va_up v10.2.2.2.2.2.2.1 3 r2.2.2.2.2.2.1) (va_up v10.2.2.2.2.2.2.2 3 r2.2.2.2.2.2.2))) (rest := []) C w (mX5_become l D cI cL cS cH _ (q_p1_rows_R 3) (q_p1_rows_near_R 3) (q_rows_R 3) (q_rows_near_R 3) (q_p1_rows_nodes 3) (q_p1_rows_clean 3) (q_p1_rows_guards 3) (q_p1_rows_kind 3) (q_p1_rows_team 3) (q_p1_rows_draw 3) (q_p1_rows_near 3) (v10.2.1 3) (v10.2.2.1 3) (v10.2.2.2.1 3) (v10.2.2.2.2.1 3) (v10.2.2.2.2.2.1 3) (v10.2.2.2.2.2.2.1 3) (v10.2.2.2.2.2.2.2 3) hc3) (cwV 1 C.2.2.2.2 gX1_become_X5_become rfl rfl rfl (by decide +kernel) ⟨Nat.le_of_ble_eq_true rfl, Nat.le_of_ble_eq_true rfl⟩) [8, 9, 22, 23] [0, 1, 2, 3, 4, 5, 6, 7, 10, 11, 12, 13, 14, 15, 16, 17, 18, 19, 20, 21, 24, 25, 26, 27] 28 ⟨rfl, rfl, rfl, rfl, trivial⟩ ⟨rfl, rfl, rfl, rfl, trivial⟩ ⟨⟨_, rfl, rfl⟩, ⟨_, rfl, rfl⟩, ⟨_, rfl, rfl⟩, ⟨_, rfl, rfl⟩, ⟨_, rfl, rfl⟩, ⟨_, rfl, rfl⟩, ⟨_, rfl, rfl⟩, ⟨_, rfl, rfl⟩, ⟨_, rfl, rfl⟩, ⟨_, rfl, rfl⟩, ⟨_, rfl, rfl⟩, ⟨_, rfl, rfl⟩, ⟨_, rfl, rfl⟩, ⟨_, rfl, rfl⟩, ⟨_, rfl, rfl⟩, ⟨_, rfl, rfl⟩, ⟨_, rfl, rfl⟩, ⟨_, rfl, rfl⟩, ⟨_, rfl, rfl⟩, ⟨_, rfl, rfl⟩, ⟨_, rfl, rfl⟩, ⟨_, rfl, rfl⟩, ⟨_, rfl, rfl⟩, ⟨_, rfl, rfl⟩, trivial⟩ rfl (by decide) (by decide) (ci := 5) (q0 := 22) rfl rfl rfl hl.1 rfl (lv_room (Nat.le_of_ble_eq_true rfl)) dX1_become_30 ⟨Nat.zero_le _, Nat.zero_le _⟩ (fun H locs w => ?_)
          refine lv_iinc (v := (v10.1 + (1 : Int32))) (lv' := [(2, .int (v10.1 + (1 : Int32))), (0, .ref a_this), (1, .ref a_p1)]) C.1 C.2.1 dX1_become_33 hl (k := 2) rfl rfl (by decide) rfl (fun ls hl => ?_)
          refine lv_goto (tgt := 10) C.1 C.2.1 dX1_become_36 (by decide) ?_
          obtain rfl := Option.some.inj hf
          exact ih ((v10.1 + (1 : Int32)), (va_up v10.2.1 3 r2.1), (va_up v10.2.2.1 3 r2.2.1), (va_up v10.2.2.2.1 3 r2.2.2.1), (va_up v10.2.2.2.2.1 3 r2.2.2.2.1), (va_up v10.2.2.2.2.2.1 3 r2.2.2.2.2.1), (va_up v10.2.2.2.2.2.2.1 3 r2.2.2.2.2.2.1), (va_up v10.2.2.2.2.2.2.2 3 r2.2.2.2.2.2.2)) _ _ _ hn w (lv_sub hl [1, 2, 0] rfl)
        · refine r_aald (v := (q_rows_R 4)) C w 15 2 rfl rfl (by rw [hx23]; exact ⟨inb_in (by decide), rfl⟩) dX1_become_23 ?_
          refine lv_aload_n C.1 C.2.1 dX1_become_24 rfl (lv_at hl 1 rfl) ?_
          refine r_get C w inX1_become_X1 0 rfl rfl 1 (by decide) lkX1_become_17 rfl dX1_become_25 ?_
          refine lv_iload_n C.1 C.2.1 dX1_become_28 rfl (lv_at hl 2 rfl) ?_
          refine r_aald (v := (q_p1_rows_R 4)) C w 1 2 rfl rfl (by rw [hx23]; exact ⟨inb_in (by decide), rfl⟩) dX1_become_29 ?_
          obtain ⟨r2, hc3, hf⟩ := bd hf
          refine call_Vv (ws' := (wX1_become cI cL cS cH a_p1 a_p1_rows a_this a_this_rows q_p1_known q_p1_rows_R q_p1_rows_nodes q_p1_rows_near_R q_p1_rows_clean q_p1_rows_guards q_p1_rows_kind q_p1_rows_team q_p1_rows_draw q_p1_rows_near k10_q_known q_rows_R (va_up v10.2.1 4 r2.1) q_rows_near_R (va_up v10.2.2.1 4 r2.2.1) (va_up v10.2.2.2.1 4 r2.2.2.1) (va_up v10.2.2.2.2.1 4 r2.2.2.2.1) (va_up v10.2.2.2.2.2.1 4 r2.2.2.2.2.1) (va_up v10.2.2.2.2.2.2.1 4 r2.2.2.2.2.2.1) (va_up v10.2.2.2.2.2.2.2 4 r2.2.2.2.2.2.2))) (rest := []) C w (mX5_become l D cI cL cS cH _ (q_p1_rows_R 4) (q_p1_rows_near_R 4) (q_rows_R 4) (q_rows_near_R 4) (q_p1_rows_nodes 4) (q_p1_rows_clean 4) (q_p1_rows_guards 4) (q_p1_rows_kind 4) (q_p1_rows_team 4) (q_p1_rows_draw 4) (q_p1_rows_near 4) (v10.2.1 4) (v10.2.2.1 4) (v10.2.2.2.1 4) (v10.2.2.2.2.1 4) (v10.2.2.2.2.2.1 4) (v10.2.2.2.2.2.2.1 4) (v10.2.2.2.2.2.2.2 4) hc3) (cwV 1 C.2.2.2.2 gX1_become_X5_become rfl rfl rfl (by decide +kernel) ⟨Nat.le_of_ble_eq_true rfl, Nat.le_of_ble_eq_true rfl⟩) [10, 11, 24, 25] [0, 1, 2, 3, 4, 5, 6, 7, 8, 9, 12, 13, 14, 15, 16, 17, 18, 19, 20, 21, 22, 23, 26, 27] 28 ⟨rfl, rfl, rfl, rfl, trivial⟩ ⟨rfl, rfl, rfl, rfl, trivial⟩ ⟨⟨_, rfl, rfl⟩, ⟨_, rfl, rfl⟩, ⟨_, rfl, rfl⟩, ⟨_, rfl, rfl⟩, ⟨_, rfl, rfl⟩, ⟨_, rfl, rfl⟩, ⟨_, rfl, rfl⟩, ⟨_, rfl, rfl⟩, ⟨_, rfl, rfl⟩, ⟨_, rfl, rfl⟩, ⟨_, rfl, rfl⟩, ⟨_, rfl, rfl⟩, ⟨_, rfl, rfl⟩, ⟨_, rfl, rfl⟩, ⟨_, rfl, rfl⟩, ⟨_, rfl, rfl⟩, ⟨_, rfl, rfl⟩, ⟨_, rfl, rfl⟩, ⟨_, rfl, rfl⟩, ⟨_, rfl, rfl⟩, ⟨_, rfl, rfl⟩, ⟨_, rfl, rfl⟩, ⟨_, rfl, rfl⟩, ⟨_, rfl, rfl⟩, trivial⟩ rfl (by decide) (by decide) (ci := 5) (q0 := 24) rfl rfl rfl hl.1 rfl (lv_room (Nat.le_of_ble_eq_true rfl)) dX1_become_30 ⟨Nat.zero_le _, Nat.zero_le _⟩ (fun H locs w => ?_)
          refine lv_iinc (v := (v10.1 + (1 : Int32))) (lv' := [(2, .int (v10.1 + (1 : Int32))), (0, .ref a_this), (1, .ref a_p1)]) C.1 C.2.1 dX1_become_33 hl (k := 2) rfl rfl (by decide) rfl (fun ls hl => ?_)
          refine lv_goto (tgt := 10) C.1 C.2.1 dX1_become_36 (by decide) ?_
          obtain rfl := Option.some.inj hf
          exact ih ((v10.1 + (1 : Int32)), (va_up v10.2.1 4 r2.1), (va_up v10.2.2.1 4 r2.2.1), (va_up v10.2.2.2.1 4 r2.2.2.1), (va_up v10.2.2.2.2.1 4 r2.2.2.2.1), (va_up v10.2.2.2.2.2.1 4 r2.2.2.2.2.1), (va_up v10.2.2.2.2.2.2.1 4 r2.2.2.2.2.2.1), (va_up v10.2.2.2.2.2.2.2 4 r2.2.2.2.2.2.2)) _ _ _ hn w (lv_sub hl [1, 2, 0] rfl)
        · refine r_aald (v := (q_rows_R 5)) C w 15 2 rfl rfl (by rw [hx23]; exact ⟨inb_in (by decide), rfl⟩) dX1_become_23 ?_
          refine lv_aload_n C.1 C.2.1 dX1_become_24 rfl (lv_at hl 1 rfl) ?_
          refine r_get C w inX1_become_X1 0 rfl rfl 1 (by decide) lkX1_become_17 rfl dX1_become_25 ?_
          refine lv_iload_n C.1 C.2.1 dX1_become_28 rfl (lv_at hl 2 rfl) ?_
          refine r_aald (v := (q_p1_rows_R 5)) C w 1 2 rfl rfl (by rw [hx23]; exact ⟨inb_in (by decide), rfl⟩) dX1_become_29 ?_
          obtain ⟨r2, hc3, hf⟩ := bd hf
          refine call_Vv (ws' := (wX1_become cI cL cS cH a_p1 a_p1_rows a_this a_this_rows q_p1_known q_p1_rows_R q_p1_rows_nodes q_p1_rows_near_R q_p1_rows_clean q_p1_rows_guards q_p1_rows_kind q_p1_rows_team q_p1_rows_draw q_p1_rows_near k10_q_known q_rows_R (va_up v10.2.1 5 r2.1) q_rows_near_R (va_up v10.2.2.1 5 r2.2.1) (va_up v10.2.2.2.1 5 r2.2.2.1) (va_up v10.2.2.2.2.1 5 r2.2.2.2.1) (va_up v10.2.2.2.2.2.1 5 r2.2.2.2.2.1) (va_up v10.2.2.2.2.2.2.1 5 r2.2.2.2.2.2.1) (va_up v10.2.2.2.2.2.2.2 5 r2.2.2.2.2.2.2))) (rest := []) C w (mX5_become l D cI cL cS cH _ (q_p1_rows_R 5) (q_p1_rows_near_R 5) (q_rows_R 5) (q_rows_near_R 5) (q_p1_rows_nodes 5) (q_p1_rows_clean 5) (q_p1_rows_guards 5) (q_p1_rows_kind 5) (q_p1_rows_team 5) (q_p1_rows_draw 5) (q_p1_rows_near 5) (v10.2.1 5) (v10.2.2.1 5) (v10.2.2.2.1 5) (v10.2.2.2.2.1 5) (v10.2.2.2.2.2.1 5) (v10.2.2.2.2.2.2.1 5) (v10.2.2.2.2.2.2.2 5) hc3) (cwV 1 C.2.2.2.2 gX1_become_X5_become rfl rfl rfl (by decide +kernel) ⟨Nat.le_of_ble_eq_true rfl, Nat.le_of_ble_eq_true rfl⟩) [12, 13, 26, 27] [0, 1, 2, 3, 4, 5, 6, 7, 8, 9, 10, 11, 14, 15, 16, 17, 18, 19, 20, 21, 22, 23, 24, 25] 28 ⟨rfl, rfl, rfl, rfl, trivial⟩ ⟨rfl, rfl, rfl, rfl, trivial⟩ ⟨⟨_, rfl, rfl⟩, ⟨_, rfl, rfl⟩, ⟨_, rfl, rfl⟩, ⟨_, rfl, rfl⟩, ⟨_, rfl, rfl⟩, ⟨_, rfl, rfl⟩, ⟨_, rfl, rfl⟩, ⟨_, rfl, rfl⟩, ⟨_, rfl, rfl⟩, ⟨_, rfl, rfl⟩, ⟨_, rfl, rfl⟩, ⟨_, rfl, rfl⟩, ⟨_, rfl, rfl⟩, ⟨_, rfl, rfl⟩, ⟨_, rfl, rfl⟩, ⟨_, rfl, rfl⟩, ⟨_, rfl, rfl⟩, ⟨_, rfl, rfl⟩, ⟨_, rfl, rfl⟩, ⟨_, rfl, rfl⟩, ⟨_, rfl, rfl⟩, ⟨_, rfl, rfl⟩, ⟨_, rfl, rfl⟩, ⟨_, rfl, rfl⟩, trivial⟩ rfl (by decide) (by decide) (ci := 5) (q0 := 26) rfl rfl rfl hl.1 rfl (lv_room (Nat.le_of_ble_eq_true rfl)) dX1_become_30 ⟨Nat.zero_le _, Nat.zero_le _⟩ (fun H locs w => ?_)
          refine lv_iinc (v := (v10.1 + (1 : Int32))) (lv' := [(2, .int (v10.1 + (1 : Int32))), (0, .ref a_this), (1, .ref a_p1)]) C.1 C.2.1 dX1_become_33 hl (k := 2) rfl rfl (by decide) rfl (fun ls hl => ?_)
          refine lv_goto (tgt := 10) C.1 C.2.1 dX1_become_36 (by decide) ?_
          obtain rfl := Option.some.inj hf
          exact ih ((v10.1 + (1 : Int32)), (va_up v10.2.1 5 r2.1), (va_up v10.2.2.1 5 r2.2.1), (va_up v10.2.2.2.1 5 r2.2.2.1), (va_up v10.2.2.2.2.1 5 r2.2.2.2.1), (va_up v10.2.2.2.2.2.1 5 r2.2.2.2.2.1), (va_up v10.2.2.2.2.2.2.1 5 r2.2.2.2.2.2.1), (va_up v10.2.2.2.2.2.2.2 5 r2.2.2.2.2.2.2)) _ _ _ hn w (lv_sub hl [1, 2, 0] rfl)
  refine lv_aload_n C.1 C.2.1 dX1_become_0 rfl (lv_at hl 0 rfl) ?_
  refine lv_aload_n C.1 C.2.1 dX1_become_1 rfl (lv_at hl 1 rfl) ?_
  refine r_get C w inX1_become_X1 0 rfl rfl 0 (by decide) lkX1_become_9 rfl dX1_become_2 ?_
  refine r_put (ws' := (wX1_become cI cL cS cH a_p1 a_p1_rows a_this a_this_rows q_p1_known q_p1_rows_R q_p1_rows_nodes q_p1_rows_near_R q_p1_rows_clean q_p1_rows_guards q_p1_rows_kind q_p1_rows_team q_p1_rows_draw q_p1_rows_near q_p1_known q_rows_R q_rows_nodes q_rows_near_R q_rows_clean q_rows_guards q_rows_kind q_rows_team q_rows_draw q_rows_near)) C w inX1_become_X1 tyX1 tyX1_ok nmX1 14 rfl rfl 0 (by decide) lkX1_become_9 rfl rfl rfl (Nat.le_of_ble_eq_true rfl) rfl dX1_become_5 (fun H locs w => ?_)
  refine lv_iconst (v := (0 : Int32)) C.1 C.2.1 dX1_become_8 (by decide) ?_
  refine lv_istore_n (lv' := [(2, .int (0 : Int32)), (0, .ref a_this), (1, .ref a_p1)]) C.1 C.2.1 dX1_become_9 rfl hl (by decide) rfl (fun ls hl => ?_)
  obtain ⟨ex4, hx5, hf⟩ := bd hf
  refine hlp10 q_p1_known ex4 ?_ fu ((0 : Int32), q_rows_nodes, q_rows_clean, q_rows_guards, q_rows_kind, q_rows_team, q_rows_draw, q_rows_near) _ _ _ hx5 w (lv_sub hl [1, 2, 0] rfl)
  intro H locs ls w hl
  have hres := Option.some.inj hf
  subst hres
  exact ret_v C hr hlocks w dX1_become_39
