/-! WHAT HOLDS AT THE LAW'S ENTRY -/
def S00 : Sd := (2, fun _ => 0, 0, 0, 0, 2, 1)
theorem S00_ok : sdOK S00 := by
  refine ⟨⟨⟨by decide, by decide⟩, fun v => ?_, fun v _ => rfl, fun u v => ?_, fun v => ?_⟩, by decide, (show (0 : Nat) &&& 0 = 0 from Nat.and_self 0), fouled_00, by decide, ⟨by decide, by decide⟩, by decide⟩
  · show 0 < 2 ^ 2
    decide
  · show (0 : Nat).testBit v = (0 : Nat).testBit u
    rw [Nat.zero_testBit, Nat.zero_testBit]
  · show (0 : Nat).testBit v = false
    exact Nat.zero_testBit v
set_option maxRecDepth 100000 in
theorem lr0 : LR 0 (2 : Int32) (fun _ => 0) (0 : Int32) (0 : Int32) (0 : Int32) (2 : Int32) (1 : Int32) (upd (upd (upd (fun _ => 0) 0 (2)) 11 (2)) 12 (1)) (0 : Int32) (fun _ => (2 : Int32)) (fun _ => (0 : Int32)) (fun _ => (0 : Int32)) (fun _ => (0 : Int32)) (fun _ => (2 : Int32)) (fun _ => (1 : Int32)) (fun _ => (fun _ => 0)) (0 : Int32) (fun _ => 0) (0 : Int32) (0 : Int32) (0 : Int32) (fun _ => 0) (fun _ => 0) (0 : Int32) (-1 : Int32) (fun _ => 0) (0 : Int32) (-1 : Int32) (fun _ => 0) (fun _ => 0) (fun _ => 0) (0 : Int32) (2 : Int32) (fun _ => 0) (0 : Int32) (0 : Int32) (0 : Int32) (2 : Int32) (1 : Int32) (0 : Int32) (fun _ => (2 : Int32)) (fun _ => (0 : Int32)) (fun _ => (0 : Int32)) (fun _ => (0 : Int32)) (fun _ => (2 : Int32)) (fun _ => (1 : Int32)) (fun _ => (fun _ => 0)) (-1 : Int32) (fun _ => 0) (fun _ => 0) (0 : Int32) (fun _ => 0) (0 : Int32) (fun _ => 0) (fun _ => (-1 : Int32)) (fun _ => (0 : Int32)) (fun _ => (fun _ => 0)) (upd (upd (upd (upd (fun _ => 0) 0 (-4)) 1 (-4)) 2 (-4)) 3 (-4)) (fun _ => 0) (fun _ => 0) (0 : Int32) (fun _ => 0) := by
  refine ⟨S00, 0, fun _ => S00, 0, 0, 0, fun _ => 0, Nat.le_refl 0, Nat.le_refl 0, S00_ok, ⟨rfl, fun v hv => rfl, rfl, rfl, rfl, rfl, rfl⟩, ⟨rfl, fun v hv => ?_, rfl, rfl, rfl, rfl, rfl⟩, ⟨rfl, Nat.zero_le _, fun i hi => absurd hi (Nat.not_lt_zero i)⟩, ⟨rfl, fun i hi => absurd hi (Nat.not_lt_zero i)⟩, ⟨rfl, rfl, ⟨0, Nat.le_refl 0, rfl⟩, Or.inl rfl⟩, Or.inl ⟨rfl, by decide⟩, ⟨Nat.zero_le _, rfl, rfl, fun i hi => absurd hi (Nat.not_lt_zero i)⟩, fun s hs => Or.inl ⟨rfl, ?_⟩, rfl, fun x hx => ⟨0, Nat.le_refl 0, rfl⟩⟩
  · rcases (show v = 0 ∨ v = 1 ∨ v = 2 ∨ v = 3 ∨ v = 4 ∨ v = 5 ∨ v = 6 by omega) with rfl | rfl | rfl | rfl | rfl | rfl | rfl <;> rfl
  · rcases (show s = 0 ∨ s = 1 ∨ s = 2 ∨ s = 3 by omega) with rfl | rfl | rfl | rfl <;> decide
theorem en_arr {args : Array Value} {s : State} (h1 : (Cond.arrayClass .int).before args s = true) (h2 : (Cond.arrayClass .long).before args s = true) (ao : ao2 s) : ∃ cI cL cS cH : ClassId, ∀ (k : Nat) (q : ClassId × FieldType), (ty4 cI cL cS cH)[k]? = some q → ArrOfT s q.1 q.2 ∧ va_RA s q.1 q.2 := by
  obtain ⟨cI, kI, pI, a1, a2, a3⟩ := Cond.arrayClass_spec h1
  obtain ⟨cL, kL, pL, b1, b2, b3⟩ := Cond.arrayClass_spec h2
  obtain ⟨pS, cS, kS, c1, c2, c3, c4, c5⟩ := Cond.arrayOver_spec ao.1
  obtain ⟨pH, cH, kH, d1, d2, d3, d4, d5⟩ := Cond.arrayOver_spec ao.2
  refine ⟨cI, cL, cS, cH, fun k q hq => ?_⟩
  match k, hq with
  | 0, hq => cases hq; exact ⟨fun n z => ⟨fun k h => (by cases h), kI, a2, pI, a3⟩, a1⟩
  | 1, hq => cases hq; exact ⟨fun n z => ⟨fun k h => (by cases h), kL, b2, pL, b3⟩, b1⟩
  | 2, hq => cases hq; exact ⟨fun n z => ⟨fun k h => (by cases h), kS, c3, pS, c4⟩, kS, pS, c3, c4, c1, c5⟩
  | 3, hq => cases hq; exact ⟨fun n z => ⟨fun k h => (by cases h), kH, d3, pH, d4⟩, kH, pH, d3, d4, d1, d5⟩
  | k + 4, hq => cases hq
set_option maxRecDepth 100000 in
theorem en_cls {args : Array Value} {s : State} (hts : ∀ w ∈ wsL_law, w.before args s = true) : ∃ (dC : Nat → ClassId) (dI : Nat → Nat → Nat), ∀ (k : Nat) (q : vw_C), vwCl[k]? = some q → u_Kn s q.1 q.2.1 q.2.2 (dC k) (dI k) := by
  obtain ⟨c0, i0, h0⟩ := u_known (C := RX0) (T := TX0) (N := 5) (n := 5) hts inlX0 (hts (.instantiable RX0 5) (by decide +kernel))
  obtain ⟨c1, i1, h1⟩ := u_known (C := RX1) (T := TX1) (N := 2) (n := 2) hts inlX1 (hts (.instantiable RX1 2) (by decide +kernel))
  obtain ⟨c2, i2, h2⟩ := u_known (C := RX2) (T := TX2) (N := 5) (n := 5) hts inlX2 (hts (.instantiable RX2 5) (by decide +kernel))
  obtain ⟨c3, i3, h3⟩ := u_known (C := RX3) (T := TX3) (N := 7) (n := 7) hts inlX3 (hts (.instantiable RX3 7) (by decide +kernel))
  obtain ⟨c4, i4, h4⟩ := u_known (C := RX4) (T := TX4) (N := 3) (n := 3) hts inlX4 (hts (.instantiable RX4 3) (by decide +kernel))
  obtain ⟨c5, i5, h5⟩ := u_known (C := RX5) (T := TX5) (N := 7) (n := 7) hts inlX5 (hts (.instantiable RX5 7) (by decide +kernel))
  obtain ⟨c6, i6, h6⟩ := u_known (C := RX6) (T := TX6) (N := 6) (n := 6) hts inlX6 (hts (.instantiable RX6 6) (by decide +kernel))
  obtain ⟨c7, i7, h7⟩ := u_known (C := RX7) (T := TX7) (N := 9) (n := 9) hts inlX7 (hts (.instantiable RX7 9) (by decide +kernel))
  obtain ⟨c8, i8, h8⟩ := u_known (C := RX8) (T := TX8) (N := 22) (n := 22) hts inlX8 (hts (.instantiable RX8 22) (by decide +kernel))
  refine ⟨fun k => match k with | 0 => c0 | 1 => c1 | 2 => c2 | 3 => c3 | 4 => c4 | 5 => c5 | 6 => c6 | 7 => c7 | _ => c8, fun k => match k with | 0 => i0 | 1 => i1 | 2 => i2 | 3 => i3 | 4 => i4 | 5 => i5 | 6 => i6 | 7 => i7 | _ => i8, fun k q hq => ?_⟩
  match k, hq with
  | 0, hq => cases hq; exact h0
  | 1, hq => cases hq; exact h1
  | 2, hq => cases hq; exact h2
  | 3, hq => cases hq; exact h3
  | 4, hq => cases hq; exact h4
  | 5, hq => cases hq; exact h5
  | 6, hq => cases hq; exact h6
  | 7, hq => cases hq; exact h7
  | 8, hq => cases hq; exact h8
  | k + 9, hq => cases hq
def tmT (i : Nat) : Term := .string RX6 (idxT.getD i 0)
set_option maxHeartbeats 4000000 in
set_option maxRecDepth 100000 in
theorem en_str {args : Array Value} {s : State} (hg : (Jvm.Cond.and given_1 narrow_1).before args s = true) {A : Nat → Prop} (hA : ∀ a : Nat, a < s.heap.size → ¬ A a) : ∃ adK adV : Nat → Nat, vk_S 6 lenT bytT adK adV A s s.heap ∧ ∀ i : Nat, i < 6 → (tmT i).eval args s none [] s = some (.ref (adK i)) := by
  have hs := flat_of_before _ hg
  have hne : ∀ i j : Nat, i < j → j < 6 → (Cond.not (Cond.eq (tmT i) (tmT j))).before args s = true := by
    intro i j hij hj
    rcases (show j = 0 ∨ j = 1 ∨ j = 2 ∨ j = 3 ∨ j = 4 ∨ j = 5 by omega) with rfl | rfl | rfl | rfl | rfl | rfl
    · exact absurd hij (Nat.not_lt_zero i)
    · obtain rfl : i = 0 := by omega
      exact hs _ (by decide +kernel)
    · rcases (show i = 0 ∨ i = 1 by omega) with rfl | rfl <;> exact hs _ (by decide +kernel)
    · rcases (show i = 0 ∨ i = 1 ∨ i = 2 by omega) with rfl | rfl | rfl <;> exact hs _ (by decide +kernel)
    · rcases (show i = 0 ∨ i = 1 ∨ i = 2 ∨ i = 3 by omega) with rfl | rfl | rfl | rfl <;> exact hs _ (by decide +kernel)
    · rcases (show i = 0 ∨ i = 1 ∨ i = 2 ∨ i = 3 ∨ i = 4 by omega) with rfl | rfl | rfl | rfl | rfl <;> exact hs _ (by decide +kernel)
  refine vk_Sof (tm := tmT) (fun i hi => ?_) (fun i hi => ?_) (fun i hi => ?_) (fun i hi => ?_) (fun i hi => ?_) (fun i hi j hj => ?_) (fun i j hi hj hij => ?_) hA
  · rcases (show i = 0 ∨ i = 1 ∨ i = 2 ∨ i = 3 ∨ i = 4 ∨ i = 5 by omega) with rfl | rfl | rfl | rfl | rfl | rfl <;> decide
  · rcases (show i = 0 ∨ i = 1 ∨ i = 2 ∨ i = 3 ∨ i = 4 ∨ i = 5 by omega) with rfl | rfl | rfl | rfl | rfl | rfl <;> exact hs _ (by decide +kernel)
  · rcases (show i = 0 ∨ i = 1 ∨ i = 2 ∨ i = 3 ∨ i = 4 ∨ i = 5 by omega) with rfl | rfl | rfl | rfl | rfl | rfl <;> exact hs _ (by decide +kernel)
  · rcases (show i = 0 ∨ i = 1 ∨ i = 2 ∨ i = 3 ∨ i = 4 ∨ i = 5 by omega) with rfl | rfl | rfl | rfl | rfl | rfl <;> exact hs _ (by decide +kernel)
  · rcases (show i = 0 ∨ i = 1 ∨ i = 2 ∨ i = 3 ∨ i = 4 ∨ i = 5 by omega) with rfl | rfl | rfl | rfl | rfl | rfl <;> exact hs _ (by decide +kernel)
  · rcases (show i = 0 ∨ i = 1 ∨ i = 2 ∨ i = 3 ∨ i = 4 ∨ i = 5 by omega) with rfl | rfl | rfl | rfl | rfl | rfl
    · have hj : j < 4 := hj
      rcases (show j = 0 ∨ j = 1 ∨ j = 2 ∨ j = 3 by omega) with rfl | rfl | rfl | rfl <;> exact hs _ (by decide +kernel)
    · have hj : j < 4 := hj
      rcases (show j = 0 ∨ j = 1 ∨ j = 2 ∨ j = 3 by omega) with rfl | rfl | rfl | rfl <;> exact hs _ (by decide +kernel)
    · have hj : j < 4 := hj
      rcases (show j = 0 ∨ j = 1 ∨ j = 2 ∨ j = 3 by omega) with rfl | rfl | rfl | rfl <;> exact hs _ (by decide +kernel)
    · have hj : j < 3 := hj
      rcases (show j = 0 ∨ j = 1 ∨ j = 2 by omega) with rfl | rfl | rfl <;> exact hs _ (by decide +kernel)
    · have hj : j < 3 := hj
      rcases (show j = 0 ∨ j = 1 ∨ j = 2 by omega) with rfl | rfl | rfl <;> exact hs _ (by decide +kernel)
    · have hj : j < 4 := hj
      rcases (show j = 0 ∨ j = 1 ∨ j = 2 ∨ j = 3 by omega) with rfl | rfl | rfl | rfl <;> exact hs _ (by decide +kernel)
  · rcases Nat.lt_or_gt_of_ne hij with q | q
    · exact Or.inl (hne i j q hj)
    · exact Or.inr (hne j i q hi)
set_option maxHeartbeats 4000000 in
set_option maxRecDepth 100000 in
theorem en_kx {args : Array Value} {s : State} (hts : ∀ w ∈ lw_tbl, w.before args s = true) (hg : (Jvm.Cond.and given_1 narrow_1).before args s = true) : ∃ (D : vg) (cI cL cS cH : ClassId), kx D (ty4 cI cL cS cH) (fun q => s.heap.size ≤ q) s s.heap ∧ ao2 s := by
  have hA : ∀ a : Nat, a < s.heap.size → ¬ (fun q : Nat => s.heap.size ≤ q) a := fun a h => Nat.not_le.mpr h
  have htl : ∀ w ∈ wsL_law, w.before args s = true := fun w h => hts w (wsL_law_in w h)
  have ao : ao2 s := ⟨va_AO.of (hts (.arrayOver (.object "CleanNets$Standing")) (by decide +kernel)), va_AO.of (hts (.arrayOver (.object "CleanNets$Sheet")) (by decide +kernel))⟩
  obtain ⟨cI, cL, cS, cH, hAr⟩ := en_arr (htl (.arrayClass .int) (by decide +kernel)) (htl (.arrayClass .long) (by decide +kernel)) ao
  obtain ⟨dC, dI, hKc⟩ := en_cls htl
  obtain ⟨adK, adV, hs1, hs2⟩ := en_str hg hA
  have hs := flat_of_before _ hg
  have hN : nw s := by
    have h : ∀ q ∈ nests, Cond.methodLinkNest q.1 q.2.1 q.2.2 "CleanNets" ∈ lw_tbl := by decide +kernel
    exact fun q hq => va_Nw.of rfl (hts _ (h q hq))
  have hR : ∀ i, i < 6 → vk_R RX6 (idxT.getD i 0) (txtT.getD i "") (adK i) s := by
    intro i hi
    have h : ∀ i, i < 6 → Cond.stringRef RX6 (idxT.getD i 0) (txtT.getD i "") ∈ lw_tbl := by decide +kernel
    exact vk_R.of (hts _ (h i hi)) (hs2 i hi)
  have hZ : va_Z "java/lang/String" "COMPACT_STRINGS" "Z" (.int 1) (fun q => s.heap.size ≤ q) s s.heap :=
    va_Zof (hts (.laysStatic "java/lang/String" "COMPACT_STRINGS" "Z") (by decide +kernel)) (hts (.initialized "java/lang/String") (by decide +kernel)) (va_eqt (hs _ (by decide +kernel))) hA
  have hQ : va_Zq "jdk/internal/util/Preconditions" "SIOOBE_FORMATTER" "Ljava/util/function/BiFunction;" (fun q => s.heap.size ≤ q) s s.heap :=
    va_Zqof (hts (.laysStatic "jdk/internal/util/Preconditions" "SIOOBE_FORMATTER" "Ljava/util/function/BiFunction;") (by decide +kernel)) (hts (.initialized "jdk/internal/util/Preconditions") (by decide +kernel)) (hs _ (by decide +kernel)) hA
  exact ⟨((dC, dI), adK, adV), cI, cL, cS, cH, ⟨⟨hKc, hAr⟩, hN, hs1, hR, hZ, hQ⟩, ao⟩
