/-! Sheets: item, sheet, drop. -/
theorem low_gen {x y : Int64} {w : Nat} (h0 : 0 < w) (hw : w ≤ 64) (h1 : ∀ i, i < 64 → y.toBitVec.getLsbD i = x.toBitVec.getLsbD (if i < w then i else w - 1)) {s : Nat} (hs : s + w = 64) {c : Int64} (hc : (c.toBitVec.smod 64).toNat = s) : y = (x <<< c) >>> c := by
  apply Int64.toBitVec_inj.1
  apply BitVec.eq_of_getLsbD_eq
  intro i hi
  rw [h1 i hi]
  show _ = ((x.toBitVec <<< (c.toBitVec.smod 64).toNat).sshiftRight (c.toBitVec.smod 64).toNat).getLsbD i
  rw [hc, BitVec.getLsbD_sshiftRight, BitVec.getLsbD_shiftLeft, BitVec.msb_eq_getLsbD_last, BitVec.getLsbD_shiftLeft]
  have d0 : decide (64 ≤ i) = false := decide_eq_false (by omega)
  rw [d0]
  by_cases q : i < w
  · rw [if_pos q, if_pos (by omega), decide_eq_true (show s + i < 64 by omega), decide_eq_false (show ¬ s + i < s by omega), show s + i - s = i by omega]
    rfl
  · rw [if_neg q, if_neg (by omega), decide_eq_true (show 64 - 1 < 64 by omega), decide_eq_false (show ¬ 64 - 1 < s by omega), show 64 - 1 - s = w - 1 by omega]
    rfl
theorem ext_bit {w v : Nat} (x : BitVec w) {i : Nat} (hi : i < v) (h0 : 0 < w) : (x.signExtend v).getLsbD i = x.getLsbD (if i < w then i else w - 1) := by
  rw [BitVec.getLsbD_signExtend, decide_eq_true hi, Bool.true_and]
  by_cases q : i < w
  · rw [if_pos q, if_pos q]
  · rw [if_neg q, if_neg q, BitVec.msb_eq_getLsbD_last]
theorem low_8 (x : Int64) : (((x.toInt32).toInt8.toInt32).toInt64) = (x <<< (((56 : Int32)).toInt64 &&& 63)) >>> (((56 : Int32)).toInt64 &&& 63) := by
  refine low_gen (w := 8) (s := 56) (by decide) (by decide) (fun i hi => ?_) (by decide) (by decide)
  show ((((x.toBitVec.signExtend 32).signExtend 8).signExtend 32).signExtend 64).getLsbD i = _
  rw [ext_bit _ hi (by decide), ext_bit _ (by (repeat' split) <;> omega) (by decide), ext_bit _ (by (repeat' split) <;> omega) (by decide), ext_bit _ (by (repeat' split) <;> omega) (by decide)]
  congr 1
  (repeat' split) <;> omega
theorem low_16 (x : Int64) : (((x.toInt32).toInt16.toInt32).toInt64) = (x <<< (((48 : Int32)).toInt64 &&& 63)) >>> (((48 : Int32)).toInt64 &&& 63) := by
  refine low_gen (w := 16) (s := 48) (by decide) (by decide) (fun i hi => ?_) (by decide) (by decide)
  show ((((x.toBitVec.signExtend 32).signExtend 16).signExtend 32).signExtend 64).getLsbD i = _
  rw [ext_bit _ hi (by decide), ext_bit _ (by (repeat' split) <;> omega) (by decide), ext_bit _ (by (repeat' split) <;> omega) (by decide), ext_bit _ (by (repeat' split) <;> omega) (by decide)]
  congr 1
  (repeat' split) <;> omega
theorem low_32 (x : Int64) : ((x.toInt32).toInt64) = (x <<< (((32 : Int32)).toInt64 &&& 63)) >>> (((32 : Int32)).toInt64 &&& 63) := by
  refine low_gen (w := 32) (s := 32) (by decide) (by decide) (fun i hi => ?_) (by decide) (by decide)
  show ((x.toBitVec.signExtend 32).signExtend 64).getLsbD i = _
  rw [ext_bit _ hi (by decide), ext_bit _ (by (repeat' split) <;> omega) (by decide)]
  congr 1
  (repeat' split) <;> omega
theorem low_same (l : Int32) (x : Int64) : fX4_lowestBits l x = fX8_lowest x l := by
  unfold fX4_lowestBits fX8_lowest
  rw [low_8, low_16, low_32]
/-- the sheets, on both sides -/
def shO (T l : Nat) (lane len laneOf sizeOf : Int32) (its all : Nat → Int64) (s : Nat) : Prop := l < 4 ∧ T ≤ 24 ∧ lane = nI l ∧ laneOf = nI l ∧ len = nI T ∧ sizeOf = nI T ∧ ∀ i, i < T → its i = all (24 * s + i)
def shR (lane len : Nat → Int32) (its : Nat → Nat → Int64) (laneOf sizeOf : Nat → Int32) (all : Nat → Int64) : Prop := ∀ s, s < 4 → (lane s = -1 ∧ laneOf s < 0) ∨ ∃ T l, shO T l (lane s) (len s) (laneOf s) (sizeOf s) (its s) all s
theorem sel4_at {β : Type} {f : Nat → Option β} : ∀ {k : Nat}, k < 4 → sel4 (nI k) f = f k := by
  intro k hk
  rcases (show k = 0 ∨ k = 1 ∨ k = 2 ∨ k = 3 by omega) with rfl | rfl | rfl | rfl
  · exact if_pos (by decide)
  · exact (if_neg (by decide)).trans (if_pos (by decide))
  · exact (if_neg (by decide)).trans ((if_neg (by decide)).trans (if_pos (by decide)))
  · exact (if_neg (by decide)).trans ((if_neg (by decide)).trans ((if_neg (by decide)).trans (if_pos (by decide))))
theorem sheetOf (x : Int32) : (∃ s, s < 4 ∧ x = nI s ∧ fX7_isSheet x = some 1 ∧ fX7_isLane x = some 1 ∧ fX8_in x.toInt64 (0 : Int64) (3 : Int64) = some 1) ∨ (fX7_isSheet x = some 0 ∧ fX7_isLane x = some 0 ∧ fX8_in x.toInt64 (0 : Int64) (3 : Int64) = some 0) := by
  rw [show (0 : Int64) = (nI 0).toInt64 from rfl, show (3 : Int64) = (nI 3).toInt64 from by decide]
  unfold fX7_isSheet fX7_isLane
  rcases m_inN (a := 0) (b := 3) (by decide) (by decide) x with ⟨j, _, h2, rfl, h4, h5, h6⟩ | ⟨h1, h2 | ⟨h2, h3⟩⟩
  · rw [if_neg (show ¬ nI j < 0 from h5), if_neg (show ¬ (4 : Int32) ≤ nI j from nI_ge (b := 4) (by omega) (by decide))]
    exact Or.inl ⟨j, by omega, rfl, rfl, rfl, h4⟩
  · rw [if_pos (show x < 0 from h2)]
    exact Or.inr ⟨rfl, rfl, h1⟩
  · obtain ⟨j, hj, rfl⟩ := nI_of h2
    have h4 : (4 : Int32) ≤ nI j := by
      refine nI_le (a := 4) ?_ hj
      rcases Nat.lt_or_ge j 4 with q | q
      · exact absurd h3 (show ¬ nI 3 < nI j from nI_nlt (by omega) (by decide))
      · exact q
    rw [if_neg (show ¬ nI j < 0 from h2), if_pos h4]
    exact Or.inr ⟨rfl, rfl, h1⟩
theorem sheetBoth (x y : Int32) : (∃ s l, s < 4 ∧ l < 4 ∧ x = nI s ∧ y = nI l ∧ fX7_isSheet x = some 1 ∧ fX7_isLane y = some 1 ∧ fX8_isSheet x y = some 1) ∨ (((fX7_isSheet x = some 1 ∧ fX7_isLane y = some 0) ∨ fX7_isSheet x = some 0) ∧ fX8_isSheet x y = some 0) := by
  unfold fX8_isSheet
  rcases sheetOf x with ⟨s, hs, h1, h2, _, h3⟩ | ⟨h2, _, h3⟩
  · rw [h3, Option.bind_some, if_neg (show ¬ (1 : Int32) = 0 by decide)]
    rcases sheetOf y with ⟨l, hl, g1, _, g2, g3⟩ | ⟨_, g2, g3⟩
    · rw [g3, Option.bind_some, if_neg (show ¬ (1 : Int32) = 0 by decide)]
      exact Or.inl ⟨s, l, hs, hl, h1, g1, h2, g2, rfl⟩
    · rw [g3, Option.bind_some, if_pos rfl]
      exact Or.inr ⟨Or.inl ⟨h2, g2⟩, rfl⟩
  · rw [h3, Option.bind_some, if_pos rfl]
    exact Or.inr ⟨Or.inr h2, rfl⟩
/-- how a difference compares -/
theorem nI_diff {T m : Nat} (hT : T < 2 ^ 31) (hm : m < 2 ^ 31) : (nI T - nI m).toInt = (T : Int) - (m : Int) := by
  rw [Int32.toInt_sub, nI_toInt hT, nI_toInt hm, Int.bmod_eq_of_le (by omega) (by omega)]
theorem diff_lt {T m i : Nat} (hT : T < 2 ^ 31) (hm : m < 2 ^ 31) (hi : i < 2 ^ 31) : nI T - nI m < nI i ↔ T < i + m := by
  rw [fa_lt, nI_diff hT hm, nI_toInt hi]
  omega
theorem diff_le {T m i : Nat} (hT : T < 2 ^ 31) (hm : m < 2 ^ 31) (hi : i < 2 ^ 31) : nI i ≤ nI T - nI m ↔ i + m ≤ T := by
  rw [fa_le, nI_diff hT hm, nI_toInt hi]
  omega
theorem m1_ne {l : Nat} (hl : l < 2 ^ 31) : ¬ nI l = (-1 : Int32) := fun z => by
  have h4 : (0 : Int32) ≤ -1 := by rw [← z, l0]; exact nI_le (Nat.zero_le _) hl
  exact absurd h4 (by decide)
theorem found_same {lane len laneOf sizeOf : Nat → Int32} {its : Nat → Nat → Int64} {all : Nat → Int64} (h : shR lane len its laneOf sizeOf all) {s l m : Nat} (hs : s < 4) (hl : l < 4) (hm : m ≤ 24) (x3 : Int32) :
    ∃ w, fX4_wrongAs (lane s) (len s) (nI l) x3 (nI m) = some w ∧ fX8_found laneOf sizeOf (nI s) (nI l) x3 (nI m) = some w ∧ (w = 0 → ∃ T i, shO T l (lane s) (len s) (laneOf s) (sizeOf s) (its s) all s ∧ x3 = nI i ∧ i + m ≤ T) := by
  unfold fX4_wrongAs fX8_found fX4_isMissing
  rw [rd_nI hs (by decide), Option.bind_some]
  rcases h s hs with ⟨h1, h2⟩ | ⟨T, l', h1⟩
  · rw [if_pos h1, Option.bind_some, if_neg (show ¬ (1 : Int32) = 0 by decide), if_neg (show ¬ 0 ≤ laneOf s from Int32.not_le.mpr h2)]
    exact ⟨_, rfl, rfl, fun z => absurd z (by decide)⟩
  · have h0 := h1
    obtain ⟨a1, a2, a3, a4, a5, a6, a7⟩ := h1
    rw [a3, a4, a5, if_neg (m1_ne (by omega)), Option.bind_some, if_pos rfl, if_pos (show 0 ≤ nI l' by rw [l0]; exact nI_le (Nat.zero_le _) (by omega)), rd_nI hs (by decide), Option.bind_some, Option.bind_some, a6]
    by_cases q : l' = l
    · subst q
      rw [if_pos rfl, if_pos rfl]
      unfold fX4_holds jX8_found_42
      rw [if_neg (nI_pos (show m < 2 ^ 31 by omega))]
      by_cases q1 : x3 < 0
      · rw [if_pos q1, if_pos q1, Option.bind_some, if_pos rfl]
        exact ⟨_, rfl, rfl, fun z => absurd z (by decide)⟩
      · obtain ⟨i, hi, rfl⟩ := nI_of q1
        rw [if_neg q1, if_neg q1]
        by_cases q2 : T < i + m
        · rw [if_pos ((diff_lt (by omega) (by omega) hi).mpr q2), Option.bind_some, if_pos rfl, if_neg (fun z => absurd ((diff_le (by omega) (by omega) hi).mp z) (by omega))]
          exact ⟨_, rfl, rfl, fun z => absurd z (by decide)⟩
        · rw [if_neg (fun z => q2 ((diff_lt (by omega) (by omega) hi).mp z)), Option.bind_some, if_neg (show ¬ (1 : Int32) = 0 by decide), if_pos ((diff_le (by omega) (by omega) hi).mpr (by omega))]
          refine ⟨_, rfl, rfl, fun _ => ⟨T, i, ?_, rfl, by omega⟩⟩
          rw [a3, a4, a5, a6] at h0
          exact h0
    · have q' : ¬ nI l' = nI l := fun z => q (nI_inj (by omega) (by omega) z)
      rw [if_neg q', if_neg q']
      exact ⟨_, rfl, rfl, fun z => absurd z (by decide)⟩
theorem c_begin {a b : Int32} {its : Nat → Int64} {x y : Int32} : ∃ its', fX4_begin a b its x y = some (x, y, its') ∧ ∀ i, i < 24 → its' i = 0 := by
  have key : itL (bX4_begin_12 x y) fu ((0 : Int32), its) = some (nI 24, fun i => if i < 24 then 0 else its i) := by
    refine itL_for (fun j => (nI j, fun i => if i < j then 0 else its i)) 24 _ ?_ ?_ (by decide) (by rfl)
    · intro j hj
      unfold bX4_begin_12
      dsimp only
      rw [if_neg (show ¬ (24 : Int32) ≤ nI j from nI_ge (b := 24) hj (by decide)), wl_nI hj (by decide), Option.bind_some, nI_1]
      refine congrArg (fun z => some (Sum.inl (nI (j + 1), z))) (funext (fun i => ?_))
      by_cases e : i = j
      · subst e
        rw [pk_uLs, if_pos (by omega)]
      · rw [pk_uLn e]
        by_cases q : i < j
        · rw [if_pos q, if_pos (by omega)]
        · rw [if_neg q, if_neg (by omega)]
    · unfold bX4_begin_12
      dsimp only
      rw [if_pos (by decide)]
  refine ⟨fun i => if i < 24 then 0 else its i, ?_, fun i hi => if_pos hi⟩
  unfold fX4_begin
  rw [key, Option.bind_some]
theorem m_begin {s T : Nat} {x y : Nat → Int32} {all : Nat → Int64} (hs : s < 4) (hT : T ≤ 24) : itL (bX8_sheet_40 (nI s) (nI T) x y) fu ((0 : Int32), all) = some (nI T, fun i => if 24 * s ≤ i ∧ i < 24 * s + T then 0 else all i) := by
  refine itL_for (fun j => (nI j, fun i => if 24 * s ≤ i ∧ i < 24 * s + j then 0 else all i)) T _ ?_ ?_ (by show T < 5000; omega) ?_
  · intro j hj
    unfold bX8_sheet_40
    dsimp only
    rw [if_neg (show ¬ nI T ≤ nI j from nI_ge hj (by omega)), show (24 : Int32) * nI s = nI (24 * s) from pk_mul 24 s, nI_add, wl_nI (by omega) (by decide), Option.bind_some, nI_1]
    refine congrArg (fun z => some (Sum.inl (nI (j + 1), z))) (funext (fun i => ?_))
    by_cases e : i = 24 * s + j
    · subst e
      rw [pk_uLs, if_pos (by omega)]
    · rw [pk_uLn e]
      by_cases q : 24 * s ≤ i ∧ i < 24 * s + j
      · rw [if_pos q, if_pos (by omega)]
      · rw [if_neg q, if_neg (by omega)]
  · unfold bX8_sheet_40
    dsimp only
    rw [if_pos (show nI T ≤ nI T from nI_le (Nat.le_refl _) (by omega))]
  · refine congrArg (fun z => ((0 : Int32), z)) (funext (fun i => ?_))
    rw [if_neg (by omega)]
theorem sh_other {lane len laneOf sizeOf lane' len' laneOf' sizeOf' : Nat → Int32} {its its' : Nat → Nat → Int64} {all all' : Nat → Int64} {t : Nat} (h : shR lane len its laneOf sizeOf all) (ho : ∀ s, s < 4 → s ≠ t → lane' s = lane s ∧ len' s = len s ∧ its' s = its s ∧ laneOf' s = laneOf s ∧ sizeOf' s = sizeOf s) (ha : ∀ s, s < 4 → s ≠ t → ∀ i, i < 24 → all' (24 * s + i) = all (24 * s + i)) (ht : (lane' t = -1 ∧ laneOf' t < 0) ∨ ∃ T l, shO T l (lane' t) (len' t) (laneOf' t) (sizeOf' t) (its' t) all' t) : shR lane' len' its' laneOf' sizeOf' all' := by
  intro s hs
  by_cases e : s = t
  · subst e; exact ht
  · obtain ⟨e1, e2, e3, e4, e5⟩ := ho s hs e
    rw [e1, e2, e3, e4, e5]
    rcases h s hs with h1 | ⟨T, l, a1, a2, a3, a4, a5, a6, a7⟩
    · exact Or.inl h1
    · exact Or.inr ⟨T, l, a1, a2, a3, a4, a5, a6, fun i hi => by rw [ha s hs e i (by omega)]; exact a7 i hi⟩
theorem vu {α : Type} {f : Nat → α} {k : Nat} {x : α} : va_up f k x k = x := if_pos rfl
theorem vn {α : Type} {f : Nat → α} {k j : Nat} {x : α} (h : j ≠ k) : va_up f k x j = f j := if_neg h
theorem op_sheet {lane len laneOf sizeOf : Nat → Int32} {its : Nat → Nat → Int64} {all : Nat → Int64} (h : shR lane len its laneOf sizeOf all) (x1 x2 x3 : Int32) :
    ∃ r lane' len' its' all' laneOf' sizeOf', fX7_sheet lane len its x1 x2 x3 = some (r, lane', len', its') ∧ fX8_sheet all laneOf sizeOf x1 x2 x3 = some (r, all', laneOf', sizeOf') ∧ shR lane' len' its' laneOf' sizeOf' all' := by
  unfold fX7_sheet fX8_sheet
  rcases sheetBoth x1 x2 with ⟨s, l, hs, hl, rfl, rfl, e1, e2, e3⟩ | ⟨e1, e3⟩
  · rw [e1, Option.bind_some, if_neg (show ¬ (1 : Int32) = 0 by decide), e2, Option.bind_some, if_neg (show ¬ (1 : Int32) = 0 by decide), e3, Option.bind_some, if_neg (show ¬ (1 : Int32) = 0 by decide)]
    by_cases q : x3 ≤ 24
    · rw [if_pos q, if_pos q]
      by_cases q0 : 0 ≤ x3
      · obtain ⟨T, hT, rfl⟩ := nI_of (show ¬ x3 < 0 from Int32.not_lt.mpr q0)
        have hT24 : T ≤ 24 := by
          rcases Nat.lt_or_ge 24 T with z | z
          · exact absurd q (show ¬ nI T ≤ nI 24 from nI_ge z hT)
          · exact z
        obtain ⟨its', b1, b2⟩ := c_begin (a := lane s) (b := len s) (its := its s) (x := nI l) (y := nI T)
        rw [if_pos q0, if_pos q0, sel4_at hs, b1, Option.bind_some, wi_nI hs (by decide), Option.bind_some, wi_nI hs (by decide), Option.bind_some, m_begin hs hT24, Option.bind_some]
        refine ⟨_, _, _, _, _, _, _, rfl, rfl, sh_other (t := s) h (fun j hj hne => ?_) (fun j hj hne i hi => ?_) (Or.inr ⟨T, l, hl, hT24, vu, pk_us, vu, pk_us, fun i hi => ?_⟩)⟩
        · exact ⟨vn hne, vn hne, vn hne, pk_un hne, pk_un hne⟩
        · exact if_neg (by omega)
        · dsimp only
          rw [vu, b2 i (by omega), if_pos (by omega)]
      · rw [if_neg q0, if_neg q0]
        exact ⟨_, _, _, _, _, _, _, rfl, rfl, h⟩
    · rw [if_neg q, if_neg q]
      exact ⟨_, _, _, _, _, _, _, rfl, rfl, h⟩
  · rw [e3, Option.bind_some, if_pos rfl]
    rcases e1 with ⟨e1, e2⟩ | e1
    · rw [e1, Option.bind_some, if_neg (show ¬ (1 : Int32) = 0 by decide), e2, Option.bind_some, if_pos rfl]
      exact ⟨_, _, _, _, _, _, _, rfl, rfl, h⟩
    · rw [e1, Option.bind_some, if_pos rfl]
      exact ⟨_, _, _, _, _, _, _, rfl, rfl, h⟩
theorem op_drop {lane len laneOf sizeOf : Nat → Int32} {its : Nat → Nat → Int64} {all : Nat → Int64} (h : shR lane len its laneOf sizeOf all) (x1 : Int32) :
    ∃ r lane' laneOf', fX7_drop lane len x1 = some (r, lane') ∧ fX8_drop laneOf sizeOf x1 = some (r, laneOf') ∧ shR lane' len its laneOf' sizeOf all := by
  unfold fX7_drop fX8_drop
  rcases sheetOf x1 with ⟨s, hs, rfl, e1, _, e2⟩ | ⟨e1, _, e2⟩
  · rw [e1, Option.bind_some, if_neg (show ¬ (1 : Int32) = 0 by decide), e2, Option.bind_some, if_neg (show ¬ (1 : Int32) = 0 by decide), sel4_at hs, rd_nI hs (by decide), Option.bind_some]
    unfold fX4_isMissing
    rcases h s hs with ⟨h1, h2⟩ | ⟨T, l, a1, a2, a3, a4, a5, a6, a7⟩
    · rw [if_pos h1, Option.bind_some, if_neg (show ¬ (1 : Int32) = 0 by decide), if_neg (show ¬ 0 ≤ laneOf s from Int32.not_le.mpr h2)]
      exact ⟨_, _, _, rfl, rfl, h⟩
    · rw [if_neg (show ¬ lane s = -1 by rw [a3]; exact m1_ne (by omega)), Option.bind_some, if_pos rfl, if_pos (show 0 ≤ laneOf s by rw [a4, l0]; exact nI_le (Nat.zero_le _) (by omega)), wi_nI hs (by decide), Option.bind_some, rd_nI hs (by decide), Option.bind_some, a5, a6]
      refine ⟨_, _, _, rfl, rfl, sh_other (t := s) h (fun j hj hne => ⟨vn hne, rfl, rfl, pk_un hne, rfl⟩) (fun j hj hne i hi => rfl) (Or.inl ⟨vu, ?_⟩)⟩
      rw [pk_us]
      decide
  · rw [e1, Option.bind_some, if_pos rfl, e2, Option.bind_some, if_pos rfl]
    exact ⟨_, _, _, rfl, rfl, h⟩
theorem op_item {lane len laneOf sizeOf : Nat → Int32} {its : Nat → Nat → Int64} {all : Nat → Int64} (h : shR lane len its laneOf sizeOf all) (x1 x2 x3 : Int32) (x4 : Int64) :
    ∃ r its' all', fX7_item lane len its x1 x2 x3 x4 = some (r, its') ∧ fX8_item all laneOf sizeOf x1 x2 x3 x4 = some (r, all') ∧ shR lane len its' laneOf sizeOf all' := by
  unfold fX7_item fX8_item
  rcases sheetBoth x1 x2 with ⟨s, l, hs, hl, rfl, rfl, e1, e2, e3⟩ | ⟨e1, e3⟩
  · rw [e1, Option.bind_some, if_neg (show ¬ (1 : Int32) = 0 by decide), e2, Option.bind_some, if_neg (show ¬ (1 : Int32) = 0 by decide), e3, Option.bind_some, if_neg (show ¬ (1 : Int32) = 0 by decide), sel4_at hs]
    obtain ⟨w, f1, f2, f3⟩ := found_same h hs hl (m := 1) (by decide) x3
    rw [show fX4_wrongAs (lane s) (len s) (nI l) x3 (1 : Int32) = some w from f1, show fX8_found laneOf sizeOf (nI s) (nI l) x3 (1 : Int32) = some w from f2, Option.bind_some, Option.bind_some]
    by_cases q : w = 0
    · obtain ⟨T, i, o1, rfl, hi⟩ := f3 q
      have hT := o1.2.1
      rw [if_pos q, if_pos q, low_same]
      obtain ⟨v, hv⟩ : ∃ v, fX8_lowest x4 (nI l) = some v := by
        unfold fX8_lowest
        repeat' split
        all_goals exact ⟨_, rfl⟩
      rw [hv, Option.bind_some, Option.bind_some, wl_nI (by omega) (by decide), Option.bind_some, show (24 : Int32) * nI s = nI (24 * s) from pk_mul 24 s, nI_add, wl_nI (by omega) (by decide), Option.bind_some]
      refine ⟨_, _, _, rfl, rfl, sh_other (t := s) h (fun j hj hne => ⟨rfl, rfl, vn hne, rfl, rfl⟩) (fun j hj hne k hk => pk_uLn (by omega)) (Or.inr ⟨T, l, o1.1, o1.2.1, o1.2.2.1, o1.2.2.2.1, o1.2.2.2.2.1, o1.2.2.2.2.2.1, fun k hk => ?_⟩)⟩
      rw [vu]
      by_cases e : k = i
      · subst e
        rw [pk_uLs, pk_uLs]
      · rw [pk_uLn e, pk_uLn (by omega)]
        exact o1.2.2.2.2.2.2 k hk
    · rw [if_neg q, if_neg q]
      exact ⟨_, _, _, rfl, rfl, h⟩
  · rw [e3, Option.bind_some, if_pos rfl]
    rcases e1 with ⟨e1, e2⟩ | e1
    · rw [e1, Option.bind_some, if_neg (show ¬ (1 : Int32) = 0 by decide), e2, Option.bind_some, if_pos rfl]
      exact ⟨_, _, _, rfl, rfl, h⟩
    · rw [e1, Option.bind_some, if_pos rfl]
      exact ⟨_, _, _, rfl, rfl, h⟩
