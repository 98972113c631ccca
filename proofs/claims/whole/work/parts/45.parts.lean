/-! Parts of nets. -/
/-- all that hang together with a set, so many turns on -/
def hang (n : Nat) (nr : Nat → Nat) : Nat → Nat → Nat
  | 0, s => s
  | k + 1, s => hang n nr k s ||| lnk n nr (hang n nr k s)
theorem lnk_lt2 {nr : Nat → Nat} {n m : Nat} (h : ∀ v, nr v < 2 ^ m) (s : Nat) : lnk n nr s < 2 ^ m := by
  induction n with
  | zero => exact Nat.two_pow_pos m
  | succ k ih =>
    unfold lnk
    split
    · exact Nat.or_lt_two_pow ih (h k)
    · exact Nat.or_lt_two_pow ih (Nat.two_pow_pos m)
theorem hang_lt {n : Nat} {nr : Nat → Nat} (h : ∀ v, nr v < 2 ^ n) {s : Nat} (hs : s < 2 ^ n) : ∀ k, hang n nr k s < 2 ^ n := by
  intro k
  induction k with
  | zero => exact hs
  | succ k ih => exact Nat.or_lt_two_pow ih (lnk_lt2 h _)
theorem hang_has {n : Nat} {nr : Nat → Nat} {s i : Nat} (h : s.testBit i = true) : ∀ k, (hang n nr k s).testBit i = true := by
  intro k
  induction k with
  | zero => exact h
  | succ k ih => unfold hang; rw [Nat.testBit_or, ih]; rfl
/-- the part of a node, its least one -/
def partS (n : Nat) (nr : Nat → Nat) (v : Nat) : Nat := hang n nr 7 (2 ^ v)
def least (n : Nat) (nr : Nat → Nat) (v : Nat) : Nat := fa_first (fun i => (partS n nr v).testBit i) v
def partsTo (n : Nat) (nr : Nat → Nat) : Nat → Nat
  | 0 => 0
  | v + 1 => partsTo n nr v + (if least n nr v = v then 1 else 0)
theorem partsTo_le {n : Nat} {nr : Nat → Nat} : ∀ v, partsTo n nr v ≤ v := by
  intro v
  induction v with
  | zero => exact Nat.le_refl 0
  | succ v ih => unfold partsTo; split <;> omega
theorem least_le {n : Nat} {nr : Nat → Nat} {v : Nat} : least n nr v ≤ v := fa_first_le _ _
theorem partS_lt {n : Nat} {nr : Nat → Nat} (h : ∀ v, nr v < 2 ^ n) {v : Nat} (hv : v < n) : partS n nr v < 2 ^ n := hang_lt h (Nat.pow_lt_pow_right (by decide) hv) 7
theorem partS_has {n : Nat} {nr : Nat → Nat} {v : Nat} : (partS n nr v).testBit v = true := hang_has (by simp) 7
theorem least_has {n : Nat} {nr : Nat → Nat} {v : Nat} : (partS n nr v).testBit (least n nr v) = true := by
  rcases Nat.lt_or_ge (least n nr v) v with q | q
  · exact fa_first_yes (fun i => (partS n nr v).testBit i) v q
  · have e : least n nr v = v := Nat.le_antisymm least_le q
    rw [e]; exact partS_has
theorem least_no {n : Nat} {nr : Nat → Nat} {v i : Nat} (h : i < least n nr v) : (partS n nr v).testBit i = false := fa_first_no (fun i => (partS n nr v).testBit i) v i h
theorem c_least {n : Nat} {nr : Nat → Nat} {be ne : Nat → Int32} {nd al : Int32} {v : Nat} (h : netOk n nr nd al be ne) (hn : n ≤ 7) (hnr : ∀ v, nr v < 2 ^ n) (hv : v < n) : fX0_leastOfPart al be (nI v) = some (nI (least n nr v)) := by
  have hp := pow_le hn
  have k1 : itL (bX0_leastOfPart_6 al be (nI v)) fu (nI (2 ^ v), (0 : Int32)) = some (nI (partS n nr v), nI 7) := by
    refine itL_for (fun i => (nI (hang n nr i (2 ^ v)), nI i)) 7 _ ?_ ?_ (by decide) rfl
    · intro i hi
      have h1 : ¬ (7 : Int32) ≤ nI i := nI_ge (b := 7) hi (by decide)
      have hl : hang n nr i (2 ^ v) < 2 ^ n := hang_lt hnr (Nat.pow_lt_pow_right (by decide) hv) i
      unfold bX0_leastOfPart_6
      dsimp only
      rw [if_neg h1, h.2.1, nx_and, and_all hl, rd_nI (by omega) (by decide), Option.bind_some, h.2.2.1 _ (by omega), fa_or, nI_1, lnk_more hl hn]
      rfl
    · unfold bX0_leastOfPart_6
      dsimp only
      rw [if_pos (by decide)]; rfl
  have k2 : itL (bX0_leastOfPart_34 al be (nI v) (nI (partS n nr v))) fu (0 : Int32) = some (nI (least n nr v)) := by
    have hle : least n nr v ≤ v := least_le
    have hps : partS n nr v < 128 := Nat.lt_of_lt_of_le (partS_lt hnr hv) hp
    refine itL_for (fun i => nI i) (least n nr v) _ ?_ ?_ (by unfold fu; omega) rfl
    · intro i hi
      have hb := least_no hi
      unfold bX0_leastOfPart_34
      rw [if_neg (nI_ge (by omega) (by omega)), c_has hps (by omega), hb, Option.bind_some, nI_1]
      rfl
    · unfold bX0_leastOfPart_34
      by_cases e : least n nr v = v
      · rw [e, if_pos (nI_le (Nat.le_refl _) (by omega))]
      · rw [if_neg (nI_ge (by omega) (by omega)), c_has hps (by omega), least_has, Option.bind_some]
        rfl
  unfold fX0_leastOfPart bnd
  dsimp only
  rw [shl1 v (by omega), k1, Option.bind_some]
  dsimp only
  rw [k2]; rfl
theorem c_partsTo {n : Nat} {nr : Nat → Nat} {be ne : Nat → Int32} {nd al : Int32} {e : Nat} (h : netOk n nr nd al be ne) (hn : n ≤ 7) (hnr : ∀ v, nr v < 2 ^ n) (he : e ≤ n) : fX0_partsBelow al be (nI e) = some (nI (partsTo n nr e)) := by
  have key : itL (bX0_partsBelow_4 al be (nI e)) fu ((0 : Int32), (0 : Int32)) = some (nI (partsTo n nr e), nI e) := by
    refine itL_for (fun i => (nI (partsTo n nr i), nI i)) e _ ?_ ?_ (by unfold fu; omega) rfl
    · intro i hi
      have hle : least n nr i ≤ i := least_le
      unfold bX0_partsBelow_4
      dsimp only
      rw [if_neg (nI_ge hi (by omega)), c_least h hn hnr (by omega), Option.bind_some]
      unfold jX0_partsBelow_21
      conv => rhs; unfold partsTo
      by_cases q : least n nr i = i
      · rw [if_pos q, if_pos (by rw [q]), nI_1, nI_1]
      · rw [if_neg q, if_neg (fun g => q (nI_inj (by omega) (by omega) g)), nI_1]
        rfl
    · unfold bX0_partsBelow_4
      dsimp only
      rw [if_pos (nI_le (Nat.le_refl _) (by omega))]
  unfold fX0_partsBelow
  rw [key]; rfl
theorem c_partOf {n : Nat} {nr : Nat → Nat} {be ne : Nat → Int32} {nd al : Int32} {v : Nat} (h : netOk n nr nd al be ne) (hn : n ≤ 7) (hnr : ∀ v, nr v < 2 ^ n) (hv : v < n) : fX0_partOf al be (nI v) = some (nI (partsTo n nr (least n nr v))) := by
  have hle : least n nr v ≤ v := least_le
  unfold fX0_partOf
  rw [c_least h hn hnr hv, Option.bind_some, c_partsTo h hn hnr (by omega), Option.bind_some]
theorem c_parts {n : Nat} {nr : Nat → Nat} {be ne : Nat → Int32} {nd al : Int32} (h : netOk n nr nd al be ne) (hn : n ≤ 7) (hnr : ∀ v, nr v < 2 ^ n) : fX0_parts nd al be = some (nI (partsTo n nr n)) := by
  unfold fX0_parts
  rw [h.1, c_partsTo h hn hnr (Nat.le_refl n), Option.bind_some]
theorem m_around {st : Nat → Int32} {n : Nat} {nr : Nat → Nat} {v : Nat} (h : stNet st n nr) (hn : n ≤ 7) (hnr : ∀ v, nr v < 2 ^ n) (hv : v < n) : fX8_around st (nI v) = some (nI (partS n nr v)) := by
  have hp := pow_le hn
  have k1 : itL (bX8_around_6 st) fu (nI (2 ^ v), (0 : Int32)) = some (nI (partS n nr v), nI 7) := by
    refine itL_for (fun i => (nI (hang n nr i (2 ^ v)), nI i)) 7 _ ?_ ?_ (by decide) rfl
    · intro i hi
      have hl : hang n nr i (2 ^ v) < 2 ^ n := hang_lt hnr (Nat.pow_lt_pow_right (by decide) hv) i
      unfold bX8_around_6
      dsimp only
      rw [if_neg (show ¬ (7 : Int32) ≤ nI i from nI_ge (b := 7) hi (by decide)), m_links h hn (by omega), Option.bind_some, fa_or, nI_1]
      rfl
    · unfold bX8_around_6
      dsimp only
      rw [if_pos (by decide)]; rfl
  unfold fX8_around bnd
  dsimp only
  rw [shl1 v (by omega), k1]; rfl
theorem low_zero {a v : Nat} : a &&& (2 ^ v - 1) = 0 ↔ fa_first (fun i => a.testBit i) v = v := by
  constructor
  · intro h
    rcases Nat.lt_or_ge (fa_first (fun i => a.testBit i) v) v with q | q
    · have hy := fa_first_yes (fun i => a.testBit i) v q
      have : (a &&& (2 ^ v - 1)).testBit (fa_first (fun i => a.testBit i) v) = true := by
        rw [Nat.testBit_and, Nat.testBit_two_pow_sub_one]
        simp only [hy, Bool.true_and, decide_eq_true_eq]; exact q
      rw [h] at this; simp at this
    · exact Nat.le_antisymm (fa_first_le _ _) q
  · intro h
    apply Nat.eq_of_testBit_eq
    intro i
    rw [Nat.testBit_and, Nat.testBit_two_pow_sub_one, Nat.zero_testBit]
    by_cases g : i < v
    · have := fa_first_no (fun i => a.testBit i) v i (by rw [h]; exact g)
      rw [this]; rfl
    · simp [g]
theorem m_isLeast {st : Nat → Int32} {n : Nat} {nr : Nat → Nat} {v : Nat} (h : stNet st n nr) (hn : n ≤ 7) (hnr : ∀ v, nr v < 2 ^ n) (hv : v < n) : fX8_isLeast st (nI v) = some (if least n nr v = v then 1 else 0) := by
  have hps : partS n nr v < 128 := Nat.lt_of_lt_of_le (partS_lt hnr hv) (pow_le hn)
  unfold fX8_isLeast
  rw [m_around h hn hnr hv, Option.bind_some, shl1 v (by omega), l1, pk_sub Nat.one_le_two_pow, nx_and]
  by_cases e : least n nr v = v
  · rw [if_pos e, if_pos (by rw [low_zero.mpr e]; rfl)]
  · rw [if_neg e, if_neg (nI_ne0 (Nat.pos_of_ne_zero (fun q => e (low_zero.mp q))) (Nat.lt_trans (and_lt hps) (by decide)))]
theorem m_partsTo {st : Nat → Int32} {n : Nat} {nr : Nat → Nat} {e : Nat} (h : stNet st n nr) (hn : n ≤ 7) (hnr : ∀ v, nr v < 2 ^ n) (he : e ≤ n) : fX8_partsTo st (nI e) = some (nI (partsTo n nr e)) := by
  have key : itL (bX8_partsTo_4 st (nI e)) fu ((0 : Int32), (0 : Int32)) = some (nI (partsTo n nr e), nI e) := by
    refine itL_for (fun i => (nI (partsTo n nr i), nI i)) e _ ?_ ?_ (by unfold fu; omega) rfl
    · intro i hi
      unfold bX8_partsTo_4
      dsimp only
      rw [if_neg (nI_ge hi (by omega)), m_isLeast h hn hnr (by omega), Option.bind_some]
      unfold jX8_partsTo_23
      conv => rhs; unfold partsTo
      by_cases q : least n nr i = i
      · rw [if_pos q, if_pos q, if_neg (by decide), nI_1, nI_1]
      · rw [if_neg q, if_neg q, if_pos rfl, nI_1, l0, nI_add]
    · unfold bX8_partsTo_4
      dsimp only
      rw [if_pos (nI_le (Nat.le_refl _) (by omega))]
  unfold fX8_partsTo
  rw [key]; rfl
theorem m_partOf {st : Nat → Int32} {n : Nat} {nr : Nat → Nat} {v : Nat} (h : stNet st n nr) (hn : n ≤ 7) (hnr : ∀ v, nr v < 2 ^ n) (hv : v < n) : fX8_partOf st (nI v) = some (nI (partsTo n nr (least n nr v))) := by
  have hps : partS n nr v < 128 := Nat.lt_of_lt_of_le (partS_lt hnr hv) (pow_le hn)
  have hle : least n nr v ≤ v := least_le
  have key : itL (bX8_partOf_2 st (nI v)) fu (0 : Int32) = some (nI (least n nr v)) := by
    refine itL_for (fun i => nI i) (least n nr v) _ ?_ ?_ (by unfold fu; omega) rfl
    · intro i hi
      have hb := least_no hi
      unfold bX8_partOf_2
      rw [m_around h hn hnr hv, Option.bind_some, m_has hps (by omega), hb, Option.bind_some, nI_1]
      rfl
    · have hb : (partS n nr v).testBit (least n nr v) = true := least_has
      unfold bX8_partOf_2
      rw [m_around h hn hnr hv, Option.bind_some, m_has hps (by omega), hb, Option.bind_some]
      rfl
  unfold fX8_partOf
  rw [key, Option.bind_some, m_partsTo h hn hnr (by omega), Option.bind_some]
