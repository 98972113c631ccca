/-! Nets as numbers: links of sets, fouling; what the class and the reference compute of them. -/
theorem c_has {a k : Nat} (ha : a < 128) (hk : k < 7) : fX7_has (nI a) (nI k) = some (if a.testBit k then 1 else 0) := by
  unfold fX7_has
  rw [has_bit a ha k hk]
  cases a.testBit k <;> rfl
theorem m_has {a k : Nat} (ha : a < 128) (hk : k < 7) : fX8_has (nI a) (nI k) = some (if a.testBit k then 1 else 0) := by
  unfold fX8_has
  rw [has_bit a ha k hk]
  cases a.testBit k <;> rfl
/-- how many are in a set -/
def pc : Nat → Nat → Nat
  | 0, _ => 0
  | k + 1, a => pc k a + (if a.testBit k then 1 else 0)
theorem c_bits : ∀ a, a < 128 → fJ6_bitCount_0f7a4 (nI a) = some (nI (pc 7 a)) := by decide +kernel
theorem pc_le (a : Nat) : ∀ k, pc k a ≤ k := by
  intro k
  induction k with
  | zero => exact Nat.le_refl 0
  | succ k ih => unfold pc; split <;> omega
theorem m_size {a : Nat} (ha : a < 128) : fX8_sizeIn (nI a) = some (nI (pc 7 a)) := by
  have key : itL (bX8_sizeIn_4 (nI a)) fu ((0 : Int32), (0 : Int32)) = some (nI (pc 7 a), nI 7) := by
    refine itL_for (fun i => (nI (pc i a), nI i)) 7 _ ?_ ?_ (by decide) rfl
    · intro i hi
      have h1 : ¬ (7 : Int32) ≤ nI i := nI_ge hi (by decide)
      unfold bX8_sizeIn_4
      simp only [h1, if_false, m_has ha hi, Option.bind_some, jX8_sizeIn_24, nI_1]
      cases h : a.testBit i
      · simp [pc, h]
      · simp [pc, h, nI_1]
    · unfold bX8_sizeIn_4
      simp [show (7 : Int32) ≤ nI 7 from by decide]
  unfold fX8_sizeIn
  rw [key]; rfl
/-- all that are linked to one of a set -/
def lnk : Nat → (Nat → Nat) → Nat → Nat
  | 0, _, _ => 0
  | v + 1, nr, s => lnk v nr s ||| (if s.testBit v then nr v else 0)
theorem lnk_lt {nr : Nat → Nat} (h : ∀ v, nr v < 128) (s : Nat) : ∀ k, lnk k nr s < 128 := by
  intro k
  induction k with
  | zero => exact (by decide : (0 : Nat) < 128)
  | succ k ih =>
    unfold lnk
    split
    · exact or_lt ih (h k)
    · exact or_lt ih (by decide)
theorem lnk_bit {nr : Nat → Nat} {s i : Nat} : ∀ k, (lnk k nr s).testBit i = true ↔ ∃ v, v < k ∧ s.testBit v = true ∧ (nr v).testBit i = true := by
  intro k
  induction k with
  | zero => simp [lnk]
  | succ k ih =>
    unfold lnk
    rw [Nat.testBit_or, Bool.or_eq_true, ih]
    constructor
    · rintro (⟨v, h1, h2⟩ | h)
      · exact ⟨v, by omega, h2⟩
      · split at h
        · rename_i g; exact ⟨k, by omega, g, h⟩
        · simp at h
    · rintro ⟨v, h1, h2, h3⟩
      by_cases e : v = k
      · subst e; rw [if_pos h2]; exact Or.inr h3
      · exact Or.inl ⟨v, by omega, h2, h3⟩
theorem bits_ext {a b : Nat} (h : ∀ i, a.testBit i = true ↔ b.testBit i = true) : a = b := Nat.eq_of_testBit_eq (fun i => Bool.eq_iff_iff.mpr (h i))
theorem bit_lt {a i n : Nat} (h : a.testBit i = true) (ha : a < 2 ^ n) : i < n := by
  rcases Nat.lt_or_ge i n with q | q
  · exact q
  · rw [Nat.testBit_lt_two_pow (Nat.lt_of_lt_of_le ha (Nat.pow_le_pow_right (by decide) q))] at h; cases h
theorem lnk_0 (nr : Nat → Nat) (k : Nat) : lnk k nr 0 = 0 := bits_ext (fun i => by rw [lnk_bit]; simp)
theorem lnk_more {nr : Nat → Nat} {s n k : Nat} (hs : s < 2 ^ n) (hk : n ≤ k) : lnk k nr s = lnk n nr s := bits_ext (fun i => by
  rw [lnk_bit, lnk_bit]
  exact ⟨fun ⟨v, _, h2, h3⟩ => ⟨v, bit_lt h2 hs, h2, h3⟩, fun ⟨v, h1, h2⟩ => ⟨v, by omega, h2⟩⟩)
theorem two_add_bit {v j i : Nat} (hj : j < 2 ^ v) : (2 ^ v + j).testBit i = true ↔ i = v ∨ j.testBit i = true := by
  rcases Nat.lt_trichotomy i v with h | h | h
  · rw [Nat.testBit_two_pow_add_gt h]
    exact ⟨Or.inr, fun g => g.elim (fun e => by omega) id⟩
  · subst h
    rw [Nat.testBit_two_pow_add_eq, Nat.testBit_lt_two_pow hj]; simp
  · have h1 : (2 ^ v + j) < 2 ^ i := Nat.lt_of_lt_of_le (show 2 ^ v + j < 2 ^ (v + 1) by rw [Nat.pow_succ]; omega) (Nat.pow_le_pow_right (by decide) h)
    rw [Nat.testBit_lt_two_pow h1, Nat.testBit_lt_two_pow (Nat.lt_of_lt_of_le hj (Nat.pow_le_pow_right (by decide) (Nat.le_of_lt h)))]
    simp; omega
theorem lnk_add {nr : Nat → Nat} {v j k : Nat} (hj : j < 2 ^ v) (hv : v < k) : lnk k nr (2 ^ v + j) = lnk k nr j ||| nr v := bits_ext (fun i => by
  rw [Nat.testBit_or, Bool.or_eq_true, lnk_bit, lnk_bit]
  constructor
  · rintro ⟨u, h1, h2, h3⟩
    rcases (two_add_bit hj).mp h2 with rfl | h
    · exact Or.inr h3
    · exact Or.inl ⟨u, h1, h, h3⟩
  · rintro (⟨u, h1, h2, h3⟩ | h)
    · exact ⟨u, h1, (two_add_bit hj).mpr (Or.inr h2), h3⟩
    · exact ⟨v, hv, (two_add_bit hj).mpr (Or.inl rfl), h⟩)
/-- Net.learn's inner loop -/
theorem learn_in {nd al ed : Int32} {pn : Nat → Int32} {pnd : Int32} {near be : Nat → Int32} {v : Nat} (hv : v < 7) :
    itL (bX0_learn_57 pnd pn (nI v) (nI (2 ^ v)) nd al ed near) fu (0, be) = some (nI (2 ^ v), fun k => if 2 ^ v ≤ k ∧ k < 2 ^ v + 2 ^ v then be (k - 2 ^ v) ||| near v else be k) := by
  have hp : 2 ^ v ≤ 64 := by
    have : 2 ^ v ≤ 2 ^ 6 := Nat.pow_le_pow_right (by decide) (by omega)
    simpa using this
  refine itL_for (fun i => (nI i, fun k => if 2 ^ v ≤ k ∧ k < 2 ^ v + i then be (k - 2 ^ v) ||| near v else be k)) (2 ^ v) _ ?_ ?_ (by unfold fu; omega) ?_
  · intro i hi
    have h1 : ¬ nI (2 ^ v) ≤ nI i := nI_ge hi (by omega)
    unfold bX0_learn_57
    dsimp only
    rw [if_neg h1, rd_nI (by omega) (by decide), Option.bind_some, rd_nI (by omega) (by decide), Option.bind_some, nI_add, wi_nI (by omega) (by decide), Option.bind_some, nI_1]
    have h2 : ¬ (2 ^ v ≤ i ∧ i < 2 ^ v + i) := by omega
    rw [if_neg h2]
    congr 3
    funext k
    unfold upd
    dsimp only
    by_cases e : k = 2 ^ v + i
    · subst e
      rw [if_pos rfl, if_pos (by omega)]
      congr 1
      congr 1
      omega
    · rw [if_neg e]
      by_cases g : 2 ^ v ≤ k ∧ k < 2 ^ v + i
      · rw [if_pos g, if_pos (by omega)]
      · rw [if_neg g, if_neg (by omega)]
  · unfold bX0_learn_57
    dsimp only
    rw [if_pos (nI_le (Nat.le_refl _) (by omega))]
  · congr 1
    funext k
    rw [if_neg (by omega)]
/-- what a net has learnt: the links of every set -/
theorem c_learn {n : Nat} {nr : Nat → Nat} {pn near be : Nat → Int32} {nd al ed : Int32} (hn : n ≤ 7) (hpn : ∀ v, v < 7 → pn v = nI (nr v)) (hb : be 0 = 0) : ∃ be' ne' : Nat → Int32, fX0_learn (nI n) pn nd al ed be near = some (nI n, nI (2 ^ n - 1), ed + 1, be', ne') ∧ (∀ s, s < 128 → be' s = nI (lnk 7 nr s)) ∧ (∀ v, v < 7 → ne' v = nI (nr v)) := by
  have hall : ((1 : Int32) <<< (nI n &&& 31)) - (1 : Int32) = nI (2 ^ n - 1) := by
    rw [shl1 n (by omega), l1, pk_sub (Nat.one_le_two_pow)]
  refine ⟨fun k => if k < 2 ^ 7 then nI (lnk 7 nr k) else be k, fun k => if k < 7 then pn k else near k, ?_, fun s hs => if_pos hs, fun v hv => ?_⟩
  · have key : itL (bX0_learn_32 (nI n) pn (nI n) (nI (2 ^ n - 1)) (ed + 1)) fu ((0 : Int32), be, near) = some (nI 7, (fun k => if k < 2 ^ 7 then nI (lnk 7 nr k) else be k), fun k => if k < 7 then pn k else near k) := by
      refine itL_for (fun i => (nI i, (fun k => if k < 2 ^ i then nI (lnk 7 nr k) else be k), fun k => if k < i then pn k else near k)) 7 _ ?_ ?_ (by unfold fu; decide) ?_
      · intro i hi
        have h1 : ¬ (7 : Int32) ≤ nI i := nI_ge hi (by decide)
        unfold bX0_learn_32
        dsimp only
        rw [if_neg h1, rd_nI hi (by decide), Option.bind_some, wi_nI hi (by decide), Option.bind_some, shl1 i (by omega)]
        unfold bnd
        dsimp only
        rw [learn_in hi, Option.bind_some, nI_1]
        congr 3
        congr 1
        · funext k
          dsimp only
          have hp : 2 ^ (i + 1) = 2 ^ i + 2 ^ i := by rw [Nat.pow_succ]; omega
          by_cases g : 2 ^ i ≤ k ∧ k < 2 ^ i + 2 ^ i
          · rw [if_pos g, if_pos (by omega), if_pos (by omega)]
            unfold upd
            rw [if_pos rfl, hpn i hi, fa_or]
            congr 1
            have e : k = 2 ^ i + (k - 2 ^ i) := by omega
            rw [← lnk_add (k := 7) (by omega) hi, ← e]
          · rw [if_neg g]
            by_cases q : k < 2 ^ i
            · rw [if_pos q, if_pos (by omega)]
            · rw [if_neg q, if_neg (by omega)]
        · funext k
          unfold upd
          dsimp only
          by_cases e : k = i
          · subst e; rw [if_pos rfl, if_pos (by omega)]
          · rw [if_neg e]
            by_cases q : k < i
            · rw [if_pos q, if_pos (by omega)]
            · rw [if_neg q, if_neg (by omega)]
      · unfold bX0_learn_32
        dsimp only
        rw [if_pos (by decide)]
      · congr 1
        congr 1
        · funext k
          by_cases q : k < 2 ^ 0
          · have : k = 0 := by simpa using q
            subst this
            rw [if_pos (by decide), lnk_0]; exact hb
          · rw [if_neg q]
    unfold fX0_learn
    rw [hall, key]; rfl
  · show (if v < 7 then pn v else near v) = _
    rw [if_pos hv, hpn v hv]
