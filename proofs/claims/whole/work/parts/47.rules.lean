/-! The kinds of rules. -/
/-- links go both ways, to nodes alone, none to itself -/
def netFit (n : Nat) (nr : Nat → Nat) : Prop := (2 ≤ n ∧ n ≤ 7) ∧ (∀ v, nr v < 2 ^ n) ∧ (∀ v, n ≤ v → nr v = 0) ∧ (∀ u v, (nr u).testBit v = (nr v).testBit u) ∧ ∀ v, (nr v).testBit v = false
/-- what the rules say of an act: 0, or why not -/
def rul (nr : Nat → Nat) (kind team g k : Nat) : Int32 :=
  if k < 10 then (if g.testBit k = false ∧ (kind = 0 ∨ k = 0 ∨ (kind ≠ 1 ∧ nr k &&& g ≠ 0)) then (if pc 7 g < team then 0 else -3) else -2)
  else if k < 100 then (if g.testBit (k - 10) = true ∧ (kind ≠ 1 ∨ k = 10) then 0 else -2)
  else (if kind = 1 ∧ g.testBit ((k - 100) / 10) = true ∧ g.testBit (k % 10) = false ∧ (nr ((k - 100) / 10)).testBit (k % 10) = true then 0 else -2)
theorem nr_lt {n : Nat} {nr : Nat → Nat} (h : netFit n nr) : ∀ v, nr v < 128 := fun v => Nat.lt_of_lt_of_le (h.2.1 v) (pow_le h.1.2)
theorem and_ne {a b : Nat} : a &&& b ≠ 0 ↔ ∃ i, a.testBit i = true ∧ b.testBit i = true := by
  constructor
  · intro h
    obtain ⟨i, hi⟩ := Nat.exists_testBit_of_ne_zero h
    rw [Nat.testBit_and, Bool.and_eq_true] at hi
    exact ⟨i, hi⟩
  · rintro ⟨i, h⟩ e
    have : (a &&& b).testBit i = true := by rw [Nat.testBit_and, Bool.and_eq_true]; exact h
    rw [e] at this; simp at this
theorem cm_bit {b i : Nat} (hi : i < 7) : (cm b).testBit i = !b.testBit i := by
  unfold cm
  have h2 : Nat.testBit 127 i = true := by
    have : (127 : Nat) = 2 ^ 7 - 1 := by decide
    rw [this, Nat.testBit_two_pow_sub_one]; simp; omega
  rw [Nat.testBit_xor, h2]; simp
theorem all_bit {n i : Nat} : (2 ^ n - 1).testBit i = decide (i < n) := Nat.testBit_two_pow_sub_one n i
theorem rul_put {nr : Nat → Nat} {kind team g k : Nat} (h : k < 10) : rul nr kind team g k = if g.testBit k = false ∧ (kind = 0 ∨ k = 0 ∨ (kind ≠ 1 ∧ nr k &&& g ≠ 0)) then (if pc 7 g < team then 0 else -3) else -2 := by
  unfold rul; rw [if_pos h]
theorem rul_take {nr : Nat → Nat} {kind team g v : Nat} (h : v < 90) : rul nr kind team g (10 + v) = if g.testBit v = true ∧ (kind ≠ 1 ∨ v = 0) then 0 else -2 := by
  unfold rul
  rw [if_neg (show ¬ 10 + v < 10 by omega), if_pos (show 10 + v < 100 by omega), show 10 + v - 10 = v by omega]
  simp
theorem rul_move {nr : Nat → Nat} {kind team g u w : Nat} (h : w < 10) : rul nr kind team g (100 + 10 * u + w) = if kind = 1 ∧ g.testBit u = true ∧ g.testBit w = false ∧ (nr u).testBit w = true then 0 else -2 := by
  unfold rul
  rw [if_neg (show ¬ 100 + 10 * u + w < 10 by omega), if_neg (show ¬ 100 + 10 * u + w < 100 by omega), show (100 + 10 * u + w - 100) / 10 = u by omega, show (100 + 10 * u + w) % 10 = w by omega]
theorem t10 {b c : Option Int32} : (if (1 : Int32) = 0 then b else c) = c := if_neg (by decide)
theorem t00 {b c : Option Int32} : (if (0 : Int32) = 0 then b else c) = b := if_pos rfl
theorem m_rul {st : Nat → Int32} {n kind team g k : Nat} {nr : Nat → Nat} (h : stNet st n nr) (hf : netFit n nr) (hk : isA n k) (hg : g < 128) (hki : kind < 3) (ht : team < 8) : fX8_against st (nI kind) (nI team) (nI g) (nI k) = some (rul nr kind team g k) := by
  have hn := hf.1.2
  have hk7 := isA_lt hn hk
  have hpc : pc 7 g ≤ 7 := pc_le g 7
  unfold fX8_against
  rw [show (10 : Int32) = nI 10 from rfl, show (100 : Int32) = nI 100 from rfl]
  rcases hk with q | ⟨v, q, rfl⟩ | ⟨u, w, a, b, c, rfl⟩
  · rw [rul_put (by omega), if_neg (show ¬ nI 10 ≤ nI k from nI_ge (by omega) (by decide)), m_has hg (by omega), Option.bind_some]
    by_cases t : g.testBit k = true
    · rw [if_pos t, t10, if_neg (by rw [t]; simp)]
    · rw [if_neg t, t00]
      have t' : g.testBit k = false := Bool.eq_false_iff.mpr t
      have hput : fX8_mayPut st (nI kind) (nI g) (nI k) = some (if kind = 0 ∨ k = 0 ∨ (kind ≠ 1 ∧ nr k &&& g ≠ 0) then 1 else 0) := by
        unfold fX8_mayPut jX8_mayPut_26
        by_cases e0 : kind = 0
        · subst e0; rw [if_pos (show nI 0 = 0 from rfl), if_pos (Or.inl rfl)]
        · rw [if_neg (nI_ne0 (by omega) (by omega))]
          by_cases e1 : k = 0
          · subst e1; rw [if_pos (show nI 0 = 0 from rfl), if_pos (Or.inr (Or.inl rfl))]
          · rw [if_neg (nI_ne0 (by omega) (by omega))]
            by_cases e2 : kind = 1
            · subst e2; rw [if_pos (show nI 1 = 1 from rfl), if_neg (by omega)]
            · rw [if_neg (show ¬ nI kind = (1 : Int32) from fun z => e2 (nI_inj (a := kind) (b := 1) (by omega) (by decide) z)), show (1 : Int32) + nI k = nI (1 + k) from nI_add 1 k, rd_nI (by omega) (by decide), Option.bind_some, h.2 k (by omega), nx_and]
              by_cases e3 : nr k &&& g = 0
              · rw [e3, if_pos (show nI 0 = 0 from rfl), if_neg (by omega)]
              · rw [if_neg (nI_ne0 (by omega) (Nat.lt_trans (and_lt' hg) (by decide))), if_pos (Or.inr (Or.inr ⟨e2, e3⟩))]
      rw [hput, Option.bind_some, m_size hg, Option.bind_some]
      by_cases z : kind = 0 ∨ k = 0 ∨ (kind ≠ 1 ∧ nr k &&& g ≠ 0)
      · rw [if_pos z, t10, if_pos (And.intro t' z)]
        by_cases z2 : pc 7 g < team
        · rw [if_pos z2, if_pos (nI_lt z2 (by omega))]
        · rw [if_neg z2, if_neg (show ¬ nI (pc 7 g) < nI team from nI_nlt (by omega) (by omega))]
      · rw [if_neg z, t00, if_neg (fun y => z y.2)]
  · rw [rul_take (by omega), if_pos (show nI 10 ≤ nI (10 + v) from nI_le (by omega) (by omega)), if_neg (show ¬ nI 100 ≤ nI (10 + v) from nI_ge (by omega) (by decide)), pk_sub (a := 10 + v) (b := 10) (by omega), show 10 + v - 10 = v by omega, m_has hg (by omega), Option.bind_some]
    unfold jX8_against_78
    by_cases t : g.testBit v = true
    · rw [if_pos t, t10]
      by_cases e2 : kind = 1
      · subst e2
        rw [if_pos (show nI 1 = 1 from rfl)]
        by_cases e3 : v = 0
        · subst e3
          rw [if_pos (show nI 0 = 0 from rfl), if_pos ⟨t, Or.inr rfl⟩]
        · rw [if_neg (nI_ne0 (by omega) (by omega)), if_neg (by omega)]
      · rw [if_neg (show ¬ nI kind = (1 : Int32) from fun z => e2 (nI_inj (a := kind) (b := 1) (by omega) (by decide) z)), if_pos ⟨t, Or.inl e2⟩]
    · rw [if_neg t, t00, if_neg (fun y => t y.1)]
  · rw [rul_move (by omega), if_pos (show nI 10 ≤ nI (100 + 10 * u + w) from nI_le (by omega) (by omega)), if_pos (show nI 100 ≤ nI (100 + 10 * u + w) from nI_le (by omega) (by omega)), pk_sub (a := 100 + 10 * u + w) (b := 100) (by omega), pk_rem (a := 100 + 10 * u + w - 100) (d := 10) (by omega) (by decide) (by decide), pk_div (a := 100 + 10 * u + w - 100) (d := 10) (by omega) (by decide) (by decide), show (100 + 10 * u + w - 100) / 10 = u by omega, show (100 + 10 * u + w - 100) % 10 = w by omega]
    unfold bnd
    dsimp only
    by_cases d1 : kind = 1
    · subst d1
      rw [if_pos (show nI 1 = 1 from rfl), m_has hg (by omega), Option.bind_some]
      by_cases t : g.testBit u = true
      · rw [if_pos t, t10, m_has hg (by omega), Option.bind_some]
        by_cases t2 : g.testBit w = true
        · rw [if_pos t2, t10, if_neg (by rw [t2]; simp)]
        · have t2' : g.testBit w = false := Bool.eq_false_iff.mpr t2
          rw [if_neg t2, t00]
          unfold fX8_areLinked
          rw [show (1 : Int32) + nI u = nI (1 + u) from nI_add 1 u, rd_nI (by omega) (by decide), Option.bind_some, h.2 u (by omega), m_has (nr_lt hf u) (by omega), Option.bind_some]
          by_cases t3 : (nr u).testBit w = true
          · rw [if_pos t3, bz_1, Option.bind_some, Option.bind_some, t10, if_pos ⟨rfl, t, t2', t3⟩]
          · rw [if_neg t3, bz_0, Option.bind_some, Option.bind_some, t00, if_neg (fun y => t3 y.2.2.2)]
      · rw [if_neg t, t00, if_neg (fun y => t y.2.1)]
    · rw [if_neg (show ¬ nI kind = (1 : Int32) from fun z => d1 (nI_inj (a := kind) (b := 1) (by omega) (by decide) z)), if_neg (fun y => d1 y.1)]
