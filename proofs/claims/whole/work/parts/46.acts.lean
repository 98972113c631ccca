/-! Acts: which numbers are acts, which are allowed, what they do to the guards. -/
theorem cge {a b : Nat} (ha : a < 2 ^ 63) (hb : b < 2 ^ 63) : (0 ≤ lg_cmp (lN a) (lN b)) ↔ b ≤ a := (lg_cmp_ge _ _).trans (pk_lLE hb ha)
theorem clt {a b : Nat} (ha : a < 2 ^ 63) (hb : b < 2 ^ 63) : (lg_cmp (lN a) (lN b) < 0) ↔ a < b := (lg_cmp_lt _ _).trans (pk_lLT ha hb)
theorem cgt {a b : Nat} (ha : a < 2 ^ 63) (hb : b < 2 ^ 63) : (0 < lg_cmp (lN a) (lN b)) ↔ b < a := (lg_cmp_gt _ _).trans (pk_lLT hb ha)
theorem ceq {a b : Nat} (ha : a < 2 ^ 63) (hb : b < 2 ^ 63) : (lg_cmp (lN a) (lN b) = 0) ↔ a = b := (lg_cmp_eq _ _).trans (pk_lEQ ha hb)
/-- an act's number -/
def isA (n k : Nat) : Prop := k < n ∨ (∃ v, v < n ∧ k = 10 + v) ∨ ∃ u w, u < n ∧ w < n ∧ u ≠ w ∧ k = 100 + 10 * u + w
theorem c_isAct {n k : Nat} (hn : n ≤ 7) (hk : k < 2 ^ 63) : (isA n k ∧ fX0_isAct (nI n) (lN k) = some 1) ∨ (¬ isA n k ∧ fX0_isAct (nI n) (lN k) = some 0) := by
  have hb : (2 : Nat) ^ 31 ≤ 2 ^ 63 := by decide
  unfold fX0_isAct bnd
  rw [show (0 : Int64) = lN 0 from rfl, show (10 : Int64) = lN 10 from rfl, show (100 : Int64) = lN 100 from rfl, nI_l (by omega), show (10 : Int32) + nI n = nI (10 + n) from nI_add 10 n, nI_l (by omega)]
  rw [if_pos ((cge hk (by decide)).mpr (Nat.zero_le k))]
  by_cases h1 : 10 ≤ k
  · rw [if_pos ((cge hk (by decide)).mpr h1)]
    by_cases h2 : 100 ≤ k
    · rw [if_pos ((cge hk (by decide)).mpr h2), pk_lRem (a := k) (b := 10) hk (by decide) (by decide), lN_sub h2, pk_lDiv (by omega) (by decide) (by decide)]
      dsimp only
      by_cases q1 : n ≤ (k - 100) / 10
      · rw [if_pos ((cge (by omega) (by omega)).mpr q1)]
        refine Or.inr ⟨?_, rfl⟩
        rintro (q | ⟨v, q, e⟩ | ⟨u, w, a, b, c, e⟩) <;> omega
      · rw [if_neg (fun q => q1 ((cge (by omega) (by omega)).mp q))]
        by_cases q2 : n ≤ k % 10
        · rw [if_pos ((cge (by omega) (by omega)).mpr q2)]
          refine Or.inr ⟨?_, rfl⟩
          rintro (q | ⟨v, q, e⟩ | ⟨u, w, a, b, c, e⟩) <;> omega
        · rw [if_neg (fun q => q2 ((cge (by omega) (by omega)).mp q))]
          by_cases q3 : (k - 100) / 10 = k % 10
          · rw [if_pos ((ceq (by omega) (by omega)).mpr q3)]
            refine Or.inr ⟨?_, rfl⟩
            rintro (q | ⟨v, q, e⟩ | ⟨u, w, a, b, c, e⟩)
            · omega
            · omega
            · have e1 : (k - 100) / 10 = u := by omega
              have e2 : k % 10 = w := by omega
              omega
          · rw [if_neg (fun q => q3 ((ceq (by omega) (by omega)).mp q))]
            exact Or.inl ⟨Or.inr (Or.inr ⟨(k - 100) / 10, k % 10, by omega, by omega, q3, by omega⟩), rfl⟩
    · rw [if_neg (fun q => h2 ((cge hk (by decide)).mp q))]
      by_cases q : 10 + n ≤ k
      · rw [if_pos ((cge hk (by omega)).mpr q)]
        refine Or.inr ⟨?_, rfl⟩
        rintro (q | ⟨v, q, e⟩ | ⟨u, w, a, b, c, e⟩) <;> omega
      · rw [if_neg (fun g => q ((cge hk (by omega)).mp g))]
        exact Or.inl ⟨Or.inr (Or.inl ⟨k - 10, by omega, by omega⟩), rfl⟩
  · rw [if_neg (fun q => h1 ((cge hk (by decide)).mp q))]
    by_cases q : n ≤ k
    · rw [if_pos ((cge hk (by omega)).mpr q)]
      refine Or.inr ⟨?_, rfl⟩
      rintro (q | ⟨v, q, e⟩ | ⟨u, w, a, b, c, e⟩) <;> omega
    · rw [if_neg (fun g => q ((cge hk (by omega)).mp g))]
      exact Or.inl ⟨Or.inl (by omega), rfl⟩
theorem m_in {a b c : Nat} (ha : a < 2 ^ 63) (hb : b < 2 ^ 63) (hc : c < 2 ^ 63) : fX8_in (lN a) (lN b) (lN c) = some (if b ≤ a ∧ a ≤ c then 1 else 0) := by
  unfold fX8_in
  by_cases h1 : a < b
  · rw [if_pos ((clt ha hb).mpr h1), if_neg (by omega)]
  · rw [if_neg (fun q => h1 ((clt ha hb).mp q))]
    by_cases h2 : c < a
    · rw [if_pos ((cgt ha hc).mpr h2), if_neg (by omega)]
    · rw [if_neg (fun q => h2 ((cgt ha hc).mp q)), if_pos (by omega)]
theorem m_isAct {st : Nat → Int32} {n k : Nat} {nr : Nat → Nat} (h : stNet st n nr) (h0 : 0 < n) (hn : n ≤ 7) (hk : k < 2 ^ 63) : (isA n k ∧ fX8_isAct st (lN k) = some 1) ∨ (¬ isA n k ∧ fX8_isAct st (lN k) = some 0) := by
  have hb : (2 : Nat) ^ 31 ≤ 2 ^ 63 := by decide
  have hst : rd st 13 (0 : Int32) = some (nI n) := by rw [l0, rd_nI (by decide) (by decide), h.1]
  unfold fX8_isAct bnd
  rw [show (0 : Int64) = lN 0 from rfl, show (10 : Int64) = lN 10 from rfl, show (100 : Int64) = lN 100 from rfl]
  simp only [hst, Option.bind_some]
  by_cases h2 : 100 ≤ k
  · rw [if_pos ((cge hk (by decide)).mpr h2), lN_sub h2, pk_lRem (a := k - 100) (b := 10) (by omega) (by decide) (by decide), pk_lDiv (by omega) (by decide) (by decide), nI_l (by omega)]
    by_cases q1 : n ≤ (k - 100) / 10
    · rw [if_pos ((cge (by omega) (by omega)).mpr q1)]
      refine Or.inr ⟨?_, rfl⟩
      rintro (q | ⟨v, q, e⟩ | ⟨u, w, a, b, c, e⟩) <;> omega
    · rw [if_neg (fun q => q1 ((cge (by omega) (by omega)).mp q))]
      by_cases q2 : n ≤ (k - 100) % 10
      · rw [if_pos ((cge (by omega) (by omega)).mpr q2)]
        refine Or.inr ⟨?_, rfl⟩
        rintro (q | ⟨v, q, e⟩ | ⟨u, w, a, b, c, e⟩) <;> omega
      · rw [if_neg (fun q => q2 ((cge (by omega) (by omega)).mp q))]
        by_cases q3 : (k - 100) / 10 = (k - 100) % 10
        · rw [if_pos ((ceq (by omega) (by omega)).mpr q3)]
          refine Or.inr ⟨?_, rfl⟩
          rintro (q | ⟨v, q, e⟩ | ⟨u, w, a, b, c, e⟩) <;> omega
        · rw [if_neg (fun q => q3 ((ceq (by omega) (by omega)).mp q))]
          exact Or.inl ⟨Or.inr (Or.inr ⟨(k - 100) / 10, (k - 100) % 10, by omega, by omega, q3, by omega⟩), rfl⟩
  · rw [if_neg (fun q => h2 ((cge hk (by decide)).mp q)), show nI n - (1 : Int32) = nI (n - 1) from pk_sub (a := n) (b := 1) h0, nI_l (by omega), m_in hk (by decide) (by omega), Option.bind_some]
    rw [show (10 : Int32) + nI n - (1 : Int32) = nI (10 + n - 1) from by rw [show (10 : Int32) + nI n = nI (10 + n) from nI_add 10 n]; exact pk_sub (a := 10 + n) (b := 1) (by omega), nI_l (by omega), m_in hk (by decide) (by omega), Option.bind_some]
    unfold jX8_isAct_47
    by_cases q : 0 ≤ k ∧ k ≤ n - 1
    · rw [if_pos q, if_neg (by decide)]
      exact Or.inl ⟨Or.inl (by omega), rfl⟩
    · rw [if_neg q, if_pos rfl]
      by_cases q2 : 10 ≤ k ∧ k ≤ 10 + n - 1
      · rw [if_pos q2, if_neg (by decide)]
        exact Or.inl ⟨Or.inr (Or.inl ⟨k - 10, by omega, by omega⟩), rfl⟩
      · rw [if_neg q2, if_pos rfl]
        refine Or.inr ⟨?_, rfl⟩
        rintro (q | ⟨v, q, e⟩ | ⟨u, w, a, b, c, e⟩) <;> omega
/-- of any long number both say the same: it's an act, or it's none -/
theorem isAct_both {st : Nat → Int32} {n : Nat} {nr : Nat → Nat} (h : stNet st n nr) (h0 : 0 < n) (hn : n ≤ 7) (x : Int64) : (∃ k, isA n k ∧ x = lN k ∧ fX0_isAct (nI n) x = some 1 ∧ fX8_isAct st x = some 1) ∨ (fX0_isAct (nI n) x = some 0 ∧ fX8_isAct st x = some 0) := by
  by_cases hx : x < 0
  · have hst : rd st 13 (0 : Int32) = some (nI n) := by rw [l0, rd_nI (by decide) (by decide), h.1]
    have x10 : x < 10 := Int64.lt_trans hx (by decide)
    refine Or.inr ⟨?_, ?_⟩
    · unfold fX0_isAct
      rw [if_neg (fun q => absurd hx (Int64.not_lt.mpr ((lg_cmp_ge _ _).mp q)))]
    · unfold fX8_isAct
      have x100 : x < 100 := Int64.lt_trans hx (by decide)
      have i0 : ∀ c, fX8_in x 0 c = some 0 := fun c => by unfold fX8_in; rw [if_pos ((lg_cmp_lt _ _).mpr hx)]
      have i10 : ∀ c, fX8_in x 10 c = some 0 := fun c => by unfold fX8_in; rw [if_pos ((lg_cmp_lt _ _).mpr x10)]
      rw [if_neg (fun q => absurd x100 (Int64.not_lt.mpr ((lg_cmp_ge _ _).mp q)))]
      simp only [hst, Option.bind_some, i0, i10, if_true]
  · obtain ⟨k, hk, rfl⟩ := pk_lOf hx
    rcases c_isAct (n := n) hn hk with ⟨a, b⟩ | ⟨a, b⟩
    · rcases m_isAct h h0 hn hk with ⟨c, d⟩ | ⟨c, d⟩
      · exact Or.inl ⟨k, a, rfl, b, d⟩
      · exact absurd a c
    · rcases m_isAct h h0 hn hk with ⟨c, d⟩ | ⟨c, d⟩
      · exact absurd c a
      · exact Or.inr ⟨b, d⟩
/-- the guards behind an act -/
def gAft (k g : Nat) : Nat := if k < 10 then g ||| 2 ^ k else if k < 100 then g &&& cm (2 ^ (k - 10)) else (g &&& cm (2 ^ ((k - 100) / 10))) ||| 2 ^ (k % 10)
theorem isA_lt {n k : Nat} (hn : n ≤ 7) (h : isA n k) : k < 170 := by
  rcases h with q | ⟨v, q, e⟩ | ⟨u, w, a, b, c, e⟩ <;> omega
theorem c_gAft {n k g : Nat} (hn : n ≤ 7) (h : isA n k) (hg : g < 128) : fX0_guardsAfter (nI k) (nI g) = some (nI (gAft k g)) := by
  have hk := isA_lt hn h
  unfold fX0_guardsAfter gAft
  rw [show (10 : Int32) = nI 10 from rfl, show (100 : Int32) = nI 100 from rfl]
  rcases h with q | ⟨v, q, e⟩ | ⟨u, w, a, b, c, e⟩
  · rw [if_neg (nI_ge (by omega) (by decide)), if_pos (by omega), shl1 k (by omega), fa_or]
  · rw [if_pos (nI_le (by omega) (by omega)), if_neg (nI_ge (by omega) (by decide)), if_neg (by omega), if_pos (by omega), pk_sub (by omega), shl1 _ (by omega), and_cm hg]
  · rw [if_pos (nI_le (by omega) (by omega)), if_pos (nI_le (by omega) (by omega)), if_neg (by omega), if_neg (by omega), pk_rem (a := k) (d := 10) (by omega) (by decide) (by decide), pk_sub (by omega), pk_div (by omega) (by decide) (by decide), shl1 _ (by omega), and_cm hg, shl1 _ (by omega), fa_or]
theorem m_gAft {n k g : Nat} (hn : n ≤ 7) (h : isA n k) (hg : g < 128) : fX8_guardsBehind (nI g) (nI k) = some (nI (gAft k g)) := by
  have hk := isA_lt hn h
  unfold fX8_guardsBehind gAft
  rw [show (10 : Int32) = nI 10 from rfl, show (100 : Int32) = nI 100 from rfl]
  rcases h with q | ⟨v, q, e⟩ | ⟨u, w, a, b, c, e⟩
  · rw [if_neg (nI_ge (by omega) (by decide)), if_pos (by omega), shl1 k (by omega), fa_or]
  · rw [if_pos (nI_le (by omega) (by omega)), if_neg (nI_ge (by omega) (by decide)), if_neg (by omega), if_pos (by omega), pk_sub (by omega), shl1 _ (by omega), and_cm hg]
  · rw [if_pos (nI_le (by omega) (by omega)), if_pos (nI_le (by omega) (by omega)), if_neg (by omega), if_neg (by omega), pk_sub (by omega), pk_rem (a := k - 100) (d := 10) (by omega) (by decide) (by decide), pk_div (by omega) (by decide) (by decide), shl1 _ (by omega), and_cm hg, shl1 _ (by omega), fa_or]
    have e2 : (k - 100) % 10 = k % 10 := by omega
    rw [e2]
