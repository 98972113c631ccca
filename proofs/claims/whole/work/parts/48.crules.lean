/-! The class's sets of acts, and its ruling. -/
def putS (n : Nat) (nr : Nat → Nat) (kind g : Nat) : Nat := if kind = 0 then (2 ^ n - 1) &&& cm g else if kind = 1 then 1 &&& cm g else (1 ||| lnk n nr g) &&& cm g
def takeS (kind g : Nat) : Nat := if kind = 1 then g &&& 1 else g
def moveS (nr : Nat → Nat) (kind g u : Nat) : Nat := if kind = 1 ∧ g.testBit u = true then nr u &&& cm g else 0
theorem putS_lt {n : Nat} {nr : Nat → Nat} {kind g : Nat} (hn : n ≤ 7) (hnr : ∀ v, nr v < 128) : putS n nr kind g < 128 := by
  unfold putS
  split
  · exact and_lt (all_lt hn)
  · split
    · exact and_lt (by decide)
    · exact and_lt (or_lt (by decide) (lnk_lt hnr g n))
theorem takeS_lt {kind g : Nat} (hg : g < 128) : takeS kind g < 128 := by
  unfold takeS
  split
  · exact and_lt hg
  · exact hg
theorem moveS_lt {nr : Nat → Nat} {kind g u : Nat} (hnr : ∀ v, nr v < 128) : moveS nr kind g u < 128 := by
  unfold moveS
  split
  · exact and_lt (hnr u)
  · decide
theorem c_puts {n : Nat} {nr : Nat → Nat} {be ne : Nat → Int32} {nd al : Int32} {kind g : Nat} (h : netOk n nr nd al be ne) (hf : netFit n nr) (hg : g < 2 ^ n) (hk : kind < 3) : fX0_puts al be (nI g) (nI kind) = some (nI (putS n nr kind g)) := by
  have hn := hf.1.2
  have hp := pow_le hn
  have hnr := nr_lt hf
  unfold fX0_puts putS
  by_cases e0 : kind = 0
  · subst e0
    rw [if_pos (show nI 0 = 0 from rfl), if_pos rfl, h.2.1, and_cm (all_lt hn)]
  · rw [if_neg (nI_ne0 (by omega) (by omega)), if_neg e0]
    unfold jX0_puts_35
    by_cases e1 : kind = 1
    · subst e1
      rw [if_pos (show nI 1 = 1 from rfl), if_pos rfl, show (1 : Int32) &&& (nI g ^^^ (-1 : Int32)) = nI (1 &&& cm g) from and_cm (a := 1) (by decide)]
    · rw [if_neg (show ¬ nI kind = (1 : Int32) from fun z => e1 (nI_inj (a := kind) (b := 1) (by omega) (by decide) z)), if_neg e1, h.2.1, nx_and, and_all hg, rd_nI (by omega) (by decide), Option.bind_some, h.2.2.1 g (by omega), lnk_more hg hn, show (1 : Int32) ||| nI (lnk n nr g) = nI (1 ||| lnk n nr g) from fa_or 1 _, and_cm (or_lt (by decide) (lnk_lt hnr g n))]
theorem c_takes {kind g : Nat} (hk : kind < 3) : fX0_takes (nI g) (nI kind) = some (nI (takeS kind g)) := by
  unfold fX0_takes takeS
  by_cases e1 : kind = 1
  · subst e1
    rw [if_pos (show nI 1 = 1 from rfl), if_pos rfl, l1, nx_and]
  · rw [if_neg (show ¬ nI kind = (1 : Int32) from fun z => e1 (nI_inj (a := kind) (b := 1) (by omega) (by decide) z)), if_neg e1]
theorem c_full {g t : Nat} (hg : g < 128) (ht : t < 8) : fX0_isFull (nI g) (nI t) = some (if pc 7 g < t then 0 else 1) := by
  have hpc : pc 7 g ≤ 7 := pc_le g 7
  unfold fX0_isFull
  rw [c_bits g hg, Option.bind_some]
  by_cases e : pc 7 g < t
  · rw [if_pos e, if_pos (nI_lt e (by omega))]
  · rw [if_neg e, if_neg (show ¬ nI (pc 7 g) < nI t from nI_nlt (by omega) (by omega))]
theorem c_moves {n : Nat} {nr : Nat → Nat} {be ne : Nat → Int32} {nd al : Int32} {kind g u : Nat} (h : netOk n nr nd al be ne) (hf : netFit n nr) (hg : g < 128) (hk : kind < 3) (hu : u < n) : fX0_moves nd ne (nI u) (nI g) (nI kind) = some (nI (moveS nr kind g u)) := by
  have hn := hf.1.2
  unfold fX0_moves moveS
  rw [h.1, if_neg (nI_pos (by omega)), if_neg (show ¬ nI n ≤ nI u from nI_ge hu (by omega)), c_has hg (by omega), Option.bind_some]
  unfold jX0_moves_24 jX0_moves_25
  by_cases e1 : kind = 1
  · subst e1
    by_cases t : g.testBit u = true
    · rw [if_pos t, if_neg (show ¬ (1 : Int32) = 0 by decide), if_pos (show nI 1 = 1 from rfl), if_neg (show ¬ (1 : Int32) = 0 by decide), rd_nI (by omega) (by decide), Option.bind_some, h.2.2.2 u (by omega), and_cm (nr_lt hf u), if_pos ⟨rfl, t⟩]
    · rw [if_neg t, if_pos rfl, if_pos (show nI 1 = 1 from rfl), if_pos rfl, if_neg (fun y => t y.2)]; rfl
  · rw [if_neg (show ¬ nI kind = (1 : Int32) from fun z => e1 (nI_inj (a := kind) (b := 1) (by omega) (by decide) z)), if_neg (show ¬ nI kind = (1 : Int32) from fun z => e1 (nI_inj (a := kind) (b := 1) (by omega) (by decide) z)), show (if kind = 1 ∧ g.testBit u = true then nr u &&& cm g else 0) = 0 from if_neg (fun y => e1 y.1)]
    split <;> rfl
theorem one_bit (i : Nat) : (1 : Nat).testBit i = decide (i = 0) := by
  cases i with
  | zero => rfl
  | succ i => rw [Nat.testBit_succ]; simp
/-- bits of the sets of acts: just what the rules allow -/
theorem put_bit {n : Nat} {nr : Nat → Nat} {kind g k : Nat} (hf : netFit n nr) (hk : k < n) (hg : g < 2 ^ n) : (putS n nr kind g).testBit k = true ↔ g.testBit k = false ∧ (kind = 0 ∨ k = 0 ∨ (kind ≠ 1 ∧ nr k &&& g ≠ 0)) := by
  have hn := hf.1.2
  unfold putS
  by_cases e0 : kind = 0
  · rw [if_pos e0, Nat.testBit_and, cm_bit (by omega), all_bit]
    simp [hk, e0]
  · rw [if_neg e0]
    by_cases e1 : kind = 1
    · rw [if_pos e1, Nat.testBit_and, cm_bit (by omega), one_bit]
      simp only [Bool.and_eq_true, decide_eq_true_eq, Bool.not_eq_true', e1]
      constructor
      · rintro ⟨a, b⟩; exact ⟨b, Or.inr (Or.inl a)⟩
      · rintro ⟨a, b⟩; exact ⟨by omega, a⟩
    · rw [if_neg e1, Nat.testBit_and, cm_bit (by omega), Nat.testBit_or, one_bit, Bool.and_eq_true, Bool.or_eq_true, decide_eq_true_eq, Bool.not_eq_true', lnk_bit]
      have hs : (∃ v, v < n ∧ g.testBit v = true ∧ (nr v).testBit k = true) ↔ nr k &&& g ≠ 0 := by
        rw [and_ne]
        constructor
        · rintro ⟨v, _, a, b⟩; exact ⟨v, by rw [hf.2.2.2.1]; exact b, a⟩
        · rintro ⟨v, a, b⟩; exact ⟨v, bit_lt b hg, b, by rw [hf.2.2.2.1]; exact a⟩
      rw [hs]
      constructor
      · rintro ⟨a | a, b⟩
        · exact ⟨b, Or.inr (Or.inl a)⟩
        · exact ⟨b, Or.inr (Or.inr ⟨e1, a⟩)⟩
      · rintro ⟨a, b | b | b⟩
        · exact absurd b e0
        · exact ⟨Or.inl b, a⟩
        · exact ⟨Or.inr b.2, a⟩
theorem take_bit {kind g v : Nat} : (takeS kind g).testBit v = true ↔ g.testBit v = true ∧ (kind ≠ 1 ∨ v = 0) := by
  unfold takeS
  by_cases e : kind = 1
  · rw [if_pos e, Nat.testBit_and, one_bit, Bool.and_eq_true, decide_eq_true_eq]
    constructor
    · rintro ⟨a, b⟩; exact ⟨a, Or.inr b⟩
    · rintro ⟨a, b⟩; exact ⟨a, by omega⟩
  · rw [if_neg e]
    exact ⟨fun a => ⟨a, Or.inl e⟩, fun a => a.1⟩
theorem move_bit {nr : Nat → Nat} {kind g u w : Nat} (hw : w < 7) : (moveS nr kind g u).testBit w = true ↔ kind = 1 ∧ g.testBit u = true ∧ g.testBit w = false ∧ (nr u).testBit w = true := by
  unfold moveS
  by_cases e : kind = 1 ∧ g.testBit u = true
  · rw [if_pos e, Nat.testBit_and, cm_bit hw, Bool.and_eq_true, Bool.not_eq_true']
    exact ⟨fun a => ⟨e.1, e.2, a.2, a.1⟩, fun a => ⟨a.2.2.2, a.2.2.1⟩⟩
  · rw [if_neg e, Nat.zero_testBit]
    exact ⟨fun a => (by cases a), fun a => absurd ⟨a.1, a.2.1⟩ e⟩
theorem c_rul {n kind team g k : Nat} {nr : Nat → Nat} {be ne : Nat → Int32} {nd al : Int32} (h : netOk n nr nd al be ne) (hf : netFit n nr) (hk : isA n k) (hg : g < 2 ^ n) (hki : kind < 3) (ht : team < 8) : fX0_ruling nd al be ne (nI k) (nI g) (nI kind) (nI team) = some (rul nr kind team g k) := by
  have hn := hf.1.2
  have hg7 : g < 128 := Nat.lt_of_lt_of_le hg (pow_le hn)
  have hk7 := isA_lt hn hk
  unfold fX0_ruling
  rw [show (10 : Int32) = nI 10 from rfl, show (100 : Int32) = nI 100 from rfl]
  rcases hk with q | ⟨v, q, rfl⟩ | ⟨u, w, a, b, c, rfl⟩
  · rw [rul_put (by omega), if_neg (show ¬ nI 10 ≤ nI k from nI_ge (by omega) (by decide)), c_puts h hf hg hki, Option.bind_some, c_has (putS_lt hn (nr_lt hf)) (by omega), Option.bind_some, c_full hg7 ht, Option.bind_some]
    by_cases t : (putS n nr kind g).testBit k = true
    · rw [if_pos t, t10, if_pos ((put_bit hf q hg).mp t)]
      by_cases z : pc 7 g < team
      · rw [if_pos z, if_pos z, t00]
      · rw [if_neg z, if_neg z, t10]
    · rw [if_neg t, t00, if_neg (fun y => t ((put_bit hf q hg).mpr y))]
  · rw [rul_take (by omega), if_pos (show nI 10 ≤ nI (10 + v) from nI_le (by omega) (by omega)), if_neg (show ¬ nI 100 ≤ nI (10 + v) from nI_ge (by omega) (by decide)), c_takes hki, Option.bind_some, pk_sub (a := 10 + v) (b := 10) (by omega), show 10 + v - 10 = v by omega, c_has (takeS_lt hg7) (by omega), Option.bind_some]
    by_cases t : (takeS kind g).testBit v = true
    · rw [if_pos t, t10, if_pos (take_bit.mp t)]
    · rw [if_neg t, t00, if_neg (fun y => t (take_bit.mpr y))]
  · rw [rul_move (by omega), if_pos (show nI 10 ≤ nI (100 + 10 * u + w) from nI_le (by omega) (by omega)), if_pos (show nI 100 ≤ nI (100 + 10 * u + w) from nI_le (by omega) (by omega)), pk_rem (a := 100 + 10 * u + w) (d := 10) (by omega) (by decide) (by decide), pk_sub (a := 100 + 10 * u + w) (b := 100) (by omega), pk_div (a := 100 + 10 * u + w - 100) (d := 10) (by omega) (by decide) (by decide), show (100 + 10 * u + w - 100) / 10 = u by omega, show (100 + 10 * u + w) % 10 = w by omega, c_moves h hf hg7 hki a, Option.bind_some, c_has (moveS_lt (nr_lt hf)) (by omega), Option.bind_some]
    by_cases t : (moveS nr kind g u).testBit w = true
    · rw [if_pos t, t10, if_pos ((move_bit (by omega)).mp t)]
    · rw [if_neg t, t00, if_neg (fun y => t ((move_bit (by omega)).mpr y))]
