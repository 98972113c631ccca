/-! The text read: blanks, figures, signs. -/
def lett (T : Nat) (L : Nat → Nat) (f : Nat → Int32) : Prop := T ≤ 90 ∧ ∀ i, i < T → (32 ≤ L i ∧ L i ≤ 126) ∧ f i = nI (L i)
def skF (L : Nat → Nat) : Nat → Nat → Nat
  | 0, p => p
  | k + 1, p => if L p = 32 then skF L k (p + 1) else p
def skp (T : Nat) (L : Nat → Nat) (p : Nat) : Nat := skF L (T - p) p
theorem skp_end {T : Nat} {L : Nat → Nat} {p : Nat} (h : T ≤ p) : skp T L p = p := by
  unfold skp
  rw [show T - p = 0 by omega]
  rfl
theorem skp_stop {T : Nat} {L : Nat → Nat} {p : Nat} (h : ¬ L p = 32) : skp T L p = p := by
  unfold skp
  cases hk : T - p with
  | zero => rfl
  | succ k =>
    show (if L p = 32 then skF L k (p + 1) else p) = p
    rw [if_neg h]
theorem skp_on {T : Nat} {L : Nat → Nat} {p : Nat} (hp : p < T) (h : L p = 32) : skp T L p = skp T L (p + 1) := by
  unfold skp
  rw [show T - p = (T - (p + 1)) + 1 by omega]
  show (if L p = 32 then skF L (T - (p + 1)) (p + 1) else p) = _
  rw [if_pos h]
theorem skp_le {T : Nat} {L : Nat → Nat} : ∀ (d p : Nat), T - p = d → p ≤ T → p ≤ skp T L p ∧ skp T L p ≤ T ∧ (skp T L p < T → ¬ L (skp T L p) = 32) := by
  intro d
  induction d with
  | zero =>
    intro p h hp
    rw [skp_end (by omega)]
    exact ⟨Nat.le_refl _, hp, fun z => absurd z (by omega)⟩
  | succ d ih =>
    intro p h hp
    by_cases q : L p = 32
    · rw [skp_on (by omega) q]
      obtain ⟨a, b, c⟩ := ih (p + 1) (by omega) (by omega)
      exact ⟨by omega, b, c⟩
    · rw [skp_stop q]
      exact ⟨Nat.le_refl _, hp, fun _ => q⟩
theorem skp_b {T : Nat} {L : Nat → Nat} {p : Nat} (hp : p ≤ T) : p ≤ skp T L p ∧ skp T L p ≤ T ∧ (skp T L p < T → ¬ L (skp T L p) = 32) := skp_le (T - p) p rfl hp
theorem skp_skp {T : Nat} {L : Nat → Nat} {p : Nat} (hp : p ≤ T) : skp T L (skp T L p) = skp T L p := by
  obtain ⟨a, b, c⟩ := skp_b (L := L) hp
  by_cases q : skp T L p < T
  · exact skp_stop (c q)
  · exact skp_end (by omega)
theorem nI_32 {n : Nat} (h : n ≤ 126) (c : Nat) (hc : c ≤ 126) : nI n = nI c ↔ n = c := ⟨fun z => nI_inj (by omega) (by omega) z, fun z => by rw [z]⟩
theorem c_skipL {T : Nat} {L : Nat → Nat} {f : Nat → Int32} (hl : lett T L f) : ∀ (d p : Nat), T - p = d → p ≤ T → ∀ n, d < n → itL (bX6_skipBlanks_0 (nI T) f) n (nI p) = some (nI (skp T L p)) := by
  obtain ⟨hT, hf⟩ := hl
  intro d
  induction d with
  | zero =>
    intro p h hp n hn
    obtain ⟨n', rfl⟩ : ∃ n', n = n' + 1 := ⟨n - 1, by omega⟩
    unfold itL bX6_skipBlanks_0
    rw [if_pos (nI_le (show T ≤ p by omega) (by omega)), skp_end (by omega)]
  | succ d ih =>
    intro p h hp n hn
    obtain ⟨n', rfl⟩ : ∃ n', n = n' + 1 := ⟨n - 1, by omega⟩
    obtain ⟨⟨f1, f2⟩, f3⟩ := hf p (by omega)
    unfold itL bX6_skipBlanks_0
    rw [if_neg (show ¬ nI T ≤ nI p from nI_ge (by omega) (by omega)), rd_nI (by omega) (by decide), Option.bind_some, f3]
    by_cases q : L p = 32
    · rw [if_pos (show nI (L p) = (32 : Int32) by rw [q]; rfl), nI_1]
      rw [skp_on (by omega) q]
      exact ih (p + 1) (by omega) (by omega) n' (by omega)
    · rw [if_neg (show ¬ nI (L p) = (32 : Int32) from fun z => q ((nI_32 f2 32 (by decide)).mp z)), skp_stop q]
theorem c_skip {T : Nat} {L : Nat → Nat} {f : Nat → Int32} {p : Nat} (hl : lett T L f) (hp : p ≤ T) : fX6_skipBlanks (nI T) (nI p) f = some (nI (skp T L p)) := by
  have h0 := hl
  obtain ⟨hT, hf⟩ := hl
  unfold fX6_skipBlanks
  by_cases q : T ≤ p
  · rw [if_pos (nI_le q (by omega)), skp_end q]
  · obtain ⟨⟨f1, f2⟩, f3⟩ := hf p (by omega)
    rw [if_neg (show ¬ nI T ≤ nI p from nI_ge (by omega) (by omega)), rd_nI (by omega) (by decide), Option.bind_some, f3]
    by_cases q2 : L p = 32
    · rw [if_pos (show nI (L p) = (32 : Int32) by rw [q2]; rfl), nI_1, c_skipL h0 (T - (p + 1)) (p + 1) rfl (by omega) fu (by show _ < 5000; omega), Option.bind_some, skp_on (by omega) q2]
    · rw [if_neg (show ¬ nI (L p) = (32 : Int32) from fun z => q2 ((nI_32 f2 32 (by decide)).mp z)), skp_stop q2]
theorem m_skipL {T : Nat} {L : Nat → Nat} {f : Nat → Int32} (hl : lett T L f) : ∀ (d p : Nat), T - p = d → p ≤ T → ∀ n, d < n → itL (bX8_looks_0 (nI T) f) n (nI p) = some (nI (skp T L p)) := by
  obtain ⟨hT, hf⟩ := hl
  intro d
  induction d with
  | zero =>
    intro p h hp n hn
    obtain ⟨n', rfl⟩ : ∃ n', n = n' + 1 := ⟨n - 1, by omega⟩
    unfold itL bX8_looks_0
    rw [if_pos (nI_le (show T ≤ p by omega) (by omega)), skp_end (by omega)]
  | succ d ih =>
    intro p h hp n hn
    obtain ⟨n', rfl⟩ : ∃ n', n = n' + 1 := ⟨n - 1, by omega⟩
    obtain ⟨⟨f1, f2⟩, f3⟩ := hf p (by omega)
    unfold itL bX8_looks_0
    rw [if_neg (show ¬ nI T ≤ nI p from nI_ge (by omega) (by omega)), rd_nI (by omega) (by decide), Option.bind_some, f3]
    by_cases q : L p = 32
    · rw [if_pos (show nI (L p) = (32 : Int32) by rw [q]; rfl), nI_1]
      rw [skp_on (by omega) q]
      exact ih (p + 1) (by omega) (by omega) n' (by omega)
    · rw [if_neg (show ¬ nI (L p) = (32 : Int32) from fun z => q ((nI_32 f2 32 (by decide)).mp z)), skp_stop q]
def ltr (T : Nat) (L : Nat → Nat) (q : Nat) : Int32 := if q < T then nI (L q) else 0
theorem m_looks {T : Nat} {L : Nat → Nat} {f : Nat → Int32} {p : Nat} (hl : lett T L f) (hp : p ≤ T) : fX8_looks (nI T) (nI p) f = some (ltr T L (skp T L p), nI (skp T L p)) := by
  have h0 := hl
  obtain ⟨hT, hf⟩ := hl
  obtain ⟨s1, s2, s3⟩ := skp_b (L := L) hp
  unfold fX8_looks ltr
  by_cases q : T ≤ p
  · rw [if_pos (nI_le q (by omega)), if_pos (nI_le q (by omega)), skp_end q, if_neg (by omega)]
  · obtain ⟨⟨f1, f2⟩, f3⟩ := hf p (by omega)
    have hq : ¬ nI T ≤ nI p := nI_ge (by omega) (by omega)
    rw [if_neg hq, if_neg hq, rd_nI (by omega) (by decide), Option.bind_some, Option.bind_some, f3]
    by_cases q2 : L p = 32
    · rw [if_pos (show nI (L p) = (32 : Int32) by rw [q2]; rfl), nI_1, m_skipL h0 (T - (p + 1)) (p + 1) rfl (by omega) fu (by show _ < 5000; omega), Option.bind_some, ← skp_on (by omega) q2]
      by_cases q3 : skp T L p < T
      · rw [if_neg (show ¬ nI T ≤ nI (skp T L p) from nI_ge (by omega) (by omega)), if_pos q3, rd_nI (by omega) (by decide), Option.bind_some, (hf _ q3).2]
      · rw [if_pos (nI_le (show T ≤ skp T L p by omega) (by omega)), if_neg q3]
    · rw [if_neg (show ¬ nI (L p) = (32 : Int32) from fun z => q2 ((nI_32 f2 32 (by decide)).mp z)), skp_stop q2, if_pos (by omega)]
/-- a figure stands there -/
def isFig (T : Nat) (L : Nat → Nat) (q a b : Nat) : Prop := q < T ∧ 48 + a ≤ L q ∧ L q ≤ 48 + b
theorem c_fig {T : Nat} {L : Nat → Nat} {f : Nat → Int32} {p a b : Nat} {ft : Int32} (hl : lett T L f) (hp : p ≤ T) (ha : a ≤ 9) (hb : b ≤ 9) : (isFig T L (skp T L p) a b ∧ fX6_readFigure (nI T) (nI p) ft f (nI a) (nI b) = some (nI (L (skp T L p) - 48), nI (skp T L p + 1), ft)) ∨ (¬ isFig T L (skp T L p) a b ∧ fX6_readFigure (nI T) (nI p) ft f (nI a) (nI b) = some (-1, nI (skp T L p), nI (skp T L p))) := by
  obtain ⟨s1, s2, s3⟩ := skp_b (L := L) hp
  unfold fX6_readFigure jX6_readFigure_47
  rw [c_skip hl hp, Option.bind_some]
  generalize skp T L p = q at s1 s2 s3 ⊢
  have hT := hl.1
  by_cases q1 : q < T
  · obtain ⟨⟨f1, f2⟩, f3⟩ := hl.2 q q1
    rw [if_neg (show ¬ nI T ≤ nI q from nI_ge q1 (by omega)), rd_nI (by omega) (by decide), Option.bind_some, f3, show (48 : Int32) + nI a = nI (48 + a) from nI_add 48 a, show (48 : Int32) + nI b = nI (48 + b) from nI_add 48 b]
    by_cases q2 : L q < 48 + a
    · rw [if_pos (nI_lt q2 (by omega))]
      exact Or.inr ⟨fun z => by have := z.2.1; omega, rfl⟩
    · rw [if_neg (nI_nlt (by omega) (by omega)), Option.bind_some]
      by_cases q3 : L q ≤ 48 + b
      · rw [if_pos (nI_le q3 (by omega)), nI_1, show nI (q + 1) - (1 : Int32) = nI (q + 1 - 1) from pk_sub (a := q + 1) (b := 1) (by omega), Nat.add_sub_cancel, rd_nI (by omega) (by decide), Option.bind_some, f3, show nI (L q) - (48 : Int32) = nI (L q - 48) from pk_sub (a := L q) (b := 48) (by omega)]
        exact Or.inl ⟨⟨q1, by omega, q3⟩, rfl⟩
      · rw [if_neg (nI_ge (by omega) (by omega))]
        exact Or.inr ⟨fun z => by have := z.2.2; omega, rfl⟩
  · rw [if_pos (nI_le (show T ≤ q by omega) (by omega))]
    exact Or.inr ⟨fun z => by have := z.1; omega, rfl⟩
theorem m_inFig {T : Nat} {L : Nat → Nat} {q a b : Nat} (hL : q < T → 32 ≤ L q ∧ L q ≤ 126) (ha : a ≤ 9) (hb : b ≤ 9) : (isFig T L q a b ∧ ltr T L q - 48 = nI (L q - 48) ∧ fX8_in (ltr T L q - 48).toInt64 (nI a).toInt64 (nI b).toInt64 = some 1) ∨ (¬ isFig T L q a b ∧ fX8_in (ltr T L q - 48).toInt64 (nI a).toInt64 (nI b).toInt64 = some 0) := by
  have neg : ∀ x : Int32, x < 0 → fX8_in x.toInt64 (nI a).toInt64 (nI b).toInt64 = some 0 := fun x hx => by
    rw [m_in32, if_pos]
    rw [l0] at hx
    exact Int32.lt_of_lt_of_le hx (nI_le (Nat.zero_le a) (by omega))
  unfold ltr
  by_cases q1 : q < T
  · obtain ⟨f1, f2⟩ := hL q1
    rw [if_pos q1]
    by_cases q2 : L q < 48
    · refine Or.inr ⟨fun z => by have := z.2.1; omega, neg _ ?_⟩
      rw [show (48 : Int32) = nI 48 from rfl, l0, diff_lt (by omega) (by decide) (by decide)]
      omega
    · rw [show nI (L q) - (48 : Int32) = nI (L q - 48) from pk_sub (a := L q) (b := 48) (by omega), m_in32]
      by_cases q3 : L q - 48 < a
      · rw [if_pos (nI_lt q3 (by omega))]
        exact Or.inr ⟨fun z => by have := z.2.1; omega, rfl⟩
      · rw [if_neg (nI_nlt (by omega) (by omega))]
        by_cases q4 : b < L q - 48
        · rw [if_pos (nI_lt q4 (by omega))]
          exact Or.inr ⟨fun z => by have := z.2.2; omega, rfl⟩
        · rw [if_neg (nI_nlt (by omega) (by omega))]
          exact Or.inl ⟨⟨q1, by omega, by omega⟩, rfl, rfl⟩
  · rw [if_neg q1]
    exact Or.inr ⟨fun z => q1 z.1, neg _ (by decide)⟩
theorem m_takes1 {p : Nat} : fX8_takes (nI p) 0 1 = some (nI (p + 1), 0) := by
  unfold fX8_takes jX8_takes_17 jX8_takes_37
  rw [if_pos rfl, if_neg (by decide), bz_0, Option.bind_some, if_pos rfl, nI_1]
theorem m_takes0 {x : Int32} : fX8_takes x 0 0 = some (x, 1) := by
  unfold fX8_takes jX8_takes_12 jX8_takes_17 jX8_takes_37
  rw [if_pos rfl, if_pos rfl, bz_1, Option.bind_some, if_neg (by decide), Int32.add_zero]
theorem m_takesF {x y : Int32} : fX8_takes x 1 y = some (x, 1) := by
  unfold fX8_takes jX8_takes_12 jX8_takes_17 jX8_takes_37
  rw [if_neg (by decide), bz_1, Option.bind_some, if_neg (by decide), Int32.add_zero]
theorem m_fig {T : Nat} {L : Nat → Nat} {f : Nat → Int32} {p a b : Nat} (hl : lett T L f) (hp : p ≤ T) (ha : a ≤ 9) (hb : b ≤ 9) : (isFig T L (skp T L p) a b ∧ fX8_figure (nI T) (nI p) 0 f (nI a) (nI b) = some (nI (L (skp T L p) - 48), nI (skp T L p + 1), 0)) ∨ (¬ isFig T L (skp T L p) a b ∧ fX8_figure (nI T) (nI p) 0 f (nI a) (nI b) = some (nI a, nI (skp T L p), 1)) := by
  unfold fX8_figure jX8_figure_18 jX8_figure_39 jX8_figure_44
  rw [if_pos rfl, m_looks hl hp, Option.bind_some]
  dsimp only
  rw [if_pos rfl]
  rcases m_inFig (T := T) (L := L) (q := skp T L p) (a := a) (b := b) (fun q => (hl.2 _ q).1) ha hb with ⟨h1, h2, h3⟩ | ⟨h1, h3⟩
  · rw [h3, Option.bind_some, if_neg (by decide), m_takes1, Option.bind_some]
    dsimp only
    rw [if_pos rfl, h2]
    exact Or.inl ⟨h1, rfl⟩
  · rw [h3, Option.bind_some, if_pos rfl, m_takes0, Option.bind_some]
    dsimp only
    rw [if_neg (by decide)]
    exact Or.inr ⟨h1, rfl⟩
/-- a sign -/
theorem c_sign {T : Nat} {L : Nat → Nat} {f : Nat → Int32} {p c : Nat} (hl : lett T L f) (hp : p ≤ T) (hc : 32 ≤ c ∧ c ≤ 126) : ((skp T L p < T ∧ L (skp T L p) = c) ∧ fX6_skipsSign (nI T) (nI p) f (nI c) = some (1, nI (skp T L p + 1)) ∧ ltr T L (skp T L p) = nI c) ∨ (¬ (skp T L p < T ∧ L (skp T L p) = c) ∧ fX6_skipsSign (nI T) (nI p) f (nI c) = some (0, nI (skp T L p)) ∧ ¬ ltr T L (skp T L p) = nI c) := by
  obtain ⟨s1, s2, s3⟩ := skp_b (L := L) hp
  unfold fX6_skipsSign jX6_skipsSign_32 jX6_skipsSign_33 ltr
  rw [c_skip hl hp, Option.bind_some]
  generalize skp T L p = q at s1 s2 s3 ⊢
  have hT := hl.1
  by_cases q1 : q < T
  · obtain ⟨⟨f1, f2⟩, f3⟩ := hl.2 q q1
    rw [if_neg (show ¬ nI T ≤ nI q from nI_ge q1 (by omega)), rd_nI (by omega) (by decide), Option.bind_some, f3, if_pos q1]
    by_cases q2 : L q = c
    · rw [if_pos (show nI (L q) = nI c by rw [q2]), if_neg (by decide), bz_1, Option.bind_some, nI_1]
      exact Or.inl ⟨⟨q1, q2⟩, rfl, by rw [q2]⟩
    · have q2' : ¬ nI (L q) = nI c := fun z => q2 ((nI_32 f2 c hc.2).mp z)
      rw [if_neg q2', if_pos rfl, bz_0, Option.bind_some]
      exact Or.inr ⟨fun z => q2 z.2, rfl, q2'⟩
  · rw [if_pos (nI_le (show T ≤ q by omega) (by omega)), if_pos rfl, bz_0, Option.bind_some, if_neg q1]
    exact Or.inr ⟨fun z => q1 z.1, rfl, fun z => by
      have := nI_inj (a := 0) (b := c) (by decide) (by omega) z
      omega⟩
