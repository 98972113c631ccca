/-! The reference's turn. -/
theorem foldN_add {S : Type} {f : Nat → S → S} (a : Nat) : ∀ (b : Nat) (s : S), foldN f (a + b) s = foldN (fun w s => f (a + w) s) b (foldN f a s) := by
  intro b
  induction b with
  | zero => intro s; rfl
  | succ b ih => intro s; show f (a + b) (foldN f (a + b) s) = f (a + b) _; rw [ih]
theorem foldN_nest {S : Type} {f : Nat → S → S} : ∀ (m : Nat) (s : S), foldN f (10 * m) s = foldN (fun u s => foldN (fun w s => f (10 * u + w) s) 10 s) m s := by
  intro m
  induction m with
  | zero => intro s; rfl
  | succ m ih =>
    intro s
    rw [Nat.mul_succ, foldN_add, ih]
    rfl
abbrev V7 : Type := Int32 × Int32 × (Nat → Int32) × (Nat → Int32) × (Nat → Int32) × (Nat → Int32) × (Nat → Int32)
def MRv (rn : Nat) (L : List En) (v : V7) : Prop := MR rn L v.2.1 v.2.2.1 v.2.2.2.1 v.2.2.2.2.1 v.2.2.2.2.2.1 v.2.2.2.2.2.2
theorem m_puts {st : Nat → Int32} {n kind team rn k : Nat} {nr : Nat → Nat} {sd : Bool} {L : List En} {e : En} {v0 : V7} (hs : stNet st n nr) (hf : netFit n nr) (hki : kind < 3) (ht : team < 8) (hL : stOK n L) (hk : L[k]? = some e) (h0 : v0.1 = 0) (h : MRv rn L v0) : ∃ x, itL (bX8_search_65 st (nI kind) (nI team) (if sd then 1 else 0) (nI k) (nI rn)) fu v0 = some x ∧ MRv rn (putA n nr kind team sd k e.1 e.2.1 L) x := by
  have hn := hf.1.2
  have hst : rd st 13 (0 : Int32) = some (nI n) := by rw [l0, rd_nI (by decide) (by decide), hs.1]
  refine itL_rel (fun i v => v.1 = nI i ∧ MRv rn (foldN (fun v M => if v < n ∧ rul nr kind team e.2.1 v = 0 then doA n nr sd k e.1 e.2.1 v M else M) i L) v) _ n ?_ ?_ fu v0 ⟨h0, h⟩ (by unfold fu; omega)
  · intro i v hi hv
    have s1 : stays n L (foldN (fun v M => if v < n ∧ rul nr kind team e.2.1 v = 0 then doA n nr sd k e.1 e.2.1 v M else M) i L) := foldN_ind (stays n L) i L ⟨hL, List.prefix_refl L⟩ (fun v _ M hM => by
      by_cases q : v < n ∧ rul nr kind team e.2.1 v = 0
      · rw [if_pos q]; exact stays_do hn hL hk (isA_put q.1) hM
      · rw [if_neg q]; exact hM)
    obtain ⟨a1, a2, a3, a4, a5, a6, b1, b2⟩ := m_goesOn (sd := sd) hs hf hki ht hv.2 s1.1 (pre_at s1.2 hk) (isA_put hi)
    refine Or.inl ⟨(nI (i + 1), a1, a2, a3, a4, a5, a6), ?_, rfl, ?_⟩
    · unfold bX8_search_65
      rw [hst, Option.bind_some, hv.1, if_neg (show ¬ nI n ≤ nI i from nI_ge hi (by omega)), b1, Option.bind_some, nI_1]
    · show MR rn (if i < n ∧ rul nr kind team e.2.1 i = 0 then _ else _) _ _ _ _ _ _
      by_cases z : rul nr kind team e.2.1 i = 0
      · rw [if_pos ⟨hi, z⟩]; rw [if_pos z] at b2; exact b2
      · rw [if_neg (fun y => z y.2)]; rw [if_neg z] at b2; exact b2
  · intro v hv
    refine ⟨v, ?_, ?_⟩
    · unfold bX8_search_65
      rw [hst, Option.bind_some, hv.1, if_pos (nI_le (Nat.le_refl _) (by omega)), ← hv.1]
    · unfold putA
      rw [foldN_id (M := n) 7 L hn (fun u hu _ M => by rw [if_neg (fun y => by have := y.1; omega)])]
      exact hv.2
theorem m_takes {st : Nat → Int32} {n kind team rn k : Nat} {nr : Nat → Nat} {sd : Bool} {L : List En} {e : En} {v0 : V7} (hs : stNet st n nr) (hf : netFit n nr) (hki : kind < 3) (ht : team < 8) (hL : stOK n L) (hk : L[k]? = some e) (h0 : v0.1 = 0) (h : MRv rn L v0) : ∃ x, itL (bX8_search_98 st (nI kind) (nI team) (if sd then 1 else 0) (nI k) (nI rn)) fu v0 = some x ∧ MRv rn (takeA n nr kind team sd k e.1 e.2.1 L) x := by
  have hn := hf.1.2
  have hst : rd st 13 (0 : Int32) = some (nI n) := by rw [l0, rd_nI (by decide) (by decide), hs.1]
  refine itL_rel (fun i v => v.1 = nI i ∧ MRv rn (foldN (fun v M => if v < n ∧ rul nr kind team e.2.1 (10 + v) = 0 then doA n nr sd k e.1 e.2.1 (10 + v) M else M) i L) v) _ n ?_ ?_ fu v0 ⟨h0, h⟩ (by unfold fu; omega)
  · intro i v hi hv
    have s1 : stays n L (foldN (fun v M => if v < n ∧ rul nr kind team e.2.1 (10 + v) = 0 then doA n nr sd k e.1 e.2.1 (10 + v) M else M) i L) := foldN_ind (stays n L) i L ⟨hL, List.prefix_refl L⟩ (fun v _ M hM => by
      by_cases q : v < n ∧ rul nr kind team e.2.1 (10 + v) = 0
      · rw [if_pos q]; exact stays_do hn hL hk (isA_take q.1) hM
      · rw [if_neg q]; exact hM)
    obtain ⟨a1, a2, a3, a4, a5, a6, b1, b2⟩ := m_goesOn (sd := sd) hs hf hki ht hv.2 s1.1 (pre_at s1.2 hk) (isA_take hi)
    refine Or.inl ⟨(nI (i + 1), a1, a2, a3, a4, a5, a6), ?_, rfl, ?_⟩
    · unfold bX8_search_98
      rw [hst, Option.bind_some, hv.1, if_neg (show ¬ nI n ≤ nI i from nI_ge hi (by omega)), show (10 : Int32) + nI i = nI (10 + i) from nI_add 10 i, b1, Option.bind_some, nI_1]
    · show MR rn (if i < n ∧ rul nr kind team e.2.1 (10 + i) = 0 then _ else _) _ _ _ _ _ _
      by_cases z : rul nr kind team e.2.1 (10 + i) = 0
      · rw [if_pos ⟨hi, z⟩]; rw [if_pos z] at b2; exact b2
      · rw [if_neg (fun y => z y.2)]; rw [if_neg z] at b2; exact b2
  · intro v hv
    refine ⟨v, ?_, ?_⟩
    · unfold bX8_search_98
      rw [hst, Option.bind_some, hv.1, if_pos (nI_le (Nat.le_refl _) (by omega)), ← hv.1]
    · unfold takeA
      rw [foldN_id (M := n) 7 L hn (fun u hu _ M => by rw [if_neg (fun y => by have := y.1; omega)])]
      exact hv.2
theorem isA_100 {n j : Nat} (hn : n ≤ 7) (hj : j < 70) : isA n (100 + j) ↔ j / 10 < n ∧ j % 10 < n ∧ j / 10 ≠ j % 10 := by
  constructor
  · rintro (q | ⟨v, q, e⟩ | ⟨u, w, a, b, c, e⟩)
    · omega
    · omega
    · have e1 : j / 10 = u := by omega
      have e2 : j % 10 = w := by omega
      rw [e1, e2]; exact ⟨a, b, c⟩
  · rintro ⟨a, b, c⟩
    exact Or.inr (Or.inr ⟨j / 10, j % 10, a, b, c, by omega⟩)
theorem m_moves {st : Nat → Int32} {n kind team rn k : Nat} {nr : Nat → Nat} {sd : Bool} {L : List En} {e : En} {v0 : V7} (hs : stNet st n nr) (hf : netFit n nr) (hki : kind < 3) (ht : team < 8) (hL : stOK n L) (hk : L[k]? = some e) (h0 : v0.1 = 0) (h : MRv rn L v0) : ∃ x, itL (bX8_search_134 st (nI kind) (nI team) (if sd then 1 else 0) (nI k) (nI rn)) fu v0 = some x ∧ MRv rn (moveA n nr kind team sd k e.1 e.2.1 L) x := by
  have hn := hf.1.2
  by_cases k1 : kind = 1
  · have hm : moveA n nr kind team sd k e.1 e.2.1 L = foldN (fun j M => if (j / 10 < n ∧ j % 10 < n ∧ j / 10 ≠ j % 10) ∧ rul nr kind team e.2.1 (100 + j) = 0 then doA n nr sd k e.1 e.2.1 (100 + j) M else M) 70 L := by
      rw [show (70 : Nat) = 10 * 7 from rfl, foldN_nest]
      unfold moveA
      refine foldN_congr 7 L (fun u hu M => foldN_congr 10 M (fun w hw M => ?_))
      rw [show (10 * u + w) / 10 = u by omega, show (10 * u + w) % 10 = w by omega, show 100 + (10 * u + w) = 100 + 10 * u + w by omega]
    rw [hm]
    refine itL_rel (fun i v => v.1 = nI i ∧ MRv rn (foldN (fun j M => if (j / 10 < n ∧ j % 10 < n ∧ j / 10 ≠ j % 10) ∧ rul nr kind team e.2.1 (100 + j) = 0 then doA n nr sd k e.1 e.2.1 (100 + j) M else M) i L) v) _ 70 ?_ ?_ fu v0 ⟨h0, h⟩ (by decide)
    · intro i v hi hv
      have s1 : stays n L (foldN (fun j M => if (j / 10 < n ∧ j % 10 < n ∧ j / 10 ≠ j % 10) ∧ rul nr kind team e.2.1 (100 + j) = 0 then doA n nr sd k e.1 e.2.1 (100 + j) M else M) i L) := foldN_ind (stays n L) i L ⟨hL, List.prefix_refl L⟩ (fun j hj M hM => by
        by_cases q : (j / 10 < n ∧ j % 10 < n ∧ j / 10 ≠ j % 10) ∧ rul nr kind team e.2.1 (100 + j) = 0
        · rw [if_pos q]; exact stays_do hn hL hk ((isA_100 hn (by omega)).mpr q.1) hM
        · rw [if_neg q]; exact hM)
      refine Or.inl ?_
      have hcond : (if (70 : Int32) ≤ nI i then (1 : Nat) else 0) = 0 := if_neg (nI_ge (b := 70) hi (by decide))
      have hact : ((100 : Int32) + nI i).toInt64 = lN (100 + i) := by rw [show (100 : Int32) + nI i = nI (100 + i) from nI_add 100 i, nI_l (by omega)]
      rcases m_isAct (k := 100 + i) hs (by have := hf.1.1; omega) hn (by omega) with ⟨a, b⟩ | ⟨a, b⟩
      · have ha := (isA_100 hn hi).mp a
        obtain ⟨a1, a2, a3, a4, a5, a6, b1, b2⟩ := m_goesOn (sd := sd) hs hf hki ht hv.2 s1.1 (pre_at s1.2 hk) a
        refine ⟨(nI (i + 1), a1, a2, a3, a4, a5, a6), ?_, rfl, ?_⟩
        · unfold bX8_search_134 jX8_search_175
          rw [hv.1, if_neg (show ¬ (70 : Int32) ≤ nI i from nI_ge (b := 70) hi (by decide)), if_pos (show nI kind = 1 by rw [k1]; rfl), hact, b, Option.bind_some, if_neg (show ¬ (1 : Int32) = 0 by decide), show (100 : Int32) + nI i = nI (100 + i) from nI_add 100 i, b1, Option.bind_some, nI_1]
        · show MR rn (if (i / 10 < n ∧ i % 10 < n ∧ i / 10 ≠ i % 10) ∧ rul nr kind team e.2.1 (100 + i) = 0 then _ else _) _ _ _ _ _ _
          by_cases z : rul nr kind team e.2.1 (100 + i) = 0
          · rw [if_pos ⟨ha, z⟩]; rw [if_pos z] at b2; exact b2
          · rw [if_neg (fun y => z y.2)]; rw [if_neg z] at b2; exact b2
      · refine ⟨(nI (i + 1), v.2), ?_, rfl, ?_⟩
        · unfold bX8_search_134 jX8_search_175
          rw [hv.1, if_neg (show ¬ (70 : Int32) ≤ nI i from nI_ge (b := 70) hi (by decide)), if_pos (show nI kind = 1 by rw [k1]; rfl), hact, b, Option.bind_some, if_pos rfl, nI_1]
        · show MR rn (if (i / 10 < n ∧ i % 10 < n ∧ i / 10 ≠ i % 10) ∧ rul nr kind team e.2.1 (100 + i) = 0 then _ else _) _ _ _ _ _ _
          rw [if_neg (fun y => a ((isA_100 hn hi).mpr y.1))]
          exact hv.2
    · intro v hv
      refine ⟨v, ?_, hv.2⟩
      unfold bX8_search_134
      rw [hv.1, if_pos (show (70 : Int32) ≤ nI 70 by decide), ← hv.1]
  · refine ⟨v0, ?_, by rw [mv_none k1]; exact h⟩
    unfold fu
    rw [itL]
    unfold bX8_search_134
    rw [if_neg (show ¬ nI kind = (1 : Int32) from fun z => k1 (nI_inj (a := kind) (b := 1) (by omega) (by decide) z)), ite_self]
