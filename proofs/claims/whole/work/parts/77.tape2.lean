/-! The text read: shapes. -/
theorem c_joinAs {sh n : Nat} {near : Nat → Int32} {N : Nat → Nat} (hsh : sh < 4) (hn : 2 ≤ n ∧ n ≤ 7) (ht : told7 near N) : ∃ near', fX6_joinAs (nI n) near (nI (sh + 1)) = some near' ∧ told7 near' (jAll sh n n N) := by
  have inner : ∀ v nr M, v < n → told7 nr M → ∃ x, itL (bX6_joinAs_12 (nI n) (nI (sh + 1)) (nI v)) fu ((0 : Int32), nr) = some x ∧ told7 x.2 (jIn sh n v v M) := by
    intro v nr M hv hM
    refine itL_rel (b := bX6_joinAs_12 (nI n) (nI (sh + 1)) (nI v)) (fun k w => ∃ nr', w = (nI k, nr') ∧ told7 nr' (jIn sh n v k M)) (fun x => told7 x.2 (jIn sh n v v M)) v ?_ ?_ fu _ ⟨nr, rfl, hM⟩ (by show v < 5000; omega)
    · rintro k w hk ⟨nr', rfl, h1⟩
      obtain ⟨nr2, g1, g2⟩ := c_join1 hsh hn.2 hv hk h1
      exact Or.inl ⟨_, g1, nr2, rfl, g2⟩
    · rintro w ⟨nr', rfl, h1⟩
      refine ⟨(nI v, nr'), ?_, h1⟩
      unfold bX6_joinAs_12
      dsimp only
      rw [if_pos (show nI v ≤ nI v from nI_le (Nat.le_refl _) (by omega))]
  obtain ⟨x, f1, f2⟩ := itL_rel (b := bX6_joinAs_2 (nI n) (nI (sh + 1))) (fun i w => ∃ nr', w = (nI (i + 1), nr') ∧ told7 nr' (jAll sh n (i + 1) N)) (fun x => told7 x.2 (jAll sh n n N)) (n - 1)
    (by
      rintro i w hi ⟨nr', rfl, h1⟩
      obtain ⟨x, g1, g2⟩ := inner (i + 1) nr' _ (by omega) h1
      refine Or.inl ⟨(nI (i + 1 + 1), x.2), ?_, x.2, rfl, g2⟩
      unfold bX6_joinAs_2
      dsimp only
      rw [if_neg (show ¬ nI n ≤ nI (i + 1) from nI_ge (by omega) (by omega)), g1, Option.bind_some, nI_1])
    (by
      rintro w ⟨nr', rfl, h1⟩
      rw [show n - 1 + 1 = n by omega] at h1 ⊢
      refine ⟨(nI n, nr'), ?_, h1⟩
      unfold bX6_joinAs_2
      dsimp only
      rw [if_pos (show nI n ≤ nI n from nI_le (Nat.le_refl _) (by omega))])
    fu ((1 : Int32), near) ⟨near, rfl, ht⟩ (by show n - 1 < 5000; omega)
  unfold fX6_joinAs
  rw [f1, Option.bind_some]
  exact ⟨_, rfl, f2⟩
theorem m_join1 {sh n v k T : Nat} {g : Nat → Int32} {ra : Int32} {told : Nat → Int32} {N : Nat → Nat} (hsh : sh < 5) (hn : n ≤ 7) (hv : v < n) (hk : k < v) (ht : told7 told N) : ∃ told', bX8_readsOthers_40 (nI T) g (nI sh) (nI v) ra 0 (nI n) (nI k, told) = some (.inl (nI (k + 1), told')) ∧ told7 told' (if jc sh n k v = true then jn N k v else N) := by
  obtain ⟨nr', j1, j2⟩ := m_links' ht (show v < 7 by omega) (show k < 7 by omega) (show v ≠ k by omega)
  rw [jn_comm (by omega)] at j2
  have key : bX8_readsOthers_40 (nI T) g (nI sh) (nI v) ra 0 (nI n) (nI k, told) = if jc sh n k v = true then some (.inl (nI (k + 1), nr')) else some (.inl (nI (k + 1), told)) := by
    unfold bX8_readsOthers_40 jX8_readsOthers_57 jX8_readsOthers_82 jX8_readsOthers_83 jX8_readsOthers_100 jX8_readsOthers_135 jX8_readsOthers_148
    dsimp only
    rw [if_neg (show ¬ nI v ≤ nI k from nI_ge hk (by omega)), j1]
    simp only [e_prev (show v < 8 by omega) hk, e_zero (show k < 8 by omega), e_last (show 0 < n by omega) (show n < 8 by omega) (show v < 8 by omega), Option.bind_some, nI_1]
    rcases (show sh = 0 ∨ sh = 1 ∨ sh = 2 ∨ sh = 3 ∨ sh = 4 by omega) with rfl | rfl | rfl | rfl | rfl
    · simp only [show (nI 0 = (1 : Int32)) = False from eq_false (by decide), show ((2 : Int32) ≤ nI 0) = False from eq_false (by decide), if_true, if_false, jc]
      by_cases a1 : v = k + 1 <;> by_cases a2 : k = 0 <;> by_cases a3 : v = n - 1 <;> simp [a1, a2, a3]
    · simp only [show (nI 1 = (1 : Int32)) = True from eq_true (by decide), show ((2 : Int32) ≤ nI 1) = False from eq_false (by decide), if_true, if_false, jc]
      by_cases a1 : v = k + 1 <;> by_cases a2 : k = 0 <;> by_cases a3 : v = n - 1 <;> simp [a1, a2, a3]
    · simp only [show (nI 2 = (1 : Int32)) = False from eq_false (by decide), show ((2 : Int32) ≤ nI 2) = True from eq_true (by decide), show (nI 2 = (2 : Int32)) = True from eq_true (by decide), if_true, if_false, jc]
      by_cases a1 : v = k + 1 <;> by_cases a2 : k = 0 <;> by_cases a3 : v = n - 1 <;> simp [a1, a2, a3]
    · simp only [show (nI 3 = (1 : Int32)) = False from eq_false (by decide), show ((2 : Int32) ≤ nI 3) = True from eq_true (by decide), show (nI 3 = (2 : Int32)) = False from eq_false (by decide), show (nI 3 = (3 : Int32)) = True from eq_true (by decide), if_true, if_false, jc]
      by_cases a1 : v = k + 1 <;> by_cases a2 : k = 0 <;> by_cases a3 : v = n - 1 <;> simp [a1, a2, a3]
    · simp only [show (nI 4 = (1 : Int32)) = False from eq_false (by decide), show ((2 : Int32) ≤ nI 4) = True from eq_true (by decide), show (nI 4 = (2 : Int32)) = False from eq_false (by decide), show (nI 4 = (3 : Int32)) = False from eq_false (by decide), if_true, if_false, jc]
      by_cases a1 : v = k + 1 <;> by_cases a2 : k = 0 <;> by_cases a3 : v = n - 1 <;> simp [a1, a2, a3]
  rw [key]
  by_cases q : jc sh n k v = true
  · rw [if_pos q, if_pos q]; exact ⟨_, rfl, j2⟩
  · rw [if_neg q, if_neg q]; exact ⟨_, rfl, ht⟩
theorem m_joinAs {sh n T : Nat} {g : Nat → Int32} {ra : Int32} {told : Nat → Int32} {N : Nat → Nat} (hsh : sh < 5) (hn : 2 ≤ n ∧ n ≤ 7) (ht : told7 told N) : ∃ x, itL (bX8_readsOthers_30 (nI T) g (nI sh) ra 0 (nI n)) fu ((0 : Int32), told) = some x ∧ told7 x.2 (jAll sh n n N) := by
  have inner : ∀ v nr M, v < n → told7 nr M → ∃ x, itL (bX8_readsOthers_40 (nI T) g (nI sh) (nI v) ra 0 (nI n)) fu ((0 : Int32), nr) = some x ∧ told7 x.2 (jIn sh n v v M) := by
    intro v nr M hv hM
    refine itL_rel (b := bX8_readsOthers_40 (nI T) g (nI sh) (nI v) ra 0 (nI n)) (fun k w => ∃ nr', w = (nI k, nr') ∧ told7 nr' (jIn sh n v k M)) (fun x => told7 x.2 (jIn sh n v v M)) v ?_ ?_ fu _ ⟨nr, rfl, hM⟩ (by show v < 5000; omega)
    · rintro k w hk ⟨nr', rfl, h1⟩
      obtain ⟨nr2, g1, g2⟩ := m_join1 (T := T) (g := g) (ra := ra) hsh hn.2 hv hk h1
      exact Or.inl ⟨_, g1, nr2, rfl, g2⟩
    · rintro w ⟨nr', rfl, h1⟩
      refine ⟨(nI v, nr'), ?_, h1⟩
      unfold bX8_readsOthers_40
      dsimp only
      rw [if_pos (show nI v ≤ nI v from nI_le (Nat.le_refl _) (by omega))]
  refine itL_rel (b := bX8_readsOthers_30 (nI T) g (nI sh) ra 0 (nI n)) (fun i w => ∃ nr', w = (nI i, nr') ∧ told7 nr' (jAll sh n i N)) (fun x => told7 x.2 (jAll sh n n N)) n ?_ ?_ fu _ ⟨told, rfl, ht⟩ (by show n < 5000; omega)
  · rintro i w hi ⟨nr', rfl, h1⟩
    obtain ⟨x, g1, g2⟩ := inner i nr' _ hi h1
    refine Or.inl ⟨(nI (i + 1), x.2), ?_, x.2, rfl, g2⟩
    unfold bX8_readsOthers_30
    dsimp only
    rw [if_neg (show ¬ nI n ≤ nI i from nI_ge hi (by omega)), g1, Option.bind_some, nI_1]
  · rintro w ⟨nr', rfl, h1⟩
    refine ⟨(nI n, nr'), ?_, h1⟩
    unfold bX8_readsOthers_30
    dsimp only
    rw [if_pos (show nI n ≤ nI n from nI_le (Nat.le_refl _) (by omega))]
/-- a grid w wide, up to node v -/
def gr1 (w v : Nat) (N : Nat → Nat) : Nat → Nat := if v % w = 0 then N else jn N (v - 1) v
def gr2 (w v : Nat) (N : Nat → Nat) : Nat → Nat := if v < w then N else jn N (v - w) v
def grA (w : Nat) : Nat → (Nat → Nat) → (Nat → Nat)
  | 0, N => N
  | v + 1, N => gr2 w v (gr1 w v (grA w v N))
theorem grA_fit {w n : Nat} {N : Nat → Nat} (hw : 0 < w) (hf : netFit n N) : ∀ v, v ≤ n → netFit n (grA w v N) := by
  intro v
  induction v with
  | zero => intro _; exact hf
  | succ v ih =>
    intro hv
    have h1 := ih (by omega)
    have h2 : netFit n (gr1 w v (grA w v N)) := by
      unfold gr1
      split
      · exact h1
      · next h => exact jn_fit h1 (by omega) (by omega) (fun z => h (by rw [show v = 0 by omega]; exact Nat.zero_mod w))
    show netFit n (gr2 w v (gr1 w v (grA w v N)))
    unfold gr2
    split
    · exact h2
    · exact jn_fit h2 (by omega) (by omega) (by omega)
theorem c_grid {w n T : Nat} {f : Nat → Int32} {a b : Int32} {near : Nat → Int32} {N : Nat → Nat} (hw : 0 < w) (hw7 : w ≤ 7) (hn : n ≤ 7) (ht : told7 near N) : ∃ x, itL (bX6_readGrid_66 (nI T) f (nI w) (nI n) a b) fu ((0 : Int32), near) = some x ∧ told7 x.2 (grA w n N) := by
  refine itL_rel (b := bX6_readGrid_66 (nI T) f (nI w) (nI n) a b) (fun i z => ∃ nr', z = (nI i, nr') ∧ told7 nr' (grA w i N)) (fun x => told7 x.2 (grA w n N)) n ?_ ?_ fu _ ⟨near, rfl, ht⟩ (by show n < 5000; omega)
  · rintro i z hi ⟨nr', rfl, h1⟩
    left
    have e1 : ∃ nr2, told7 nr2 (gr1 w i (grA w i N)) ∧ bX6_readGrid_66 (nI T) f (nI w) (nI n) a b (nI i, nr') = jX6_readGrid_88 (nI T) f (nI w) (nI i) (nI n) a b nr2 := by
      unfold bX6_readGrid_66 gr1
      dsimp only
      rw [if_neg (show ¬ nI n ≤ nI i from nI_ge hi (by omega)), rmd_nI (by omega) hw (by omega), Option.bind_some]
      by_cases q : i % w = 0
      · rw [if_pos (show nI (i % w) = 0 by rw [q]; rfl), if_pos q]
        exact ⟨nr', h1, rfl⟩
      · have hm := Nat.mod_lt i hw
        have hi0 : i ≠ 0 := fun z => q (by rw [z]; exact Nat.zero_mod w)
        obtain ⟨nr2, g1, g2⟩ := c_join h1 (show i - 1 < 7 by omega) (show i < 7 by omega) (show i - 1 ≠ i by omega)
        rw [if_neg (nI_ne0 (Nat.pos_of_ne_zero q) (by omega)), if_neg q, show nI i - (1 : Int32) = nI (i - 1) from pk_sub (a := i) (b := 1) (by omega), g1, Option.bind_some]
        exact ⟨nr2, g2, rfl⟩
    obtain ⟨nr2, e2, e3⟩ := e1
    rw [e3]
    unfold jX6_readGrid_88 jX6_readGrid_101
    by_cases q : i < w
    · rw [if_pos (nI_lt q (by omega)), nI_1]
      refine ⟨_, rfl, nr2, rfl, ?_⟩
      show told7 nr2 (gr2 w i (gr1 w i (grA w i N)))
      unfold gr2
      rw [if_pos q]
      exact e2
    · obtain ⟨nr3, g1, g2⟩ := c_join e2 (show i - w < 7 by omega) (show i < 7 by omega) (show i - w ≠ i by omega)
      rw [if_neg (nI_nlt (by omega) (by omega)), pk_sub (by omega), g1, Option.bind_some, nI_1]
      refine ⟨_, rfl, nr3, rfl, ?_⟩
      show told7 nr3 (gr2 w i (gr1 w i (grA w i N)))
      unfold gr2
      rw [if_neg q]
      exact g2
  · rintro z ⟨nr', rfl, h1⟩
    refine ⟨(nI n, nr'), ?_, h1⟩
    unfold bX6_readGrid_66
    dsimp only
    rw [if_pos (show nI n ≤ nI n from nI_le (Nat.le_refl _) (by omega))]
theorem m_grid {w n T : Nat} {f : Nat → Int32} {a b : Int32} {near : Nat → Int32} {N : Nat → Nat} (hw : 0 < w) (hw7 : w ≤ 7) (hn : n ≤ 7) (ht : told7 near N) : ∃ x, itL (bX8_readsGrid_113 (nI T) f (nI w) a b (nI n)) fu ((0 : Int32), near) = some x ∧ told7 x.2 (grA w n N) := by
  refine itL_rel (b := bX8_readsGrid_113 (nI T) f (nI w) a b (nI n)) (fun i z => ∃ nr', z = (nI i, nr') ∧ told7 nr' (grA w i N)) (fun x => told7 x.2 (grA w n N)) n ?_ ?_ fu _ ⟨near, rfl, ht⟩ (by show n < 5000; omega)
  · rintro i z hi ⟨nr', rfl, h1⟩
    left
    have e1 : ∃ nr2, told7 nr2 (gr1 w i (grA w i N)) ∧ bX8_readsGrid_113 (nI T) f (nI w) a b (nI n) (nI i, nr') = jX8_readsGrid_135 (nI T) f (nI w) (nI i) a b (nI n) nr2 := by
      unfold bX8_readsGrid_113 gr1
      dsimp only
      rw [if_neg (show ¬ nI n ≤ nI i from nI_ge hi (by omega)), rmd_nI (by omega) hw (by omega), Option.bind_some]
      by_cases q : i % w = 0
      · rw [if_pos (show nI (i % w) ≤ 0 by rw [q]; decide), if_pos q]
        exact ⟨nr', h1, rfl⟩
      · have hm := Nat.mod_lt i hw
        have hi0 : i ≠ 0 := fun z => q (by rw [z]; exact Nat.zero_mod w)
        obtain ⟨nr2, g1, g2⟩ := m_links' h1 (show i - 1 < 7 by omega) (show i < 7 by omega) (show i - 1 ≠ i by omega)
        rw [if_neg (show ¬ nI (i % w) ≤ 0 from nI_ge (b := i % w) (a := 0) (Nat.pos_of_ne_zero q) (by omega)), if_neg q, show nI i - (1 : Int32) = nI (i - 1) from pk_sub (a := i) (b := 1) (by omega), g1, Option.bind_some]
        exact ⟨nr2, g2, rfl⟩
    obtain ⟨nr2, e2, e3⟩ := e1
    rw [e3]
    unfold jX8_readsGrid_135 jX8_readsGrid_148
    by_cases q : i < w
    · rw [if_pos (nI_lt q (by omega)), nI_1]
      refine ⟨_, rfl, nr2, rfl, ?_⟩
      show told7 nr2 (gr2 w i (gr1 w i (grA w i N)))
      unfold gr2
      rw [if_pos q]
      exact e2
    · obtain ⟨nr3, g1, g2⟩ := m_links' e2 (show i - w < 7 by omega) (show i < 7 by omega) (show i - w ≠ i by omega)
      rw [if_neg (nI_nlt (by omega) (by omega)), pk_sub (by omega), g1, Option.bind_some, nI_1]
      refine ⟨_, rfl, nr3, rfl, ?_⟩
      show told7 nr3 (gr2 w i (gr1 w i (grA w i N)))
      unfold gr2
      rw [if_neg q]
      exact g2
  · rintro z ⟨nr', rfl, h1⟩
    refine ⟨(nI n, nr'), ?_, h1⟩
    unfold bX8_readsGrid_113
    dsimp only
    rw [if_pos (show nI n ≤ nI n from nI_le (Nat.le_refl _) (by omega))]
