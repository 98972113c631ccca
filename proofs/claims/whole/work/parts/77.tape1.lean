/-! The text read: links told. -/
def told7 (f : Nat → Int32) (N : Nat → Nat) : Prop := ∀ v, v < 7 → f v = nI (N v)
def jn (N : Nat → Nat) (a b : Nat) : Nat → Nat := fun v => if v = a then N a ||| 2 ^ b else if v = b then N b ||| 2 ^ a else N v
theorem jn_comm {N : Nat → Nat} {a b : Nat} (h : a ≠ b) : jn N a b = jn N b a := funext (fun v => by
  unfold jn
  by_cases va : v = a
  · rw [if_pos va, if_neg (fun z => h (va.symm.trans z)), if_pos va]
  · rw [if_neg va, if_neg va])
theorem jn_fit {n : Nat} {nr : Nat → Nat} {a b : Nat} (hf : netFit n nr) (ha : a < n) (hb : b < n) (hab : a ≠ b) : netFit n (jn nr a b) := by
  obtain ⟨h1, h2, h3, h4, h5⟩ := hf
  have p2 : ∀ i, i < n → 2 ^ i < 2 ^ n := fun i hi => Nat.pow_lt_pow_right (by decide) hi
  refine ⟨h1, fun v => ?_, fun v hv => ?_, fun u v => ?_, fun v => ?_⟩
  · unfold jn
    split
    · exact Nat.or_lt_two_pow (h2 a) (p2 b hb)
    · split
      · exact Nat.or_lt_two_pow (h2 b) (p2 a ha)
      · exact h2 v
  · unfold jn
    rw [if_neg (by omega), if_neg (by omega)]
    exact h3 v hv
  · unfold jn
    by_cases ua : u = a
    · subst ua
      rw [if_pos rfl]
      by_cases va : v = u
      · subst va; rw [if_pos rfl]
      · rw [if_neg va]
        by_cases vb : v = b
        · subst vb
          rw [if_pos rfl, Nat.testBit_or, Nat.testBit_or, h4 u v, Nat.testBit_two_pow_self, Nat.testBit_two_pow_self]
        · rw [if_neg vb, Nat.testBit_or, h4 u v, Nat.testBit_two_pow_of_ne (fun e => vb e.symm), Bool.or_false]
    · rw [if_neg ua]
      by_cases ub : u = b
      · subst ub
        rw [if_pos rfl]
        by_cases va : v = a
        · subst va
          rw [if_pos rfl, Nat.testBit_or, Nat.testBit_or, h4 u v, Nat.testBit_two_pow_self, Nat.testBit_two_pow_self]
        · rw [if_neg va]
          by_cases vb : v = u
          · subst vb; rw [if_pos rfl]
          · rw [if_neg vb, Nat.testBit_or, h4 u v, Nat.testBit_two_pow_of_ne (fun e => va e.symm), Bool.or_false]
      · rw [if_neg ub]
        by_cases va : v = a
        · subst va
          rw [if_pos rfl, Nat.testBit_or, h4 u v, Nat.testBit_two_pow_of_ne (fun e => ub e.symm), Bool.or_false]
        · rw [if_neg va]
          by_cases vb : v = b
          · subst vb
            rw [if_pos rfl, Nat.testBit_or, h4 u v, Nat.testBit_two_pow_of_ne (fun e => ua e.symm), Bool.or_false]
          · rw [if_neg vb]; exact h4 u v
  · unfold jn
    by_cases va : v = a
    · subst va
      rw [if_pos rfl, Nat.testBit_or, h5 v, Nat.testBit_two_pow_of_ne (fun e => hab e.symm), Bool.or_false]
    · rw [if_neg va]
      by_cases vb : v = b
      · subst vb
        rw [if_pos rfl, Nat.testBit_or, h5 v, Nat.testBit_two_pow_of_ne hab, Bool.or_false]
      · rw [if_neg vb]; exact h5 v
theorem c_join {nr : Nat → Nat} {a b : Nat} {wl : Nat → Int32} (hw : told7 wl nr) (ha : a < 7) (hb : b < 7) (hab : a ≠ b) : ∃ wl', fX6_join wl (nI a) (nI b) = some wl' ∧ told7 wl' (jn nr a b) := by
  refine ⟨upd (upd wl a (nI (nr a ||| 2 ^ b))) b (nI (nr b ||| 2 ^ a)), ?_, fun v hv => ?_⟩
  · unfold fX6_join
    rw [rd_nI ha (by decide), Option.bind_some, shl1 b (by omega), hw a ha, fa_or, wi_nI ha (by decide), Option.bind_some, rd_nI hb (by decide), Option.bind_some, pk_un (fun e => hab e.symm), shl1 a (by omega), hw b hb, fa_or, wi_nI hb (by decide), Option.bind_some]
  · unfold jn
    by_cases vb : v = b
    · subst vb
      rw [pk_us, if_neg (fun e => hab e.symm), if_pos rfl]
    · rw [pk_un vb]
      by_cases va : v = a
      · subst va; rw [pk_us, if_pos rfl]
      · rw [pk_un va, if_neg va, if_neg vb, hw v hv]
theorem m_links' {nr : Nat → Nat} {a b : Nat} {wl : Nat → Int32} (hw : told7 wl nr) (ha : a < 7) (hb : b < 7) (hab : a ≠ b) : ∃ wl', fX8_links wl (nI a) (nI b) = some wl' ∧ told7 wl' (jn nr a b) := c_join hw ha hb hab
/-- which nodes a shape links, u below v -/
def jc (sh n u v : Nat) : Bool := if sh = 0 then decide (v = u + 1) else if sh = 1 then (decide (v = u + 1) || (decide (u = 0) && decide (v = n - 1))) else if sh = 2 then decide (u = 0) else decide (sh = 3)
def jIn (sh n v : Nat) : Nat → (Nat → Nat) → (Nat → Nat)
  | 0, N => N
  | k + 1, N => if jc sh n k v = true then jn (jIn sh n v k N) k v else jIn sh n v k N
def jAll (sh n : Nat) : Nat → (Nat → Nat) → (Nat → Nat)
  | 0, N => N
  | v + 1, N => jIn sh n v v (jAll sh n v N)
theorem jIn_fit {sh n v : Nat} {N : Nat → Nat} (hf : netFit n N) (hv : v < n) : ∀ k, k ≤ v → netFit n (jIn sh n v k N) := by
  intro k
  induction k with
  | zero => intro _; exact hf
  | succ k ih =>
    intro hk
    have := ih (by omega)
    show netFit n (if jc sh n k v = true then jn (jIn sh n v k N) k v else jIn sh n v k N)
    split
    · exact jn_fit this (by omega) hv (by omega)
    · exact this
theorem jAll_fit {sh n : Nat} {N : Nat → Nat} (hf : netFit n N) : ∀ v, v ≤ n → netFit n (jAll sh n v N) := by
  intro v
  induction v with
  | zero => intro _; exact hf
  | succ v ih => intro hv; exact jIn_fit (ih (by omega)) (by omega) v (Nat.le_refl _)
theorem e_next {v k : Nat} (hv : v < 8) (hk : k < v) : (nI v - nI k = (1 : Int32)) ↔ v = k + 1 := by
  rw [pk_sub (by omega)]
  exact ⟨fun z => by have := nI_inj (a := v - k) (b := 1) (by omega) (by decide) z; omega, fun z => by rw [show v - k = 1 by omega]; rfl⟩
theorem e_prev {v k : Nat} (hv : v < 8) (hk : k < v) : (nI k = nI v - (1 : Int32)) ↔ v = k + 1 := by
  rw [show nI v - (1 : Int32) = nI (v - 1) from pk_sub (a := v) (b := 1) (by omega)]
  exact ⟨fun z => by have := nI_inj (a := k) (b := v - 1) (by omega) (by omega) z; omega, fun z => by rw [show v - 1 = k by omega]⟩
theorem e_zero {k : Nat} (hk : k < 8) : (nI k = (0 : Int32)) ↔ k = 0 := ⟨fun z => nI_inj (a := k) (b := 0) (by omega) (by decide) z, fun z => by rw [z]; rfl⟩
theorem e_last {v n : Nat} (h0 : 0 < n) (hn : n < 8) (hv : v < 8) : (nI v = nI n - (1 : Int32)) ↔ v = n - 1 := by
  rw [show nI n - (1 : Int32) = nI (n - 1) from pk_sub (a := n) (b := 1) (by omega)]
  exact ⟨fun z => nI_inj (by omega) (by omega) z, fun z => by rw [z]⟩
theorem c_join1 {sh n v k : Nat} {near : Nat → Int32} {N : Nat → Nat} (hsh : sh < 4) (hn : n ≤ 7) (hv : v < n) (hk : k < v) (ht : told7 near N) : ∃ near', bX6_joinAs_12 (nI n) (nI (sh + 1)) (nI v) (nI k, near) = some (.inl (nI (k + 1), near')) ∧ told7 near' (if jc sh n k v = true then jn N k v else N) := by
  obtain ⟨nr', j1, j2⟩ := c_join ht (show k < 7 by omega) (show v < 7 by omega) (show k ≠ v by omega)
  have key : bX6_joinAs_12 (nI n) (nI (sh + 1)) (nI v) (nI k, near) = if jc sh n k v = true then some (.inl (nI (k + 1), nr')) else some (.inl (nI (k + 1), near)) := by
    unfold bX6_joinAs_12 jX6_joinAs_29 jX6_joinAs_49 jX6_joinAs_50 jX6_joinAs_66 jX6_joinAs_76 jX6_joinAs_91 jX6_joinAs_97
    dsimp only
    rw [if_neg (show ¬ nI v ≤ nI k from nI_ge hk (by omega)), j1]
    simp only [e_next (show v < 8 by omega) hk, e_zero (show k < 8 by omega), e_last (show 0 < n by omega) (show n < 8 by omega) (show v < 8 by omega), Option.bind_some, nI_1]
    rcases (show sh = 0 ∨ sh = 1 ∨ sh = 2 ∨ sh = 3 by omega) with rfl | rfl | rfl | rfl
    · simp only [show (nI (0 + 1) = (4 : Int32)) = False from eq_false (by decide), show (nI (0 + 1) = (3 : Int32)) = False from eq_false (by decide), show (nI (0 + 1) = (2 : Int32)) = False from eq_false (by decide), show (nI (0 + 1) = (1 : Int32)) = True from eq_true (by decide), if_true, if_false, jc]
      by_cases a1 : v = k + 1 <;> by_cases a2 : k = 0 <;> by_cases a3 : v = n - 1 <;> simp [a1, a2, a3]
    · simp only [show (nI (1 + 1) = (4 : Int32)) = False from eq_false (by decide), show (nI (1 + 1) = (3 : Int32)) = False from eq_false (by decide), show (nI (1 + 1) = (2 : Int32)) = True from eq_true (by decide), show (nI (1 + 1) = (1 : Int32)) = False from eq_false (by decide), if_true, if_false, jc]
      by_cases a1 : v = k + 1 <;> by_cases a2 : k = 0 <;> by_cases a3 : v = n - 1 <;> simp [a1, a2, a3]
    · simp only [show (nI (2 + 1) = (4 : Int32)) = False from eq_false (by decide), show (nI (2 + 1) = (3 : Int32)) = True from eq_true (by decide), show (nI (2 + 1) = (2 : Int32)) = False from eq_false (by decide), show (nI (2 + 1) = (1 : Int32)) = False from eq_false (by decide), if_true, if_false, jc]
      by_cases a1 : v = k + 1 <;> by_cases a2 : k = 0 <;> by_cases a3 : v = n - 1 <;> simp [a1, a2, a3]
    · simp only [show (nI (3 + 1) = (4 : Int32)) = True from eq_true (by decide), if_true, if_false, jc]
      by_cases a1 : v = k + 1 <;> by_cases a2 : k = 0 <;> by_cases a3 : v = n - 1 <;> simp [a1, a2, a3]
  rw [key]
  by_cases q : jc sh n k v = true
  · rw [if_pos q, if_pos q]; exact ⟨_, rfl, j2⟩
  · rw [if_neg q, if_neg q]; exact ⟨_, rfl, ht⟩
