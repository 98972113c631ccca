/-! What is met in a search: a row of states, each with where it came from and by which act. -/
abbrev En : Type := Nat × Nat × Nat × Nat
def hasB (L : List En) (c g : Nat) : Bool := L.any (fun e => decide (e.1 = c) && decide (e.2.1 = g))
theorem hasB_iff {L : List En} {c g : Nat} : hasB L c g = true ↔ ∃ e ∈ L, e.1 = c ∧ e.2.1 = g := by
  unfold hasB
  rw [List.any_eq_true]
  constructor
  · rintro ⟨e, h1, h2⟩
    simp only [Bool.and_eq_true, decide_eq_true_eq] at h2
    exact ⟨e, h1, h2⟩
  · rintro ⟨e, h1, h2⟩
    exact ⟨e, h1, by simp only [Bool.and_eq_true, decide_eq_true_eq]; exact h2⟩
def addE (L : List En) (e : En) : List En := if hasB L e.1 e.2.1 = true then L else L ++ [e]
/-- each number below N stands at most once: no more than N -/
theorem nodup_bound : ∀ (N : Nat) (l : List Nat), l.Nodup → (∀ x ∈ l, x < N) → l.length ≤ N := by
  intro N
  induction N with
  | zero =>
    intro l _ h
    cases l with
    | nil => exact Nat.le_refl 0
    | cons x l => exact absurd (h x List.mem_cons_self) (Nat.not_lt_zero x)
  | succ N ih =>
    intro l hn h
    by_cases hm : N ∈ l
    · have h1 : (l.erase N).length + 1 = l.length := by
        rw [List.length_erase_of_mem hm]
        have : 0 < l.length := List.length_pos_of_mem hm
        omega
      have h2 := ih (l.erase N) (hn.erase N) (fun x hx => by
        have hx' := (List.Nodup.mem_erase_iff hn).mp hx
        have := h x hx'.2
        have hne := hx'.1
        omega)
      omega
    · have := ih l hn (fun x hx => by
        have h1 := h x hx
        have h2 : x ≠ N := fun e => hm (e ▸ hx)
        omega)
      omega
/-- a state's number among 3^7: each node foul, clean or guarded -/
def c3 : Nat → Nat → Nat → Nat
  | 0, _, _ => 0
  | k + 1, c, g => 3 * c3 k (c / 2) (g / 2) + c % 2 + g % 2
theorem c3_lt : ∀ k c g, c3 k c g < 3 ^ k := by
  intro k
  induction k with
  | zero => intro c g; exact (by decide : 0 < 1)
  | succ k ih =>
    intro c g
    have := ih (c / 2) (g / 2)
    unfold c3
    rw [Nat.pow_succ]
    omega
theorem sub_half {g c : Nat} (h : g &&& c = g) : (g / 2) &&& (c / 2) = g / 2 ∧ g % 2 ≤ c % 2 := by
  constructor
  · refine bits_ext (fun i => ?_)
    rw [Nat.testBit_and, Bool.and_eq_true]
    refine ⟨fun q => q.1, fun q => ⟨q, ?_⟩⟩
    rw [Nat.testBit_div_two] at q ⊢
    rw [← h, Nat.testBit_and, Bool.and_eq_true] at q
    exact q.2
  · have h0 : g.testBit 0 = true → c.testBit 0 = true := fun q => by
      rw [← h, Nat.testBit_and, Bool.and_eq_true] at q
      exact q.2
    rw [Nat.testBit_zero, Nat.testBit_zero, decide_eq_true_eq, decide_eq_true_eq] at h0
    omega
theorem c3_inj : ∀ k c g c' g', c < 2 ^ k → g < 2 ^ k → c' < 2 ^ k → g' < 2 ^ k → g &&& c = g → g' &&& c' = g' → c3 k c g = c3 k c' g' → c = c' ∧ g = g' := by
  intro k
  induction k with
  | zero => intro c g c' g' h1 h2 h3 h4 _ _ _; simp at h1 h2 h3 h4; omega
  | succ k ih =>
    intro c g c' g' h1 h2 h3 h4 h5 h6 h7
    rw [Nat.pow_succ] at h1 h2 h3 h4
    obtain ⟨a1, a2⟩ := sub_half h5
    obtain ⟨b1, b2⟩ := sub_half h6
    unfold c3 at h7
    have e : c3 k (c / 2) (g / 2) = c3 k (c' / 2) (g' / 2) := by omega
    obtain ⟨q1, q2⟩ := ih _ _ _ _ (by omega) (by omega) (by omega) (by omega) a1 b1 e
    omega
/-- what holds of such a row -/
def okE (e : En) : Prop := e.1 < 128 ∧ e.2.1 < 128 ∧ e.2.1 &&& e.1 = e.2.1 ∧ e.2.2.2 < 256
def okL (L : List En) : Prop := (∀ e ∈ L, okE e) ∧ (L.map (fun e => (e.1, e.2.1))).Nodup ∧ ∀ (i : Nat) (e : En), L[i]? = some e → 0 < i → e.2.2.1 < i
theorem okL_len {L : List En} (h : okL L) : L.length ≤ 2187 := by
  have h1 : (L.map (fun e => c3 7 e.1 e.2.1)).length ≤ 2187 := by
    refine nodup_bound 2187 _ ?_ ?_
    · have hn := h.2.1
      unfold List.Nodup at hn ⊢
      rw [List.pairwise_map] at hn ⊢
      refine List.Pairwise.imp_of_mem ?_ hn
      intro a b ha hb hab e
      have oa := h.1 a ha
      have ob := h.1 b hb
      obtain ⟨q1, q2⟩ := c3_inj 7 _ _ _ _ oa.1 oa.2.1 ob.1 ob.2.1 oa.2.2.1 ob.2.2.1 e
      exact hab (by rw [q1, q2])
    · intro x hx
      obtain ⟨e, -, rfl⟩ := List.mem_map.mp hx
      exact c3_lt 7 _ _
  simpa using h1
theorem okL_add {L : List En} {e : En} (h : okL L) (he : okE e) (hp : e.2.2.1 < L.length) : okL (addE L e) := by
  unfold addE
  split
  · exact h
  · rename_i hh
    refine ⟨fun x hx => ?_, ?_, fun i x hx hi => ?_⟩
    · rcases List.mem_append.mp hx with q | q
      · exact h.1 x q
      · rw [List.mem_singleton.mp q]; exact he
    · rw [List.map_append, List.nodup_append]
      refine ⟨h.2.1, by simp, ?_⟩
      intro a ha b hb hab
      subst hab
      obtain ⟨x, hx, rfl⟩ := List.mem_map.mp ha
      simp only [List.map_cons, List.map_nil, List.mem_singleton, Prod.mk.injEq] at hb
      exact hh (hasB_iff.mpr ⟨x, hx, hb.1, hb.2⟩)
    · by_cases hl : i < L.length
      · rw [List.getElem?_append_left hl] at hx
        exact h.2.2 i x hx hi
      · rw [List.getElem?_append_right (by omega)] at hx
        have : i - L.length = 0 := by
          rcases Nat.eq_zero_or_pos (i - L.length) with q | q
          · exact q
          · rw [List.getElem?_eq_none (by simp only [List.length_singleton]; omega)] at hx; cases hx
        rw [this] at hx
        simp at hx
        subst hx
        omega
theorem okL_room {L : List En} {e : En} (h : okL L) (he : okE e) (hp : e.2.2.1 < L.length) (hn : hasB L e.1 e.2.1 = false) : L.length < 2187 := by
  have h1 := okL_len (okL_add h he hp)
  unfold addE at h1
  rw [if_neg (by rw [hn]; decide)] at h1
  simp at h1
  omega
