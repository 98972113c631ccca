/-! lost: the odds. -/
def sumN (F : Nat → Nat) : Nat → Nat
  | 0 => 0
  | n + 1 => sumN F n + F n
theorem sumN_add (F : Nat → Nat) (a : Nat) : ∀ b, sumN F (a + b) = sumN F a + sumN (fun i => F (a + i)) b := by
  intro b
  induction b with
  | zero => rfl
  | succ b ih =>
    show sumN F (a + b) + F (a + b) = sumN F a + (sumN (fun i => F (a + i)) b + F (a + b))
    rw [ih, Nat.add_assoc]
theorem sumN_eq {F G : Nat → Nat} : ∀ {n : Nat}, (∀ i, i < n → F i = G i) → sumN F n = sumN G n := by
  intro n
  induction n with
  | zero => intro _; rfl
  | succ n ih =>
    intro h
    show sumN F n + F n = sumN G n + G n
    rw [ih (fun i hi => h i (by omega)), h n (by omega)]
theorem sumN_le {F G : Nat → Nat} : ∀ {n : Nat}, (∀ i, i < n → F i ≤ G i) → sumN F n ≤ sumN G n := by
  intro n
  induction n with
  | zero => intro _; exact Nat.le_refl _
  | succ n ih =>
    intro h
    exact Nat.add_le_add (ih (fun i hi => h i (by omega))) (h n (by omega))
theorem sumN_mul {F : Nat → Nat} (c : Nat) : ∀ n, sumN (fun i => F i * c) n = sumN F n * c := by
  intro n
  induction n with
  | zero => exact (Nat.zero_mul c).symm
  | succ n ih =>
    show sumN (fun i => F i * c) n + F n * c = (sumN F n + F n) * c
    rw [ih, Nat.add_mul]
theorem sumN_zero {F : Nat → Nat} : ∀ {n : Nat}, (∀ i, i < n → F i = 0) → sumN F n = 0 := by
  intro n
  induction n with
  | zero => intro _; rfl
  | succ n ih =>
    intro h
    show sumN F n + F n = 0
    rw [ih (fun i hi => h i (by omega)), h n (by omega)]
theorem two_xor {m a b : Nat} (ha : a < 2 ^ m) (hb : b < 2 ^ m) : (2 ^ m + a) ^^^ b = 2 ^ m + (a ^^^ b) := by
  rw [← Nat.mul_one (2 ^ m), Nat.two_pow_add_eq_or_of_lt ha, Nat.two_pow_add_eq_or_of_lt (Nat.xor_lt_two_pow ha hb), Nat.mul_one]
  refine Nat.eq_of_testBit_eq (fun j => ?_)
  rw [Nat.testBit_xor, Nat.testBit_or, Nat.testBit_or, Nat.testBit_xor, Nat.testBit_two_pow]
  by_cases e : m = j
  · subst e
    rw [Nat.testBit_lt_two_pow ha, Nat.testBit_lt_two_pow hb]
    simp
  · simp [e]
theorem two_xor2 {m a b : Nat} (ha : a < 2 ^ m) (hb : b < 2 ^ m) : a ^^^ b = (2 ^ m + a) ^^^ (2 ^ m + b) := by
  have e1 : 2 ^ m + a = 2 ^ m ^^^ a := by have := two_xor (m := m) (a := 0) (b := a) (Nat.two_pow_pos m) ha; rw [Nat.add_zero, Nat.zero_xor] at this; exact this.symm
  have e2 : 2 ^ m + b = 2 ^ m ^^^ b := by have := two_xor (m := m) (a := 0) (b := b) (Nat.two_pow_pos m) hb; rw [Nat.add_zero, Nat.zero_xor] at this; exact this.symm
  rw [e1, e2]
  refine Nat.eq_of_testBit_eq (fun j => ?_)
  rw [Nat.testBit_xor, Nat.testBit_xor, Nat.testBit_xor, Nat.testBit_xor]
  cases (2 ^ m).testBit j <;> cases a.testBit j <;> cases b.testBit j <;> rfl
theorem sumN_xor : ∀ (m g : Nat) (F : Nat → Nat), g < 2 ^ m → sumN (fun f => F (f ^^^ g)) (2 ^ m) = sumN F (2 ^ m) := by
  intro m
  induction m with
  | zero =>
    intro g F hg
    have : g = 0 := by omega
    subst this
    exact sumN_eq (fun i _ => by rw [Nat.xor_zero])
  | succ m ih =>
    intro g F hg
    rw [Nat.pow_succ, Nat.mul_two, sumN_add, sumN_add]
    rcases Nat.lt_or_ge g (2 ^ m) with q | q
    · rw [ih g F q, ← ih g (fun i => F (2 ^ m + i)) q]
      congr 1
      exact sumN_eq (fun i hi => by rw [two_xor hi q])
    · obtain ⟨g', hg', rfl⟩ : ∃ g', g' < 2 ^ m ∧ g = 2 ^ m + g' := ⟨g - 2 ^ m, by rw [Nat.pow_succ] at hg; omega, by omega⟩
      rw [Nat.add_comm]
      congr 1
      · rw [← ih g' F hg']
        refine sumN_eq (fun i hi => ?_)
        show F ((2 ^ m + i) ^^^ (2 ^ m + g')) = F (i ^^^ g')
        rw [Nat.xor_comm (2 ^ m + i), ← two_xor2 hg' hi, Nat.xor_comm g']
      · rw [← ih g' (fun i => F (2 ^ m + i)) hg']
        refine sumN_eq (fun i hi => ?_)
        show F (i ^^^ (2 ^ m + g')) = F (2 ^ m + (i ^^^ g'))
        rw [Nat.xor_comm, two_xor hg' hi, Nat.xor_comm g']
