/-! lost: the weights of sets of guards, the loops, the divisor. -/
def tm (k g s : Nat) : Nat → Nat
  | 0 => 1
  | v + 1 => tm k g s v * (if g.testBit v then (if s.testBit v then 10 - k else k) else 1)
def isSub (s g : Nat) : Prop := ∀ j, s.testBit j = true → g.testBit j = true
theorem t127 {j : Nat} : (127 : Nat).testBit j = decide (j < 7) := Nat.testBit_two_pow_sub_one 7 j
theorem b7 {a j : Nat} (ha : a < 128) (h : a.testBit j = true) : j < 7 := bit_lt (n := 7) h ha
theorem sub_iff {s g : Nat} (hs : s < 128) : s &&& cm g = 0 ↔ isSub s g := by
  unfold cm
  constructor
  · intro h j hj
    have e := congrArg (fun x => x.testBit j) h
    rw [Nat.testBit_and, Nat.testBit_xor, t127, hj, decide_eq_true (b7 hs hj), Nat.zero_testBit] at e
    cases h2 : g.testBit j
    · rw [h2] at e; cases e
    · rfl
  · intro h
    refine Nat.eq_of_testBit_eq (fun j => ?_)
    rw [Nat.testBit_and, Nat.testBit_xor, t127, Nat.zero_testBit]
    cases h2 : s.testBit j
    · rfl
    · rw [h j h2, decide_eq_true (b7 hs h2)]; rfl
theorem xor_sub {s g : Nat} (hg : g < 128) : (s ^^^ g) &&& cm g = s &&& cm g := by
  unfold cm
  refine Nat.eq_of_testBit_eq (fun j => ?_)
  rw [Nat.testBit_and, Nat.testBit_and, Nat.testBit_xor, Nat.testBit_xor, t127]
  cases h2 : g.testBit j
  · cases s.testBit j <;> rfl
  · rw [decide_eq_true (b7 hg h2)]
    cases s.testBit j <;> rfl
theorem sub_rest {s g : Nat} (hg : g < 128) (h : isSub s g) : g &&& cm (s ^^^ g) = s := by
  unfold cm
  refine Nat.eq_of_testBit_eq (fun j => ?_)
  rw [Nat.testBit_and, Nat.testBit_xor, Nat.testBit_xor, t127]
  cases h2 : g.testBit j
  · cases h3 : s.testBit j
    · rfl
    · rw [h j h3] at h2; cases h2
  · rw [decide_eq_true (b7 hg h2)]
    cases s.testBit j <;> rfl
theorem pc_sub {s g : Nat} (h : isSub s g) : ∀ v, pc v g = pc v s + pc v (s ^^^ g) := by
  intro v
  induction v with
  | zero => rfl
  | succ v ih =>
    show pc v g + _ = (pc v s + _) + (pc v (s ^^^ g) + _)
    rw [ih, Nat.testBit_xor]
    cases h2 : g.testBit v
    · cases h3 : s.testBit v
      · simp
      · rw [h v h3] at h2; cases h2
    · cases h3 : s.testBit v
      · simp; omega
      · simp; omega
theorem tm_pow {k s g : Nat} (h : isSub s g) : ∀ v, tm k g s v = k ^ pc v (s ^^^ g) * (10 - k) ^ pc v s := by
  intro v
  induction v with
  | zero => rfl
  | succ v ih =>
    show tm k g s v * _ = k ^ (pc v (s ^^^ g) + _) * (10 - k) ^ (pc v s + _)
    rw [ih, Nat.testBit_xor]
    cases h2 : g.testBit v
    · cases h3 : s.testBit v
      · simp
      · rw [h v h3] at h2; cases h2
    · cases h3 : s.testBit v
      · simp [Nat.pow_succ, Nat.mul_assoc, Nat.mul_comm, Nat.mul_left_comm]
      · simp [Nat.pow_succ, Nat.mul_assoc]
theorem tm_more {k s g n : Nat} (hg : g < 2 ^ n) : ∀ v, n ≤ v → tm k g s v = tm k g s n := by
  intro v
  induction v with
  | zero => intro h; rw [show n = 0 by omega]
  | succ v ih =>
    intro h
    rcases Nat.eq_or_lt_of_le h with e | q
    · rw [e]
    · show tm k g s v * _ = _
      rw [ih (by omega)]
      have : g.testBit v = false := by
        cases h2 : g.testBit v
        · rfl
        · have := bit_lt h2 hg; omega
      rw [this]
      simp
theorem tm_ext {k g s s' : Nat} : ∀ v, (∀ j, j < v → s.testBit j = s'.testBit j) → tm k g s v = tm k g s' v := by
  intro v
  induction v with
  | zero => intro _; rfl
  | succ v ih =>
    intro h
    show tm k g s v * _ = tm k g s' v * _
    rw [ih (fun j hj => h j (by omega)), h v (by omega)]
theorem add_bit {m s j : Nat} (hs : s < 2 ^ m) : (2 ^ m + s).testBit j = (decide (j = m) || s.testBit j) := by
  cases h : (2 ^ m + s).testBit j
  · cases h2 : (decide (j = m) || s.testBit j)
    · rfl
    · rw [Bool.or_eq_true, decide_eq_true_eq] at h2
      rw [(two_add_bit hs).mpr h2] at h; cases h
  · have := (two_add_bit hs).mp h
    rcases this with e | e
    · rw [decide_eq_true e]; rfl
    · rw [e, Bool.or_true]
/-- all sets of guards together -/
theorem tm_all {k g : Nat} (hk : k ≤ 10) : ∀ m, m ≤ 7 → sumN (fun s => if s &&& cm g = 0 then tm k g s m else 0) (2 ^ m) = 10 ^ pc m g := by
  intro m
  induction m with
  | zero =>
    intro _
    show 0 + (if 0 &&& cm g = 0 then 1 else 0) = 1
    rw [Nat.zero_and, if_pos rfl]
  | succ m ih =>
    intro hm
    have hp : 2 ^ m ≤ 64 := Nat.pow_le_pow_right (n := 2) (by decide) (show m ≤ 6 by omega)
    rw [Nat.pow_succ, Nat.mul_two, sumN_add]
    have hlow : ∀ s, s < 2 ^ m → s.testBit m = false := fun s hs => Nat.testBit_lt_two_pow hs
    cases hg : g.testBit m
    · have e2 : sumN (fun i => if (2 ^ m + i) &&& cm g = 0 then tm k g (2 ^ m + i) (m + 1) else 0) (2 ^ m) = 0 := by
        refine sumN_zero (fun i hi => ?_)
        rw [if_neg]
        intro z
        have := (sub_iff (by omega)).mp z m (by rw [add_bit hi, decide_eq_true rfl]; rfl)
        rw [hg] at this; cases this
      rw [e2, Nat.add_zero]
      have e3 : pc (m + 1) g = pc m g := by
        show pc m g + _ = _
        rw [hg]
        rfl
      rw [e3, ← ih (by omega)]
      refine sumN_eq (fun i hi => ?_)
      show (if i &&& cm g = 0 then tm k g i m * _ else 0) = _
      rw [hg]
      simp
    · have e1 : sumN (fun s => if s &&& cm g = 0 then tm k g s (m + 1) else 0) (2 ^ m) = 10 ^ pc m g * k := by
        rw [← ih (by omega), ← sumN_mul]
        refine sumN_eq (fun i hi => ?_)
        show (if i &&& cm g = 0 then tm k g i m * _ else 0) = (if i &&& cm g = 0 then tm k g i m else 0) * k
        rw [hg, hlow i hi]
        by_cases q : i &&& cm g = 0
        · rw [if_pos q, if_pos q]; rfl
        · rw [if_neg q, if_neg q, Nat.zero_mul]
      have e2 : sumN (fun i => if (2 ^ m + i) &&& cm g = 0 then tm k g (2 ^ m + i) (m + 1) else 0) (2 ^ m) = 10 ^ pc m g * (10 - k) := by
        rw [← ih (by omega), ← sumN_mul]
        refine sumN_eq (fun i hi => ?_)
        show (if (2 ^ m + i) &&& cm g = 0 then tm k g (2 ^ m + i) m * (if g.testBit m then (if (2 ^ m + i).testBit m then 10 - k else k) else 1) else 0) = (if i &&& cm g = 0 then tm k g i m else 0) * (10 - k)
        rw [hg, add_bit hi, decide_eq_true rfl, tm_ext (s := 2 ^ m + i) (s' := i) m (fun j hj => by rw [add_bit hi, decide_eq_false (by omega)]; rfl)]
        have iff : (2 ^ m + i) &&& cm g = 0 ↔ i &&& cm g = 0 := by
          rw [sub_iff (by omega), sub_iff (by omega)]
          constructor
          · exact fun h j hj => h j (by rw [add_bit hi, hj, Bool.or_true])
          · intro h j hj
            rw [add_bit hi, Bool.or_eq_true, decide_eq_true_eq] at hj
            rcases hj with rfl | e
            · exact hg
            · exact h j e
        by_cases q : i &&& cm g = 0
        · rw [if_pos q, if_pos (iff.mpr q)]; rfl
        · rw [if_neg q, if_neg (fun z => q (iff.mp z)), Nat.zero_mul]
      have e3 : pc (m + 1) g = pc m g + 1 := by
        show pc m g + _ = _
        rw [hg]
        rfl
      rw [e1, e2, e3, Nat.pow_succ, ← Nat.mul_add]
      congr 1
      omega
def aM (n : Nat) (nr : Nat → Nat) (k g c i : Nat) : Nat := if i &&& cm g = 0 then (if fouled n nr i c = c then tm k g i n else 0) else 0
def bM (n k g i : Nat) : Nat := if i &&& cm g = 0 then tm k g i n else 0
def aC (n : Nat) (nr : Nat → Nat) (k g c i : Nat) : Nat := if i &&& cm g = 0 then (if fouled n nr (g &&& cm i) c = c then k ^ pc 7 i * (10 - k) ^ (pc 7 g - pc 7 i) else 0) else 0
theorem a_same {n : Nat} {nr : Nat → Nat} {k g c i : Nat} (hn : n ≤ 7) (hg : g < 2 ^ n) (hi : i < 128) : aC n nr k g c (i ^^^ g) = aM n nr k g c i := by
  have hg7 : g < 128 := Nat.lt_of_lt_of_le hg (pow_le hn)
  unfold aC aM
  rw [xor_sub hg7]
  by_cases q : i &&& cm g = 0
  · have hs := (sub_iff hi).mp q
    rw [if_pos q, if_pos q, sub_rest hg7 hs, ← tm_more (k := k) (s := i) hg 7 hn, tm_pow hs, pc_sub hs 7, Nat.add_sub_cancel]
  · rw [if_neg q, if_neg q]
theorem out_0 {n g i : Nat} (hn : n ≤ 7) (hg : g < 2 ^ n) (h : 2 ^ n ≤ i) (hi : i < 128) : ¬ i &&& cm g = 0 := by
  intro z
  have hs := (sub_iff hi).mp z
  have : i < 2 ^ n := by
    refine Nat.lt_pow_two_of_testBit i (fun j hj => ?_)
    cases h2 : i.testBit j
    · rfl
    · have := bit_lt (hs j h2) hg; omega
  omega
theorem sum_same {n : Nat} {nr : Nat → Nat} {k g c : Nat} (hn : n ≤ 7) (hg : g < 2 ^ n) : sumN (aC n nr k g c) 128 = sumN (aM n nr k g c) (2 ^ n) := by
  have hp := pow_le hn
  have e : sumN (aC n nr k g c) 128 = sumN (aM n nr k g c) 128 := by
    rw [show (128 : Nat) = 2 ^ 7 from rfl, ← sumN_xor 7 g (aC n nr k g c) (Nat.lt_of_lt_of_le hg hp)]
    exact sumN_eq (fun i hi => a_same hn hg hi)
  rw [e, show 128 = 2 ^ n + (128 - 2 ^ n) by omega, sumN_add, sumN_zero (F := fun i => aM n nr k g c (2 ^ n + i)), Nat.add_zero]
  intro i hi
  unfold aM
  rw [if_neg (out_0 hn hg (by omega) (by omega))]
theorem sum_below {n k g : Nat} (hn : n ≤ 7) (hk : k ≤ 10) (hg : g < 2 ^ n) : sumN (bM n k g) (2 ^ n) = 10 ^ pc 7 g := by
  have h := tm_all (k := k) (g := g) hk n hn
  have e : ∀ v, n ≤ v → pc v g = pc n g := by
    intro v
    induction v with
    | zero => intro h; rw [show n = 0 by omega]
    | succ v ih =>
      intro h
      rcases Nat.eq_or_lt_of_le h with e | q
      · rw [e]
      · have h2 : g.testBit v = false := by
          cases h2 : g.testBit v
          · rfl
          · have := bit_lt h2 hg; omega
        show pc v g + _ = _
        rw [ih (by omega), h2]
        rfl
  rw [e 7 hn]
  exact h
theorem above_le {n : Nat} {nr : Nat → Nat} {k g c m : Nat} : sumN (aM n nr k g c) m ≤ sumN (bM n k g) m := sumN_le (fun i _ => by
  unfold aM bM
  split
  · split
    · exact Nat.le_refl _
    · exact Nat.zero_le _
  · exact Nat.le_refl _)
