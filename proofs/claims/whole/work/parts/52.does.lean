/-! One act from a state on: the class's doEach, the reference's goesOn. -/
def foldN {S : Type} (f : Nat → S → S) : Nat → S → S
  | 0, s => s
  | i + 1, s => f i (foldN f i s)
/-- an act that is allowed, from the state (c, g) at place k on -/
def doA (n : Nat) (nr : Nat → Nat) (sd : Bool) (k c g a : Nat) (L : List En) : List En :=
  if sd = false ∨ c &&& cm (fouled n nr (gAft a g) (c ||| gAft a g)) = 0 then addE L (fouled n nr (gAft a g) (c ||| gAft a g), gAft a g, k, a) else L
def stOK (n : Nat) (L : List En) : Prop := okL L ∧ ∀ e ∈ L, e.1 < 2 ^ n
theorem sub_lt {g c m : Nat} (h : g &&& c = g) (hc : c < m) : g < m := by
  rw [← h]; exact Nat.lt_of_le_of_lt Nat.and_le_right hc
theorem gAft_lt {n a g : Nat} (hn : n ≤ 7) (ha : isA n a) (hg : g < 2 ^ n) : gAft a g < 2 ^ n := by
  unfold gAft
  rcases ha with q | ⟨v, q, rfl⟩ | ⟨u, w, q, q2, q3, rfl⟩
  · rw [if_pos (show a < 10 by omega)]
    exact Nat.or_lt_two_pow hg (Nat.pow_lt_pow_right (by decide) q)
  · rw [if_neg (show ¬ 10 + v < 10 by omega), if_pos (show 10 + v < 100 by omega)]
    exact Nat.lt_of_le_of_lt Nat.and_le_left hg
  · rw [if_neg (show ¬ 100 + 10 * u + w < 10 by omega), if_neg (show ¬ 100 + 10 * u + w < 100 by omega), show (100 + 10 * u + w) % 10 = w by omega]
    exact Nat.or_lt_two_pow (Nat.lt_of_le_of_lt Nat.and_le_left hg) (Nat.pow_lt_pow_right (by decide) q2)
theorem foul_keeps {B : Nat → Nat} {all g : Nat} (hg : g < 128) : ∀ k x, g &&& x = g → g &&& foul B all g k x = g := by
  intro k
  induction k with
  | zero => intro x h; exact h
  | succ k ih =>
    intro x h
    unfold foul
    split
    · exact h
    · refine ih _ (bits_ext (fun i => ?_))
      rw [Nat.testBit_and, Bool.and_eq_true, Nat.testBit_and, Bool.and_eq_true]
      refine ⟨fun q => q.1, fun q => ⟨q, ?_, ?_⟩⟩
      · rw [← h, Nat.testBit_and, Bool.and_eq_true] at q; exact q.2
      · have hi : i < 7 := bit_lt q (show g < 2 ^ 7 from hg)
        rw [cm_bit hi]
        unfold lostOf
        rw [Nat.testBit_and, cm_bit hi, q]; simp
theorem or_sub {c g : Nat} : g &&& (c ||| g) = g := bits_ext (fun i => by
  rw [Nat.testBit_and, Nat.testBit_or, Bool.and_eq_true, Bool.or_eq_true]
  exact ⟨fun q => q.1, fun q => ⟨q, Or.inr q⟩⟩)
theorem new_ok {n : Nat} {nr : Nat → Nat} {k c g a : Nat} (hn : n ≤ 7) (ha : isA n a) (hc : c < 2 ^ n) (hg : g < 2 ^ n) : okE (fouled n nr (gAft a g) (c ||| gAft a g), gAft a g, k, a) ∧ fouled n nr (gAft a g) (c ||| gAft a g) < 2 ^ n := by
  have h1 := gAft_lt hn ha hg
  have hp := pow_le hn
  have h2 : fouled n nr (gAft a g) (c ||| gAft a g) < 2 ^ n := fouled_lt (Nat.or_lt_two_pow hc h1)
  have h3 := isA_lt hn ha
  exact ⟨⟨Nat.lt_of_lt_of_le h2 hp, Nat.lt_of_lt_of_le h1 hp, foul_keeps (g := gAft a g) (Nat.lt_of_lt_of_le h1 hp) 7 _ or_sub, Nat.lt_trans h3 (by decide)⟩, h2⟩
theorem mem_addE {L : List En} {e x : En} (h : x ∈ addE L e) : x ∈ L ∨ x = e := by
  unfold addE at h
  split at h
  · exact Or.inl h
  · rcases List.mem_append.mp h with q | q
    · exact Or.inl q
    · exact Or.inr (List.mem_singleton.mp q)
theorem pre_addE {L : List En} {e : En} : L <+: addE L e := by
  unfold addE
  split
  · exact List.prefix_refl L
  · exact List.prefix_append L _
theorem pre_doA {n : Nat} {nr : Nat → Nat} {sd : Bool} {k c g a : Nat} {L : List En} : L <+: doA n nr sd k c g a L := by
  unfold doA
  split
  · exact pre_addE
  · exact List.prefix_refl L
theorem ok_doA {n : Nat} {nr : Nat → Nat} {sd : Bool} {k c g a : Nat} {L : List En} (h : stOK n L) (hn : n ≤ 7) (ha : isA n a) (hc : c < 2 ^ n) (hg : g < 2 ^ n) (hk : k < L.length) : stOK n (doA n nr sd k c g a L) := by
  obtain ⟨h1, h2⟩ := new_ok (nr := nr) (k := k) hn ha hc hg
  unfold doA
  split
  · refine ⟨okL_add h.1 h1 hk, fun e he => ?_⟩
    rcases mem_addE he with q | q
    · exact h.2 e q
    · rw [q]; exact h2
  · exact h
theorem pre_at {L M : List En} (h : L <+: M) {k : Nat} {e : En} (hk : L[k]? = some e) : M[k]? = some e := by
  obtain ⟨t, rfl⟩ := h
  rw [List.getElem?_append_left (List.getElem?_eq_some_iff.mp hk).1]; exact hk
theorem pre_len {L M : List En} (h : L <+: M) : L.length ≤ M.length := h.length_le
/-- the reference's step -/
theorem m_goesOn {st : Nat → Int32} {n kind team rn k a : Nat} {nr : Nat → Nat} {sd : Bool} {L : List En} {many : Int32} {by' code far from' met : Nat → Int32} (hs : stNet st n nr) (hf : netFit n nr) (hki : kind < 3) (ht : team < 8) (h : MR rn L many by' code far from' met) (hL : stOK n L) {e : En} (hk : L[k]? = some e) (ha : isA n a) :
    ∃ many' by'' code' far' from'' met', fX8_goesOn many (nI rn) by' code far from' met st (nI k) (nI kind) (nI team) (if sd then 1 else 0) (nI a) = some (many', by'', code', far', from'', met') ∧ MR rn (if rul nr kind team e.2.1 a = 0 then doA n nr sd k e.1 e.2.1 a L else L) many' by'' code' far' from'' met' := by
  have hn := hf.1.2
  have hp := pow_le hn
  have hkl : k < L.length := (List.getElem?_eq_some_iff.mp hk).1
  have hlen := okL_len hL.1
  have hem : e ∈ L := List.mem_of_getElem? hk
  have oe := hL.1.1 e hem
  have hc := hL.2 e hem
  have hg : e.2.1 < 2 ^ n := sub_lt oe.2.2.1 hc
  have hcode := (h.2.1 k e hk).1
  unfold fX8_goesOn bnd
  rw [rd_nI (by omega) (by decide), Option.bind_some]
  dsimp only
  rw [Option.bind_some, hcode, show (128 : Int32) = nI 128 from rfl, pk_rem (a := e.1 + 128 * e.2.1) (d := 128) (by have := oe.1; have := oe.2.1; omega) (by decide) (by decide), pk_div (a := e.1 + 128 * e.2.1) (d := 128) (by have := oe.1; have := oe.2.1; omega) (by decide) (by decide)]
  have e1 : (e.1 + 128 * e.2.1) % 128 = e.1 := by have := oe.1; omega
  have e2 : (e.1 + 128 * e.2.1) / 128 = e.2.1 := by have := oe.1; omega
  rw [e1, e2, m_rul hs hf ha oe.2.1 hki ht, Option.bind_some]
  by_cases hr : rul nr kind team e.2.1 a = 0
  · rw [if_pos hr, if_pos hr]
    have hgl := gAft_lt hn ha hg
    have hcb : fX8_cleanBehind st (nI e.1) (nI e.2.1) (nI a) = some (nI (fouled n nr (gAft a e.2.1) (e.1 ||| gAft a e.2.1))) := by
      unfold fX8_cleanBehind
      rw [m_gAft hn ha oe.2.1, Option.bind_some, fa_or, m_fouled hs hn (or_lt oe.1 (by omega)), Option.bind_some]
      rfl
    obtain ⟨no, nl⟩ := new_ok (nr := nr) (k := k) hn ha hc hg
    rw [hcb, Option.bind_some]
    have go : ∃ many' by'' code' far' from'' met', jX8_goesOn_64 (nI rn) st (nI k) (nI a) (nI e.2.1) (nI (fouled n nr (gAft a e.2.1) (e.1 ||| gAft a e.2.1))) many by' code far from' met = some (many', by'', code', far', from'', met') ∧ MR rn (addE L (fouled n nr (gAft a e.2.1) (e.1 ||| gAft a e.2.1), gAft a e.2.1, k, a)) many' by'' code' far' from'' met' := by
      obtain ⟨m1, b1, c1, f1, r1, t1, q1, q2⟩ := m_meets (p := k) (a := a) h hL.1 no.1 no.2.1 hkl no
      refine ⟨m1, b1, c1, f1, r1, t1, ?_, q2⟩
      unfold jX8_goesOn_64
      rw [m_gAft hn ha oe.2.1, Option.bind_some, show (128 : Int32) = nI 128 from rfl, pk_mul, nI_add, q1, Option.bind_some]
    unfold doA
    cases sd with
    | false =>
      rw [if_pos (show (if false = true then (1 : Int32) else 0) = 0 from rfl), if_pos (Or.inl rfl)]
      exact go
    | true =>
      rw [if_neg (show ¬ (if true = true then (1 : Int32) else 0) = 0 from by decide), and_cm oe.1]
      by_cases z : e.1 &&& cm (fouled n nr (gAft a e.2.1) (e.1 ||| gAft a e.2.1)) = 0
      · rw [if_pos (by rw [z]; rfl), if_pos (Or.inr z)]
        exact go
      · rw [if_neg (nI_ne0 (by omega) (Nat.lt_trans (and_lt oe.1) (by decide))), if_neg (fun y => y.elim (fun q => by cases q) z)]
        exact ⟨many, by', code, far, from', met, rfl, h⟩
  · rw [if_neg hr, if_neg hr]
    exact ⟨many, by', code, far, from', met, rfl, h⟩
