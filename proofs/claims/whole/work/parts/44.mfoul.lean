/-! The reference's fouling; parts. -/
/-- the reference's row of a standing -/
def stNet (st : Nat → Int32) (n : Nat) (nr : Nat → Nat) : Prop := st 0 = nI n ∧ ∀ v, v < 7 → st (1 + v) = nI (nr v)
theorem m_links {st : Nat → Int32} {n : Nat} {nr : Nat → Nat} {s : Nat} (h : stNet st n nr) (hn : n ≤ 7) (hs : s < 128) : fX8_linksOf st (nI s) = some (nI (lnk n nr s)) := by
  have key : itL (bX8_linksOf_4 st (nI s)) fu ((0 : Int32), (0 : Int32)) = some (nI (lnk n nr s), nI n) := by
    refine itL_for (fun i => (nI (lnk i nr s), nI i)) n _ ?_ ?_ (by unfold fu; omega) rfl
    · intro i hi
      have h1 : ¬ nI n ≤ nI i := nI_ge hi (by omega)
      unfold bX8_linksOf_4
      dsimp only
      rw [l0, rd_nI (by decide) (by decide), Option.bind_some, h.1, if_neg h1, m_has hs (by omega), Option.bind_some]
      unfold jX8_linksOf_35
      conv => rhs; unfold lnk
      by_cases e : s.testBit i = true
      · rw [if_pos e, if_pos e, if_neg (by decide), l1, nI_add, rd_nI (by omega) (by decide), Option.bind_some, h.2 i (by omega), fa_or, nI_add]
      · rw [if_neg e, if_neg e, if_pos (show (0 : Int32) = nI 0 from rfl), nI_1, fa_or]
    · unfold bX8_linksOf_4
      dsimp only
      rw [l0, rd_nI (by decide) (by decide), Option.bind_some, h.1, if_pos (nI_le (Nat.le_refl _) (by omega))]
  unfold fX8_linksOf
  rw [key]; rfl
theorem m_all {st : Nat → Int32} {n : Nat} {nr : Nat → Nat} (h : stNet st n nr) (hn : n ≤ 7) : fX8_all st = some (nI (2 ^ n - 1)) := by
  unfold fX8_all
  rw [l0, rd_nI (by decide) (by decide), Option.bind_some, h.1, shl1 n (by omega), l1, pk_sub Nat.one_le_two_pow]
theorem all_lt {n : Nat} (hn : n ≤ 7) : 2 ^ n - 1 < 128 := by
  have : 2 ^ n ≤ 2 ^ 7 := Nat.pow_le_pow_right (by decide) hn
  omega
theorem m_fouled {st : Nat → Int32} {n : Nat} {nr : Nat → Nat} {x g : Nat} (h : stNet st n nr) (hn : n ≤ 7) (hx : x < 128) : fX8_fouled st (nI x) (nI g) = some (nI (foul (lnk n nr) (2 ^ n - 1) g 7 x)) := by
  have ha := all_lt hn
  have loop : ∀ (k left : Nat), left < 128 → pc 7 left ≤ k → ∀ m, k < m → ∃ j, itL (bX8_fouled_22 st (nI g)) m (nI left, nI (lostOf (lnk n nr) (2 ^ n - 1) g left)) = some (nI (foul (lnk n nr) (2 ^ n - 1) g k left), j) := by
    intro k
    induction k with
    | zero =>
      intro left hl hp m hm
      obtain ⟨m, rfl⟩ : ∃ m', m = m' + 1 := ⟨m - 1, by omega⟩
      have e : lostOf (lnk n nr) (2 ^ n - 1) g left = 0 := foul_fix (B := lnk n nr) (all := 2 ^ n - 1) (g := g) 0 left hl hp
      refine ⟨nI 0, ?_⟩
      rw [itL, e]
      unfold bX8_fouled_22
      dsimp only
      rw [if_pos (show nI 0 = 0 from rfl)]; rfl
    | succ k ih =>
      intro left hl hp m hm
      obtain ⟨m, rfl⟩ : ∃ m', m = m' + 1 := ⟨m - 1, by omega⟩
      have hL : lostOf (lnk n nr) (2 ^ n - 1) g left < 128 := lostOf_lt hl
      by_cases e : lostOf (lnk n nr) (2 ^ n - 1) g left = 0
      · refine ⟨nI 0, ?_⟩
        rw [itL, e]
        unfold bX8_fouled_22
        dsimp only
        rw [if_pos (show nI 0 = 0 from rfl)]
        dsimp only
        rw [foul_done e]
      · have hd := pc_drop left hl _ hL e lostOf_in
        obtain ⟨j, hj⟩ := ih (left &&& cm (lostOf (lnk n nr) (2 ^ n - 1) g left)) (and_lt hl) (by omega) m (by omega)
        refine ⟨j, ?_⟩
        have hb : bX8_fouled_22 st (nI g) (nI left, nI (lostOf (lnk n nr) (2 ^ n - 1) g left)) = some (.inl (nI (left &&& cm (lostOf (lnk n nr) (2 ^ n - 1) g left)), nI (lostOf (lnk n nr) (2 ^ n - 1) g (left &&& cm (lostOf (lnk n nr) (2 ^ n - 1) g left))))) := by
          have hl2 : left &&& cm (lostOf (lnk n nr) (2 ^ n - 1) g left) < 128 := and_lt hl
          unfold bX8_fouled_22
          dsimp only
          rw [if_neg (nI_ne0 (by omega) (by omega)), and_cm hl]
          unfold bnd
          dsimp only
          rw [m_all h hn, Option.bind_some, and_cm ha, m_links h hn (and_lt ha), Option.bind_some, nx_and, and_cm (and_lt' hl2)]
          rfl
        rw [itL, hb]
        dsimp only
        rw [hj]
        conv => rhs; unfold foul
        rw [if_neg e]
  obtain ⟨j, hj⟩ := loop 7 x hx (pc_le x 7) fu (by decide)
  unfold fX8_fouled
  rw [m_all h hn, Option.bind_some, and_cm ha, m_links h hn (and_lt ha), Option.bind_some, nx_and, and_cm (and_lt' hx)]
  unfold bnd
  dsimp only
  rw [show ((lnk n nr (2 ^ n - 1 &&& cm x) &&& x) &&& cm g) = lostOf (lnk n nr) (2 ^ n - 1) g x from rfl, hj]; rfl
theorem and_all {x n : Nat} (h : x < 2 ^ n) : x &&& (2 ^ n - 1) = x := by
  rw [Nat.and_two_pow_sub_one_eq_mod, Nat.mod_eq_of_lt h]
theorem all_and_lt {x n : Nat} : (2 ^ n - 1) &&& x < 2 ^ n := Nat.lt_of_le_of_lt Nat.and_le_left (by have := Nat.one_le_two_pow (n := n); omega)
theorem foul_congr {B B' : Nat → Nat} {all g : Nat} (h : ∀ t, B (all &&& t) = B' (all &&& t)) : ∀ k left, foul B all g k left = foul B' all g k left := by
  have e : ∀ left, lostOf B all g left = lostOf B' all g left := fun left => by unfold lostOf; rw [h]
  intro k
  induction k with
  | zero => intro left; rfl
  | succ k ih =>
    intro left
    unfold foul
    rw [e, ih]
/-- what fouling leaves clean -/
def fouled (n : Nat) (nr : Nat → Nat) (g x : Nat) : Nat := foul (lnk n nr) (2 ^ n - 1) g 7 x
theorem pow_le {n : Nat} (hn : n ≤ 7) : 2 ^ n ≤ 128 := Nat.pow_le_pow_right (n := 2) (by decide) hn
theorem c_fouled {n : Nat} {nr : Nat → Nat} {be ne : Nat → Int32} {nd al : Int32} {x g : Nat} (h : netOk n nr nd al be ne) (hn : n ≤ 7) (hnr : ∀ v, nr v < 128) (hg : g < 128) (hx : x < 2 ^ n) : fX0_settled al be (nI x) (nI g) = some (nI (fouled n nr g x)) := by
  have hx' : x < 128 := Nat.lt_of_lt_of_le hx (pow_le hn)
  rw [h.2.1, c_settled h.2.2.1 (lnk_lt hnr · 7) (all_lt hn) hg hx', and_all hx]
  unfold fouled
  rw [foul_congr (fun t => lnk_more all_and_lt hn)]
theorem foul_sub {B : Nat → Nat} {all g : Nat} : ∀ k left, foul B all g k left &&& left = foul B all g k left := by
  intro k
  induction k with
  | zero => intro left; exact Nat.and_self left
  | succ k ih =>
    intro left
    unfold foul
    split
    · exact Nat.and_self left
    · refine bits_ext (fun i => ?_)
      rw [Nat.testBit_and, Bool.and_eq_true]
      refine ⟨fun q => q.1, fun q => ⟨q, ?_⟩⟩
      rw [← ih, Nat.testBit_and, Bool.and_eq_true, Nat.testBit_and, Bool.and_eq_true] at q
      exact q.2.1
theorem fouled_lt {n : Nat} {nr : Nat → Nat} {g x m : Nat} (hx : x < 2 ^ m) : fouled n nr g x < 2 ^ m := by
  unfold fouled
  rw [← foul_sub]
  exact Nat.lt_of_le_of_lt Nat.and_le_right hx
