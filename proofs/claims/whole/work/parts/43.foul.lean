/-! Following a net; fouling. -/
theorem jX0_isOf_49_eq (a : Int32) (b : Nat → Int32) (c : Int32) (d : Nat → Int32) (y z : Int32) : jX0_isOf_49 a b c d y z = some (.inl (z, y + 1)) := rfl
/-- does the net hold just these links? -/
theorem isOf_loop {pnd nd : Int32} {pn near : Nat → Int32} : ∀ (k i : Nat), i + k = 7 → ∀ n, k + 1 < n → (∀ v, v < i → near v = pn v) → ∃ r j, itL (bX0_isOf_19 pnd pn nd near) n (1, nI i) = some (r, j) ∧ ((r = 1 ∧ ∀ v, v < 7 → near v = pn v) ∨ (r = 0 ∧ ¬ ∀ v, v < 7 → near v = pn v)) := by
  intro k
  induction k with
  | zero =>
    intro i hi n hn h
    have : i = 7 := by omega
    subst this
    obtain ⟨m, rfl⟩ : ∃ m, n = m + 1 := ⟨n - 1, by omega⟩
    refine ⟨1, nI 7, ?_, Or.inl ⟨rfl, h⟩⟩
    rw [itL]
    unfold bX0_isOf_19
    simp [show (7 : Int32) ≤ nI 7 from by decide]
  | succ k ih =>
    intro i hi n hn h
    obtain ⟨m, rfl⟩ : ∃ m, n = m + 1 := ⟨n - 1, by omega⟩
    have h1 : ¬ (7 : Int32) ≤ nI i := nI_ge (b := 7) (by omega) (by decide)
    have hb : bX0_isOf_19 pnd pn nd near (1, nI i) = some (.inl (if near i = pn i then 1 else 0, nI (i + 1))) := by
      unfold bX0_isOf_19
      dsimp only
      rw [if_neg h1, if_neg (by decide), rd_nI (by omega) (by decide), Option.bind_some, rd_nI (by omega) (by decide), Option.bind_some, jX0_isOf_49_eq, jX0_isOf_49_eq, nI_1]
      split <;> rfl
    rw [itL, hb]
    dsimp only
    by_cases e : near i = pn i
    · rw [if_pos e]
      exact ih (i + 1) (by omega) m (by omega) (fun v hv => by
        by_cases q : v = i
        · subst q; exact e
        · exact h v (by omega))
    · rw [if_neg e]
      obtain ⟨m', rfl⟩ : ∃ m', m = m' + 1 := ⟨m - 1, by omega⟩
      refine ⟨0, nI (i + 1), ?_, Or.inr ⟨rfl, fun g => e (g i (by omega))⟩⟩
      rw [itL]
      unfold bX0_isOf_19
      dsimp only
      by_cases g : (7 : Int32) ≤ nI (i + 1)
      · rw [if_pos g]
      · rw [if_neg g, if_pos rfl]
theorem c_isOf {pnd nd : Int32} {pn near : Nat → Int32} : (fX0_isOf pnd pn nd near = some 1 ∧ nd = pnd ∧ ∀ v, v < 7 → near v = pn v) ∨ (fX0_isOf pnd pn nd near = some 0 ∧ ¬ (nd = pnd ∧ ∀ v, v < 7 → near v = pn v)) := by
  have start0 : itL (bX0_isOf_19 pnd pn nd near) fu (0, (0 : Int32)) = some (0, 0) := by
    unfold fu
    rw [itL]
    unfold bX0_isOf_19
    dsimp only
    rw [if_neg (by decide), if_pos rfl]
  unfold fX0_isOf
  by_cases e : nd = pnd
  · rw [if_pos e]
    unfold jX0_isOf_16
    obtain ⟨r, j, h, g⟩ := isOf_loop (pnd := pnd) (nd := nd) (pn := pn) (near := near) 7 0 rfl fu (by decide) (fun v hv => by omega)
    rw [show nI 0 = (0 : Int32) from rfl] at h
    rw [h, Option.bind_some]
    rcases g with ⟨rfl, g⟩ | ⟨rfl, g⟩
    · exact Or.inl ⟨rfl, e, g⟩
    · exact Or.inr ⟨rfl, fun q => g q.2⟩
  · rw [if_neg e]
    unfold jX0_isOf_16
    rw [start0, Option.bind_some]
    exact Or.inr ⟨rfl, fun q => e q.1⟩
/-- what a net that follows holds -/
def netOk (n : Nat) (nr : Nat → Nat) (nd al : Int32) (be ne : Nat → Int32) : Prop := nd = nI n ∧ al = nI (2 ^ n - 1) ∧ (∀ s, s < 128 → be s = nI (lnk 7 nr s)) ∧ ∀ v, v < 7 → ne v = nI (nr v)
/-- it holds some net, or none yet -/
def netSome (nd al : Int32) (be ne : Nat → Int32) : Prop := be 0 = 0 ∧ ((nd = 0) ∨ ∃ n nr, (2 ≤ n ∧ n ≤ 7) ∧ (∀ v, nr v < 128) ∧ netOk n nr nd al be ne)
theorem nI_inj {a b : Nat} (ha : a < 2 ^ 31) (hb : b < 2 ^ 31) (h : nI a = nI b) : a = b := (nI_eq ha hb).mp h
theorem lnk_congr {nr nr' : Nat → Nat} {k : Nat} (h : ∀ v, v < k → nr v = nr' v) (s : Nat) : lnk k nr s = lnk k nr' s := bits_ext (fun i => by
  rw [lnk_bit, lnk_bit]
  exact ⟨fun ⟨v, h1, h2, h3⟩ => ⟨v, h1, h2, by rw [← h v h1]; exact h3⟩, fun ⟨v, h1, h2, h3⟩ => ⟨v, h1, h2, by rw [h v h1]; exact h3⟩⟩)
/-- currentNet: behind it the net is the one that stands; its edition is another one just if it had to learn -/
theorem c_follow {n : Nat} {nr : Nat → Nat} {pn ne be : Nat → Int32} {nd al ed : Int32} (hn : 2 ≤ n ∧ n ≤ 7) (hnr : ∀ v, nr v < 128) (hpn : ∀ v, v < 7 → pn v = nI (nr v)) (h : netSome nd al be ne) :
    ∃ (ed' : Int32) (be' ne' : Nat → Int32), fX0_follow (nI n) pn nd al ed be ne = some (nI n, nI (2 ^ n - 1), ed', be', ne') ∧ netOk n nr (nI n) (nI (2 ^ n - 1)) be' ne' ∧ ((ed' = ed ∧ nd = nI n ∧ al = nI (2 ^ n - 1) ∧ be' = be ∧ ne' = ne) ∨ (ed' = ed + 1 ∧ ¬ (nd = nI n ∧ ∀ v, v < 7 → ne v = nI (nr v)))) := by
  unfold fX0_follow
  rcases c_isOf (pnd := nI n) (nd := nd) (pn := pn) (near := ne) with ⟨e, g⟩ | ⟨e, g⟩
  · rw [e, Option.bind_some, if_neg (by decide)]
    obtain ⟨h0, hq⟩ := h
    rcases hq with hq | ⟨n', nr', hn', hnr', h1, h2, h3, h4⟩
    · exact absurd (g.1.symm.trans hq) (nI_ne0 (by omega) (by omega))
    · have e : n' = n := nI_inj (by omega) (by omega) (h1.symm.trans g.1)
      subst e
      have er : ∀ v, v < 7 → nr' v = nr v := fun v hv => nI_inj (Nat.lt_trans (hnr' v) (by decide)) (Nat.lt_trans (hnr v) (by decide)) (by rw [← h4 v hv, g.2 v hv, hpn v hv])
      refine ⟨ed, be, ne, ?_, ⟨rfl, rfl, fun s hs => by rw [h3 s hs, lnk_congr er], fun v hv => by rw [g.2 v hv, hpn v hv]⟩, Or.inl ⟨rfl, g.1, h2, rfl, rfl⟩⟩
      rw [g.1, h2]
  · rw [e, Option.bind_some, if_pos rfl]
    obtain ⟨be', ne', h1, h2, h3⟩ := c_learn (nd := nd) (al := al) (ed := ed) (near := ne) hn.2 hpn h.1
    rw [h1, Option.bind_some]
    exact ⟨ed + 1, be', ne', rfl, ⟨rfl, rfl, h2, h3⟩, Or.inr ⟨rfl, fun q => g ⟨q.1, fun v hv => by rw [q.2 v hv, hpn v hv]⟩⟩⟩
/-- what one turn of fouling takes, out of what is clean -/
def lostOf (B : Nat → Nat) (all g left : Nat) : Nat := (B (all &&& cm left) &&& left) &&& cm g
/-- fouling, so many turns -/
def foul (B : Nat → Nat) (all g : Nat) : Nat → Nat → Nat
  | 0, left => left
  | k + 1, left => if lostOf B all g left = 0 then left else foul B all g k (left &&& cm (lostOf B all g left))
theorem lostOf_lt {B : Nat → Nat} {all g left : Nat} (h : left < 128) : lostOf B all g left < 128 := and_lt (and_lt' h)
theorem foul_lt {B : Nat → Nat} {all g : Nat} : ∀ k left, left < 128 → foul B all g k left < 128 := by
  intro k
  induction k with
  | zero => intro left h; exact h
  | succ k ih =>
    intro left h
    unfold foul
    split
    · exact h
    · exact ih _ (and_lt h)
theorem c_settled {B : Nat → Nat} {be : Nat → Int32} {all x g : Nat} (hbe : ∀ s, s < 128 → be s = nI (B s)) (hB : ∀ s, B s < 128) (ha : all < 128) (hg : g < 128) (hx : x < 128) : fX0_settled (nI all) be (nI x) (nI g) = some (nI (foul B all g 7 (x &&& all))) := by
  have loop : ∀ (k i left : Nat), i + k = 7 → left < 128 → ∀ n, k < n → ∃ j, itL (bX0_settled_10 (nI all) be (nI g)) n (nI left, nI i) = some (nI (foul B all g k left), j) := by
    intro k
    induction k with
    | zero =>
      intro i left hi hl n hn
      have : i = 7 := by omega
      subst this
      obtain ⟨m, rfl⟩ : ∃ m, n = m + 1 := ⟨n - 1, by omega⟩
      refine ⟨nI 7, ?_⟩
      rw [itL]
      unfold bX0_settled_10
      dsimp only
      rw [if_pos (by decide)]; rfl
    | succ k ih =>
      intro i left hi hl n hn
      obtain ⟨m, rfl⟩ : ∃ m, n = m + 1 := ⟨n - 1, by omega⟩
      have h1 : ¬ (7 : Int32) ≤ nI i := nI_ge (b := 7) (by omega) (by decide)
      have hc : all &&& cm left < 128 := and_lt ha
      have hL : lostOf B all g left < 128 := lostOf_lt hl
      have hb : bX0_settled_10 (nI all) be (nI g) (nI left, nI i) = if lostOf B all g left = 0 then some (.inr (nI left, nI i)) else some (.inl (nI (left &&& cm (lostOf B all g left)), nI (i + 1))) := by
        unfold bX0_settled_10
        dsimp only
        rw [if_neg h1, and_cm ha, rd_nI hc (by decide), Option.bind_some, hbe _ hc, nx_and, and_cm (and_lt' hl)]
        unfold bnd
        dsimp only
        rw [show (B (all &&& cm left) &&& left) &&& cm g = lostOf B all g left from rfl, and_cm hl, nI_1]
        by_cases e : lostOf B all g left = 0
        · rw [if_pos e, if_pos (by rw [e]; rfl)]
        · rw [if_neg e, if_neg (nI_ne0 (by omega) (by omega))]
      by_cases e : lostOf B all g left = 0
      · refine ⟨nI i, ?_⟩
        rw [itL, hb, if_pos e]
        dsimp only
        unfold foul
        rw [if_pos e]
      · obtain ⟨j, hj⟩ := ih (i + 1) (left &&& cm (lostOf B all g left)) (by omega) (and_lt hl) m (by omega)
        refine ⟨j, ?_⟩
        rw [itL, hb, if_neg e]
        dsimp only
        rw [hj]
        conv => rhs; unfold foul
        rw [if_neg e]
  obtain ⟨j, hj⟩ := loop 7 0 (x &&& all) rfl (and_lt hx) fu (by decide)
  unfold fX0_settled
  rw [nx_and, show ((0 : Int32)) = nI 0 from rfl, hj]; rfl
/-- seven turns are enough -/
theorem pc_drop : ∀ l, l < 128 → ∀ x, x < 128 → x ≠ 0 → x &&& l = x → pc 7 (l &&& cm x) < pc 7 l := by decide +kernel
theorem lostOf_in {B : Nat → Nat} {all g left : Nat} : lostOf B all g left &&& left = lostOf B all g left := bits_ext (fun i => by
  unfold lostOf
  simp only [Nat.testBit_and, Bool.and_eq_true]
  exact ⟨fun h => h.1, fun h => ⟨h, h.1.2⟩⟩)
theorem foul_fix {B : Nat → Nat} {all g : Nat} : ∀ k left, left < 128 → pc 7 left ≤ k → lostOf B all g (foul B all g k left) = 0 := by
  intro k
  induction k with
  | zero =>
    intro left hl hp
    by_cases e : lostOf B all g left = 0
    · exact e
    · have := pc_drop left hl _ (lostOf_lt hl) e lostOf_in
      omega
  | succ k ih =>
    intro left hl hp
    unfold foul
    by_cases e : lostOf B all g left = 0
    · rw [if_pos e]; exact e
    · rw [if_neg e]
      have := pc_drop left hl _ (lostOf_lt hl) e lostOf_in
      exact ih _ (and_lt hl) (by omega)
theorem foul_done {B : Nat → Nat} {all g : Nat} {left : Nat} (h : lostOf B all g left = 0) : ∀ k, foul B all g k left = left := by
  intro k
  cases k with
  | zero => rfl
  | succ k => unfold foul; rw [if_pos h]
