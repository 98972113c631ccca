/-! tell, seed, undo. -/
theorem m_inN {a b : Nat} (hb : b < 2 ^ 31) (ha : a < 2 ^ 31) (x : Int32) : (∃ j, a ≤ j ∧ j ≤ b ∧ x = nI j ∧ fX8_in x.toInt64 (nI a).toInt64 (nI b).toInt64 = some 1 ∧ ¬ x < nI a ∧ ¬ nI b < x) ∨ (fX8_in x.toInt64 (nI a).toInt64 (nI b).toInt64 = some 0 ∧ (x < nI a ∨ (¬ x < nI a ∧ nI b < x))) := by
  rw [m_in32]
  by_cases h1 : x < nI a
  · exact Or.inr ⟨by rw [if_pos h1], Or.inl h1⟩
  · rw [if_neg h1]
    by_cases h2 : nI b < x
    · exact Or.inr ⟨by rw [if_pos h2], Or.inr ⟨h1, h2⟩⟩
    · rw [if_neg h2]
      have h0 : ¬ x < 0 := fun q => by
        rw [l0] at q
        exact h1 (Int32.lt_of_lt_of_le q (nI_le (Nat.zero_le a) ha))
      obtain ⟨j, hj, rfl⟩ := nI_of h0
      refine Or.inl ⟨j, ?_, ?_, rfl, rfl, h1, h2⟩
      · exact Nat.le_of_not_lt (fun q => h1 (nI_lt q ha))
      · exact Nat.le_of_not_lt (fun q => h2 (nI_lt q hj))
theorem kindOf (x : Int32) : (∃ j, j < 3 ∧ x = nI j ∧ fX7_isKind x = some 1 ∧ fX8_in x.toInt64 (0 : Int64) (2 : Int64) = some 1) ∨ (fX7_isKind x = some 0 ∧ fX8_in x.toInt64 (0 : Int64) (2 : Int64) = some 0) := by
  rw [show (0 : Int64) = (nI 0).toInt64 from rfl, show (2 : Int64) = (nI 2).toInt64 from by decide]
  unfold fX7_isKind
  rcases m_inN (a := 0) (b := 2) (by decide) (by decide) x with ⟨j, _, h2, rfl, h4, h5, h6⟩ | ⟨h1, h2 | ⟨h2, h3⟩⟩
  · exact Or.inl ⟨j, by omega, rfl, by rw [if_neg (show ¬ nI j < 0 from h5), if_neg (show ¬ (3 : Int32) ≤ nI j from nI_ge (b := 3) (by omega) (by decide))], h4⟩
  · exact Or.inr ⟨by rw [if_pos (show x < 0 from h2)], h1⟩
  · obtain ⟨j, hj, rfl⟩ := nI_of h2
    refine Or.inr ⟨?_, h1⟩
    rw [if_neg (show ¬ nI j < 0 from h2), if_pos (show (3 : Int32) ≤ nI j from nI_le (a := 3) ?_ hj)]
    rcases Nat.lt_or_ge j 3 with q | q
    · exact absurd h3 (show ¬ nI 2 < nI j from nI_nlt (by omega) (by decide))
    · exact q
theorem teamOf (x : Int32) : (∃ j, 1 ≤ j ∧ j ≤ 7 ∧ x = nI j ∧ fX7_isTeam x = some 1 ∧ fX8_in x.toInt64 (1 : Int64) (7 : Int64) = some 1) ∨ (fX7_isTeam x = some 0 ∧ fX8_in x.toInt64 (1 : Int64) (7 : Int64) = some 0) := by
  rw [show (1 : Int64) = (nI 1).toInt64 from by decide, show (7 : Int64) = (nI 7).toInt64 from by decide]
  unfold fX7_isTeam
  rcases m_inN (a := 1) (b := 7) (by decide) (by decide) x with ⟨j, h1, h2, rfl, h4, h5, h6⟩ | ⟨h1, h2 | ⟨h2, h3⟩⟩
  · exact Or.inl ⟨j, h1, h2, rfl, by rw [if_neg (show ¬ nI j < (1 : Int32) from h5), if_neg (show ¬ (7 : Int32) < nI j from h6)], h4⟩
  · exact Or.inr ⟨by rw [if_pos (show x < (1 : Int32) from h2)], h1⟩
  · exact Or.inr ⟨by rw [if_neg (show ¬ x < (1 : Int32) from h2), if_pos (show (7 : Int32) < x from h3)], h1⟩
theorem m_setK {S : Sd} {st : Nat → Int32} {x : Nat} (hm : mSd S st 0) : mSd (sN S, sL S, sC S, sG S, x, sT S, sD S) (upd st 10 (nI x)) 0 := by
  obtain ⟨a, b, c, d, e, f, h⟩ := hm
  refine ⟨?_, fun v hv => ?_, ?_, ?_, ?_, ?_, ?_⟩
  · rw [pk_un (by decide)]; exact a
  · rw [pk_un (by omega)]; exact b v hv
  · rw [pk_un (by decide)]; exact c
  · rw [pk_un (by decide)]; exact d
  · rw [Nat.zero_add, pk_us]; rfl
  · rw [pk_un (by decide)]; exact f
  · rw [pk_un (by decide)]; exact h
theorem m_setT {S : Sd} {st : Nat → Int32} {x : Nat} (hm : mSd S st 0) : mSd (sN S, sL S, sC S, sG S, sK S, x, sD S) (upd st 11 (nI x)) 0 := by
  obtain ⟨a, b, c, d, e, f, h⟩ := hm
  refine ⟨?_, fun v hv => ?_, ?_, ?_, ?_, ?_, ?_⟩
  · rw [pk_un (by decide)]; exact a
  · rw [pk_un (by omega)]; exact b v hv
  · rw [pk_un (by decide)]; exact c
  · rw [pk_un (by decide)]; exact d
  · rw [pk_un (by decide)]; exact e
  · rw [Nat.zero_add, pk_us]; rfl
  · rw [pk_un (by decide)]; exact h
theorem m_setD {S : Sd} {st : Nat → Int32} {x : Nat} (hm : mSd S st 0) : mSd (sN S, sL S, sC S, sG S, sK S, sT S, x) (upd st 12 (nI x)) 0 := by
  obtain ⟨a, b, c, d, e, f, h⟩ := hm
  refine ⟨?_, fun v hv => ?_, ?_, ?_, ?_, ?_, ?_⟩
  · rw [pk_un (by decide)]; exact a
  · rw [pk_un (by omega)]; exact b v hv
  · rw [pk_un (by decide)]; exact c
  · rw [pk_un (by decide)]; exact d
  · rw [pk_un (by decide)]; exact e
  · rw [pk_un (by decide)]; exact f
  · rw [Nat.zero_add, pk_us]; rfl
theorem op_tell {S : Sd} {k : Nat} {Ps : Nat → Sd} {st past : Nat → Int32} {acts : Int32} {wn wc wg wk wt wd' kn : Int32} {wl : Nat → Int32} {R NR : Nat → Nat} {pn pc' pg pk pt pd : Nat → Int32} {pl : Nat → Nat → Int32} (hS : sdOK S) (hc : cSd S wn wl wc wg wk wt wd') (hm : mSd S st 0) (hcp : cPast k Ps kn pn pc' pg pk pt pd pl) (hmp : mPast k Ps acts past) (x1 x2 : Int32) :
    ∃ (r : Int32) (S' : Sd) (k' : Nat) (Ps' : Nat → Sd) (wk' wt' kn' : Int32) (R' : Nat → Nat) (pn' : Nat → Int32) (NR' : Nat → Nat) (pc'' pg' pk' pt' pd' : Nat → Int32) (pl' : Nat → Nat → Int32) (acts' : Int32) (past' st' : Nat → Int32), fX7_tell wn wc wg wk wt wd' wl kn R pn NR pc' pg pk pt pd pl x1 x2 = some (r, wk', wt', kn', R', pn', NR', pc'', pg', pk', pt', pd', pl') ∧ fX8_tell acts past st x1 x2 = some (r, acts', past', st') ∧ sdOK S' ∧ cSd S' wn wl wc wg wk' wt' wd' ∧ mSd S' st' 0 ∧ cPast k' Ps' kn' pn' pc'' pg' pk' pt' pd' pl' ∧ mPast k' Ps' acts' past' := by
  have hc0 := hc
  obtain ⟨rfl, c2, rfl, rfl, rfl, rfl, rfl⟩ := hc
  obtain ⟨r8, r9, r10, r11, r12⟩ := st_rd hm
  unfold fX7_tell fX8_tell
  rcases oneTwo x1 with ⟨o1, _, rfl | rfl⟩ | ⟨o1, _, o2, o3⟩
  · rw [o1, Option.bind_some, if_neg (show ¬ (1 : Int32) = 0 by decide), if_pos rfl, if_pos rfl]
    rcases kindOf x2 with ⟨j, hj, rfl, e1, e2⟩ | ⟨e1, e2⟩
    · rw [e1, e2, Option.bind_some, Option.bind_some, if_neg (show ¬ (1 : Int32) = 0 by decide), if_neg (show ¬ (1 : Int32) = 0 by decide)]
      unfold jX7_tell_30 jX7_tell_51 jX8_tell_35
      rw [if_pos rfl, show (10 : Int32) + 0 = 10 from rfl, r10, Option.bind_some]
      by_cases q : nI (sK S) = nI j
      · rw [if_pos q, if_pos q]
        exact ⟨_, S, k, Ps, _, _, _, _, _, _, _, _, _, _, _, _, _, _, _, rfl, rfl, hS, hc0, hm, hcp, hmp⟩
      · rw [if_neg q, if_neg q]
        obtain ⟨R', NR', p1, p2, p3, p4, p5, p6, p7, g1, g2⟩ := c_remember (R := R) (NR := NR) hS hc0 hcp
        obtain ⟨past', g3, g4⟩ := m_notes hm hcp.2.1 hmp
        rw [g1, Option.bind_some, if_pos rfl, g3, Option.bind_some, show (10 : Int32) = nI 10 from rfl, wi_nI (by decide) (by decide), Option.bind_some]
        exact ⟨_, (sN S, sL S, sC S, sG S, j, sT S, sD S), pushK k, pushP k Ps S, _, _, _, _, _, _, _, _, _, _, _, _, _, _, _, rfl, rfl, ⟨hS.1, hS.2.1, hS.2.2.1, hS.2.2.2.1, hj, hS.2.2.2.2.2⟩, ⟨rfl, c2, rfl, rfl, rfl, rfl, rfl⟩, m_setK hm, g2, g4⟩
    · rw [e1, e2, Option.bind_some, Option.bind_some, if_pos rfl, if_pos rfl]
      unfold jX8_tell_16
      rw [if_neg (show ¬ (0 : Int32) = 1 by decide)]
      exact ⟨_, S, k, Ps, _, _, _, _, _, _, _, _, _, _, _, _, _, _, _, rfl, rfl, hS, hc0, hm, hcp, hmp⟩
  · rw [o1, Option.bind_some, if_neg (show ¬ (1 : Int32) = 0 by decide), if_neg (show ¬ (1 : Int32) = 0 by decide), if_neg (show ¬ (1 : Int32) = 0 by decide)]
    unfold jX8_tell_16
    rw [if_pos rfl]
    rcases teamOf x2 with ⟨j, hj1, hj2, rfl, e1, e2⟩ | ⟨e1, e2⟩
    · rw [e1, e2, Option.bind_some, Option.bind_some, if_neg (show ¬ (1 : Int32) = 0 by decide), if_neg (show ¬ (1 : Int32) = 0 by decide)]
      unfold jX7_tell_30 jX7_tell_51 jX8_tell_35
      rw [if_neg (show ¬ (1 : Int32) = 0 by decide), show (10 : Int32) + 1 = 11 from rfl, r11, Option.bind_some]
      by_cases q : nI (sT S) = nI j
      · rw [if_pos q, if_pos q]
        exact ⟨_, S, k, Ps, _, _, _, _, _, _, _, _, _, _, _, _, _, _, _, rfl, rfl, hS, hc0, hm, hcp, hmp⟩
      · rw [if_neg q, if_neg q]
        obtain ⟨R', NR', p1, p2, p3, p4, p5, p6, p7, g1, g2⟩ := c_remember (R := R) (NR := NR) hS hc0 hcp
        obtain ⟨past', g3, g4⟩ := m_notes hm hcp.2.1 hmp
        rw [g1, Option.bind_some, if_neg (show ¬ (1 : Int32) = 0 by decide), g3, Option.bind_some, show (11 : Int32) = nI 11 from rfl, wi_nI (by decide) (by decide), Option.bind_some]
        exact ⟨_, (sN S, sL S, sC S, sG S, sK S, j, sD S), pushK k, pushP k Ps S, _, _, _, _, _, _, _, _, _, _, _, _, _, _, _, rfl, rfl, ⟨hS.1, hS.2.1, hS.2.2.1, hS.2.2.2.1, hS.2.2.2.2.1, ⟨hj1, hj2⟩, hS.2.2.2.2.2.2⟩, ⟨rfl, c2, rfl, rfl, rfl, rfl, rfl⟩, m_setT hm, g2, g4⟩
    · rw [e1, e2, Option.bind_some, Option.bind_some, if_pos rfl, if_pos rfl]
      exact ⟨_, S, k, Ps, _, _, _, _, _, _, _, _, _, _, _, _, _, _, _, rfl, rfl, hS, hc0, hm, hcp, hmp⟩
  · rw [o1, Option.bind_some, if_pos rfl, if_neg o2]
    unfold jX8_tell_16
    rw [if_neg o3]
    exact ⟨_, S, k, Ps, _, _, _, _, _, _, _, _, _, _, _, _, _, _, _, rfl, rfl, hS, hc0, hm, hcp, hmp⟩
theorem op_seed {S : Sd} {st : Nat → Int32} {wn wc wg wk wt wd' : Int32} {wl : Nat → Int32} (hS : sdOK S) (hc : cSd S wn wl wc wg wk wt wd') (hm : mSd S st 0) (x1 : Int32) :
    ∃ (r : Int32) (S' : Sd) (wd2 : Int32) (st' : Nat → Int32), fX7_seed wd' x1 = some (r, wd2) ∧ fX8_seed st x1 = some (r, st') ∧ sdOK S' ∧ cSd S' wn wl wc wg wk wt wd2 ∧ mSd S' st' 0 := by
  have hc0 := hc
  obtain ⟨rfl, c2, rfl, rfl, rfl, rfl, rfl⟩ := hc
  obtain ⟨r8, r9, r10, r11, r12⟩ := st_rd hm
  unfold fX7_seed fX8_seed
  by_cases q : 0 ≤ x1
  · rw [if_pos q, if_pos q, r12, Option.bind_some]
    obtain ⟨j, hj, rfl⟩ := nI_of (show ¬ x1 < 0 from Int32.not_lt.mpr q)
    rw [show (12 : Int32) = nI 12 from rfl, wi_nI (by decide) (by decide), Option.bind_some]
    exact ⟨_, (sN S, sL S, sC S, sG S, sK S, sT S, j), _, _, rfl, rfl, ⟨hS.1, hS.2.1, hS.2.2.1, hS.2.2.2.1, hS.2.2.2.2.1, hS.2.2.2.2.2.1, hj⟩, ⟨rfl, c2, rfl, rfl, rfl, rfl, rfl⟩, m_setD hm⟩
  · rw [if_neg q, if_neg q]
    exact ⟨_, S, _, _, rfl, rfl, hS, hc0, hm⟩
theorem op_undo {S : Sd} {k : Nat} {Ps : Nat → Sd} {st past : Nat → Int32} {acts : Int32} {wn wc wg wk wt wd' kn : Int32} {wl : Nat → Int32} {pn pc' pg pk pt pd : Nat → Int32} {pl : Nat → Nat → Int32} (hS : sdOK S) (hc : cSd S wn wl wc wg wk wt wd') (hm : mSd S st 0) (hcp : cPast k Ps kn pn pc' pg pk pt pd pl) (hmp : mPast k Ps acts past) :
    ∃ (r : Int32) (S' : Sd) (k' : Nat) (wn' wc' wg' wk' wt' wd2 : Int32) (wl' : Nat → Int32) (kn' acts' : Int32) (st' : Nat → Int32), fX7_undo wn wc wg wk wt wd' wl kn pn pc' pg pk pt pd pl = some (r, wn', wc', wg', wk', wt', wd2, wl', kn') ∧ fX8_undo acts past st = some (r, acts', st') ∧ sdOK S' ∧ cSd S' wn' wl' wc' wg' wk' wt' wd2 ∧ mSd S' st' 0 ∧ cPast k' Ps kn' pn pc' pg pk pt pd pl ∧ mPast k' Ps acts' past := by
  obtain ⟨rfl, hk, hp⟩ := hcp
  obtain ⟨rfl, hmp⟩ := hmp
  unfold fX7_undo fX8_undo fX1_giveBack
  by_cases q : k = 0
  · subst q
    rw [if_pos (show nI 0 = 0 from rfl), if_pos (show nI 0 = 0 from rfl), Option.bind_some]
    dsimp only
    rw [if_pos rfl]
    exact ⟨_, S, 0, _, _, _, _, _, _, _, _, _, _, rfl, rfl, hS, hc, hm, ⟨rfl, by decide, fun i hi => absurd hi (by omega)⟩, ⟨rfl, fun i hi => absurd hi (by omega)⟩⟩
  · have hne : ¬ nI k = 0 := nI_ne0 (by omega) (by omega)
    rw [if_neg hne, if_neg hne, show nI k - (1 : Int32) = nI (k - 1) from pk_sub (a := k) (b := 1) (by omega), sel6_at (show k - 1 < 6 by omega)]
    obtain ⟨h1, h2⟩ := hp (k - 1) (by omega)
    obtain ⟨bl, b1, b2⟩ := c_become (b1 := wn) (b2 := wc) (b3 := wg) (b4 := wk) (b5 := wt) (b6 := wd') (bl := wl) h2
    rw [b1, Option.bind_some, Option.bind_some]
    dsimp only
    rw [if_neg (show ¬ (1 : Int32) = 0 by decide), show (13 : Int32) * nI (k - 1) = nI (13 * (k - 1)) from pk_mul 13 (k - 1), l0, show (13 : Int32) = nI 13 from rfl, m_bring (by omega) (by omega) (by decide) (by decide), Option.bind_some]
    refine ⟨_, Ps (k - 1), k - 1, _, _, _, _, _, _, _, _, _, _, rfl, rfl, h1, b2, ?_, ⟨rfl, by omega, fun i hi => hp i (by omega)⟩, ⟨rfl, fun i hi => hmp i (by omega)⟩⟩
    refine mSd_to (hmp (k - 1) (by omega)) (fun d hd => ?_)
    rw [if_pos (by omega)]
    congr 1
    omega
