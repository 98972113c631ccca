/-! node, count, would. -/
theorem guard_clean {g c v : Nat} (h : g &&& c = g) (hv : g.testBit v = true) : c.testBit v = true := by
  rw [← h, Nat.testBit_and, Bool.and_eq_true] at hv; exact hv.2
theorem op_look {S : Sd} {st : Nat → Int32} {v : Nat} (hS : sdOK S) (hm : mSd S st 0) (hv : v < sN S) : ∃ r, fX5_look (nI (sC S)) (nI (sG S)) (nI v) = some r ∧ fX8_stateOf st (nI v) = some r := by
  have hn := hS.1.1
  have hp := pow_le hn.2
  have hc : sC S < 128 := Nat.lt_of_lt_of_le hS.2.1 hp
  have hg : sG S < 128 := sub_lt hS.2.2.1 hc
  unfold fX5_look fX8_stateOf
  rw [has_bit _ hc v (by omega), has_bit _ hg v (by omega), show (9 : Int32) = nI 9 from rfl, show (8 : Int32) = nI 8 from rfl, rd_nI (by decide) (by decide), Option.bind_some, show st 9 = nI (sG S) by have := hm.2.2.2.1; rw [Nat.zero_add] at this; exact this, m_has hg (by omega), Option.bind_some, rd_nI (by decide) (by decide), Option.bind_some, show st 8 = nI (sC S) by have := hm.2.2.1; rw [Nat.zero_add] at this; exact this, m_has hc (by omega), Option.bind_some]
  by_cases t : (sG S).testBit v = true
  · have t2 := guard_clean hS.2.2.1 t
    rw [if_pos t, if_pos t2, if_neg (show ¬ (1 : Int32) = 0 by decide)]
    exact ⟨_, rfl, rfl⟩
  · rw [if_neg t, if_pos rfl]
    by_cases t2 : (sC S).testBit v = true
    · rw [if_pos t2, if_neg (show ¬ (1 : Int32) = 0 by decide)]
      exact ⟨_, rfl, rfl⟩
    · rw [if_neg t2, if_pos rfl]
      exact ⟨_, rfl, rfl⟩
theorem op_node {S : Sd} {E : Nat} {st : Nat → Int32} {wn wc wg wk wt wd' : Int32} {wl : Nat → Int32} {nd al ned : Int32} {be ne : Nat → Int32} {ped held : Int32} {len : Nat → Int32} {found goal : Int32} {seen : Nat → Int64} {states steps : Nat → Int32} (hS : sdOK S) (hc : cSd S wn wl wc wg wk wt wd') (hm : mSd S st 0) (hp : NP E nd al ned be ne ped held len found goal seen states steps) (hE : E + 1 < 2 ^ 31) (x1 x2 : Int32) :
    ∃ (r : Int32) (E' : Nat) (nd' al' ned' : Int32) (be' ne' : Nat → Int32), fX7_node wn wc wg wl nd al ned be ne x1 x2 = some (r, nd', al', ned', be', ne') ∧ fX8_node st x1 x2 = some r ∧ NP E' nd' al' ned' be' ne' ped held len found goal seen states steps ∧ E' ≤ E + 1 := by
  obtain ⟨rfl, c2, rfl, rfl, rfl, rfl, rfl⟩ := hc
  have hn := hS.1.1
  have hnet := mSd_net hm
  unfold fX7_node fX8_node
  rw [m_isNode hm hS.1]
  rcases c_isNode (n := sN S) (by omega) x1 with ⟨v, hv, rfl, e⟩ | ⟨e, _⟩
  · rw [e, Option.bind_some, Option.bind_some, if_neg (show ¬ (1 : Int32) = 0 by decide), if_neg (show ¬ (1 : Int32) = 0 by decide)]
    by_cases q0 : x2 = 0
    · obtain ⟨r, a, b⟩ := op_look hS hm hv
      rw [if_pos q0, if_pos q0, a, b, Option.bind_some, Option.bind_some]
      exact ⟨r, E, _, _, _, _, _, rfl, rfl, hp, by omega⟩
    · rw [if_neg q0, if_neg q0]
      by_cases q1 : x2 = 1
      · rw [if_pos q1, if_pos q1, rd_nI (by omega) (by decide), Option.bind_some, show (1 : Int32) + nI v = nI (1 + v) from nI_add 1 v, rd_nI (by omega) (by decide), Option.bind_some, c2 v (by omega), hnet.2 v (by omega)]
        exact ⟨_, E, _, _, _, _, _, rfl, rfl, hp, by omega⟩
      · rw [if_neg q1, if_neg q1]
        by_cases q2 : x2 = 2
        · obtain ⟨E', be', ne', a1, a2, a3, a4, a5, a6⟩ := c_cur hS.1 c2 hp hE
          rw [if_pos q2, if_pos q2, a1, Option.bind_some]
          dsimp only
          rw [c_partOf a2 hn.2 hS.1.2.1 hv, Option.bind_some, m_partOf hnet hn.2 hS.1.2.1 hv, Option.bind_some]
          exact ⟨_, E', _, _, _, _, _, rfl, rfl, NP_of hS.1 a2 a4 a5 a6, a3⟩
        · rw [if_neg q2, if_neg q2]
          exact ⟨_, E, _, _, _, _, _, rfl, rfl, hp, by omega⟩
  · rw [e, Option.bind_some, Option.bind_some, if_pos rfl, if_pos rfl]
    exact ⟨_, E, _, _, _, _, _, rfl, rfl, hp, by omega⟩
/-- the number of links -/
def lsum (nr : Nat → Nat) : Nat → Nat
  | 0 => 0
  | v + 1 => lsum nr v + pc 7 (nr v)
theorem lsum_le {nr : Nat → Nat} : ∀ v, lsum nr v ≤ 7 * v := by
  intro v
  induction v with
  | zero => exact Nat.le_refl 0
  | succ v ih => unfold lsum; have := pc_le (nr v) 7; omega
theorem c_links {n : Nat} {nr : Nat → Nat} {wl : Nat → Int32} (hf : netFit n nr) (hw : ∀ v, v < 7 → wl v = nI (nr v)) : fX5_links (nI n) wl = some (nI (lsum nr n) / 2) := by
  have hn := hf.1.2
  have key : itL (bX5_links_4 (nI n) wl) fu ((0 : Int32), (0 : Int32)) = some (nI (lsum nr n), nI n) := by
    refine itL_for (fun i => (nI (lsum nr i), nI i)) n _ ?_ ?_ (by unfold fu; omega) rfl
    · intro i hi
      unfold bX5_links_4
      dsimp only
      rw [if_neg (show ¬ nI n ≤ nI i from nI_ge hi (by omega)), rd_nI (by omega) (by decide), Option.bind_some, hw i (by omega), c_bits _ (nr_lt hf i), Option.bind_some, nI_add, nI_1]
      rfl
    · unfold bX5_links_4
      dsimp only
      rw [if_pos (nI_le (Nat.le_refl _) (by omega))]
  unfold fX5_links
  rw [key]; rfl
theorem m_linkMany {st : Nat → Int32} {n : Nat} {nr : Nat → Nat} (hs : stNet st n nr) (hf : netFit n nr) : fX8_linkMany st = some (nI (lsum nr n) / 2) := by
  have hn := hf.1.2
  have hst : rd st 13 (0 : Int32) = some (nI n) := by rw [l0, rd_nI (by decide) (by decide), hs.1]
  have key : itL (bX8_linkMany_4 st) fu ((0 : Int32), (0 : Int32)) = some (nI (lsum nr n), nI n) := by
    refine itL_for (fun i => (nI (lsum nr i), nI i)) n _ ?_ ?_ (by unfold fu; omega) rfl
    · intro i hi
      unfold bX8_linkMany_4
      dsimp only
      rw [hst, Option.bind_some, if_neg (show ¬ nI n ≤ nI i from nI_ge hi (by omega)), show (1 : Int32) + nI i = nI (1 + i) from nI_add 1 i, rd_nI (by omega) (by decide), Option.bind_some, hs.2 i (by omega), m_size (nr_lt hf i), Option.bind_some, nI_add, nI_1]
      rfl
    · unfold bX8_linkMany_4
      dsimp only
      rw [hst, Option.bind_some, if_pos (nI_le (Nat.le_refl _) (by omega))]
  unfold fX8_linkMany
  rw [key]; rfl
theorem op_count {S : Sd} {E : Nat} {st : Nat → Int32} {kn : Int32} {wn wc wg wk wt wd' : Int32} {wl : Nat → Int32} {nd al ned : Int32} {be ne : Nat → Int32} {ped held : Int32} {len : Nat → Int32} {found goal : Int32} {seen : Nat → Int64} {states steps : Nat → Int32} (hS : sdOK S) (hc : cSd S wn wl wc wg wk wt wd') (hm : mSd S st 0) (hp : NP E nd al ned be ne ped held len found goal seen states steps) (hE : E + 1 < 2 ^ 31) (x1 : Int32) :
    ∃ (r : Int32) (E' : Nat) (nd' al' ned' : Int32) (be' ne' : Nat → Int32), fX7_count wn wc wg wk wt wl kn nd al ned be ne x1 = some (r, nd', al', ned', be', ne') ∧ fX8_count kn st x1 = some r ∧ NP E' nd' al' ned' be' ne' ped held len found goal seen states steps ∧ E' ≤ E + 1 := by
  obtain ⟨rfl, c2, rfl, rfl, rfl, rfl, rfl⟩ := hc
  have hn := hS.1.1
  have hnet := mSd_net hm
  have r0 : rd st 13 (0 : Int32) = some (nI (sN S)) := by rw [l0, rd_nI (by decide) (by decide), hnet.1]
  have e8 : st 8 = nI (sC S) := by have := hm.2.2.1; rw [Nat.zero_add] at this; exact this
  have e9 : st 9 = nI (sG S) := by have := hm.2.2.2.1; rw [Nat.zero_add] at this; exact this
  have e10 : st 10 = nI (sK S) := by have := hm.2.2.2.2.1; rw [Nat.zero_add] at this; exact this
  have e11 : st 11 = nI (sT S) := by have := hm.2.2.2.2.2.1; rw [Nat.zero_add] at this; exact this
  unfold fX7_count fX8_count
  by_cases q0 : x1 = 0
  · rw [if_pos q0, if_pos q0, r0, Option.bind_some]
    exact ⟨_, E, _, _, _, _, _, rfl, rfl, hp, by omega⟩
  rw [if_neg q0, if_neg q0]
  by_cases q1 : x1 = 1
  · rw [if_pos q1, if_pos q1, c_links hS.1 c2, m_linkMany hnet hS.1, Option.bind_some, Option.bind_some]
    exact ⟨_, E, _, _, _, _, _, rfl, rfl, hp, by omega⟩
  rw [if_neg q1, if_neg q1]
  by_cases q2 : x1 = 2
  · obtain ⟨E', be', ne', a1, a2, a3, a4, a5, a6⟩ := c_cur hS.1 c2 hp hE
    rw [if_pos q2, if_pos q2, a1, Option.bind_some, r0, Option.bind_some]
    dsimp only
    rw [c_parts a2 hn.2 hS.1.2.1, Option.bind_some, m_partsTo hnet hn.2 hS.1.2.1 (Nat.le_refl _), Option.bind_some]
    exact ⟨_, E', _, _, _, _, _, rfl, rfl, NP_of hS.1 a2 a4 a5 a6, a3⟩
  rw [if_neg q2, if_neg q2]
  by_cases q3 : x1 = 3
  · subst q3
    rw [if_pos rfl, if_pos rfl, show (8 : Int32) + 3 - 3 = nI 8 by decide, rd_nI (by decide) (by decide), Option.bind_some, e8]
    exact ⟨_, E, _, _, _, _, _, rfl, rfl, hp, by omega⟩
  rw [if_neg q3, if_neg q3]
  by_cases q4 : x1 = 4
  · subst q4
    rw [if_pos rfl, if_pos rfl, show (8 : Int32) + 4 - 3 = nI 9 by decide, rd_nI (by decide) (by decide), Option.bind_some, e9]
    exact ⟨_, E, _, _, _, _, _, rfl, rfl, hp, by omega⟩
  rw [if_neg q4, if_neg q4]
  by_cases q5 : x1 = 5
  · subst q5
    rw [if_pos rfl, if_pos rfl, show (10 : Int32) + 5 - 5 = nI 10 by decide, rd_nI (by decide) (by decide), Option.bind_some, e10]
    exact ⟨_, E, _, _, _, _, _, rfl, rfl, hp, by omega⟩
  rw [if_neg q5, if_neg q5]
  by_cases q6 : x1 = 6
  · subst q6
    rw [if_pos rfl, if_pos rfl, show (10 : Int32) + 6 - 5 = nI 11 by decide, rd_nI (by decide) (by decide), Option.bind_some, e11]
    exact ⟨_, E, _, _, _, _, _, rfl, rfl, hp, by omega⟩
  rw [if_neg q6, if_neg q6]
  by_cases q7 : x1 = 7
  · rw [if_pos q7, if_pos q7]
    exact ⟨_, E, _, _, _, _, _, rfl, rfl, hp, by omega⟩
  rw [if_neg q7, if_neg q7]
  exact ⟨_, E, _, _, _, _, _, rfl, rfl, hp, by omega⟩
/-- what both make of an act's number -/
theorem op_ruling {S : Sd} {E : Nat} {st : Nat → Int32} {wl : Nat → Int32} {nd al ned : Int32} {be ne : Nat → Int32} {ped held : Int32} {len : Nat → Int32} {found goal : Int32} {seen : Nat → Int64} {states steps : Nat → Int32} (hS : sdOK S) (c2 : ∀ v, v < 7 → wl v = nI (sL S v)) (hm : mSd S st 0) (hp : NP E nd al ned be ne ped held len found goal seen states steps) (hE : E + 1 < 2 ^ 31) (x1 : Int32) :
    ∃ (E' : Nat) (be' ne' : Nat → Int32), E' ≤ E + 1 ∧ netOk (sN S) (sL S) (nI (sN S)) (nI (2 ^ sN S - 1)) be' ne' ∧ NP E' (nI (sN S)) (nI (2 ^ sN S - 1)) (nI E') be' ne' ped held len found goal seen states steps ∧ ((fX7_rulingNow (nI (sN S)) (nI (sG S)) (nI (sK S)) (nI (sT S)) wl nd al ned be ne x1 = some (-1, nI (sN S), nI (2 ^ sN S - 1), nI E', be', ne') ∧ fX8_isAct st x1.toInt64 = some 0) ∨ ∃ k, isA (sN S) k ∧ x1 = nI k ∧ fX7_rulingNow (nI (sN S)) (nI (sG S)) (nI (sK S)) (nI (sT S)) wl nd al ned be ne x1 = some (rul (sL S) (sK S) (sT S) (sG S) k, nI (sN S), nI (2 ^ sN S - 1), nI E', be', ne') ∧ fX8_isAct st x1.toInt64 = some 1 ∧ fX8_against st (nI (sK S)) (nI (sT S)) (nI (sG S)) x1 = some (rul (sL S) (sK S) (sT S) (sG S) k)) := by
  have hn := hS.1.1
  have hnet := mSd_net hm
  have hg2 := sub_lt hS.2.2.1 hS.2.1
  have hg : sG S < 128 := Nat.lt_of_lt_of_le hg2 (pow_le hn.2)
  obtain ⟨E', be', ne', a1, a2, a3, a4, a5, a6⟩ := c_cur hS.1 c2 hp hE
  refine ⟨E', be', ne', a3, a2, NP_of hS.1 a2 a4 a5 a6, ?_⟩
  unfold fX7_rulingNow
  rw [a1, Option.bind_some]
  dsimp only
  rcases isAct_both hnet (by omega) hn.2 x1.toInt64 with ⟨k, h1, h2, h3, h4⟩ | ⟨h3, h4⟩
  · right
    have hx : x1 = nI k := by
      have := congrArg Int64.toInt32 h2
      rw [lN_i] at this
      rw [← this]
      simp
    subst hx
    refine ⟨k, h1, rfl, ?_, h4, m_rul hnet hS.1 h1 hg hS.2.2.2.2.1 (by have := hS.2.2.2.2.2.1; omega)⟩
    rw [h3, Option.bind_some, if_neg (show ¬ (1 : Int32) = 0 by decide), c_rul a2 hS.1 h1 hg2 hS.2.2.2.2.1 (by have := hS.2.2.2.2.2.1; omega), Option.bind_some]
  · left
    refine ⟨?_, h4⟩
    rw [h3, Option.bind_some, if_pos rfl]
