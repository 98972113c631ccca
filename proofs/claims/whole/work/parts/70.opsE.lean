/-! team, fewest, plan, rest. -/
theorem kindBoth (x y : Int32) : (∃ j b, j < 3 ∧ b < 2 ∧ x = nI j ∧ y = nI b ∧ fX7_isKind x = some 1 ∧ fX7_isOneOfTwo y = some 1 ∧ fX8_isKind x y = some 1) ∨ (((fX7_isKind x = some 1 ∧ fX7_isOneOfTwo y = some 0) ∨ fX7_isKind x = some 0) ∧ fX8_isKind x y = some 0) := by
  unfold fX8_isKind
  rcases kindOf x with ⟨j, hj, h1, h2, h3⟩ | ⟨h2, h3⟩
  · rw [h3, Option.bind_some, if_neg (show ¬ (1 : Int32) = 0 by decide)]
    rcases oneTwo y with ⟨o1, o2, o3⟩ | ⟨o1, o2, _⟩
    · rw [o2, Option.bind_some, if_neg (show ¬ (1 : Int32) = 0 by decide)]
      rcases o3 with rfl | rfl
      · exact Or.inl ⟨j, 0, hj, by decide, h1, rfl, h2, o1, rfl⟩
      · exact Or.inl ⟨j, 1, hj, by decide, h1, rfl, h2, o1, rfl⟩
    · rw [o2, Option.bind_some, if_pos rfl]
      exact Or.inr ⟨Or.inl ⟨h2, o1⟩, rfl⟩
  · rw [h3, Option.bind_some, if_pos rfl]
    exact Or.inr ⟨Or.inr h2, rfl⟩
theorem bitC {b : Nat} (hb : b < 2) : (decide (b = 1) = true ∧ nI b = 1) ∨ (decide (b = 1) = false ∧ ¬ nI b = 1) := by
  rcases (show b = 0 ∨ b = 1 by omega) with rfl | rfl
  · exact Or.inr ⟨rfl, by decide⟩
  · exact Or.inl ⟨rfl, rfl⟩
theorem NP_ed {E n : Nat} {nr : Nat → Nat} {be ne : Nat → Int32} {held : Int32} {len : Nat → Int32} {found goal : Int32} {seen : Nat → Int64} {states steps : Nat → Int32} (hf : netFit n nr) (h1 : netOk n nr (nI n) (nI (2 ^ n - 1)) be ne) (h0 : be 0 = 0) (h2 : plOK n nr held len found goal seen states steps) : NP E (nI n) (nI (2 ^ n - 1)) (nI E) be ne (nI E) held len found goal seen states steps := NP_of hf h1 h0 ⟨E, Nat.le_refl _, rfl⟩ (fun _ => h2)
theorem op_team {S : Sd} {E r : Nat} {st : Nat → Int32} {wn : Int32} {wl : Nat → Int32} {nd al ned : Int32} {be ne : Nat → Int32} {ped held isd : Int32} {len : Nat → Int32} {found goal : Int32} {seen : Nat → Int64} {states steps : Nat → Int32} {many : Int32} {by' code far from' met : Nat → Int32} (hS : sdOK S) (hwn : wn = nI (sN S)) (c2 : ∀ v, v < 7 → wl v = nI (sL S v)) (hm : mSd S st 0) (hp : NP E nd al ned be ne ped held len found goal seen states steps) (hE : E + 1 < 2 ^ 31) (hmet : metOK r met) (hr : r + 100 < 2 ^ 31) (x1 x2 : Int32) :
    ∃ (v : Int32) (E' : Nat) (ped' held' : Int32) (len' : Nat → Int32) (found' goal' isd' nd' al' ned' : Int32) (be' ne' : Nat → Int32) (seen' : Nat → Int64) (states' steps' : Nat → Int32) (r' : Nat) (many' : Int32) (by'' code' far' from'' met' : Nat → Int32), fX7_team wn wl ped held len found goal isd nd al ned be ne seen states steps x1 x2 = some (v, ped', held', len', found', goal', isd', nd', al', ned', be', ne', seen', states', steps') ∧ fX8_team many (nI r) by' code far from' met st x1 x2 = some (v, many', nI r', by'', code', far', from'', met') ∧ NP E' nd' al' ned' be' ne' ped' held' len' found' goal' seen' states' steps' ∧ E' ≤ E + 1 ∧ metOK r' met' ∧ r' ≤ r + 8 := by
  subst hwn
  have hnet := mSd_net hm
  unfold fX7_team fX8_team
  rcases kindBoth x1 x2 with ⟨j, b, hj, hb, rfl, rfl, e1, e2, e3⟩ | ⟨e1, e3⟩
  · obtain ⟨E', be', ne', a1, a2, a3, a4, a5, a6⟩ := c_cur hS.1 c2 hp hE
    obtain ⟨v, held', len', found', goal', isd', seen', states', steps', g1, g2, g3⟩ := c_least' (kind := j) (st := b) (found := found) (goal := goal) (isd := isd) (seen := seen) (states := states) (steps := steps) a2 hS.1 hj hb a6
    obtain ⟨r', v', many', by'', code', far', from'', met', m1, m2, m3, m4⟩ := m_least (many := many) (by' := by') (code := code) (far := far) (from' := from') (sd := decide (b = 1)) hnet hS.1 hj hmet hr
    have ev : v' = v := leastR_uniq m2 g2
    subst ev
    rw [e1, Option.bind_some, if_neg (show ¬ (1 : Int32) = 0 by decide), e2, Option.bind_some, if_neg (show ¬ (1 : Int32) = 0 by decide), a1, Option.bind_some, g1, Option.bind_some, e3, Option.bind_some, if_neg (show ¬ (1 : Int32) = 0 by decide)]
    unfold jX8_team_20
    have m5 : (if nI b = (1 : Int32) then Option.bind (fX8_leastTeam many (nI r) by' code far from' met st (nI j) 1) (fun r1 => some (r1.1, r1.2.1, r1.2.2.1, r1.2.2.2.1, r1.2.2.2.2.1, r1.2.2.2.2.2.1, r1.2.2.2.2.2.2.1, r1.2.2.2.2.2.2.2)) else Option.bind (fX8_leastTeam many (nI r) by' code far from' met st (nI j) 0) (fun r1 => some (r1.1, r1.2.1, r1.2.2.1, r1.2.2.2.1, r1.2.2.2.2.1, r1.2.2.2.2.2.1, r1.2.2.2.2.2.2.1, r1.2.2.2.2.2.2.2))) = some (v', many', nI r', by'', code', far', from'', met') := by
      rcases bitC hb with ⟨d1, d2⟩ | ⟨d1, d2⟩
      · rw [if_pos d2]
        rw [d1, if_pos rfl] at m1
        rw [m1, Option.bind_some]
      · rw [if_neg d2]
        rw [d1, if_neg (by decide)] at m1
        rw [m1, Option.bind_some]
    exact ⟨_, E', _, _, _, _, _, _, _, _, _, _, _, _, _, _, r', _, _, _, _, _, _, rfl, m5, NP_ed hS.1 a2 a4 g3, a3, m3, by omega⟩
  · rw [e3, Option.bind_some, if_pos rfl]
    rcases e1 with ⟨e1, e2⟩ | e1
    · rw [e1, Option.bind_some, if_neg (show ¬ (1 : Int32) = 0 by decide), e2, Option.bind_some, if_pos rfl]
      exact ⟨_, E, _, _, _, _, _, _, _, _, _, _, _, _, _, _, r, _, _, _, _, _, _, rfl, rfl, hp, by omega, hmet, by omega⟩
    · rw [e1, Option.bind_some, if_pos rfl]
      exact ⟨_, E, _, _, _, _, _, _, _, _, _, _, _, _, _, _, r, _, _, _, _, _, _, rfl, rfl, hp, by omega, hmet, by omega⟩
/-- the reference's search, answered by the number of acts -/
theorem m_few {st : Nat → Int32} {n : Nat} {nr : Nat → Nat} {kind team : Nat} {sd : Bool} {r : Nat} {many : Int32} {by' code far from' met : Nat → Int32} (hs : stNet st n nr) (hf : netFit n nr) (hki : kind < 3) (ht : team < 8) (hm : metOK r met) (hr : r + 1 < 2 ^ 31) :
    ∃ v many' by'' code' far' from'' met', jX8_fewest_37 st (if sd then 1 else 0) (nI team) (nI kind) (0 : Int32) (0 : Int32) many (nI r) by' code far from' met = some (v, many', nI (r + 1), by'', code', far', from'', met') ∧ metOK (r + 1) met' ∧ ansC n nr kind team sd 0 0 v := by
  have hp : 0 < 2 ^ n := Nat.two_pow_pos n
  obtain ⟨at', many', by'', code', far', from'', met', m1, m2, m3⟩ := m_search (c0 := 0) (g0 := 0) (sd := sd) (many := many) (by' := by') (code := code) (far := far) (from' := from') hs hf hki ht hp rfl hm hr
  unfold jX8_fewest_37
  have m1' : fX8_search many (nI r) by' code far from' met st 0 0 (nI kind) (nI team) (if sd then 1 else 0) = some (at', many', nI (r + 1), by'', code', far', from'', met') := m1
  rw [m1', Option.bind_some]
  dsimp only
  rcases m3 with ⟨rfl, z1, _⟩ | ⟨z1, ⟨d, z2, z3, z4⟩, _⟩
  · rw [if_neg m4_neg]
    exact ⟨_, _, _, _, _, _, _, rfl, m2, z1⟩
  · rw [if_pos z1, z3, Option.bind_some]
    exact ⟨_, _, _, _, _, _, _, rfl, m2, z4⟩
theorem op_fewest {S : Sd} {E r : Nat} {st : Nat → Int32} {wn : Int32} {wl : Nat → Int32} {nd al ned : Int32} {be ne : Nat → Int32} {ped held isd : Int32} {len : Nat → Int32} {found goal : Int32} {seen : Nat → Int64} {states steps : Nat → Int32} {many : Int32} {by' code far from' met : Nat → Int32} (hS : sdOK S) (hwn : wn = nI (sN S)) (c2 : ∀ v, v < 7 → wl v = nI (sL S v)) (hm : mSd S st 0) (hp : NP E nd al ned be ne ped held len found goal seen states steps) (hE : E + 1 < 2 ^ 31) (hmet : metOK r met) (hr : r + 100 < 2 ^ 31) (x1 x2 x3 : Int32) :
    ∃ (v : Int32) (E' : Nat) (ped' held' : Int32) (len' : Nat → Int32) (found' goal' isd' nd' al' ned' : Int32) (be' ne' : Nat → Int32) (seen' : Nat → Int64) (states' steps' : Nat → Int32) (r' : Nat) (many' : Int32) (by'' code' far' from'' met' : Nat → Int32), fX7_fewest wn wl ped held len found goal isd nd al ned be ne seen states steps x1 x2 x3 = some (v, ped', held', len', found', goal', isd', nd', al', ned', be', ne', seen', states', steps') ∧ fX8_fewest many (nI r) by' code far from' met st x1 x2 x3 = some (v, many', nI r', by'', code', far', from'', met') ∧ NP E' nd' al' ned' be' ne' ped' held' len' found' goal' seen' states' steps' ∧ E' ≤ E + 1 ∧ metOK r' met' ∧ r' ≤ r + 8 := by
  subst hwn
  have hnet := mSd_net hm
  unfold fX7_fewest fX8_fewest
  rcases kindBoth x1 x3 with ⟨j, b, hj, hb, rfl, rfl, e1, e2, e3⟩ | ⟨e1, e3⟩
  · rw [e1, Option.bind_some, if_neg (show ¬ (1 : Int32) = 0 by decide), e3, Option.bind_some, if_neg (show ¬ (1 : Int32) = 0 by decide)]
    rcases teamOf x2 with ⟨t, ht1, ht2, rfl, f1, f2⟩ | ⟨f1, f2⟩
    · obtain ⟨E', be', ne', a1, a2, a3, a4, a5, a6⟩ := c_cur hS.1 c2 hp hE
      obtain ⟨v, held', len', found', goal', isd', seen', states', steps', g1, g2, g3⟩ := c_fewest (kind := j) (team := t) (st := b) (found := found) (goal := goal) (isd := isd) (seen := seen) (states := states) (steps := steps) a2 hS.1 ⟨hj, ht1, ht2, hb⟩ a6
      obtain ⟨v', many', by'', code', far', from'', met', m1, m3, m2⟩ := m_few (many := many) (by' := by') (code := code) (far := far) (from' := from') (sd := decide (b = 1)) (team := t) hnet hS.1 hj (by omega) hmet (by omega)
      have ev : v' = v := ansC_uniq m2 g2
      subst ev
      rw [f1, Option.bind_some, if_neg (show ¬ (1 : Int32) = 0 by decide), e2, Option.bind_some, if_neg (show ¬ (1 : Int32) = 0 by decide), a1, Option.bind_some, g1, Option.bind_some, f2, Option.bind_some, if_neg (show ¬ (1 : Int32) = 0 by decide)]
      have m5 : (if nI b = (1 : Int32) then jX8_fewest_37 st (1 : Int32) (nI t) (nI j) (0 : Int32) (0 : Int32) many (nI r) by' code far from' met else jX8_fewest_37 st (0 : Int32) (nI t) (nI j) (0 : Int32) (0 : Int32) many (nI r) by' code far from' met) = some (v', many', nI (r + 1), by'', code', far', from'', met') := by
        rcases bitC hb with ⟨d1, d2⟩ | ⟨d1, d2⟩
        · rw [if_pos d2]
          rw [d1, if_pos rfl] at m1
          exact m1
        · rw [if_neg d2]
          rw [d1, if_neg (by decide)] at m1
          exact m1
      exact ⟨_, E', _, _, _, _, _, _, _, _, _, _, _, _, _, _, r + 1, _, _, _, _, _, _, rfl, m5, NP_ed hS.1 a2 a4 g3, a3, m3, by omega⟩
    · rw [f1, Option.bind_some, if_pos rfl, f2, Option.bind_some, if_pos rfl]
      exact ⟨_, E, _, _, _, _, _, _, _, _, _, _, _, _, _, _, r, _, _, _, _, _, _, rfl, rfl, hp, by omega, hmet, by omega⟩
  · rw [e3, Option.bind_some, if_pos rfl]
    rcases e1 with ⟨e1, e2⟩ | e1
    · rw [e1, Option.bind_some, if_neg (show ¬ (1 : Int32) = 0 by decide)]
      rcases teamOf x2 with ⟨t, _, _, _, f1, _⟩ | ⟨f1, _⟩
      · rw [f1, Option.bind_some, if_neg (show ¬ (1 : Int32) = 0 by decide), e2, Option.bind_some, if_pos rfl]
        exact ⟨_, E, _, _, _, _, _, _, _, _, _, _, _, _, _, _, r, _, _, _, _, _, _, rfl, rfl, hp, by omega, hmet, by omega⟩
      · rw [f1, Option.bind_some, if_pos rfl]
        exact ⟨_, E, _, _, _, _, _, _, _, _, _, _, _, _, _, _, r, _, _, _, _, _, _, rfl, rfl, hp, by omega, hmet, by omega⟩
    · rw [e1, Option.bind_some, if_pos rfl]
      exact ⟨_, E, _, _, _, _, _, _, _, _, _, _, _, _, _, _, r, _, _, _, _, _, _, rfl, rfl, hp, by omega, hmet, by omega⟩
theorem op_plan {S : Sd} {E r : Nat} {st : Nat → Int32} {wn : Int32} {wl : Nat → Int32} {nd al ned : Int32} {be ne : Nat → Int32} {ped held isd : Int32} {len : Nat → Int32} {found goal : Int32} {seen : Nat → Int64} {states steps : Nat → Int32} {many : Int32} {by' code far from' met : Nat → Int32} (hS : sdOK S) (hwn : wn = nI (sN S)) (c2 : ∀ v, v < 7 → wl v = nI (sL S v)) (hm : mSd S st 0) (hp : NP E nd al ned be ne ped held len found goal seen states steps) (hE : E + 1 < 2 ^ 31) (hmet : metOK r met) (hr : r + 100 < 2 ^ 31) (x1 x2 x3 : Int32) :
    ∃ (v : Int32) (E' : Nat) (ped' held' : Int32) (len' : Nat → Int32) (found' goal' isd' nd' al' ned' : Int32) (be' ne' : Nat → Int32) (seen' : Nat → Int64) (states' steps' : Nat → Int32) (r' : Nat) (many' : Int32) (by'' code' far' from'' met' : Nat → Int32), fX7_plan wn wl ped held len found goal isd nd al ned be ne seen states steps x1 x2 x3 = some (v, ped', held', len', found', goal', isd', nd', al', ned', be', ne', seen', states', steps') ∧ fX8_plan many (nI r) by' code far from' met st x1 x2 x3 = some (v, many', nI r', by'', code', far', from'', met') ∧ NP E' nd' al' ned' be' ne' ped' held' len' found' goal' seen' states' steps' ∧ E' ≤ E + 1 ∧ metOK r' met' ∧ r' ≤ r + 8 := by
  subst hwn
  have hnet := mSd_net hm
  have hn := hS.1.1
  unfold fX7_plan fX8_plan
  rcases kindBoth x1 x2 with ⟨j, b, hj, hb, rfl, rfl, e1, e2, e3⟩ | ⟨e1, e3⟩
  · rw [e1, Option.bind_some, if_neg (show ¬ (1 : Int32) = 0 by decide), e2, Option.bind_some, if_neg (show ¬ (1 : Int32) = 0 by decide), e3, Option.bind_some, if_neg (show ¬ (1 : Int32) = 0 by decide)]
    by_cases q : 0 ≤ x3
    · obtain ⟨k, hk, rfl⟩ := nI_of (show ¬ x3 < 0 from Int32.not_lt.mpr q)
      obtain ⟨E', be', ne', a1, a2, a3, a4, a5, a6⟩ := c_cur hS.1 c2 hp hE
      obtain ⟨v, held', len', found', goal', isd', seen', states', steps', g1, g2, g3⟩ := c_least' (kind := j) (st := b) (found := found) (goal := goal) (isd := isd) (seen := seen) (states := states) (steps := steps) a2 hS.1 hj hb a6
      obtain ⟨r', v', many', by'', code', far', from'', met', m1, m2, m3, m4⟩ := m_least (many := many) (by' := by') (code := code) (far := far) (from' := from') (sd := decide (b = 1)) hnet hS.1 hj hmet hr
      have ev : v' = v := leastR_uniq m2 g2
      subst ev
      rw [if_pos q, if_pos q, a1, Option.bind_some, g1, Option.bind_some]
      dsimp only
      unfold jX8_plan_26
      rcases m2 with ⟨t, t1, t2, rfl, _, hnot⟩ | ⟨rfl, _⟩
      · obtain ⟨w, held2, len2, found2, goal2, isd2, seen2, states2, steps2, h1, h2, h3⟩ := c_actOf' (kind := j) (team := t) (st := b) (k := k) (found := found') (goal := goal') (isd := isd') (seen := seen') (states := states') (steps := steps') a2 hS.1 ⟨hj, t1, by omega, hb⟩ hk (ped := nI E') (ned := nI E') (fun _ => g3)
        have hpos : 0 < 2 ^ sN S := Nat.two_pow_pos _
        obtain ⟨at', many2, by2, code2, far2, from2, met2, s1, s2, s3⟩ := m_search (c0 := 0) (g0 := 0) (kind := j) (team := t) (sd := decide (b = 1)) (many := many') (by' := by'') (code := code') (far := far') (from' := from'') hnet hS.1 hj (by omega) hpos rfl m3 (by omega)
        have hact : fX8_actOf by2 far2 from2 at' (nI k) = some w := by
          rcases s3 with ⟨_, z, _⟩ | ⟨_, _, z⟩
          · exact absurd z hnot
          · obtain ⟨w', z1, z2⟩ := z k hk
            rw [z1, ansAt_uniq z2 h2]
        rw [if_neg (show ¬ nI t = (-4 : Int32) from fun z => by
          have h4 : (0 : Int32) ≤ -4 := by rw [← z, l0]; exact nI_le (Nat.zero_le _) (by omega)
          exact m4_neg h4), h1, Option.bind_some]
        have m5 : (if nI b = (1 : Int32) then Option.bind (fX8_leastTeam many (nI r) by' code far from' met st (nI j) 1) (fun r5 => (if 0 ≤ r5.1 then (if nI b = (1 : Int32) then jX8_plan_58 st (nI k) (1 : Int32) r5.1 (nI j) (0 : Int32) (0 : Int32) r5.2.1 r5.2.2.1 r5.2.2.2.1 r5.2.2.2.2.1 r5.2.2.2.2.2.1 r5.2.2.2.2.2.2.1 r5.2.2.2.2.2.2.2 else jX8_plan_58 st (nI k) (0 : Int32) r5.1 (nI j) (0 : Int32) (0 : Int32) r5.2.1 r5.2.2.1 r5.2.2.2.1 r5.2.2.2.2.1 r5.2.2.2.2.2.1 r5.2.2.2.2.2.2.1 r5.2.2.2.2.2.2.2) else some ((-4 : Int32), r5.2.1, r5.2.2.1, r5.2.2.2.1, r5.2.2.2.2.1, r5.2.2.2.2.2.1, r5.2.2.2.2.2.2.1, r5.2.2.2.2.2.2.2))) else Option.bind (fX8_leastTeam many (nI r) by' code far from' met st (nI j) 0) (fun r5 => (if 0 ≤ r5.1 then (if nI b = (1 : Int32) then jX8_plan_58 st (nI k) (1 : Int32) r5.1 (nI j) (0 : Int32) (0 : Int32) r5.2.1 r5.2.2.1 r5.2.2.2.1 r5.2.2.2.2.1 r5.2.2.2.2.2.1 r5.2.2.2.2.2.2.1 r5.2.2.2.2.2.2.2 else jX8_plan_58 st (nI k) (0 : Int32) r5.1 (nI j) (0 : Int32) (0 : Int32) r5.2.1 r5.2.2.1 r5.2.2.2.1 r5.2.2.2.2.1 r5.2.2.2.2.2.1 r5.2.2.2.2.2.2.1 r5.2.2.2.2.2.2.2) else some ((-4 : Int32), r5.2.1, r5.2.2.1, r5.2.2.2.1, r5.2.2.2.2.1, r5.2.2.2.2.2.1, r5.2.2.2.2.2.2.1, r5.2.2.2.2.2.2.2)))) = some (w, many2, nI (r' + 1), by2, code2, far2, from2, met2) := by
          have ht0 : (0 : Int32) ≤ nI t := by rw [l0]; exact nI_le (Nat.zero_le _) (by omega)
          have s1' : ∀ z : Int32, fX8_search many' (nI r') by'' code' far' from'' met' st (nI 0) (nI 0) (nI j) (nI t) z = some (at', many2, nI (r' + 1), by2, code2, far2, from2, met2) → jX8_plan_58 st (nI k) z (nI t) (nI j) (0 : Int32) (0 : Int32) many' (nI r') by'' code' far' from'' met' = some (w, many2, nI (r' + 1), by2, code2, far2, from2, met2) := by
            intro z hz
            have hz' : fX8_search many' (nI r') by'' code' far' from'' met' st 0 0 (nI j) (nI t) z = some (at', many2, nI (r' + 1), by2, code2, far2, from2, met2) := hz
            unfold jX8_plan_58
            rw [hz', Option.bind_some]
            dsimp only
            rw [hact, Option.bind_some]
          rcases bitC hb with ⟨d1, d2⟩ | ⟨d1, d2⟩
          · rw [if_pos d2]
            rw [d1, if_pos rfl] at m1 s1
            rw [m1, Option.bind_some, if_pos ht0, if_pos d2]
            exact s1' _ s1
          · rw [if_neg d2]
            rw [d1, if_neg (by decide)] at m1 s1
            rw [m1, Option.bind_some, if_pos ht0, if_neg d2]
            exact s1' _ s1
        exact ⟨_, E', _, _, _, _, _, _, _, _, _, _, _, _, _, _, r' + 1, _, _, _, _, _, _, rfl, m5, NP_ed hS.1 a2 a4 h3, a3, s2, by omega⟩
      · rw [if_pos rfl]
        rcases bitC hb with ⟨d1, d2⟩ | ⟨d1, d2⟩
        · rw [if_pos d2]
          rw [d1, if_pos rfl] at m1
          rw [m1, Option.bind_some]
          dsimp only
          rw [if_neg m4_neg]
          exact ⟨_, E', _, _, _, _, _, _, _, _, _, _, _, _, _, _, r', _, _, _, _, _, _, rfl, rfl, NP_ed hS.1 a2 a4 g3, a3, m3, by omega⟩
        · rw [if_neg d2]
          rw [d1, if_neg (by decide)] at m1
          rw [m1, Option.bind_some]
          dsimp only
          rw [if_neg m4_neg]
          exact ⟨_, E', _, _, _, _, _, _, _, _, _, _, _, _, _, _, r', _, _, _, _, _, _, rfl, rfl, NP_ed hS.1 a2 a4 g3, a3, m3, by omega⟩
    · rw [if_neg q, if_neg q]
      exact ⟨_, E, _, _, _, _, _, _, _, _, _, _, _, _, _, _, r, _, _, _, _, _, _, rfl, rfl, hp, by omega, hmet, by omega⟩
  · rw [e3, Option.bind_some, if_pos rfl]
    rcases e1 with ⟨e1, e2⟩ | e1
    · rw [e1, Option.bind_some, if_neg (show ¬ (1 : Int32) = 0 by decide), e2, Option.bind_some, if_pos rfl]
      exact ⟨_, E, _, _, _, _, _, _, _, _, _, _, _, _, _, _, r, _, _, _, _, _, _, rfl, rfl, hp, by omega, hmet, by omega⟩
    · rw [e1, Option.bind_some, if_pos rfl]
      exact ⟨_, E, _, _, _, _, _, _, _, _, _, _, _, _, _, _, r, _, _, _, _, _, _, rfl, rfl, hp, by omega, hmet, by omega⟩
theorem op_rest {S : Sd} {E r : Nat} {st : Nat → Int32} {wn wc wg wk wt wd' : Int32} {wl : Nat → Int32} {nd al ned : Int32} {be ne : Nat → Int32} {ped held isd : Int32} {len : Nat → Int32} {found goal : Int32} {seen : Nat → Int64} {states steps : Nat → Int32} {many : Int32} {by' code far from' met : Nat → Int32} (hS : sdOK S) (hc : cSd S wn wl wc wg wk wt wd') (hm : mSd S st 0) (hp : NP E nd al ned be ne ped held len found goal seen states steps) (hE : E + 1 < 2 ^ 31) (hmet : metOK r met) (hr : r + 100 < 2 ^ 31) (x1 : Int32) :
    ∃ (v : Int32) (E' : Nat) (held' found' goal' isd' nd' al' ned' : Int32) (be' ne' : Nat → Int32) (seen' : Nat → Int64) (states' steps' : Nat → Int32) (r' : Nat) (many' : Int32) (by'' code' far' from'' met' : Nat → Int32), fX7_rest wn wc wg wk wt wl held found goal isd nd al ned be ne seen states steps x1 = some (v, held', found', goal', isd', nd', al', ned', be', ne', seen', states', steps') ∧ fX8_rest many (nI r) by' code far from' met st x1 = some (v, many', nI r', by'', code', far', from'', met') ∧ NP E' nd' al' ned' be' ne' ped held' len found' goal' seen' states' steps' ∧ E' ≤ E + 1 ∧ metOK r' met' ∧ r' ≤ r + 8 := by
  have hnet := mSd_net hm
  have hn := hS.1.1
  obtain ⟨rfl, c2, rfl, rfl, rfl, rfl, rfl⟩ := hc
  obtain ⟨r8, r9, r10, r11, r12⟩ := st_rd hm
  unfold fX7_rest fX8_rest
  rcases oneTwo x1 with ⟨o1, o2, o3⟩ | ⟨o1, o2, _⟩
  · obtain ⟨E', be', ne', a1, a2, a3, a4, a5, a6⟩ := c_cur hS.1 c2 hp hE
    obtain ⟨K, found', goal', seen', states', steps', g1, g2, g3⟩ := c_run (kind := sK S) (team := sT S) (sd := false) (c0 := sC S) (g0 := sG S) (found := found) (goal := goal) (isd := isd) (seen := seen) (states := states) (steps := steps) a2 hS.1 hS.2.2.2.2.1 (by have := hS.2.2.2.2.2.1; omega) hS.2.1 hS.2.2.1
    obtain ⟨at', many2, by2, code2, far2, from2, met2, s1, s2, s3⟩ := m_search (c0 := sC S) (g0 := sG S) (kind := sK S) (team := sT S) (sd := false) (many := many) (by' := by') (code := code) (far := far) (from' := from') hnet hS.1 hS.2.2.2.2.1 (by have := hS.2.2.2.2.2.1; omega) hS.2.1 hS.2.2.1 hmet (by omega)
    rw [if_neg (by decide)] at g1 s1
    have hok := ((Lk_ok (nr := sL S) (kind := sK S) (team := sT S) (sd := false) hn.2 hS.2.1 hS.2.2.1) K).1.1
    have hsf : fX2_searchFrom (nI (sC S)) (nI (sG S)) (nI (sK S)) (nI (sT S)) held found goal isd (nI (sN S)) (nI (2 ^ sN S - 1)) be' ne' seen states steps = some (-1, found', goal', 0, seen', states', steps') := by
      unfold fX2_searchFrom
      rw [g1, Option.bind_some]
    have hNP : NP E' (nI (sN S)) (nI (2 ^ sN S - 1)) (nI E') be' ne' ped (-1) len found' goal' seen' states' steps' := NP_of hS.1 a2 a4 a5 (fun q => ⟨(a6 q).1, Or.inl rfl⟩)
    rw [o1, Option.bind_some, if_neg (show ¬ (1 : Int32) = 0 by decide), a1, Option.bind_some, o2, Option.bind_some, if_neg (show ¬ (1 : Int32) = 0 by decide), r8, Option.bind_some, r9, Option.bind_some, r10, Option.bind_some, r11, Option.bind_some, s1, Option.bind_some]
    dsimp only
    rcases o3 with rfl | rfl
    · rw [if_pos rfl, if_pos rfl]
      unfold fX2_restOf
      rw [hsf, Option.bind_some]
      dsimp only
      rw [c_acts' g2 hok, Option.bind_some, Option.bind_some]
      have han : ansC (sN S) (sL S) (sK S) (sT S) false (sC S) (sG S) (actsOf (2 ^ sN S - 1) (Lk (sN S) (sL S) (sK S) (sT S) false (sC S) (sG S) K)) := ⟨K, g3, rfl⟩
      rcases s3 with ⟨rfl, z, _⟩ | ⟨z0, ⟨d, _, z1, z2⟩, _⟩
      · rw [if_neg m4_neg, ansC_uniq han z]
        exact ⟨_, E', _, _, _, _, _, _, _, _, _, _, _, _, r + 1, _, _, _, _, _, _, rfl, rfl, hNP, a3, s2, by omega⟩
      · rw [if_pos z0, z1, Option.bind_some, ansC_uniq han z2]
        exact ⟨_, E', _, _, _, _, _, _, _, _, _, _, _, _, r + 1, _, _, _, _, _, _, rfl, rfl, hNP, a3, s2, by omega⟩
    · rw [if_neg (show ¬ (1 : Int32) = 0 by decide), if_neg (show ¬ (1 : Int32) = 0 by decide)]
      unfold fX2_firstOfRest
      rw [hsf, Option.bind_some]
      dsimp only
      have hca := c_actAt' (k := 0) g2 hok (by decide)
      rw [show nI 0 = 0 from rfl] at hca
      rw [hca, Option.bind_some, Option.bind_some]
      have han : ansAt (sN S) (sL S) (sK S) (sT S) false (sC S) (sG S) 0 (actAtOf (2 ^ sN S - 1) (Lk (sN S) (sL S) (sK S) (sT S) false (sC S) (sG S) K) 0) := ⟨K, g3, rfl⟩
      rcases s3 with ⟨rfl, _, z⟩ | ⟨z0, _, z⟩
      · rw [if_neg m4_neg, ansAt_uniq han (z 0)]
        exact ⟨_, E', _, _, _, _, _, _, _, _, _, _, _, _, r + 1, _, _, _, _, _, _, rfl, rfl, hNP, a3, s2, by omega⟩
      · obtain ⟨w, z1, z2⟩ := z 0 (by decide)
        rw [show nI 0 = 0 from rfl] at z1
        rw [if_pos z0, z1, Option.bind_some, ansAt_uniq han z2]
        exact ⟨_, E', _, _, _, _, _, _, _, _, _, _, _, _, r + 1, _, _, _, _, _, _, rfl, rfl, hNP, a3, s2, by omega⟩
  · rw [o1, Option.bind_some, if_pos rfl, o2, Option.bind_some, if_pos rfl]
    exact ⟨_, E, _, _, _, _, _, _, _, _, _, _, _, _, r, _, _, _, _, _, _, rfl, rfl, hp, by omega, hmet, by omega⟩
