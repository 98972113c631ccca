/-! The least team; the net that the class follows, with its notes. -/
def leastR (n : Nat) (nr : Nat → Nat) (kind : Nat) (sd : Bool) (r : Int32) : Prop := (∃ t, 1 ≤ t ∧ t ≤ n ∧ r = nI t ∧ (∀ j, 1 ≤ j → j < t → ansC n nr kind j sd 0 0 (-4)) ∧ ¬ ansC n nr kind t sd 0 0 (-4)) ∨ (r = -4 ∧ ∀ j, 1 ≤ j → j ≤ n → ansC n nr kind j sd 0 0 (-4))
theorem leastR_uniq {n : Nat} {nr : Nat → Nat} {kind : Nat} {sd : Bool} {r r' : Int32} (h : leastR n nr kind sd r) (h' : leastR n nr kind sd r') : r = r' := by
  rcases h with ⟨t, a, b, c, d, e⟩ | ⟨a, b⟩
  · rcases h' with ⟨t', a', b', c', d', e'⟩ | ⟨a', b'⟩
    · rcases Nat.lt_trichotomy t t' with q | q | q
      · exact absurd (d' t a q) e
      · rw [c, c', q]
      · exact absurd (d t' a' q) e'
    · exact absurd (b' t a b) e
  · rcases h' with ⟨t', a', b', c', d', e'⟩ | ⟨a', b'⟩
    · exact absurd (b t' a' b') e'
    · rw [a, a']
theorem c_least' {n : Nat} {nr : Nat → Nat} {kind st : Nat} {nd al ped ned held found goal isd : Int32} {be ne len : Nat → Int32} {seen : Nat → Int64} {states steps : Nat → Int32} (hnet : netOk n nr nd al be ne) (hf : netFit n nr) (hk : kind < 3) (hst : st < 2) (h : ped = ned → plOK n nr held len found goal seen states steps) :
    ∃ r held' len' found' goal' isd' seen' states' steps', fX2_leastTeam ped held len found goal isd nd al ned be ne seen states steps (nI kind) (nI st) = some (r, ned, held', len', found', goal', isd', seen', states', steps') ∧ leastR n nr kind (decide (st = 1)) r ∧ plOK n nr held' len' found' goal' seen' states' steps' := by
  have hn := hf.1
  obtain ⟨x, hx1, hx2⟩ := itL_rel (b := bX2_leastTeam_2 nd al ned be ne (nI kind) (nI st)) (fun i v => v.1 = nI (i + 1) ∧ (0 < i → v.2.1 = ned) ∧ (v.2.1 = ned → plOK n nr v.2.2.1 v.2.2.2.1 v.2.2.2.2.1 v.2.2.2.2.2.1 v.2.2.2.2.2.2.2.1 v.2.2.2.2.2.2.2.2.1 v.2.2.2.2.2.2.2.2.2) ∧ ∀ j, 1 ≤ j → j ≤ i → ansC n nr kind j (decide (st = 1)) 0 0 (-4)) (fun x => (∃ v : Int32 × Int32 × Int32 × (Nat → Int32) × Int32 × Int32 × Int32 × (Nat → Int64) × (Nat → Int32) × (Nat → Int32), x = .inl v ∧ leastR n nr kind (decide (st = 1)) v.1 ∧ v.2.1 = ned ∧ plOK n nr v.2.2.1 v.2.2.2.1 v.2.2.2.2.1 v.2.2.2.2.2.1 v.2.2.2.2.2.2.2.1 v.2.2.2.2.2.2.2.2.1 v.2.2.2.2.2.2.2.2.2) ∨ (∃ v : Int32 × Int32 × Int32 × (Nat → Int32) × Int32 × Int32 × Int32 × (Nat → Int64) × (Nat → Int32) × (Nat → Int32), x = .inr v ∧ leastR n nr kind (decide (st = 1)) (-4) ∧ v.2.1 = ned ∧ plOK n nr v.2.2.1 v.2.2.2.1 v.2.2.2.2.1 v.2.2.2.2.2.1 v.2.2.2.2.2.2.2.1 v.2.2.2.2.2.2.2.2.1 v.2.2.2.2.2.2.2.2.2)) n (fun i v hi hv => by
      obtain ⟨v1, v2, v3, v4⟩ := hv
      obtain ⟨w, a1, a2, a3, a4, a5, a6, a7, a8, b1, b2, b3⟩ := c_fewest (kind := kind) (team := i + 1) (st := st) (isd := v.2.2.2.2.2.2.1) hnet hf ⟨hk, by omega, by omega, hst⟩ v3
      unfold bX2_leastTeam_2
      rw [hnet.1, v1, if_neg (show ¬ nI n < nI (i + 1) from nI_nlt (by omega) (by omega)), ← hnet.1, b1, Option.bind_some]
      dsimp only
      by_cases z : w = -4
      · rw [if_pos z]
        refine Or.inl ⟨_, rfl, by rw [nI_1], fun _ => rfl, fun _ => b3, fun j h1 h2 => ?_⟩
        by_cases e : j = i + 1
        · subst e; rw [← z]; exact b2
        · exact v4 j h1 (by omega)
      · rw [if_neg z]
        refine Or.inr ⟨_, rfl, Or.inl ⟨_, rfl, Or.inl ⟨i + 1, by omega, by omega, rfl, fun j h1 h2 => v4 j h1 (by omega), fun q => z (ansC_uniq b2 q)⟩, rfl, b3⟩⟩) (fun v hv => by
      obtain ⟨v1, v2, v3, v4⟩ := hv
      refine ⟨.inr v, ?_, Or.inr ⟨v, rfl, Or.inr ⟨rfl, fun j h1 h2 => v4 j h1 h2⟩, v2 (by omega), v3 (v2 (by omega))⟩⟩
      unfold bX2_leastTeam_2
      rw [hnet.1, v1, if_pos (nI_lt (by omega) (by omega)), ← v1]) fu (1, ped, held, len, found, goal, isd, seen, states, steps) ⟨rfl, fun h => by omega, h, fun j h1 h2 => by omega⟩ (by unfold fu; omega)
  unfold fX2_leastTeam
  rw [hx1, Option.bind_some]
  rcases hx2 with ⟨v, rfl, h1, h2, h3⟩ | ⟨v, rfl, h1, h2, h3⟩
  · exact ⟨v.1, v.2.2.1, v.2.2.2.1, v.2.2.2.2.1, v.2.2.2.2.2.1, v.2.2.2.2.2.2.1, v.2.2.2.2.2.2.2.1, v.2.2.2.2.2.2.2.2.1, v.2.2.2.2.2.2.2.2.2, by rw [← h2]; rfl, h1, h3⟩
  · exact ⟨-4, v.2.2.1, v.2.2.2.1, v.2.2.2.2.1, v.2.2.2.2.2.1, v.2.2.2.2.2.2.1, v.2.2.2.2.2.2.2.1, v.2.2.2.2.2.2.2.2.1, v.2.2.2.2.2.2.2.2.2, by rw [← h2]; rfl, h1, h3⟩
theorem m_least {st : Nat → Int32} {n : Nat} {nr : Nat → Nat} {kind r : Nat} {sd : Bool} {many : Int32} {by' code far from' met : Nat → Int32} (hs : stNet st n nr) (hf : netFit n nr) (hk : kind < 3) (hm : metOK r met) (hr : r + 100 < 2 ^ 31) :
    ∃ r' v many' by'' code' far' from'' met', fX8_leastTeam many (nI r) by' code far from' met st (nI kind) (if sd then 1 else 0) = some (v, many', nI r', by'', code', far', from'', met') ∧ leastR n nr kind sd v ∧ metOK r' met' ∧ r' ≤ r + 7 := by
  have hn := hf.1
  have hst : rd st 13 (0 : Int32) = some (nI n) := by rw [l0, rd_nI (by decide) (by decide), hs.1]
  obtain ⟨x, hx1, hx2⟩ := itL_rel (b := bX8_leastTeam_2 st (nI kind) (if sd then 1 else 0)) (fun i v => v.1 = nI (i + 1) ∧ v.2.2.1 = nI (r + i) ∧ metOK (r + i) v.2.2.2.2.2.2.2 ∧ ∀ j, 1 ≤ j → j ≤ i → ansC n nr kind j sd 0 0 (-4)) (fun x => (∃ (v : Int32 × Int32 × Int32 × (Nat → Int32) × (Nat → Int32) × (Nat → Int32) × (Nat → Int32) × (Nat → Int32)) (r' : Nat), x = .inl v ∧ leastR n nr kind sd v.1 ∧ v.2.2.1 = nI r' ∧ metOK r' v.2.2.2.2.2.2.2 ∧ r' ≤ r + 7) ∨ (∃ (v : Int32 × Int32 × Int32 × (Nat → Int32) × (Nat → Int32) × (Nat → Int32) × (Nat → Int32) × (Nat → Int32)) (r' : Nat), x = .inr v ∧ leastR n nr kind sd (-4) ∧ v.2.2.1 = nI r' ∧ metOK r' v.2.2.2.2.2.2.2 ∧ r' ≤ r + 7)) n (fun i v hi hv => by
      obtain ⟨v1, v2, v3, v4⟩ := hv
      obtain ⟨w, a1, a2, a3, a4, a5, a6, b1, b2, b3⟩ := m_search (sd := sd) (kind := kind) (team := i + 1) (c0 := 0) (g0 := 0) (many := v.2.1) (by' := v.2.2.2.1) (code := v.2.2.2.2.1) (far := v.2.2.2.2.2.1) (from' := v.2.2.2.2.2.2.1) hs hf hk (by omega) (Nat.two_pow_pos n) rfl v3 (by omega)
      unfold bX8_leastTeam_2
      rw [hst, Option.bind_some, v1, v2, if_neg (show ¬ nI n < nI (i + 1) from nI_nlt (by omega) (by omega))]
      rw [show nI 0 = (0 : Int32) from rfl] at b1
      rw [b1, Option.bind_some]
      dsimp only
      rcases b3 with ⟨rfl, q, _⟩ | ⟨q1, ⟨d, hd, q2, q3⟩, _⟩
      · rw [if_pos (by decide)]
        refine Or.inl ⟨_, rfl, by rw [nI_1], rfl, b2, fun j h1 h2 => ?_⟩
        by_cases e : j = i + 1
        · subst e; exact q
        · exact v4 j h1 (by omega)
      · rw [if_neg (Int32.not_lt.mpr q1)]
        refine Or.inr ⟨_, rfl, Or.inl ⟨_, r + i + 1, rfl, Or.inl ⟨i + 1, by omega, by omega, rfl, fun j h1 h2 => v4 j h1 (by omega), fun z => ?_⟩, rfl, b2, by omega⟩⟩
        have := ansC_uniq q3 z
        exact absurd (by rw [this]; decide) (nI_pos (n := d) (by omega))) (fun v hv => by
      obtain ⟨v1, v2, v3, v4⟩ := hv
      refine ⟨.inr v, ?_, Or.inr ⟨v, r + n, rfl, Or.inr ⟨rfl, v4⟩, v2, v3, by omega⟩⟩
      unfold bX8_leastTeam_2
      rw [hst, Option.bind_some, v1, if_pos (nI_lt (by omega) (by omega)), ← v1]) fu (1, many, nI r, by', code, far, from', met) ⟨rfl, rfl, hm, fun j h1 h2 => by omega⟩ (by unfold fu; omega)
  unfold fX8_leastTeam
  rw [hx1, Option.bind_some]
  rcases hx2 with ⟨v, r', rfl, h1, h2, h3, h4⟩ | ⟨v, r', rfl, h1, h2, h3, h4⟩
  · exact ⟨r', v.1, v.2.1, v.2.2.2.1, v.2.2.2.2.1, v.2.2.2.2.2.1, v.2.2.2.2.2.2.1, v.2.2.2.2.2.2.2, by rw [← h2]; rfl, h1, h3, h4⟩
  · exact ⟨r', -4, v.2.1, v.2.2.2.1, v.2.2.2.2.1, v.2.2.2.2.2.1, v.2.2.2.2.2.2.1, v.2.2.2.2.2.2.2, by rw [← h2]; rfl, h1, h3, h4⟩
theorem c_actOf' {n : Nat} {nr : Nat → Nat} {kind team st k : Nat} {nd al ped ned held found goal isd : Int32} {be ne len : Nat → Int32} {seen : Nat → Int64} {states steps : Nat → Int32} (hnet : netOk n nr nd al be ne) (hf : netFit n nr) (hk : keyOk kind team st) (hkk : k < 2 ^ 31) (h : ped = ned → plOK n nr held len found goal seen states steps) :
    ∃ v held' len' found' goal' isd' seen' states' steps', fX2_actOf ped held len found goal isd nd al ned be ne seen states steps (nI kind) (nI team) (nI st) (nI k) = some (v, ned, held', len', found', goal', isd', seen', states', steps') ∧ ansAt n nr kind team (decide (st = 1)) 0 0 k v ∧ plOK n nr held' len' found' goal' seen' states' steps' := by
  have hkl := key_lt hk
  obtain ⟨held1, len1, h1, h2⟩ := c_forget (nr := nr) (n := n) h
  have okc := fun K => (Lk_ok (nr := nr) (kind := kind) (team := team) (sd := decide (st = 1)) (c0 := 0) (g0 := 0) hf.1.2 (Nat.two_pow_pos n) rfl K).1
  unfold fX2_actOf
  rw [h1, Option.bind_some, c_key hk, Option.bind_some]
  dsimp only
  by_cases z : held1 = nI (keyN kind team st)
  · rw [if_pos z]
    rcases h2.2 with q | ⟨kind', team', st', K, hk', e1, e2, e3⟩
    · exact absurd (z.symm.trans q) (nI_nm1 (by omega))
    · have hkl' := key_lt hk'
      obtain ⟨rfl, rfl, rfl⟩ := key_inj hk hk' (nI_inj (by omega) (by omega) (z.symm.trans e1))
      unfold jX2_actOf_48
      rw [c_actAt' e3 (okc K).1 hkk, Option.bind_some]
      exact ⟨_, _, _, _, _, _, _, _, _, rfl, ⟨K, e2, rfl⟩, h2⟩
  · rw [if_neg z]
    obtain ⟨K, f1, g1, s1, t1, p1, a1, a2, a3⟩ := c_run (sd := decide (st = 1)) (c0 := 0) (g0 := 0) (found := found) (goal := goal) (isd := isd) (seen := seen) (states := states) (steps := steps) hnet hf hk.1 (show team < 8 by have := hk.2.2.1; omega) (Nat.two_pow_pos n) rfl
    have hj : jX2_actOf_39 nd al ned be ne (nI k) (nI (keyN kind team st)) (if decide (st = 1) = true then 1 else 0) (nI team) (nI kind) 0 0 ned held1 len1 found goal isd seen states steps = some (actAtOf (2 ^ n - 1) (Lk n nr kind team (decide (st = 1)) 0 0 K) k, ned, nI (keyN kind team st), len1, f1, g1, (if decide (st = 1) = true then 1 else 0), s1, t1, p1) := by
      unfold jX2_actOf_39 jX2_actOf_48
      rw [show nI 0 = (0 : Int32) from rfl] at a1
      rw [a1, Option.bind_some]
      dsimp only
      rw [c_actAt' a2 (okc K).1 hkk, Option.bind_some]
    refine ⟨actAtOf (2 ^ n - 1) (Lk n nr kind team (decide (st = 1)) 0 0 K) k, nI (keyN kind team st), len1, f1, g1, (if decide (st = 1) = true then 1 else 0), s1, t1, p1, ?_, ⟨K, a3, rfl⟩, h2.1, Or.inr ⟨kind, team, st, K, hk, rfl, a3, a2⟩⟩
    by_cases e : st = 1
    · subst e
      rw [if_pos (show nI 1 = 1 from rfl)]
      exact hj
    · have e0 : st = 0 := by have := hk.2.2.2; omega
      subst e0
      rw [if_neg (show ¬ nI 0 = 1 by decide)]
      exact hj
