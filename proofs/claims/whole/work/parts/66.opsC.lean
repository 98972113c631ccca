/-! link, tell, seed, undo. -/
theorem oneTwo (x : Int32) : (fX7_isOneOfTwo x = some 1 ∧ fX8_in x.toInt64 (0 : Int64) (1 : Int64) = some 1 ∧ (x = 0 ∨ x = 1)) ∨ (fX7_isOneOfTwo x = some 0 ∧ fX8_in x.toInt64 (0 : Int64) (1 : Int64) = some 0 ∧ ¬ x = 0 ∧ ¬ x = 1) := by
  rw [show (0 : Int64) = (0 : Int32).toInt64 from rfl, show (1 : Int64) = (1 : Int32).toInt64 from by decide, m_in32]
  unfold fX7_isOneOfTwo jX7_isOneOfTwo_9
  by_cases h0 : x = 0
  · subst h0; exact Or.inl ⟨rfl, rfl, Or.inl rfl⟩
  · by_cases h1 : x = 1
    · subst h1; exact Or.inl ⟨rfl, rfl, Or.inr rfl⟩
    · refine Or.inr ⟨by rw [if_neg h0, if_neg h1], ?_, h0, h1⟩
      by_cases q : x < 0
      · rw [if_pos q]
      · rw [if_neg q]
        obtain ⟨j, hj, rfl⟩ := nI_of q
        have j0 : j ≠ 0 := fun e => h0 (by rw [e]; rfl)
        have j1 : j ≠ 1 := fun e => h1 (by rw [e]; rfl)
        rw [if_pos (show (1 : Int32) < nI j from nI_lt (a := 1) (by omega) hj)]
/-- a link turned -/
def trn (nr : Nat → Nat) (a b : Nat) : Nat → Nat := fun v => if v = a then nr a ^^^ 2 ^ b else if v = b then nr b ^^^ 2 ^ a else nr v
theorem trn_fit {n : Nat} {nr : Nat → Nat} {a b : Nat} (hf : netFit n nr) (ha : a < n) (hb : b < n) (hab : a ≠ b) : netFit n (trn nr a b) := by
  obtain ⟨h1, h2, h3, h4, h5⟩ := hf
  have p2 : ∀ i, i < n → 2 ^ i < 2 ^ n := fun i hi => Nat.pow_lt_pow_right (by decide) hi
  refine ⟨h1, fun v => ?_, fun v hv => ?_, fun u v => ?_, fun v => ?_⟩
  · unfold trn
    split
    · exact Nat.xor_lt_two_pow (h2 a) (p2 b hb)
    · split
      · exact Nat.xor_lt_two_pow (h2 b) (p2 a ha)
      · exact h2 v
  · unfold trn
    rw [if_neg (by omega), if_neg (by omega)]
    exact h3 v hv
  · unfold trn
    by_cases ua : u = a
    · subst ua
      rw [if_pos rfl]
      by_cases va : v = u
      · subst va; rw [if_pos rfl]
      · rw [if_neg va]
        by_cases vb : v = b
        · subst vb
          rw [if_pos rfl, Nat.testBit_xor, Nat.testBit_xor, h4 u v, Nat.testBit_two_pow_self, Nat.testBit_two_pow_self]
        · rw [if_neg vb, Nat.testBit_xor, h4 u v, Nat.testBit_two_pow_of_ne (fun e => vb e.symm), Bool.xor_false]
    · rw [if_neg ua]
      by_cases ub : u = b
      · subst ub
        rw [if_pos rfl]
        by_cases va : v = a
        · subst va
          rw [if_pos rfl, Nat.testBit_xor, Nat.testBit_xor, h4 u v, Nat.testBit_two_pow_self, Nat.testBit_two_pow_self]
        · rw [if_neg va]
          by_cases vb : v = u
          · subst vb; rw [if_pos rfl]
          · rw [if_neg vb, Nat.testBit_xor, h4 u v, Nat.testBit_two_pow_of_ne (fun e => va e.symm), Bool.xor_false]
      · rw [if_neg ub]
        by_cases va : v = a
        · subst va
          rw [if_pos rfl, Nat.testBit_xor, h4 u v, Nat.testBit_two_pow_of_ne (fun e => ub e.symm), Bool.xor_false]
        · rw [if_neg va]
          by_cases vb : v = b
          · subst vb
            rw [if_pos rfl, Nat.testBit_xor, h4 u v, Nat.testBit_two_pow_of_ne (fun e => ua e.symm), Bool.xor_false]
          · rw [if_neg vb]; exact h4 u v
  · unfold trn
    by_cases va : v = a
    · subst va
      rw [if_pos rfl, Nat.testBit_xor, h5 v, Nat.testBit_two_pow_of_ne (fun e => hab e.symm), Bool.xor_false]
    · rw [if_neg va]
      by_cases vb : v = b
      · subst vb
        rw [if_pos rfl, Nat.testBit_xor, h5 v, Nat.testBit_two_pow_of_ne hab, Bool.xor_false]
      · rw [if_neg vb]; exact h5 v
theorem c_turnLink {nr : Nat → Nat} {a b : Nat} {wl : Nat → Int32} (hw : ∀ v, v < 7 → wl v = nI (nr v)) (ha : a < 7) (hb : b < 7) (hab : a ≠ b) : ∃ wl', fX5_turnLink wl (nI a) (nI b) = some wl' ∧ ∀ v, v < 7 → wl' v = nI (trn nr a b v) := by
  refine ⟨upd (upd wl a (nI (nr a ^^^ 2 ^ b))) b (nI (nr b ^^^ 2 ^ a)), ?_, fun v hv => ?_⟩
  · unfold fX5_turnLink
    rw [rd_nI ha (by decide), Option.bind_some, shl1 b (by omega), hw a ha, nx_xor, wi_nI ha (by decide), Option.bind_some, rd_nI hb (by decide), Option.bind_some, pk_un (fun e => hab e.symm), shl1 a (by omega), hw b hb, nx_xor, wi_nI hb (by decide), Option.bind_some]
  · unfold trn
    by_cases vb : v = b
    · subst vb
      rw [pk_us, if_neg (fun e => hab e.symm), if_pos rfl]
    · rw [pk_un vb]
      by_cases va : v = a
      · subst va; rw [pk_us, if_pos rfl]
      · rw [pk_un va, if_neg va, if_neg vb, hw v hv]
theorem m_turnsLink {S : Sd} {a b : Nat} {st : Nat → Int32} (hm : mSd S st 0) (ha : a < 7) (hb : b < 7) (hab : a ≠ b) : ∃ st', fX8_turnsLink st (nI a) (nI b) = some st' ∧ mSd (sN S, trn (sL S) a b, sC S, sG S, sK S, sT S, sD S) st' 0 := by
  have hnet := mSd_net hm
  obtain ⟨h0, h1, h8, h9, h10, h11, h12⟩ := hm
  refine ⟨upd (upd st (1 + a) (nI (sL S a ^^^ 2 ^ b))) (1 + b) (nI (sL S b ^^^ 2 ^ a)), ?_, ?_, fun v hv => ?_, ?_, ?_, ?_, ?_, ?_⟩
  · unfold fX8_turnsLink
    rw [show (1 : Int32) + nI a = nI (1 + a) from nI_add 1 a, show (1 : Int32) + nI b = nI (1 + b) from nI_add 1 b, rd_nI (by omega) (by decide), Option.bind_some, shl1 b (by omega), hnet.2 a ha, nx_xor, wi_nI (by omega) (by decide), Option.bind_some, rd_nI (by omega) (by decide), Option.bind_some, pk_un (by omega), shl1 a (by omega), hnet.2 b hb, nx_xor, wi_nI (by omega) (by decide), Option.bind_some]
  · rw [pk_un (by omega), pk_un (by omega)]; exact h0
  · show _ = nI (trn (sL S) a b v)
    unfold trn
    rw [Nat.zero_add]
    by_cases vb : v = b
    · subst vb
      rw [pk_us, if_neg (fun e => hab e.symm), if_pos rfl]
    · rw [pk_un (by omega)]
      by_cases va : v = a
      · subst va; rw [pk_us, if_pos rfl]
      · rw [pk_un (by omega), if_neg va, if_neg vb, hnet.2 v hv]
  · rw [pk_un (by omega), pk_un (by omega)]; exact h8
  · rw [pk_un (by omega), pk_un (by omega)]; exact h9
  · rw [pk_un (by omega), pk_un (by omega)]; exact h10
  · rw [pk_un (by omega), pk_un (by omega)]; exact h11
  · rw [pk_un (by omega), pk_un (by omega)]; exact h12
/-- the standing behind a turned link -/
def turnS (S : Sd) (a b : Nat) : Sd := (sN S, trn (sL S) a b, fouled (sN S) (trn (sL S) a b) (sG S) (sC S), sG S, sK S, sT S, sD S)
theorem turnS_ok {S : Sd} {a b : Nat} (hS : sdOK S) (ha : a < sN S) (hb : b < sN S) (hab : a ≠ b) : sdOK (turnS S a b) := mk_ok (trn_fit hS.1 ha hb hab) hS.2.1 hS.2.2.1 hS.2.2.2.2.1 hS.2.2.2.2.2.1 hS.2.2.2.2.2.2
theorem m_fouls {S : Sd} {nr : Nat → Nat} {st : Nat → Int32} (hf : netFit (sN S) nr) (hc : sC S < 128) (hm : mSd (sN S, nr, sC S, sG S, sK S, sT S, sD S) st 0) : ∃ st', fX8_fouls st = some st' ∧ mSd (sN S, nr, fouled (sN S) nr (sG S) (sC S), sG S, sK S, sT S, sD S) st' 0 := by
  obtain ⟨r8, r9, _, _, _⟩ := st_rd hm
  have hnet : stNet st (sN S) nr := mSd_net hm
  obtain ⟨h0, h1, h8, h9, h10, h11, h12⟩ := hm
  refine ⟨upd st 8 (nI (fouled (sN S) nr (sG S) (sC S))), ?_, ?_, fun v hv => ?_, ?_, ?_, ?_, ?_, ?_⟩
  · unfold fX8_fouls
    rw [r8, Option.bind_some, r9, Option.bind_some]
    rw [show sC (sN S, nr, sC S, sG S, sK S, sT S, sD S) = sC S from rfl, show sG (sN S, nr, sC S, sG S, sK S, sT S, sD S) = sG S from rfl, m_fouled hnet hf.1.2 hc, Option.bind_some, show (8 : Int32) = nI 8 from rfl, wi_nI (by decide) (by decide), Option.bind_some]
    rfl
  · rw [pk_un (by decide)]; exact h0
  · rw [pk_un (by omega)]; exact h1 v hv
  · rw [Nat.zero_add, pk_us]; rfl
  · rw [pk_un (by decide)]; exact h9
  · rw [pk_un (by decide)]; exact h10
  · rw [pk_un (by decide)]; exact h11
  · rw [pk_un (by decide)]; exact h12
theorem bool_eq {t : Bool} {x3 : Int32} (h : x3 = 0 ∨ x3 = 1) : ((if t = true then (1 : Int32) else 0) = if x3 = 1 then 1 else 0) ↔ (t = true ↔ x3 = 1) := by
  rcases h with rfl | rfl <;> cases t <;> decide
theorem op_link {S : Sd} {E k : Nat} {Ps : Nat → Sd} {st past : Nat → Int32} {acts : Int32} {wn wc wg wk wt wd' kn : Int32} {wl : Nat → Int32} {R NR : Nat → Nat} {pn pc' pg pk pt pd : Nat → Int32} {pl : Nat → Nat → Int32} {nd al ned : Int32} {be ne : Nat → Int32} {ped held : Int32} {len : Nat → Int32} {found goal : Int32} {seen : Nat → Int64} {states steps : Nat → Int32} (hS : sdOK S) (hc : cSd S wn wl wc wg wk wt wd') (hm : mSd S st 0) (hcp : cPast k Ps kn pn pc' pg pk pt pd pl) (hmp : mPast k Ps acts past) (hp : NP E nd al ned be ne ped held len found goal seen states steps) (hE : E + 2 < 2 ^ 31) (x1 x2 x3 : Int32) :
    ∃ (r : Int32) (S' : Sd) (k' : Nat) (Ps' : Nat → Sd) (E' : Nat) (wc' : Int32) (wl' : Nat → Int32) (kn' : Int32) (R' : Nat → Nat) (pn' : Nat → Int32) (NR' : Nat → Nat) (pc'' pg' pk' pt' pd' : Nat → Int32) (pl' : Nat → Nat → Int32) (nd' al' ned' : Int32) (be' ne' : Nat → Int32) (acts' : Int32) (past' st' : Nat → Int32), fX7_link wn wc wg wk wt wd' wl kn R pn NR pc' pg pk pt pd pl nd al ned be ne x1 x2 x3 = some (r, wc', wl', kn', R', pn', NR', pc'', pg', pk', pt', pd', pl', nd', al', ned', be', ne') ∧ fX8_link acts past st x1 x2 x3 = some (r, acts', past', st') ∧ sdOK S' ∧ cSd S' wn wl' wc' wg wk wt wd' ∧ mSd S' st' 0 ∧ cPast k' Ps' kn' pn' pc'' pg' pk' pt' pd' pl' ∧ mPast k' Ps' acts' past' ∧ NP E' nd' al' ned' be' ne' ped held len found goal seen states steps ∧ E' ≤ E + 2 := by
  have hc0 := hc
  obtain ⟨rfl, c2, rfl, rfl, rfl, rfl, rfl⟩ := hc
  have hn := hS.1.1
  have hnet := mSd_net hm
  have hp7 := pow_le hn.2
  have hc7 : sC S < 128 := Nat.lt_of_lt_of_le hS.2.1 hp7
  have hg7 : sG S < 128 := sub_lt hS.2.2.1 hc7
  unfold fX7_link fX8_link
  rw [m_isNode hm hS.1, m_isNode hm hS.1]
  rcases c_isNode (n := sN S) (by omega) x1 with ⟨a, ha, rfl, e1⟩ | ⟨e1, _⟩
  · rw [e1, Option.bind_some, Option.bind_some, if_neg (show ¬ (1 : Int32) = 0 by decide), if_neg (show ¬ (1 : Int32) = 0 by decide)]
    rcases c_isNode (n := sN S) (by omega) x2 with ⟨b, hb, rfl, e2⟩ | ⟨e2, _⟩
    · rw [e2, Option.bind_some, Option.bind_some, if_neg (show ¬ (1 : Int32) = 0 by decide), if_neg (show ¬ (1 : Int32) = 0 by decide)]
      by_cases hab : a = b
      · subst hab
        rw [if_pos rfl, if_pos rfl]
        exact ⟨_, S, k, Ps, E, _, _, _, _, _, _, _, _, _, _, _, _, _, _, _, _, _, _, _, _, rfl, rfl, hS, hc0, hm, hcp, hmp, hp, by omega⟩
      · have hne : ¬ nI a = nI b := fun z => hab (nI_inj (by omega) (by omega) z)
        rw [if_neg hne, if_neg hne]
        rcases oneTwo x3 with ⟨o1, o2, o3⟩ | ⟨o1, o2, _⟩
        · rw [o1, o2, Option.bind_some, Option.bind_some, if_neg (show ¬ (1 : Int32) = 0 by decide), if_neg (show ¬ (1 : Int32) = 0 by decide)]
          have hbit7 := nr_lt hS.1 a
          have la : fX5_areLinked wl (nI a) (nI b) = some (if (sL S a).testBit b = true then 1 else 0) := by
            unfold fX5_areLinked
            rw [rd_nI (by omega) (by decide), Option.bind_some, c2 a (by omega), c_has hbit7 (by omega), Option.bind_some]
            cases (sL S a).testBit b <;> rfl
          have lb : fX8_areLinked st (nI a) (nI b) = some (if (sL S a).testBit b = true then 1 else 0) := by
            unfold fX8_areLinked
            rw [show (1 : Int32) + nI a = nI (1 + a) from nI_add 1 a, rd_nI (by omega) (by decide), Option.bind_some, hnet.2 a (by omega), m_has hbit7 (by omega), Option.bind_some]
            cases (sL S a).testBit b <;> rfl
          rw [la, lb, Option.bind_some, Option.bind_some]
          have main : ∀ z : Int32, ∃ (r : Int32) (S' : Sd) (k' : Nat) (Ps' : Nat → Sd) (E' : Nat) (wc' : Int32) (wl' : Nat → Int32) (kn' : Int32) (R' : Nat → Nat) (pn' : Nat → Int32) (NR' : Nat → Nat) (pc'' pg' pk' pt' pd' : Nat → Int32) (pl' : Nat → Nat → Int32) (nd' al' ned' : Int32) (be' ne' : Nat → Int32) (acts' : Int32) (past' st' : Nat → Int32), jX7_link_49 (nI (sN S)) (nI (sG S)) (nI (sK S)) (nI (sT S)) (nI (sD S)) (nI a) (nI b) z (if (sL S a).testBit b = true then 1 else 0) (nI (sC S)) wl kn R pn NR pc' pg pk pt pd pl nd al ned be ne = some (r, wc', wl', kn', R', pn', NR', pc'', pg', pk', pt', pd', pl', nd', al', ned', be', ne') ∧ jX8_link_49 (nI a) (nI b) z (if (sL S a).testBit b = true then 1 else 0) acts past st = some (r, acts', past', st') ∧ sdOK S' ∧ cSd S' (nI (sN S)) wl' wc' (nI (sG S)) (nI (sK S)) (nI (sT S)) (nI (sD S)) ∧ mSd S' st' 0 ∧ cPast k' Ps' kn' pn' pc'' pg' pk' pt' pd' pl' ∧ mPast k' Ps' acts' past' ∧ NP E' nd' al' ned' be' ne' ped held len found goal seen states steps ∧ E' ≤ E + 2 := by
            intro z
            unfold jX7_link_49 jX8_link_49
            by_cases q : (if (sL S a).testBit b = true then (1 : Int32) else 0) = z
            · rw [if_pos q, if_pos q]
              exact ⟨_, S, k, Ps, E, _, _, _, _, _, _, _, _, _, _, _, _, _, _, _, _, _, _, _, _, rfl, rfl, hS, hc0, hm, hcp, hmp, hp, by omega⟩
            · rw [if_neg q, if_neg q]
              obtain ⟨R', NR', p1, p2, p3, p4, p5, p6, p7, g1, g2⟩ := c_remember (R := R) (NR := NR) hS hc0 hcp
              obtain ⟨past', g3, g4⟩ := m_notes hm hcp.2.1 hmp
              obtain ⟨wl', t1, t2⟩ := c_turnLink (nr := sL S) c2 (show a < 7 by omega) (show b < 7 by omega) hab
              obtain ⟨st1, t3, t4⟩ := m_turnsLink hm (show a < 7 by omega) (show b < 7 by omega) hab
              have hfit := trn_fit hS.1 ha hb hab
              obtain ⟨E2, be2, ne2, l1, l2, l3⟩ := c_letFoul (c := sC S) (g := sG S) hfit t2 hS.2.1 hg7 hp (by omega)
              obtain ⟨st2, u1, u2⟩ := m_fouls hfit hc7 t4
              rw [g1, Option.bind_some, t1, Option.bind_some, l1, Option.bind_some, g3, Option.bind_some, t3, Option.bind_some, (st_rd t4).1, Option.bind_some, u1, Option.bind_some, (st_rd u2).1, Option.bind_some]
              rw [show sC (sN S, trn (sL S) a b, sC S, sG S, sK S, sT S, sD S) = sC S from rfl, show sC (sN S, trn (sL S) a b, fouled (sN S) (trn (sL S) a b) (sG S) (sC S), sG S, sK S, sT S, sD S) = fouled (sN S) (trn (sL S) a b) (sG S) (sC S) from rfl, and_cm hc7, m_size (and_lt hc7), Option.bind_some]
              exact ⟨_, turnS S a b, pushK k, pushP k Ps S, E2, _, _, _, _, _, _, _, _, _, _, _, _, _, _, _, _, _, _, _, _, rfl, rfl, turnS_ok hS ha hb hab, ⟨rfl, t2, rfl, rfl, rfl, rfl, rfl⟩, u2, g2, g4, l2, by omega⟩
          by_cases x31 : x3 = 1
          · rw [if_pos x31, if_pos x31]; exact main 1
          · rw [if_neg x31, if_neg x31]; exact main 0
        · rw [o1, o2, Option.bind_some, Option.bind_some, if_pos rfl, if_pos rfl]
          exact ⟨_, S, k, Ps, E, _, _, _, _, _, _, _, _, _, _, _, _, _, _, _, _, _, _, _, _, rfl, rfl, hS, hc0, hm, hcp, hmp, hp, by omega⟩
    · rw [e2, Option.bind_some, Option.bind_some, if_pos rfl, if_pos rfl]
      exact ⟨_, S, k, Ps, E, _, _, _, _, _, _, _, _, _, _, _, _, _, _, _, _, _, _, _, _, rfl, rfl, hS, hc0, hm, hcp, hmp, hp, by omega⟩
  · rw [e1, Option.bind_some, Option.bind_some, if_pos rfl, if_pos rfl]
    exact ⟨_, S, k, Ps, E, _, _, _, _, _, _, _, _, _, _, _, _, _, _, _, _, _, _, _, _, rfl, rfl, hS, hc0, hm, hcp, hmp, hp, by omega⟩
