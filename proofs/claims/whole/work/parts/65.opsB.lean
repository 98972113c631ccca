/-! would, act, link. -/
theorem fouled_fix {n : Nat} {nr : Nat → Nat} {g x : Nat} (hx : x < 128) : fouled n nr g (fouled n nr g x) = fouled n nr g x := by
  have h := foul_fix (B := lnk n nr) (all := 2 ^ n - 1) (g := g) 7 x hx (pc_le x 7)
  unfold fouled
  exact foul_done h 7
theorem mk_ok {n : Nat} {nr : Nat → Nat} {c g ki t d : Nat} (hf : netFit n nr) (hc : c < 2 ^ n) (hg : g &&& c = g) (hk : ki < 3) (ht : 1 ≤ t ∧ t ≤ 7) (hd : d < 2 ^ 31) : sdOK (n, nr, fouled n nr g c, g, ki, t, d) := by
  have hp := pow_le hf.1.2
  have hc7 : c < 128 := Nat.lt_of_lt_of_le hc hp
  have hg7 : g < 128 := sub_lt hg hc7
  exact ⟨hf, fouled_lt hc, foul_keeps hg7 7 c hg, fouled_fix hc7, hk, ht, hd⟩
theorem cut_same {c g x : Nat} (hx : x < 128) (hg : g &&& x = g) : (c ||| g) &&& cm x = c &&& cm x := bits_ext (fun i => by
  rw [Nat.testBit_and, Nat.testBit_or, Nat.testBit_and, Bool.and_eq_true, Bool.or_eq_true, Bool.and_eq_true]
  refine ⟨fun q => ⟨q.1.elim id (fun z => ?_), q.2⟩, fun q => ⟨Or.inl q.1, q.2⟩⟩
  have hb := guard_clean hg z
  have hi : i < 7 := bit_lt hb (show x < 2 ^ 7 from hx)
  have q2 := q.2
  rw [cm_bit hi, hb] at q2
  cases q2)
theorem st_at {S : Sd} {st : Nat → Int32} (hm : mSd S st 0) : st 8 = nI (sC S) ∧ st 9 = nI (sG S) ∧ st 10 = nI (sK S) ∧ st 11 = nI (sT S) ∧ st 12 = nI (sD S) := by
  obtain ⟨_, _, a, b, c, d, e⟩ := hm
  rw [Nat.zero_add] at a b c d e
  exact ⟨a, b, c, d, e⟩
theorem st_rd {S : Sd} {st : Nat → Int32} (hm : mSd S st 0) : rd st 13 (8 : Int32) = some (nI (sC S)) ∧ rd st 13 (9 : Int32) = some (nI (sG S)) ∧ rd st 13 (10 : Int32) = some (nI (sK S)) ∧ rd st 13 (11 : Int32) = some (nI (sT S)) ∧ rd st 13 (12 : Int32) = some (nI (sD S)) := by
  obtain ⟨a, b, c, d, e⟩ := st_at hm
  refine ⟨?_, ?_, ?_, ?_, ?_⟩
  · rw [show (8 : Int32) = nI 8 from rfl, rd_nI (by decide) (by decide), a]
  · rw [show (9 : Int32) = nI 9 from rfl, rd_nI (by decide) (by decide), b]
  · rw [show (10 : Int32) = nI 10 from rfl, rd_nI (by decide) (by decide), c]
  · rw [show (11 : Int32) = nI 11 from rfl, rd_nI (by decide) (by decide), d]
  · rw [show (12 : Int32) = nI 12 from rfl, rd_nI (by decide) (by decide), e]
/-- the standing behind an act -/
def actS (S : Sd) (k : Nat) : Sd := (sN S, sL S, fouled (sN S) (sL S) (gAft k (sG S)) (sC S ||| gAft k (sG S)), gAft k (sG S), sK S, sT S, sD S)
theorem actS_ok {S : Sd} {k : Nat} (hS : sdOK S) (hk : isA (sN S) k) : sdOK (actS S k) := by
  have hg2 := sub_lt hS.2.2.1 hS.2.1
  exact mk_ok hS.1 (Nat.or_lt_two_pow hS.2.1 (gAft_lt hS.1.1.2 hk hg2)) or_sub hS.2.2.2.2.1 hS.2.2.2.2.2.1 hS.2.2.2.2.2.2
theorem act_facts {S : Sd} {k : Nat} (hS : sdOK S) (hk : isA (sN S) k) : sC S < 128 ∧ sG S < 128 ∧ gAft k (sG S) < 2 ^ sN S ∧ gAft k (sG S) < 128 ∧ sC S ||| gAft k (sG S) < 2 ^ sN S ∧ sC (actS S k) < 128 ∧ gAft k (sG S) &&& sC (actS S k) = gAft k (sG S) := by
  have hp := pow_le hS.1.1.2
  have hg2 := sub_lt hS.2.2.1 hS.2.1
  have hga := gAft_lt hS.1.1.2 hk hg2
  have ho := actS_ok hS hk
  exact ⟨Nat.lt_of_lt_of_le hS.2.1 hp, Nat.lt_of_lt_of_le hg2 hp, hga, Nat.lt_of_lt_of_le hga hp, Nat.or_lt_two_pow hS.2.1 hga, Nat.lt_of_lt_of_le ho.2.1 hp, ho.2.2.1⟩
theorem m_cleanB {S : Sd} {st : Nat → Int32} {k : Nat} (hS : sdOK S) (hm : mSd S st 0) (hk : isA (sN S) k) : fX8_cleanBehind st (nI (sC S)) (nI (sG S)) (nI k) = some (nI (sC (actS S k))) := by
  obtain ⟨f1, f2, f3, f4, f5, f6, f7⟩ := act_facts hS hk
  unfold fX8_cleanBehind
  rw [m_gAft hS.1.1.2 hk f2, Option.bind_some, fa_or, m_fouled (mSd_net hm) hS.1.1.2 (or_lt f1 f4), Option.bind_some]
  rfl
theorem m_lostBy {S : Sd} {st : Nat → Int32} {k : Nat} (hS : sdOK S) (hm : mSd S st 0) (hk : isA (sN S) k) : fX8_lostBy st (nI k) = some (nI (pc 7 (sC S &&& cm (sC (actS S k))))) := by
  obtain ⟨f1, f2, f3, f4, f5, f6, f7⟩ := act_facts hS hk
  obtain ⟨r8, r9, _, _, _⟩ := st_rd hm
  unfold fX8_lostBy
  rw [r8, Option.bind_some, Option.bind_some, r9, Option.bind_some, m_cleanB hS hm hk, Option.bind_some, and_cm f1, m_size (and_lt f1), Option.bind_some]
theorem rul_cases {nr : Nat → Nat} {ki t g k : Nat} : rul nr ki t g k = 0 ∨ rul nr ki t g k ≠ 0 := by
  by_cases h : rul nr ki t g k = 0
  · exact Or.inl h
  · exact Or.inr h
theorem op_would {S : Sd} {E : Nat} {st : Nat → Int32} {wn wc wg wk wt wd' : Int32} {wl : Nat → Int32} {nd al ned : Int32} {be ne : Nat → Int32} {ped held : Int32} {len : Nat → Int32} {found goal : Int32} {seen : Nat → Int64} {states steps : Nat → Int32} (hS : sdOK S) (hc : cSd S wn wl wc wg wk wt wd') (hm : mSd S st 0) (hp : NP E nd al ned be ne ped held len found goal seen states steps) (hE : E + 1 < 2 ^ 31) (x1 : Int32) :
    ∃ (r : Int32) (E' : Nat) (nd' al' ned' : Int32) (be' ne' : Nat → Int32), fX7_would wn wc wg wk wt wl nd al ned be ne x1 = some (r, nd', al', ned', be', ne') ∧ fX8_would st x1 = some r ∧ NP E' nd' al' ned' be' ne' ped held len found goal seen states steps ∧ E' ≤ E + 1 := by
  obtain ⟨rfl, c2, rfl, rfl, rfl, rfl, rfl⟩ := hc
  obtain ⟨r8, r9, r10, r11, r12⟩ := st_rd hm
  obtain ⟨E', be', ne', a1, a2, a3, a4⟩ := op_ruling hS c2 hm hp hE x1
  unfold fX7_would fX8_would
  rcases a4 with ⟨b1, b2⟩ | ⟨k, h1, rfl, b1, b2, b3⟩
  · rw [b1, Option.bind_some, b2, Option.bind_some, if_pos rfl]
    dsimp only
    rw [if_neg (by decide)]
    exact ⟨_, E', _, _, _, _, _, rfl, rfl, a3, a1⟩
  · obtain ⟨f1, f2, f3, f4, f5, f6, f7⟩ := act_facts hS h1
    rw [b1, Option.bind_some, b2, Option.bind_some, if_neg (show ¬ (1 : Int32) = 0 by decide), r10, Option.bind_some, r11, Option.bind_some, r9, Option.bind_some, b3, Option.bind_some]
    dsimp only
    by_cases z : rul (sL S) (sK S) (sT S) (sG S) k = 0
    · rw [if_pos z, if_pos z, c_gAft hS.1.1.2 h1 f2, Option.bind_some, fa_or, c_fouled a2 hS.1.1.2 (nr_lt hS.1) f4 f5, Option.bind_some, m_lostBy hS hm h1, Option.bind_some, and_cm f1]
      rw [show fouled (sN S) (sL S) (gAft k (sG S)) (sC S ||| gAft k (sG S)) = sC (actS S k) from rfl, c_bits _ (and_lt f1), Option.bind_some]
      exact ⟨_, E', _, _, _, _, _, rfl, rfl, a3, a1⟩
    · rw [if_neg z, if_neg z]
      exact ⟨_, E', _, _, _, _, _, rfl, rfl, a3, a1⟩
theorem c_letFoul {n : Nat} {nr : Nat → Nat} {c g E : Nat} {wl : Nat → Int32} {nd al ned : Int32} {be ne : Nat → Int32} {ped held : Int32} {len : Nat → Int32} {found goal : Int32} {seen : Nat → Int64} {states steps : Nat → Int32} (hf : netFit n nr) (hw : ∀ v, v < 7 → wl v = nI (nr v)) (hc : c < 2 ^ n) (hg : g < 128) (hp : NP E nd al ned be ne ped held len found goal seen states steps) (hE : E + 1 < 2 ^ 31) :
    ∃ (E' : Nat) (be' ne' : Nat → Int32), fX7_letFoul (nI n) (nI c) (nI g) wl nd al ned be ne = some (nI (pc 7 (c &&& cm (fouled n nr g c))), nI (fouled n nr g c), nI n, nI (2 ^ n - 1), nI E', be', ne') ∧ NP E' (nI n) (nI (2 ^ n - 1)) (nI E') be' ne' ped held len found goal seen states steps ∧ E' ≤ E + 1 := by
  obtain ⟨E', be', ne', a1, a2, a3, a4, a5, a6⟩ := c_cur hf hw hp hE
  have hc7 : c < 128 := Nat.lt_of_lt_of_le hc (pow_le hf.1.2)
  refine ⟨E', be', ne', ?_, NP_of hf a2 a4 a5 a6, a3⟩
  unfold fX7_letFoul
  rw [a1, Option.bind_some]
  dsimp only
  rw [c_fouled a2 hf.1.2 (nr_lt hf) hg hc, Option.bind_some, and_cm hc7, c_bits _ (and_lt hc7), Option.bind_some]
theorem m_set {S : Sd} {st : Nat → Int32} {c g : Nat} (hm : mSd S st 0) : mSd (sN S, sL S, c, g, sK S, sT S, sD S) (upd (upd st 9 (nI g)) 8 (nI c)) 0 := by
  obtain ⟨a, b, _, _, e, f, h⟩ := hm
  refine ⟨?_, fun v hv => ?_, ?_, ?_, ?_, ?_, ?_⟩
  · rw [pk_un (by decide), pk_un (by decide)]; exact a
  · rw [pk_un (by omega), pk_un (by omega)]; exact b v hv
  · rw [Nat.zero_add, pk_us]; rfl
  · rw [Nat.zero_add, pk_un (by decide), pk_us]; rfl
  · rw [pk_un (by decide), pk_un (by decide)]; exact e
  · rw [pk_un (by decide), pk_un (by decide)]; exact f
  · rw [pk_un (by decide), pk_un (by decide)]; exact h
theorem op_act {S : Sd} {E k : Nat} {Ps : Nat → Sd} {st past : Nat → Int32} {acts : Int32} {wn wc wg wk wt wd' kn : Int32} {wl : Nat → Int32} {R NR : Nat → Nat} {pn pc' pg pk pt pd : Nat → Int32} {pl : Nat → Nat → Int32} {nd al ned : Int32} {be ne : Nat → Int32} {ped held : Int32} {len : Nat → Int32} {found goal : Int32} {seen : Nat → Int64} {states steps : Nat → Int32} (hS : sdOK S) (hc : cSd S wn wl wc wg wk wt wd') (hm : mSd S st 0) (hcp : cPast k Ps kn pn pc' pg pk pt pd pl) (hmp : mPast k Ps acts past) (hp : NP E nd al ned be ne ped held len found goal seen states steps) (hE : E + 2 < 2 ^ 31) (x1 : Int32) :
    ∃ (r : Int32) (S' : Sd) (k' : Nat) (Ps' : Nat → Sd) (E' : Nat) (wc' wg' kn' : Int32) (R' : Nat → Nat) (pn' : Nat → Int32) (NR' : Nat → Nat) (pc'' pg' pk' pt' pd' : Nat → Int32) (pl' : Nat → Nat → Int32) (nd' al' ned' : Int32) (be' ne' : Nat → Int32) (acts' : Int32) (past' st' : Nat → Int32), fX7_act wn wc wg wk wt wd' wl kn R pn NR pc' pg pk pt pd pl nd al ned be ne x1 = some (r, wc', wg', kn', R', pn', NR', pc'', pg', pk', pt', pd', pl', nd', al', ned', be', ne') ∧ fX8_act acts past st x1 = some (r, acts', past', st') ∧ sdOK S' ∧ cSd S' wn wl wc' wg' wk wt wd' ∧ mSd S' st' 0 ∧ cPast k' Ps' kn' pn' pc'' pg' pk' pt' pd' pl' ∧ mPast k' Ps' acts' past' ∧ NP E' nd' al' ned' be' ne' ped held len found goal seen states steps ∧ E' ≤ E + 2 := by
  have hc0 := hc
  obtain ⟨rfl, c2, rfl, rfl, rfl, rfl, rfl⟩ := hc
  obtain ⟨r8, r9, r10, r11, r12⟩ := st_rd hm
  obtain ⟨E', be', ne', a1, a2, a3, a4⟩ := op_ruling hS c2 hm hp (by omega) x1
  unfold fX7_act fX8_act
  rcases a4 with ⟨b1, b2⟩ | ⟨j, h1, rfl, b1, b2, b3⟩
  · rw [b1, Option.bind_some, b2, Option.bind_some, if_pos rfl]
    dsimp only
    rw [if_neg (by decide)]
    exact ⟨_, S, k, Ps, E', _, _, _, _, _, _, _, _, _, _, _, _, _, _, _, _, _, _, _, _, rfl, rfl, hS, hc0, hm, hcp, hmp, a3, by omega⟩
  · obtain ⟨f1, f2, f3, f4, f5, f6, f7⟩ := act_facts hS h1
    rw [b1, Option.bind_some, b2, Option.bind_some, if_neg (show ¬ (1 : Int32) = 0 by decide), r10, Option.bind_some, r11, Option.bind_some, r9, Option.bind_some, b3, Option.bind_some]
    dsimp only
    by_cases z : rul (sL S) (sK S) (sT S) (sG S) j = 0
    · obtain ⟨R', NR', p1, p2, p3, p4, p5, p6, p7, g1, g2⟩ := c_remember (R := R) (NR := NR) hS hc0 hcp
      obtain ⟨past', g3, g4⟩ := m_notes hm hcp.2.1 hmp
      obtain ⟨E2, be2, ne2, l1, l2, l3⟩ := c_letFoul (c := sC S ||| gAft j (sG S)) (g := gAft j (sG S)) hS.1 c2 f5 f4 a3 (by omega)
      rw [if_pos z, if_pos z, g1, Option.bind_some, c_gAft hS.1.1.2 h1 f2, Option.bind_some, fa_or, l1, Option.bind_some, g3, Option.bind_some, m_lostBy hS hm h1, Option.bind_some, r8, Option.bind_some, Option.bind_some, m_cleanB hS hm h1, Option.bind_some, Option.bind_some, m_gAft hS.1.1.2 h1 f2, Option.bind_some, show (9 : Int32) = nI 9 from rfl, show (8 : Int32) = nI 8 from rfl, wi_nI (by decide) (by decide), Option.bind_some, wi_nI (by decide) (by decide), Option.bind_some]
      have e1 : (sC S ||| gAft j (sG S)) &&& cm (fouled (sN S) (sL S) (gAft j (sG S)) (sC S ||| gAft j (sG S))) = sC S &&& cm (sC (actS S j)) := cut_same f6 f7
      rw [e1]
      exact ⟨_, actS S j, pushK k, pushP k Ps S, E2, _, _, _, _, _, _, _, _, _, _, _, _, _, _, _, _, _, _, _, _, rfl, rfl, actS_ok hS h1, ⟨rfl, c2, rfl, rfl, rfl, rfl, rfl⟩, m_set hm, g2, g4, l2, by omega⟩
    · rw [if_neg z, if_neg z]
      exact ⟨_, S, k, Ps, E', _, _, _, _, _, _, _, _, _, _, _, _, _, _, _, _, _, _, _, _, rfl, rfl, hS, hc0, hm, hcp, hmp, a3, by omega⟩
