/-! image, restore, type. -/
theorem c_pastBe {k : Nat} {Ps : Nat → Sd} {kn bn : Int32} {pn pc' pg pk pt pd qn qc qg qk qt qd : Nat → Int32} {pl ql : Nat → Nat → Int32} (h : cPast k Ps kn pn pc' pg pk pt pd pl) :
    ∃ qn' qc' qg' qk' qt' qd' ql', fX1_become kn pn pc' pg pk pt pd pl bn qn qc qg qk qt qd ql = some (kn, qn', qc', qg', qk', qt', qd', ql') ∧ cPast k Ps kn qn' qc' qg' qk' qt' qd' ql' := by
  obtain ⟨rfl, hk, hp⟩ := h
  obtain ⟨x, f1, qn', qc', qg', qk', qt', qd', ql', rfl, f2⟩ := itL_rel (b := bX1_become_10 (nI k) pn pc' pg pk pt pd pl (nI k))
    (fun i v => ∃ qn' qc' qg' qk' qt' qd' ql', v = (nI i, qn', qc', qg', qk', qt', qd', ql') ∧ ∀ j, j < i → sdOK (Ps j) ∧ cSd (Ps j) (qn' j) (ql' j) (qc' j) (qg' j) (qk' j) (qt' j) (qd' j))
    (fun v => ∃ qn' qc' qg' qk' qt' qd' ql', v = (nI k, qn', qc', qg', qk', qt', qd', ql') ∧ ∀ j, j < k → sdOK (Ps j) ∧ cSd (Ps j) (qn' j) (ql' j) (qc' j) (qg' j) (qk' j) (qt' j) (qd' j)) k
    (by
      rintro i v hi ⟨qn', qc', qg', qk', qt', qd', ql', rfl, q⟩
      obtain ⟨h1, h2⟩ := hp i hi
      obtain ⟨bl, b1, b2⟩ := c_become (b1 := qn' i) (b2 := qc' i) (b3 := qg' i) (b4 := qk' i) (b5 := qt' i) (b6 := qd' i) (bl := ql' i) h2
      refine Or.inl ⟨(nI (i + 1), va_up qn' i (pn i), va_up qc' i (pc' i), va_up qg' i (pg i), va_up qk' i (pk i), va_up qt' i (pt i), va_up qd' i (pd i), va_up ql' i bl), ?_, _, _, _, _, _, _, _, rfl, fun j hj => ?_⟩
      · unfold bX1_become_10
        dsimp only
        rw [if_neg (show ¬ nI k ≤ nI i from nI_ge hi (by omega)), sel6_at (show i < 6 by omega), b1, Option.bind_some, nI_1]
      · unfold va_up
        by_cases e : j = i
        · rw [if_pos e, if_pos e, if_pos e, if_pos e, if_pos e, if_pos e, if_pos e, e]
          exact ⟨h1, b2⟩
        · rw [if_neg e, if_neg e, if_neg e, if_neg e, if_neg e, if_neg e, if_neg e]
          exact q j (by omega))
    (by
      rintro v ⟨qn', qc', qg', qk', qt', qd', ql', rfl, q⟩
      refine ⟨(nI k, qn', qc', qg', qk', qt', qd', ql'), ?_, _, _, _, _, _, _, _, rfl, q⟩
      unfold bX1_become_10
      dsimp only
      rw [if_pos (show nI k ≤ nI k from nI_le (Nat.le_refl _) (by omega))])
    fu ((0 : Int32), qn, qc, qg, qk, qt, qd, ql) ⟨_, _, _, _, _, _, _, rfl, fun j hj => absurd hj (by omega)⟩ (by show k < 5000; omega)
  refine ⟨qn', qc', qg', qk', qt', qd', ql', ?_, rfl, hk, f2⟩
  unfold fX1_become
  rw [f1, Option.bind_some]
/-- the image that is kept -/
def imgR (has : Int32) (kn' : Int32) (kl : Nat → Int32) (kc kg kk kt kd : Int32) (bn : Int32) (qn qc qg qk qt qd : Nat → Int32) (ql : Nat → Nat → Int32) (iacts : Int32) (image ipast : Nat → Int32) : Prop :=
  (has = 0 ∧ iacts < 0) ∨ (¬ has = 0 ∧ ∃ S k Ps, sdOK S ∧ cSd S kn' kl kc kg kk kt kd ∧ mSd S image 0 ∧ cPast k Ps bn qn qc qg qk qt qd ql ∧ mPast k Ps iacts ipast)
theorem m_bring0 {n : Nat} {f t : Nat → Int32} (h : n < 200) : ∃ g, fX8_bring n n f t (0 : Int32) (0 : Int32) (nI n) = some g ∧ ∀ x, x < n → g x = f x := by
  have e := m_bring (n0 := n) (n1 := n) (i := 0) (j := 0) (n := n) (f := f) (t := t) (by omega) (by omega) h h
  refine ⟨_, e, fun x hx => ?_⟩
  rw [if_pos (by omega)]
  congr 1
  omega
theorem mSd_0 {S : Sd} {f g : Nat → Int32} (h : mSd S f 0) (e : ∀ d, d < 13 → g d = f d) : mSd S g 0 := mSd_to h (fun d hd => by rw [Nat.zero_add]; exact e d hd)
theorem mPast_to {k : Nat} {Ps : Nat → Sd} {acts : Int32} {f g : Nat → Int32} (hk : k ≤ 6) (h : mPast k Ps acts f) (e : ∀ d, d < 78 → g d = f d) : mPast k Ps acts g := ⟨h.1, fun i hi => mSd_to (h.2 i hi) (fun d hd => e _ (by omega))⟩
theorem op_image {S : Sd} {k : Nat} {Ps : Nat → Sd} {st past image ipast : Nat → Int32} {acts iacts has : Int32} {wn wc wg wk wt wd' kn kn' kc kg kk kt kd bn : Int32} {wl kl : Nat → Int32} {pn pc' pg pk pt pd qn qc qg qk qt qd : Nat → Int32} {pl ql : Nat → Nat → Int32} (hS : sdOK S) (hc : cSd S wn wl wc wg wk wt wd') (hm : mSd S st 0) (hcp : cPast k Ps kn pn pc' pg pk pt pd pl) (hmp : mPast k Ps acts past) :
    ∃ (has' b1 b2 b3 b4 b5 b6 : Int32) (bl : Nat → Int32) (bk : Int32) (qn' qc' qg' qk' qt' qd' : Nat → Int32) (ql' : Nat → Nat → Int32) (iacts' : Int32) (im' ip' : Nat → Int32), fX7_image has kn' kc kg kk kt kd kl bn qn qc qg qk qt qd ql wn wc wg wk wt wd' wl kn pn pc' pg pk pt pd pl = some (1, has', b1, b2, b3, b4, b5, b6, bl, bk, qn', qc', qg', qk', qt', qd', ql') ∧ fX8_image acts iacts image ipast past st = some (1, iacts', im', ip') ∧ imgR has' b1 bl b2 b3 b4 b5 b6 bk qn' qc' qg' qk' qt' qd' ql' iacts' im' ip' := by
  obtain ⟨bl, b1, b2⟩ := c_become (b1 := kn') (b2 := kc) (b3 := kg) (b4 := kk) (b5 := kt) (b6 := kd) (bl := kl) hc
  obtain ⟨q1, q2, q3, q4, q5, q6, q7, b3, b4⟩ := c_pastBe (bn := bn) (qn := qn) (qc := qc) (qg := qg) (qk := qk) (qt := qt) (qd := qd) (ql := ql) hcp
  obtain ⟨im', m1, m2⟩ := m_bring0 (n := 13) (f := st) (t := image) (by decide)
  obtain ⟨ip', m3, m4⟩ := m_bring0 (n := 78) (f := past) (t := ipast) (by decide)
  unfold fX7_image fX8_image
  rw [b1, Option.bind_some, b3, Option.bind_some, show (13 : Int32) = nI 13 from rfl, m1, Option.bind_some, show (78 : Int32) = nI 78 from rfl, m3, Option.bind_some]
  exact ⟨_, _, _, _, _, _, _, _, _, _, _, _, _, _, _, _, _, _, _, rfl, rfl, Or.inr ⟨by decide, S, k, Ps, hS, b2, mSd_0 hm m2, b4, mPast_to hcp.2.1 hmp m4⟩⟩
theorem op_restore {S : Sd} {k : Nat} {Ps : Nat → Sd} {st past image ipast : Nat → Int32} {acts iacts has : Int32} {wn wc wg wk wt wd' kn kn' kc kg kk kt kd bn : Int32} {wl kl : Nat → Int32} {pn pc' pg pk pt pd qn qc qg qk qt qd : Nat → Int32} {pl ql : Nat → Nat → Int32} (hS : sdOK S) (hc : cSd S wn wl wc wg wk wt wd') (hm : mSd S st 0) (hcp : cPast k Ps kn pn pc' pg pk pt pd pl) (hmp : mPast k Ps acts past) (hi : imgR has kn' kl kc kg kk kt kd bn qn qc qg qk qt qd ql iacts image ipast) :
    ∃ (r : Int32) (S' : Sd) (k' : Nat) (Ps' : Nat → Sd) (b1 b2 b3 b4 b5 b6 : Int32) (bl : Nat → Int32) (bk : Int32) (qn' qc' qg' qk' qt' qd' : Nat → Int32) (ql' : Nat → Nat → Int32) (acts' : Int32) (past' st' : Nat → Int32), fX7_restore has kn' kc kg kk kt kd kl bn qn qc qg qk qt qd ql wn wc wg wk wt wd' wl kn pn pc' pg pk pt pd pl = some (r, b1, b2, b3, b4, b5, b6, bl, bk, qn', qc', qg', qk', qt', qd', ql') ∧ fX8_restore acts iacts image ipast past st = some (r, acts', past', st') ∧ sdOK S' ∧ cSd S' b1 bl b2 b3 b4 b5 b6 ∧ mSd S' st' 0 ∧ cPast k' Ps' bk qn' qc' qg' qk' qt' qd' ql' ∧ mPast k' Ps' acts' past' := by
  unfold fX7_restore fX8_restore
  rcases hi with ⟨h1, h2⟩ | ⟨h1, S1, k1, Ps1, i1, i2, i3, i4, i5⟩
  · rw [if_pos h1, if_neg (show ¬ 0 ≤ iacts from Int32.not_le.mpr h2)]
    exact ⟨_, S, k, Ps, _, _, _, _, _, _, _, _, _, _, _, _, _, _, _, _, _, _, rfl, rfl, hS, hc, hm, hcp, hmp⟩
  · have h2 : 0 ≤ iacts := by
      rw [i5.1, l0]
      exact nI_le (Nat.zero_le _) (by have := i4.2.1; omega)
    rw [if_neg h1, if_pos h2]
    obtain ⟨bl, b1, b2⟩ := c_become (b1 := wn) (b2 := wc) (b3 := wg) (b4 := wk) (b5 := wt) (b6 := wd') (bl := wl) i2
    obtain ⟨q1, q2, q3, q4, q5, q6, q7, b3, b4⟩ := c_pastBe (bn := kn) (qn := pn) (qc := pc') (qg := pg) (qk := pk) (qt := pt) (qd := pd) (ql := pl) i4
    obtain ⟨im', m1, m2⟩ := m_bring0 (n := 13) (f := image) (t := st) (by decide)
    obtain ⟨ip', m3, m4⟩ := m_bring0 (n := 78) (f := ipast) (t := past) (by decide)
    rw [b1, Option.bind_some, b3, Option.bind_some, show (13 : Int32) = nI 13 from rfl, m1, Option.bind_some, show (78 : Int32) = nI 78 from rfl, m3, Option.bind_some]
    exact ⟨_, S1, k1, Ps1, _, _, _, _, _, _, _, _, _, _, _, _, _, _, _, _, _, _, rfl, rfl, i1, b2, mSd_0 i3 m2, b4, mPast_to i4.2.1 i5 m4⟩
/-- the letters typed so far -/
def tapR (T : Nat) (L : Nat → Nat) (len : Int32) (lets : Nat → Int32) (tm : Int32) (tape : Nat → Int32) : Prop := T ≤ 90 ∧ len = nI T ∧ tm = nI T ∧ ∀ i, i < T → (32 ≤ L i ∧ L i ≤ 126) ∧ lets i = nI (L i) ∧ tape i = nI (L i)
theorem op_type {T : Nat} {L : Nat → Nat} {len tm : Int32} {lets tape : Nat → Int32} (h : tapR T L len lets tm tape) (x1 : Int32) :
    ∃ (r : Int32) (T' : Nat) (L' : Nat → Nat) (len' : Int32) (lets' : Nat → Int32) (tm' : Int32) (tape' : Nat → Int32), fX7_type len lets x1 = some (r, len', lets') ∧ fX8_type tm tape x1 = some (r, tm', tape') ∧ tapR T' L' len' lets' tm' tape' := by
  have h0 := h
  obtain ⟨hT, rfl, rfl, hL⟩ := h
  unfold fX7_type fX8_type
  rw [show (32 : Int64) = (nI 32).toInt64 from by decide, show (126 : Int64) = (nI 126).toInt64 from by decide]
  rcases m_inN (a := 32) (b := 126) (by decide) (by decide) x1 with ⟨j, h1, h2, rfl, h4, h5, h6⟩ | ⟨h1, h2⟩
  · rw [h4, Option.bind_some, if_neg (show ¬ (1 : Int32) = 0 by decide), if_neg (show ¬ nI j < (32 : Int32) from h5), if_pos (show nI j ≤ (126 : Int32) from nI_le (b := 126) h2 (by decide))]
    unfold fX6_takes
    by_cases q : T = 90
    · subst q
      rw [if_neg (show ¬ nI 90 < (90 : Int32) by decide), Option.bind_some, if_pos (show nI 90 = (90 : Int32) from rfl)]
      dsimp only
      rw [if_pos rfl]
      exact ⟨_, 90, L, _, _, _, _, rfl, rfl, h0⟩
    · rw [if_pos (show nI T < (90 : Int32) from nI_lt (b := 90) (by omega) (by decide)), if_neg (show ¬ nI T = (90 : Int32) from fun z => q (nI_inj (a := T) (b := 90) (by omega) (by decide) z)), wi_nI (by omega) (by decide), Option.bind_some, Option.bind_some, wi_nI (by omega) (by decide), Option.bind_some, nI_1]
      dsimp only
      rw [if_neg (show ¬ (1 : Int32) = 0 by decide)]
      refine ⟨_, T + 1, fun i => if i = T then j else L i, _, _, _, _, rfl, rfl, by omega, rfl, rfl, fun i hi => ?_⟩
      dsimp only
      by_cases e : i = T
      · subst e
        rw [if_pos rfl, pk_us, pk_us]
        exact ⟨⟨h1, h2⟩, rfl, rfl⟩
      · rw [if_neg e, pk_un e, pk_un e]
        exact hL i (by omega)
  · rw [h1, Option.bind_some, if_pos rfl]
    rcases h2 with h2 | ⟨h2, h3⟩
    · rw [if_pos (show x1 < (32 : Int32) from h2)]
      exact ⟨_, T, L, _, _, _, _, rfl, rfl, h0⟩
    · rw [if_neg (show ¬ x1 < (32 : Int32) from h2), if_neg (show ¬ x1 ≤ (126 : Int32) from Int32.not_le.mpr h3)]
      exact ⟨_, T, L, _, _, _, _, rfl, rfl, h0⟩
