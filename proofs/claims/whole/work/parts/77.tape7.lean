/-! read, on both sides. -/
theorem ltr_0 {T : Nat} {L : Nat → Nat} {f : Nat → Int32} {s : Nat} (hf : lett T L f) : ltr T L s = 0 ↔ ¬ s < T := by
  unfold ltr
  by_cases q : s < T
  · rw [if_pos q]
    have h := (hf.2 s q).1
    exact ⟨fun z => absurd z (nI_ne0 (by omega) (by omega)), fun z => absurd q z⟩
  · rw [if_neg q]
    exact ⟨fun _ => q, fun _ => rfl⟩
/-- behind the shape: the end, or a fault -/
theorem both_tail {T : Nat} {L : Nat → Nat} {f g : Nat → Int32} {nd a b ra isf tm : Int32} {nr td : Nat → Int32} (hf : lett T L f) (hg : lett T L g) (h : (∃ n, (2 ≤ n ∧ n ≤ 7) ∧ nd = nI n ∧ tm = nI n ∧ rdOK T L n (-1) a b nr ra isf td) ∨ (∃ q w, q ≤ T ∧ w ≤ T ∧ skp T L w = w ∧ a = nI q ∧ b = nI w ∧ ra = nI w ∧ isf = 1)) :
    ∃ at' fl ra' isf' lk ra2, Option.bind (fX6_skipBlanks (nI T) a f) (fun r10 => (if b = (-1 : Int32) then (if nI T ≤ r10 then jX6_faultOfText_75 (nI T) f nd r10 b nr else jX6_faultOfText_75 (nI T) f nd r10 r10 nr) else jX6_faultOfText_75 (nI T) f nd r10 b nr)) = some (fl, nd, at', fl, nr) ∧ jX8_readsAll_57 (nI T) g ra isf tm td = some (ra', isf', tm, td) ∧ fX8_looks (nI T) ra' g = some (lk, ra2) ∧ ((fl = -1 ∧ isf' = 0 ∧ ∃ n N, nd = nI n ∧ tm = nI n ∧ netFit n N ∧ told7 nr N ∧ told7 td N) ∨ (∃ w, w ≤ T ∧ fl = nI w ∧ isf' = 1 ∧ ra2 = nI w)) := by
  have hT := hf.1
  have fault : ∀ q w, q ≤ T → w ≤ T → skp T L w = w → a = nI q → b = nI w → ra = nI w → isf = 1 → ∃ at' fl ra' isf' lk ra2, Option.bind (fX6_skipBlanks (nI T) a f) (fun r10 => (if b = (-1 : Int32) then (if nI T ≤ r10 then jX6_faultOfText_75 (nI T) f nd r10 b nr else jX6_faultOfText_75 (nI T) f nd r10 r10 nr) else jX6_faultOfText_75 (nI T) f nd r10 b nr)) = some (fl, nd, at', fl, nr) ∧ jX8_readsAll_57 (nI T) g ra isf tm td = some (ra', isf', tm, td) ∧ fX8_looks (nI T) ra' g = some (lk, ra2) ∧ ((fl = -1 ∧ isf' = 0 ∧ ∃ n N, nd = nI n ∧ tm = nI n ∧ netFit n N ∧ told7 nr N ∧ told7 td N) ∨ (∃ w, w ≤ T ∧ fl = nI w ∧ isf' = 1 ∧ ra2 = nI w)) := by
    rintro q w hq hw hs rfl rfl rfl rfl
    unfold jX8_readsAll_57 jX8_readsAll_72 jX8_readsAll_77 jX6_faultOfText_75
    rw [c_skip hf hq, Option.bind_some, if_neg (m1_ne (show w < 2 ^ 31 by omega)), if_neg (show ¬ (1 : Int32) = 0 by decide), bz_1, Option.bind_some]
    exact ⟨_, _, _, _, _, _, rfl, rfl, m_looks hg hw, Or.inr ⟨w, hw, rfl, rfl, by rw [hs]⟩⟩
  rcases h with ⟨n, hn, rfl, rfl, ⟨q, N', hq, hN, t1, t2, rfl, rfl, rfl, rfl⟩ | ⟨q, w, hq, hw, hs, e1, e2, e3, e4⟩⟩ | ⟨q, w, hq, hw, hs, e1, e2, e3, e4⟩
  · obtain ⟨s1, s2, s3⟩ := skp_b (L := L) hq
    unfold jX8_readsAll_57 jX8_readsAll_72 jX8_readsAll_77 jX6_faultOfText_75
    rw [c_skip hf hq, Option.bind_some, if_pos rfl, if_pos rfl, m_looks hg hq, Option.bind_some]
    dsimp only
    by_cases z : skp T L q < T
    · rw [if_neg (show ¬ nI T ≤ nI (skp T L q) from nI_ge z (by omega)), if_neg (fun w => ((ltr_0 hf).mp w) z), bz_1, Option.bind_some]
      exact ⟨_, _, _, _, _, _, rfl, rfl, m_looks hg s2, Or.inr ⟨_, s2, rfl, rfl, by rw [skp_skp hq]⟩⟩
    · rw [if_pos (nI_le (show T ≤ skp T L q by omega) (by omega)), if_pos ((ltr_0 hf).mpr z), bz_0, Option.bind_some]
      exact ⟨_, _, _, _, _, _, rfl, rfl, m_looks hg s2, Or.inl ⟨rfl, rfl, n, N', rfl, rfl, hN, t1, t2⟩⟩
  · exact fault q w hq hw hs e1 e2 e3 e4
  · exact fault q w hq hw hs e1 e2 e3 e4
theorem both_text {T : Nat} {L : Nat → Nat} {f g near told : Nat → Int32} {c1 c2 c3 m1 m2 m3 : Int32} (hf : lett T L f) (hg : lett T L g) :
    ∃ fl nd at' nr ra isf tm td lk ra2, fX6_faultOfText (nI T) c1 c2 c3 f near = some (fl, nd, at', fl, nr) ∧ fX8_readsAll (nI T) m1 m2 m3 g told = some (ra, isf, tm, td) ∧ fX8_looks (nI T) ra g = some (lk, ra2) ∧ ((fl = -1 ∧ isf = 0 ∧ ∃ n N, nd = nI n ∧ tm = nI n ∧ netFit n N ∧ told7 nr N ∧ told7 td N) ∨ (∃ w, w ≤ T ∧ fl = nI w ∧ isf = 1 ∧ ra2 = nI w)) := by
  obtain ⟨x, z1, z2⟩ := c_zero7 (a := nI T) (b := 0) (c := 0) (d := 0) (e := -1) (f := f) (near := near)
  obtain ⟨y, z3, z4⟩ := m_zero7 (a := nI T) (c := 0) (d := 0) (e := m3) (f := g) (near := told)
  unfold fX6_faultOfText fX8_readsAll
  rw [z1, z3, Option.bind_some, Option.bind_some]
  have bn := both_name (ft := -1) (x := 0) hf hg (p := 0) (Nat.zero_le T)
  rw [show nI 0 = (0 : Int32) from rfl] at bn
  rcases bn with ⟨i, q, hi, hq, e1, e2⟩ | ⟨q, hq, e1, e2⟩
  · rw [e1, e2, Option.bind_some, Option.bind_some]
    dsimp only
    by_cases h5 : i = 5
    · subst h5
      obtain ⟨nd, a, b, nr, ra, isf, td, tm, r1, r2, r3⟩ := both_grid (ft := -1) (nd0 := 0) (tm0 := m3) hf hg hq z2 z4
      obtain ⟨at', fl, ra', isf', lk, ra2, u1, u2, u3, u4⟩ := both_tail hf hg r3
      have e6 : fX6_readShape (nI T) 0 (nI q) (-1) f x.2 (nI (5 + 1)) = some (nd, a, b, nr) := by
        unfold fX6_readShape
        rw [if_neg (by decide), if_pos (by decide), r1, Option.bind_some]
      rw [e6, Option.bind_some, if_pos (by decide), r2, Option.bind_some]
      exact ⟨_, _, _, _, _, _, _, _, _, _, u1, u2, u3, u4⟩
    · obtain ⟨nd, a, b, nr, ra, isf, td, tm, r1, r2, r3⟩ := both_others (i := i) (ft := -1) (nd0 := 0) (tm0 := m3) hf hg hq (by omega) z2 z4
      obtain ⟨at', fl, ra', isf', lk, ra2, u1, u2, u3, u4⟩ := both_tail hf hg r3
      rw [r1, Option.bind_some, if_neg (show ¬ nI i = (5 : Int32) from fun z => h5 (nI_inj (a := i) (b := 5) (by omega) (by decide) z)), if_neg (nI_pos (show i < 2 ^ 31 by omega)), r2, Option.bind_some]
      exact ⟨_, _, _, _, _, _, _, _, _, _, u1, u2, u3, u4⟩
  · obtain ⟨s1, s2, s3⟩ := skp_b (T := T) (L := L) (Nat.zero_le T)
    rw [e1, e2, Option.bind_some, Option.bind_some]
    dsimp only
    obtain ⟨at', fl, ra', isf', lk, ra2, u1, u2, u3, u4⟩ := both_tail (nd := 0) (tm := m3) (nr := x.2) (td := y.2) (a := nI q) (b := nI (skp T L 0)) (ra := nI (skp T L 0)) (isf := 1) hf hg (Or.inr ⟨q, skp T L 0, hq, s2, skp_skp (Nat.zero_le T), rfl, rfl, rfl, rfl⟩)
    have e6 : fX6_readShape (nI T) 0 (nI q) (nI (skp T L 0)) f x.2 0 = some (0, nI q, nI (skp T L 0), x.2) := by
      unfold fX6_readShape
      rw [if_pos rfl]
    rw [e6, Option.bind_some, if_neg (by decide), if_pos (by decide)]
    exact ⟨_, _, _, _, _, _, _, _, _, _, u1, u2, u3, u4⟩
theorem fouled_00 {n : Nat} {nr : Nat → Nat} : fouled n nr 0 0 = 0 := by
  have := foul_sub (B := lnk n nr) (all := 2 ^ n - 1) (g := 0) 7 0
  rw [Nat.and_zero] at this
  exact this.symm
theorem m_newNet {S : Sd} {n : Nat} {N : Nat → Nat} {st td : Nat → Int32} (hm : mSd S st 0) (ht : told7 td N) : ∃ g8 r10, wi st 13 (0 : Int32) (nI n) = some g8 ∧ fX8_bring 7 13 td g8 (0 : Int32) (1 : Int32) (7 : Int32) = some r10 ∧ wi r10 13 (8 : Int32) (0 : Int32) = some (upd r10 8 0) ∧ wi (upd r10 8 0) 13 (9 : Int32) (0 : Int32) = some (upd (upd r10 8 0) 9 0) ∧ mSd (n, N, 0, 0, sK S, sT S, sD S) (upd (upd r10 8 0) 9 0) 0 := by
  obtain ⟨_, _, _, _, h10, h11, h12⟩ := hm
  have hb := m_bring (n0 := 7) (n1 := 13) (i := 0) (j := 1) (n := 7) (f := td) (t := upd st 0 (nI n)) (by decide) (by decide) (by decide) (by decide)
  refine ⟨upd st 0 (nI n), _, ?_, hb, ?_, ?_, ?_, fun v hv => ?_, ?_, ?_, ?_, ?_, ?_⟩
  · rw [show (0 : Int32) = nI 0 from rfl, wi_nI (by decide) (by decide)]
  · rw [show (8 : Int32) = nI 8 from rfl, wi_nI (by decide) (by decide)]
  · rw [show (9 : Int32) = nI 9 from rfl, wi_nI (by decide) (by decide)]
  · rw [pk_un (by decide), pk_un (by decide), if_neg (by omega), pk_us]; rfl
  · rw [pk_un (by omega), pk_un (by omega), if_pos (by omega), show 0 + (0 + 1 + v - 1) = v by omega]
    exact ht v hv
  · rw [Nat.zero_add, pk_un (by decide), pk_us]; rfl
  · rw [Nat.zero_add, pk_us]; rfl
  · rw [pk_un (by decide), pk_un (by decide), if_neg (by omega), pk_un (by decide)]; exact h10
  · rw [pk_un (by decide), pk_un (by decide), if_neg (by omega), pk_un (by decide)]; exact h11
  · rw [pk_un (by decide), pk_un (by decide), if_neg (by omega), pk_un (by decide)]; exact h12
theorem op_read {S : Sd} {k T : Nat} {Ps : Nat → Sd} {L : Nat → Nat} {st past tape told lets tnear : Nat → Int32} {acts tm len ra isf tMany tn ta tf : Int32} {wn wc wg wk wt wd' kn : Int32} {wl : Nat → Int32} {R NR : Nat → Nat} {pn pc' pg pk pt pd : Nat → Int32} {pl : Nat → Nat → Int32} (hS : sdOK S) (hc : cSd S wn wl wc wg wk wt wd') (hm : mSd S st 0) (hcp : cPast k Ps kn pn pc' pg pk pt pd pl) (hmp : mPast k Ps acts past) (ht : tapR T L len lets tm tape) :
    ∃ (r : Int32) (S' : Sd) (k' : Nat) (Ps' : Nat → Sd) (wn' wc' wg' : Int32) (wl' : Nat → Int32) (kn' : Int32) (R' : Nat → Nat) (pn' : Nat → Int32) (NR' : Nat → Nat) (pc'' pg' pk' pt' pd' : Nat → Int32) (pl' : Nat → Nat → Int32) (len' tn' ta' tf' : Int32) (tnear' : Nat → Int32) (acts' tm' ra' isf' tMany' : Int32) (past' st' told' : Nat → Int32), fX7_read wn wc wg wk wt wd' wl kn R pn NR pc' pg pk pt pd pl len tn ta tf lets tnear = some (r, wn', wc', wg', wl', kn', R', pn', NR', pc'', pg', pk', pt', pd', pl', len', tn', ta', tf', tnear') ∧ fX8_read acts tm ra isf tMany past st tape told = some (r, acts', tm', ra', isf', tMany', past', st', told') ∧ sdOK S' ∧ cSd S' wn' wl' wc' wg' wk wt wd' ∧ mSd S' st' 0 ∧ cPast k' Ps' kn' pn' pc'' pg' pk' pt' pd' pl' ∧ mPast k' Ps' acts' past' ∧ tapR 0 L len' lets tm' tape := by
  obtain ⟨hT, rfl, rfl, hL⟩ := ht
  have hf : lett T L lets := ⟨hT, fun i hi => ⟨(hL i hi).1, (hL i hi).2.1⟩⟩
  have hg : lett T L tape := ⟨hT, fun i hi => ⟨(hL i hi).1, (hL i hi).2.2⟩⟩
  have ht0 : tapR 0 L 0 lets 0 tape := ⟨Nat.zero_le _, rfl, rfl, fun i hi => absurd hi (by omega)⟩
  obtain ⟨fl, nd, at', nr, ra1, isf1, tm1, td, lk, ra2, e1, e2, e3, e4⟩ := both_text (near := tnear) (told := told) (c1 := tn) (c2 := ta) (c3 := tf) (m1 := ra) (m2 := isf) (m3 := tMany) hf hg
  unfold fX7_read fX8_read
  rw [e1, e2, Option.bind_some, Option.bind_some]
  dsimp only
  rw [e3, Option.bind_some]
  rcases e4 with ⟨rfl, rfl, n, N, rfl, rfl, hN, t1, t2⟩ | ⟨w, hw, rfl, rfl, rfl⟩
  · obtain ⟨R', NR', p1, p2, p3, p4, p5, p6, p7, g1, g2⟩ := c_remember (R := R) (NR := NR) hS hc hcp
    obtain ⟨past', g3, g4⟩ := m_notes hm hcp.2.1 hmp
    obtain ⟨g8, r10, b1, b2, b3, b4, b5⟩ := m_newNet (n := n) hm t2
    obtain ⟨wl', q1, q2⟩ := cpy_7 (f := nr) (g := wl)
    have hw7 : ∀ v, v < 7 → wl' v = nI (N v) := fun v hv => by rw [q2 v hv]; exact t1 v hv
    have hnew : fX5_beNewNet nr wn wc wg wl (nI n) = some (nI n, 0, 0, wl') := by
      unfold fX5_beNewNet
      rw [q1, Option.bind_some]
    have hn := hN.1
    have hok : sdOK (n, N, 0, 0, sK S, sT S, sD S) := ⟨hN, Nat.two_pow_pos n, (show (0 : Nat) &&& 0 = 0 from Nat.and_self 0), fouled_00, hS.2.2.2.2.1, hS.2.2.2.2.2.1, hS.2.2.2.2.2.2⟩
    obtain ⟨c1, c2, c3, c4, c5, c6, c7⟩ := hc
    rw [if_pos rfl, g1, Option.bind_some, hnew, Option.bind_some, if_pos rfl, g3, Option.bind_some, b1, Option.bind_some, b2, Option.bind_some, b3, Option.bind_some, b4, Option.bind_some]
    dsimp only
    rw [c_links hN hw7, Option.bind_some, m_linkMany (mSd_net b5) hN, Option.bind_some]
    exact ⟨_, _, pushK k, pushP k Ps S, _, _, _, _, _, _, _, _, _, _, _, _, _, _, _, _, _, _, _, _, _, _, _, _, _, _, _, rfl, rfl, hok, ⟨rfl, hw7, rfl, rfl, c5, c6, c7⟩, b5, g2, g4, ht0⟩
  · rw [if_neg (m1_ne (show w < 2 ^ 31 by omega)), if_neg (show ¬ (1 : Int32) = 0 by decide)]
    exact ⟨_, S, k, Ps, _, _, _, _, _, _, _, _, _, _, _, _, _, _, _, _, _, _, _, _, _, _, _, _, _, _, _, rfl, rfl, hS, hc, hm, hcp, hmp, ht0⟩
