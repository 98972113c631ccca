/-! drift. -/
theorem itL_two {V W E F : Type} {b : V → Option (V ⊕ E)} {c : W → Option (W ⊕ F)} (R : Nat → V → W → Prop) (Q : E → F → Prop) (N : Nat) (hs : ∀ i v w, i < N → R i v w → ∃ v' w', b v = some (.inl v') ∧ c w = some (.inl w') ∧ R (i + 1) v' w') (hx : ∀ v w, R N v w → ∃ x y, b v = some (.inr x) ∧ c w = some (.inr y) ∧ Q x y) : ∀ n v w, R 0 v w → N < n → ∃ x y, itL b n v = some x ∧ itL c n w = some y ∧ Q x y := by
  have key : ∀ k i, i + k = N → ∀ n v w, R i v w → k < n → ∃ x y, itL b n v = some x ∧ itL c n w = some y ∧ Q x y := by
    intro k
    induction k with
    | zero =>
      intro i e n v w h hn
      rw [Nat.add_zero] at e
      subst e
      obtain ⟨x, y, h1, h2, h3⟩ := hx v w h
      obtain ⟨n', rfl⟩ : ∃ n', n = n' + 1 := ⟨n - 1, by omega⟩
      refine ⟨x, y, ?_, ?_, h3⟩
      · unfold itL; rw [h1]
      · unfold itL; rw [h2]
    | succ k ih =>
      intro i e n v w h hn
      obtain ⟨v', w', h1, h2, h3⟩ := hs i v w (by omega) h
      obtain ⟨n', rfl⟩ : ∃ n', n = n' + 1 := ⟨n - 1, by omega⟩
      obtain ⟨x, y, g1, g2, g3⟩ := ih (i + 1) (by omega) n' v' w' h3 (by omega)
      refine ⟨x, y, ?_, ?_, g3⟩
      · unfold itL; rw [h1]; exact g1
      · unfold itL; rw [h2]; exact g2
  exact fun n v w h hn => key N 0 (by omega) n v w h hn
theorem drw {d : Nat} (hd : d < 2 ^ 31) : ∃ e, e < 2 ^ 31 ∧ (nI d * (1103515245 : Int32) + (12345 : Int32)) &&& (2147483647 : Int32) = nI e ∧ (((nI d).toInt64 * (1103515245 : Int64) + (12345 : Int64)) - ((nI d).toInt64 * (1103515245 : Int64) + (12345 : Int64)) / (2147483648 : Int64) * (2147483648 : Int64)).toInt32 = nI e := by
  refine ⟨(d * 1103515245 + 12345) % 2 ^ 31, Nat.mod_lt _ (by decide), ?_, ?_⟩
  · rw [show nI d * (1103515245 : Int32) = nI (d * 1103515245) from pk_mul d 1103515245, show nI (d * 1103515245) + (12345 : Int32) = nI (d * 1103515245 + 12345) from nI_add _ 12345, show (2147483647 : Int32) = nI (2 ^ 31 - 1) from rfl, fa_and, Nat.and_two_pow_sub_one_eq_mod]
  · rw [nI_l hd, show lN d * (1103515245 : Int64) = lN (d * 1103515245) from lN_mul d 1103515245, show lN (d * 1103515245) + (12345 : Int64) = lN (d * 1103515245 + 12345) from lN_add _ 12345, show (2147483648 : Int64) = lN (2 ^ 31) from rfl, pk_lRem (a := d * 1103515245 + 12345) (b := 2 ^ 31) (by omega) (by decide) (by decide), lN_i]
theorem rmd_nI {a b : Nat} (ha : a < 2 ^ 31) (h0 : 0 < b) (hb : b < 2 ^ 31) : rmd (nI a) (nI b) = some (nI (a % b)) := by
  unfold rmd
  rw [if_neg (nI_ne0 (by omega) hb), pk_rem ha h0 hb]
def drT (S : Sd) (e u v : Nat) : Sd := if u = v then (sN S, sL S, sC S, sG S, sK S, sT S, e) else (sN S, trn (sL S) u v, fouled (sN S) (trn (sL S) u v) (sG S) (sC S), sG S, sK S, sT S, e)
theorem drT_ok {S : Sd} {e u v : Nat} (hS : sdOK S) (he : e < 2 ^ 31) (hu : u < sN S) (hv : v < sN S) : sdOK (drT S e u v) := by
  unfold drT
  by_cases q : u = v
  · rw [if_pos q]; exact ⟨hS.1, hS.2.1, hS.2.2.1, hS.2.2.2.1, hS.2.2.2.2.1, hS.2.2.2.2.2.1, he⟩
  · rw [if_neg q]; exact mk_ok (trn_fit hS.1 hu hv q) hS.2.1 hS.2.2.1 hS.2.2.2.2.1 hS.2.2.2.2.2.1 he
theorem uvOf {n e : Nat} (h0 : 0 < n) (hn : n < 2 ^ 31) (he : e < 2 ^ 31) : ∃ u v, u < n ∧ v < n ∧ rmd (nI e / (65536 : Int32)) (nI n) = some (nI u) ∧ rmd (nI e / (65536 : Int32) / (8 : Int32)) (nI n) = some (nI v) := by
  refine ⟨_, _, Nat.mod_lt (e / 65536) h0, Nat.mod_lt (e / 65536 / 8) h0, ?_, ?_⟩
  · rw [show nI e / (65536 : Int32) = nI (e / 65536) from pk_div (d := 65536) he (by decide) (by decide), rmd_nI (by omega) h0 hn]
  · rw [show nI e / (65536 : Int32) = nI (e / 65536) from pk_div (d := 65536) he (by decide) (by decide), show nI (e / 65536) / (8 : Int32) = nI (e / 65536 / 8) from pk_div (d := 8) (by omega) (by decide) (by decide), rmd_nI (by omega) h0 hn]
theorem c_once {S : Sd} {E e u v : Nat} {wl : Nat → Int32} {nd al ned : Int32} {be ne : Nat → Int32} {ped held : Int32} {len : Nat → Int32} {found goal : Int32} {seen : Nat → Int64} {states steps : Nat → Int32} (hS : sdOK S) (c2 : ∀ v, v < 7 → wl v = nI (sL S v)) (hu : u < sN S) (hv : v < sN S) (d1 : (nI (sD S) * (1103515245 : Int32) + (12345 : Int32)) &&& (2147483647 : Int32) = nI e) (eu : rmd (nI e / (65536 : Int32)) (nI (sN S)) = some (nI u)) (ev : rmd (nI e / (65536 : Int32) / (8 : Int32)) (nI (sN S)) = some (nI v)) (hp : NP E nd al ned be ne ped held len found goal seen states steps) (hE : E + 1 < 2 ^ 31) :
    ∃ (E' : Nat) (wc' : Int32) (wl' : Nat → Int32) (nd' al' ned' : Int32) (be' ne' : Nat → Int32), fX7_driftOnce (nI (sN S)) (nI (sC S)) (nI (sG S)) (nI (sD S)) wl nd al ned be ne = some (wc', nI e, wl', nd', al', ned', be', ne') ∧ cSd (drT S e u v) (nI (sN S)) wl' wc' (nI (sG S)) (nI (sK S)) (nI (sT S)) (nI e) ∧ NP E' nd' al' ned' be' ne' ped held len found goal seen states steps ∧ E' ≤ E + 1 := by
  have hn := hS.1.1
  have hp7 := pow_le hn.2
  have hc7 : sC S < 128 := Nat.lt_of_lt_of_le hS.2.1 hp7
  have hg7 : sG S < 128 := sub_lt hS.2.2.1 hc7
  unfold fX7_driftOnce
  rw [d1]
  unfold bnd
  dsimp only
  rw [eu, Option.bind_some, ev, Option.bind_some, if_pos (show (2 : Int32) ≤ nI (sN S) from nI_le (a := 2) hn.1 (by omega))]
  unfold drT
  by_cases q : u = v
  · rw [if_pos (congrArg nI q), if_pos q]
    exact ⟨E, _, _, _, _, _, _, _, rfl, ⟨rfl, c2, rfl, rfl, rfl, rfl, rfl⟩, hp, by omega⟩
  · have q' : ¬ nI u = nI v := fun z => q (nI_inj (by omega) (by omega) z)
    rw [if_neg q', if_neg q]
    obtain ⟨wl', t1, t2⟩ := c_turnLink (nr := sL S) c2 (show u < 7 by omega) (show v < 7 by omega) q
    obtain ⟨E2, be2, ne2, l1, l2, l3⟩ := c_letFoul (c := sC S) (g := sG S) (trn_fit hS.1 hu hv q) t2 hS.2.1 hg7 hp (by omega)
    rw [t1, Option.bind_some, l1, Option.bind_some]
    exact ⟨E2, _, _, _, _, _, _, _, rfl, ⟨rfl, t2, rfl, rfl, rfl, rfl, rfl⟩, l2, l3⟩
theorem bnd_eq {α β : Type} (x : α) (f : α → Option β) : bnd x f = f x := rfl
theorem m_once {S : Sd} {k e u v : Nat} {Ps : Nat → Sd} {st past : Nat → Int32} {acts : Int32} (hS : sdOK S) (hm : mSd S st 0) (hk : k ≤ 6) (hmp : mPast k Ps acts past) (hu : u < sN S) (hv : v < sN S) (d2 : (((nI (sD S)).toInt64 * (1103515245 : Int64) + (12345 : Int64)) - ((nI (sD S)).toInt64 * (1103515245 : Int64) + (12345 : Int64)) / (2147483648 : Int64) * (2147483648 : Int64)).toInt32 = nI e) (eu : rmd (nI e / (65536 : Int32)) (nI (sN S)) = some (nI u)) (ev : rmd (nI e / (65536 : Int32) / (8 : Int32)) (nI (sN S)) = some (nI v)) :
    ∃ (acts' : Int32) (past' st' : Nat → Int32), fX8_turnsOnce acts past st = some (acts', past', st') ∧ mSd (drT S e u v) st' 0 ∧ mPast (pushK k) (pushP k Ps S) acts' past' := by
  obtain ⟨r8, r9, r10, r11, r12⟩ := st_rd hm
  obtain ⟨past', g3, g4⟩ := m_notes hm hk hmp
  have hn := hS.1.1
  have hp7 := pow_le hn.2
  have hc7 : sC S < 128 := Nat.lt_of_lt_of_le hS.2.1 hp7
  have hm1 := m_setD (x := e) hm
  obtain ⟨_, _, _, _, q12⟩ := st_rd hm1
  have q12' : rd (upd st 12 (nI e)) 13 (12 : Int32) = some (nI e) := q12
  have q0 : rd (upd st 12 (nI e)) 13 (0 : Int32) = some (nI (sN S)) := by rw [l0, rd_nI (by decide) (by decide), hm1.1]; rfl
  have hw : wi st 13 (12 : Int32) (nI e) = some (upd st 12 (nI e)) := by rw [show (12 : Int32) = nI 12 from rfl, wi_nI (by decide) (by decide)]
  unfold fX8_turnsOnce
  rw [g3, Option.bind_some, r12, Option.bind_some]
  rw [bnd_eq, d2, hw, Option.bind_some, q12', Option.bind_some, q0, Option.bind_some, eu, Option.bind_some, Option.bind_some, ev, Option.bind_some]
  unfold jX8_turnsOnce_83 drT
  by_cases q : u = v
  · rw [if_pos (congrArg nI q), if_pos q]
    obtain ⟨st2, u1, u2⟩ := m_fouls (S := (sN S, sL S, sC S, sG S, sK S, sT S, e)) (nr := sL S) hS.1 hc7 hm1
    have ef : fouled (sN S) (sL S) (sG S) (sC S) = sC S := hS.2.2.2.1
    rw [u1, Option.bind_some]
    have u3 : mSd (sN S, sL S, fouled (sN S) (sL S) (sG S) (sC S), sG S, sK S, sT S, e) st2 0 := u2
    rw [ef] at u3
    exact ⟨_, _, _, rfl, u3, g4⟩
  · have q' : ¬ nI u = nI v := fun z => q (nI_inj (by omega) (by omega) z)
    rw [if_neg q', if_neg q]
    obtain ⟨st1, t3, t4⟩ := m_turnsLink hm1 (show u < 7 by omega) (show v < 7 by omega) q
    obtain ⟨st2, u1, u2⟩ := m_fouls (S := (sN S, sL S, sC S, sG S, sK S, sT S, e)) (trn_fit hS.1 hu hv q) hc7 t4
    rw [t3, Option.bind_some, u1, Option.bind_some]
    exact ⟨_, _, _, rfl, u2, g4⟩
theorem both_once {S : Sd} {E k : Nat} {Ps : Nat → Sd} {st past : Nat → Int32} {acts : Int32} {wn wc wg wk wt wd' : Int32} {wl : Nat → Int32} {nd al ned : Int32} {be ne : Nat → Int32} {ped held : Int32} {len : Nat → Int32} {found goal : Int32} {seen : Nat → Int64} {states steps : Nat → Int32} (hS : sdOK S) (hc : cSd S wn wl wc wg wk wt wd') (hm : mSd S st 0) (hk : k ≤ 6) (hmp : mPast k Ps acts past) (hp : NP E nd al ned be ne ped held len found goal seen states steps) (hE : E + 1 < 2 ^ 31) :
    ∃ (S' : Sd) (E' : Nat) (wc' wd2 : Int32) (wl' : Nat → Int32) (nd' al' ned' : Int32) (be' ne' : Nat → Int32) (acts' : Int32) (past' st' : Nat → Int32), fX7_driftOnce wn wc wg wd' wl nd al ned be ne = some (wc', wd2, wl', nd', al', ned', be', ne') ∧ fX8_turnsOnce acts past st = some (acts', past', st') ∧ sdOK S' ∧ cSd S' wn wl' wc' wg wk wt wd2 ∧ mSd S' st' 0 ∧ mPast (pushK k) (pushP k Ps S) acts' past' ∧ NP E' nd' al' ned' be' ne' ped held len found goal seen states steps ∧ E' ≤ E + 1 := by
  obtain ⟨rfl, c2, rfl, rfl, rfl, rfl, rfl⟩ := hc
  have hn := hS.1.1
  obtain ⟨e, he, d1, d2⟩ := drw hS.2.2.2.2.2.2
  obtain ⟨u, v, hu, hv, eu, ev⟩ := uvOf (n := sN S) (by omega) (by omega) he
  obtain ⟨E2, b1, b2, b3, b4, b5, b6, b7, o1, o2, o3, o4⟩ := c_once hS c2 hu hv d1 eu ev hp hE
  obtain ⟨a1, a2, a3, o5, o6, o7⟩ := m_once hS hm hk hmp hu hv d2 eu ev
  exact ⟨_, E2, _, _, _, _, _, _, _, _, _, _, _, o1, o5, drT_ok hS he hu hv, o2, o6, o7, o3, o4⟩
theorem op_drift {S : Sd} {E k : Nat} {Ps : Nat → Sd} {st past : Nat → Int32} {acts : Int32} {wn wc wg wk wt wd' kn : Int32} {wl : Nat → Int32} {R NR : Nat → Nat} {pn pc' pg pk pt pd : Nat → Int32} {pl : Nat → Nat → Int32} {nd al ned : Int32} {be ne : Nat → Int32} {ped held : Int32} {len : Nat → Int32} {found goal : Int32} {seen : Nat → Int64} {states steps : Nat → Int32} (hS : sdOK S) (hc : cSd S wn wl wc wg wk wt wd') (hm : mSd S st 0) (hcp : cPast k Ps kn pn pc' pg pk pt pd pl) (hmp : mPast k Ps acts past) (hp : NP E nd al ned be ne ped held len found goal seen states steps) (hE : E + 41 < 2 ^ 31) (x1 : Int32) :
    ∃ (r : Int32) (S' : Sd) (k' : Nat) (Ps' : Nat → Sd) (E' : Nat) (wc' wd2 : Int32) (wl' : Nat → Int32) (kn' : Int32) (R' : Nat → Nat) (pn' : Nat → Int32) (NR' : Nat → Nat) (pc'' pg' pk' pt' pd' : Nat → Int32) (pl' : Nat → Nat → Int32) (nd' al' ned' : Int32) (be' ne' : Nat → Int32) (acts' : Int32) (past' st' : Nat → Int32), fX7_drift wn wc wg wk wt wd' wl kn R pn NR pc' pg pk pt pd pl nd al ned be ne x1 = some (r, wc', wd2, wl', kn', R', pn', NR', pc'', pg', pk', pt', pd', pl', nd', al', ned', be', ne') ∧ fX8_drift acts past st x1 = some (r, acts', past', st') ∧ sdOK S' ∧ cSd S' wn wl' wc' wg wk wt wd2 ∧ mSd S' st' 0 ∧ cPast k' Ps' kn' pn' pc'' pg' pk' pt' pd' pl' ∧ mPast k' Ps' acts' past' ∧ NP E' nd' al' ned' be' ne' ped held len found goal seen states steps ∧ E' ≤ E + 40 := by
  unfold fX7_drift fX8_drift
  rw [show (1 : Int64) = (nI 1).toInt64 from by decide, show (40 : Int64) = (nI 40).toInt64 from by decide]
  rcases m_inN (a := 1) (b := 40) (by decide) (by decide) x1 with ⟨j, h1, h2, rfl, h4, h5, h6⟩ | ⟨h1, h2⟩
  · rw [if_neg (show ¬ nI j < (1 : Int32) from h5), if_pos (show nI j ≤ (40 : Int32) from nI_le (b := 40) h2 (by decide)), h4, Option.bind_some, if_neg (show ¬ (1 : Int32) = 0 by decide)]
    obtain ⟨x, y, f1, f2, S', k', Ps', E', wc', wd2, wl', kn', R', pn', NR', pc'', pg', pk', pt', pd', pl', nd', al', ned', be', ne', acts', past', st', rfl, rfl, q1, q2, q3, q4, q5, q6, q7⟩ := itL_two (b := bX7_drift_15 wn wg wk wt (nI j)) (c := bX8_drift_16 (nI j))
      (fun i v w => ∃ (S' : Sd) (k' : Nat) (Ps' : Nat → Sd) (E' : Nat) (wc' wd2 : Int32) (wl' : Nat → Int32) (kn' : Int32) (R' : Nat → Nat) (pn' : Nat → Int32) (NR' : Nat → Nat) (pc'' pg' pk' pt' pd' : Nat → Int32) (pl' : Nat → Nat → Int32) (nd' al' ned' : Int32) (be' ne' : Nat → Int32) (acts' : Int32) (past' st' : Nat → Int32), v = (nI i, wc', wd2, wl', kn', R', pn', NR', pc'', pg', pk', pt', pd', pl', nd', al', ned', be', ne') ∧ w = (nI i, acts', past', st') ∧ sdOK S' ∧ cSd S' wn wl' wc' wg wk wt wd2 ∧ mSd S' st' 0 ∧ cPast k' Ps' kn' pn' pc'' pg' pk' pt' pd' pl' ∧ mPast k' Ps' acts' past' ∧ NP E' nd' al' ned' be' ne' ped held len found goal seen states steps ∧ E' ≤ E + i)
      (fun v w => ∃ (S' : Sd) (k' : Nat) (Ps' : Nat → Sd) (E' : Nat) (wc' wd2 : Int32) (wl' : Nat → Int32) (kn' : Int32) (R' : Nat → Nat) (pn' : Nat → Int32) (NR' : Nat → Nat) (pc'' pg' pk' pt' pd' : Nat → Int32) (pl' : Nat → Nat → Int32) (nd' al' ned' : Int32) (be' ne' : Nat → Int32) (acts' : Int32) (past' st' : Nat → Int32), v = (nI j, wc', wd2, wl', kn', R', pn', NR', pc'', pg', pk', pt', pd', pl', nd', al', ned', be', ne') ∧ w = (nI j, acts', past', st') ∧ sdOK S' ∧ cSd S' wn wl' wc' wg wk wt wd2 ∧ mSd S' st' 0 ∧ cPast k' Ps' kn' pn' pc'' pg' pk' pt' pd' pl' ∧ mPast k' Ps' acts' past' ∧ NP E' nd' al' ned' be' ne' ped held len found goal seen states steps ∧ E' ≤ E + j) j
      (by
        rintro i v w hi ⟨S', k', Ps', E', wc', wd2, wl', kn', R', pn', NR', pc'', pg', pk', pt', pd', pl', nd', al', ned', be', ne', acts', past', st', rfl, rfl, q1, q2, q3, q4, q5, q6, q7⟩
        obtain ⟨R2, NR2, p1, p2, p3, p4, p5, p6, p7, g1, g2⟩ := c_remember (R := R') (NR := NR') q1 q2 q4
        obtain ⟨S2, E2, b1, b2, b3, b4, b5, b6, b7, b8, a1, a2, a3, o1, o5, o0, o2, o6, o7, o3, o4⟩ := both_once q1 q2 q3 q4.2.1 q5 q6 (by omega)
        have hge : ¬ nI j ≤ nI i := nI_ge hi (by omega)
        refine ⟨(nI (i + 1), b1, b2, b3, nI (pushK k'), R2, p1, NR2, p2, p3, p4, p5, p6, p7, b4, b5, b6, b7, b8), (nI (i + 1), a1, a2, a3), ?_, ?_, S2, pushK k', pushP k' Ps' S', E2, _, _, _, _, _, _, _, _, _, _, _, _, _, _, _, _, _, _, _, _, _, rfl, rfl, o0, o2, o6, g2, o7, o3, by omega⟩
        · unfold bX7_drift_15
          dsimp only
          rw [if_neg hge, g1, Option.bind_some, o1, Option.bind_some, nI_1]
        · unfold bX8_drift_16
          dsimp only
          rw [if_neg hge, o5, Option.bind_some, nI_1])
      (by
        rintro v w ⟨S', k', Ps', E', wc', wd2, wl', kn', R', pn', NR', pc'', pg', pk', pt', pd', pl', nd', al', ned', be', ne', acts', past', st', rfl, rfl, q⟩
        refine ⟨(nI j, wc', wd2, wl', kn', R', pn', NR', pc'', pg', pk', pt', pd', pl', nd', al', ned', be', ne'), (nI j, acts', past', st'), ?_, ?_, S', k', Ps', E', _, _, _, _, _, _, _, _, _, _, _, _, _, _, _, _, _, _, _, _, _, rfl, rfl, q⟩
        · unfold bX7_drift_15
          dsimp only
          rw [if_pos (show nI j ≤ nI j from nI_le (Nat.le_refl _) (by omega))]
        · unfold bX8_drift_16
          dsimp only
          rw [if_pos (show nI j ≤ nI j from nI_le (Nat.le_refl _) (by omega))])
      fu ((0 : Int32), wc, wd', wl, kn, R, pn, NR, pc', pg, pk, pt, pd, pl, nd, al, ned, be, ne) ((0 : Int32), acts, past, st) ⟨S, k, Ps, E, _, _, _, _, _, _, _, _, _, _, _, _, _, _, _, _, _, _, _, _, _, rfl, rfl, hS, hc, hm, hcp, hmp, hp, by omega⟩ (by show j < 5000; omega)
    rw [f1, f2, Option.bind_some, Option.bind_some]
    dsimp only
    have e1 : wn = nI (sN S') := q2.1
    rw [e1, c_links q1.1 q2.2.1, Option.bind_some, m_linkMany (mSd_net q3) q1.1, Option.bind_some]
    rw [e1] at q2
    exact ⟨_, S', k', Ps', E', _, _, _, _, _, _, _, _, _, _, _, _, _, _, _, _, _, _, _, _, _, rfl, rfl, q1, q2, q3, q4, q5, q6, by omega⟩
  · rw [h1, Option.bind_some, if_pos rfl]
    rcases h2 with h2 | ⟨h2, h3⟩
    · rw [if_pos (show x1 < (1 : Int32) from h2)]
      exact ⟨_, S, k, Ps, E, _, _, _, _, _, _, _, _, _, _, _, _, _, _, _, _, _, _, _, _, _, rfl, rfl, hS, hc, hm, hcp, hmp, hp, by omega⟩
    · rw [if_neg (show ¬ x1 < (1 : Int32) from h2), if_neg (show ¬ x1 ≤ (40 : Int32) from Int32.not_le.mpr h3)]
      exact ⟨_, S, k, Ps, E, _, _, _, _, _, _, _, _, _, _, _, _, _, _, _, _, _, _, _, _, _, rfl, rfl, hS, hc, hm, hcp, hmp, hp, by omega⟩
