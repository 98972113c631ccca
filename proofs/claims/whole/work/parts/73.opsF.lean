/-! lost, on both sides. -/
theorem c_power {a m : Nat} (hm : m < 100) : fX7_power (nI a) (nI m) = some (nI (a ^ m)) := by
  have key : itL (bX7_power_4 (nI a) (nI m)) fu ((1 : Int32), (0 : Int32)) = some (nI (a ^ m), nI m) := by
    refine itL_for (fun i => (nI (a ^ i), nI i)) m _ ?_ ?_ (by show m < 5000; omega) rfl
    · intro i hi
      unfold bX7_power_4
      dsimp only
      rw [if_neg (show ¬ nI m ≤ nI i from nI_ge hi (by omega)), pk_mul, nI_1, Nat.pow_succ]
    · unfold bX7_power_4
      dsimp only
      rw [if_pos (show nI m ≤ nI m from nI_le (Nat.le_refl _) (by omega))]
  unfold fX7_power
  rw [key, Option.bind_some]
theorem nI_and0 {a b : Nat} (ha : a < 128) : (nI (a &&& cm b) = 0) ↔ a &&& cm b = 0 := ⟨fun h => nI_inj (a := a &&& cm b) (b := 0) (Nat.lt_trans (and_lt ha) (by decide)) (by decide) h, fun h => by rw [h]; rfl⟩
theorem c_odds {n : Nat} {nr : Nat → Nat} {c g k : Nat} {x1 x2 x3 x4 : Int32} {wl be ne : Nat → Int32} (hnet : netOk n nr (nI n) x1 be ne) (hf : netFit n nr) (hc : c < 2 ^ n) (hg : g < 128) (hk : k ≤ 10) :
    itL (bX7_oddsOfTenths_21 x3 (nI c) (nI g) wl (nI k) (nI (pc 7 g)) x4 x1 x2 be ne) fu ((0 : Int32), (0 : Int32)) = some (nI (sumN (aC n nr k g c) 128), nI 128) := by
  refine itL_for (fun i => (nI (sumN (aC n nr k g c) i), nI i)) 128 _ ?_ ?_ (by decide) rfl
  · intro i hi
    have hp7 := pow_le hf.1.2
    unfold bX7_oddsOfTenths_21
    dsimp only
    rw [if_neg (show ¬ (128 : Int32) ≤ nI i from nI_ge (b := 128) hi (by decide)), and_cm hi]
    unfold jX7_oddsOfTenths_49 jX7_oddsOfTenths_120
    have hstep : sumN (aC n nr k g c) (i + 1) = sumN (aC n nr k g c) i + aC n nr k g c i := rfl
    rw [hstep]
    by_cases q : i &&& cm g = 0
    · have hs := (sub_iff hi).mp q
      have hle : pc 7 i ≤ pc 7 g := by rw [pc_sub hs 7]; omega
      rw [if_pos ((nI_and0 hi).mpr q), if_neg (show ¬ (1 : Int32) = 0 by decide), and_cm hg, c_fouled hnet hf.1.2 (nr_lt hf) (and_lt hg) hc, Option.bind_some]
      have hfl : fouled n nr (g &&& cm i) c < 2 ^ 31 := Nat.lt_trans (foul_lt 7 c (by omega)) (by decide)
      by_cases z : fouled n nr (g &&& cm i) c = c
      · rw [show aC n nr k g c i = k ^ pc 7 i * (10 - k) ^ (pc 7 g - pc 7 i) from by unfold aC; rw [if_pos q, if_pos z], if_pos (congrArg nI z), c_bits i hi, Option.bind_some, c_power (by have := pc_le i 7; omega), Option.bind_some, show (10 : Int32) - nI k = nI (10 - k) from pk_sub (a := 10) (b := k) hk, pk_sub hle, c_power (by have := pc_le g 7; omega), Option.bind_some, pk_mul, nI_add, nI_1]
      · rw [show aC n nr k g c i = 0 from by unfold aC; rw [if_pos q, if_neg z], if_neg (fun w => z (nI_inj hfl (by omega) w)), nI_1]; rfl
    · rw [show aC n nr k g c i = 0 from by unfold aC; rw [if_neg q], if_neg (fun w => q ((nI_and0 hi).mp w)), if_pos rfl, nI_1]; rfl
  · unfold bX7_oddsOfTenths_21
    dsimp only
    rw [if_pos (by decide)]
theorem m_times {st : Nat → Int32} {S : Sd} {k i : Nat} {x a b : Int32} (hm : mSd S st 0) (hS : sdOK S) (hk : k ≤ 10) (hi : i < 128) (hg : sG S < 128) :
    itL (bX8_lost_62 st (nI k) x a b (nI i)) fu ((1 : Int32), (0 : Int32)) = some (nI (tm k (sG S) i (sN S)), nI (sN S)) := by
  have hn := hS.1.1
  obtain ⟨r8, r9, r10, r11, r12⟩ := st_rd hm
  have r0 : rd st 13 (0 : Int32) = some (nI (sN S)) := by rw [l0, rd_nI (by decide) (by decide), hm.1]
  refine itL_for (fun v => (nI (tm k (sG S) i v), nI v)) (sN S) _ ?_ ?_ (by show sN S < 5000; omega) rfl
  · intro v hv
    unfold bX8_lost_62
    dsimp only
    rw [r0, Option.bind_some, if_neg (show ¬ nI (sN S) ≤ nI v from nI_ge hv (by omega)), r9, Option.bind_some, m_has hg (by omega), Option.bind_some, m_has hi (by omega)]
    unfold jX8_lost_112
    show _ = some (Sum.inl (nI (tm k (sG S) i v * (if (sG S).testBit v then (if i.testBit v then 10 - k else k) else 1)), nI (v + 1)))
    cases (sG S).testBit v
    · rw [if_pos (by decide), show nI (tm k (sG S) i v) * (1 : Int32) = nI (tm k (sG S) i v * 1) from pk_mul _ 1, nI_1]
      rfl
    · rw [if_neg (by decide), Option.bind_some]
      cases i.testBit v
      · rw [if_pos (by decide), pk_mul, nI_1]
        rfl
      · rw [if_neg (by decide), show (10 : Int32) - nI k = nI (10 - k) from pk_sub (a := 10) (b := k) hk, pk_mul, nI_1]
        rfl
  · unfold bX8_lost_62
    dsimp only
    rw [r0, Option.bind_some, if_pos (show nI (sN S) ≤ nI (sN S) from nI_le (Nat.le_refl _) (by omega))]
theorem m_sums {st : Nat → Int32} {S : Sd} {k : Nat} {x : Int32} (hm : mSd S st 0) (hS : sdOK S) (hk : k ≤ 10) :
    itL (bX8_lost_32 st (nI k) x) fu ((0 : Int32), (0 : Int32), (0 : Int32)) = some (nI (sumN (aM (sN S) (sL S) k (sG S) (sC S)) (2 ^ sN S)), nI (sumN (bM (sN S) k (sG S)) (2 ^ sN S)), nI (2 ^ sN S)) := by
  have hn := hS.1.1
  have hp7 := pow_le hn.2
  have hnet := mSd_net hm
  have hc7 : sC S < 128 := Nat.lt_of_lt_of_le hS.2.1 hp7
  have hg7 : sG S < 128 := sub_lt hS.2.2.1 hc7
  have hp0 := Nat.two_pow_pos (sN S)
  obtain ⟨r8, r9, r10, r11, r12⟩ := st_rd hm
  refine itL_for (fun i => (nI (sumN (aM (sN S) (sL S) k (sG S) (sC S)) i), nI (sumN (bM (sN S) k (sG S)) i), nI i)) (2 ^ sN S) _ ?_ ?_ (by show 2 ^ sN S < 5000; omega) rfl
  · intro i hi
    unfold bX8_lost_32
    dsimp only
    rw [m_all hnet hn.2, Option.bind_some, if_neg (show ¬ nI (2 ^ sN S - 1) < nI i from nI_nlt (by omega) (by omega)), r9, Option.bind_some, and_cm (show i < 128 by omega)]
    have e1 : sumN (aM (sN S) (sL S) k (sG S) (sC S)) (i + 1) = sumN (aM (sN S) (sL S) k (sG S) (sC S)) i + aM (sN S) (sL S) k (sG S) (sC S) i := rfl
    have e2 : sumN (bM (sN S) k (sG S)) (i + 1) = sumN (bM (sN S) k (sG S)) i + bM (sN S) k (sG S) i := rfl
    rw [e1, e2]
    unfold jX8_lost_158 jX8_lost_160
    by_cases q : i &&& cm (sG S) = 0
    · rw [show bM (sN S) k (sG S) i = tm k (sG S) i (sN S) from by unfold bM; rw [if_pos q], if_pos ((nI_and0 (by omega)).mpr q), m_times hm hS hk (by omega) hg7, Option.bind_some, r8, Option.bind_some, m_fouled hnet hn.2 hc7, Option.bind_some, Option.bind_some]
      have hfl : fouled (sN S) (sL S) i (sC S) < 2 ^ 31 := Nat.lt_trans (foul_lt 7 (sC S) hc7) (by decide)
      rw [show foul (lnk (sN S) (sL S)) (2 ^ sN S - 1) i 7 (sC S) = fouled (sN S) (sL S) i (sC S) from rfl]
      by_cases z : fouled (sN S) (sL S) i (sC S) = sC S
      · rw [show aM (sN S) (sL S) k (sG S) (sC S) i = tm k (sG S) i (sN S) from by unfold aM; rw [if_pos q, if_pos z], if_pos (congrArg nI z), nI_add, nI_add, nI_1]
      · rw [show aM (sN S) (sL S) k (sG S) (sC S) i = 0 from by unfold aM; rw [if_pos q, if_neg z], if_neg (fun w => z (nI_inj hfl (by omega) w)), nI_add, nI_1, Int32.add_zero]; rfl
    · rw [show aM (sN S) (sL S) k (sG S) (sC S) i = 0 from by unfold aM; rw [if_neg q], show bM (sN S) k (sG S) i = 0 from by unfold bM; rw [if_neg q], if_neg (fun w => q ((nI_and0 (by omega)).mp w)), nI_1]; rfl
  · unfold bX8_lost_32
    dsimp only
    rw [m_all hnet hn.2, Option.bind_some, if_pos (show nI (2 ^ sN S - 1) < nI (2 ^ sN S) from nI_lt (by omega) (by omega))]
/-- the divisor, step by step -/
def euc (a b : Nat) : Nat → Nat × Nat
  | 0 => (a, b)
  | i + 1 => if (euc a b i).2 = 0 then euc a b i else ((euc a b i).2, (euc a b i).1 % (euc a b i).2)
theorem euc_half {y z : Nat} (h0 : 0 < z) (h : z ≤ y) : 2 * (y % z) < y := by
  have h1 := Nat.mod_lt y h0
  rcases Nat.lt_or_ge y (2 * z) with q | q
  · have : y % z = y - z := by rw [Nat.mod_eq_sub_mod h, Nat.mod_eq_of_lt (by omega)]
    omega
  · omega
theorem euc_end (a b : Nat) : ∀ (j i : Nat), (euc a b i).2 < 2 ^ j → ∃ N, i ≤ N ∧ N ≤ i + 2 * j ∧ (euc a b N).2 = 0 ∧ ∀ m, i ≤ m → m < N → (euc a b m).2 ≠ 0 := by
  intro j
  induction j with
  | zero => intro i h; exact ⟨i, Nat.le_refl _, by omega, by omega, fun m h1 h2 => by omega⟩
  | succ j ih =>
    intro i h
    by_cases q : (euc a b i).2 = 0
    · exact ⟨i, Nat.le_refl _, by omega, q, fun m h1 h2 => by omega⟩
    · have e1 : euc a b (i + 1) = ((euc a b i).2, (euc a b i).1 % (euc a b i).2) := by
        show (if (euc a b i).2 = 0 then euc a b i else _) = _
        rw [if_neg q]
      by_cases q2 : (euc a b (i + 1)).2 = 0
      · exact ⟨i + 1, by omega, by omega, q2, fun m h1 h2 => by rw [show m = i by omega]; exact q⟩
      · have e2 : euc a b (i + 2) = ((euc a b (i + 1)).2, (euc a b (i + 1)).1 % (euc a b (i + 1)).2) := by
          show (if (euc a b (i + 1)).2 = 0 then euc a b (i + 1) else _) = _
          rw [if_neg q2]
        have h3 : (euc a b (i + 1)).2 ≤ (euc a b (i + 1)).1 := by
          rw [e1]
          exact Nat.le_of_lt (Nat.mod_lt _ (by omega))
        have h4 := euc_half (Nat.pos_of_ne_zero q2) h3
        obtain ⟨N, n1, n2, n3, n4⟩ := ih (i + 2) (by
          rw [e2]
          have : (euc a b (i + 1)).1 = (euc a b i).2 := by rw [e1]
          rw [Nat.pow_succ] at h
          show (euc a b (i + 1)).1 % (euc a b (i + 1)).2 < 2 ^ j
          omega)
        refine ⟨N, by omega, by omega, n3, fun m h1 h2 => ?_⟩
        rcases (show m = i ∨ m = i + 1 ∨ i + 2 ≤ m by omega) with rfl | rfl | w
        · exact q
        · exact q2
        · exact n4 m w h2
theorem euc_lt (a b : Nat) : ∀ i, (euc a b i).1 ≤ a + b ∧ (euc a b i).2 ≤ a + b := by
  intro i
  induction i with
  | zero => exact ⟨Nat.le_add_right _ _, Nat.le_add_left _ _⟩
  | succ i ih =>
    show (if (euc a b i).2 = 0 then euc a b i else _).1 ≤ _ ∧ (if (euc a b i).2 = 0 then euc a b i else _).2 ≤ _
    by_cases q : (euc a b i).2 = 0
    · rw [if_pos q]; exact ih
    · rw [if_neg q]
      exact ⟨ih.2, Nat.le_trans (Nat.mod_le _ _) ih.1⟩
theorem both_div {a b : Nat} {st : Nat → Int32} {x y z : Int32} (ha : a + b < 2 ^ 25) (hb : 0 < b) : ∃ d, 0 < d ∧ d < 2 ^ 31 ∧ fX7_commonDivisor (nI a) (nI b) = some (nI d) ∧ ∃ w, itL (bX8_lost_173 st x y z) fu (nI a, nI b) = some (nI d, w) := by
  obtain ⟨N, _, n2, n3, n4⟩ := euc_end a b 25 0 (by show b < 2 ^ 25; omega)
  have n0 : N ≠ 0 := fun e => by subst e; have : b = 0 := n3; omega
  have step : ∀ i, i < N → euc a b (i + 1) = ((euc a b i).2, (euc a b i).1 % (euc a b i).2) := fun i hi => by
    show (if (euc a b i).2 = 0 then euc a b i else _) = _
    rw [if_neg (n4 i (by omega) hi)]
  have lt := euc_lt a b
  refine ⟨(euc a b N).1, ?_, by have := (lt N).1; omega, ?_, nI 0, ?_⟩
  · obtain ⟨M, rfl⟩ : ∃ M, N = M + 1 := ⟨N - 1, by omega⟩
    rw [step M (by omega)]
    exact Nat.pos_of_ne_zero (n4 M (by omega) (by omega))
  · have key : itL bX7_commonDivisor_7 fu (nI a, nI b, (0 : Int32)) = some (nI (euc a b N).1, nI (euc a b N).2, nI N) := by
      refine itL_for (fun i => (nI (euc a b i).1, nI (euc a b i).2, nI i)) N _ ?_ ?_ (by show N < 5000; omega) rfl
      · intro i hi
        have h1 := (lt i).1
        have h2 := (lt i).2
        have h3 := n4 i (by omega) hi
        unfold bX7_commonDivisor_7
        dsimp only
        rw [if_neg (show ¬ (64 : Int32) ≤ nI i from nI_ge (b := 64) (by omega) (by decide)), if_neg (nI_ne0 (Nat.pos_of_ne_zero h3) (by omega)), rmd_nI (by omega) (Nat.pos_of_ne_zero h3) (by omega), Option.bind_some, nI_1, step i hi]
      · unfold bX7_commonDivisor_7
        dsimp only
        rw [n3, if_pos (show nI 0 = 0 from rfl), ite_self]
    unfold fX7_commonDivisor
    rw [key, Option.bind_some]
  · refine itL_for (fun i => (nI (euc a b i).1, nI (euc a b i).2)) N _ ?_ ?_ (by show N < 5000; omega) rfl
    · intro i hi
      have h1 := (lt i).1
      have h2 := (lt i).2
      have h3 := n4 i (by omega) hi
      unfold bX8_lost_173
      dsimp only
      rw [if_neg (nI_ne0 (Nat.pos_of_ne_zero h3) (by omega)), rmd_nI (by omega) (Nat.pos_of_ne_zero h3) (by omega), Option.bind_some, step i hi]
    · unfold bX8_lost_173
      dsimp only
      rw [n3, if_pos (show nI 0 = 0 from rfl)]
theorem op_lost {S : Sd} {E : Nat} {st : Nat → Int32} {wn wc wg wk wt wd' : Int32} {wl : Nat → Int32} {nd al ned : Int32} {be ne : Nat → Int32} {ped held : Int32} {len : Nat → Int32} {found goal : Int32} {seen : Nat → Int64} {states steps : Nat → Int32} (hS : sdOK S) (hc : cSd S wn wl wc wg wk wt wd') (hm : mSd S st 0) (hp : NP E nd al ned be ne ped held len found goal seen states steps) (hE : E + 1 < 2 ^ 31) (x1 x2 : Int32) :
    ∃ (v : Int32) (E' : Nat) (nd' al' ned' : Int32) (be' ne' : Nat → Int32), fX7_lost wn wc wg wl nd al ned be ne x1 x2 = some (v, nd', al', ned', be', ne') ∧ fX8_lost st x1 x2 = some v ∧ NP E' nd' al' ned' be' ne' ped held len found goal seen states steps ∧ E' ≤ E + 1 := by
  have hnet := mSd_net hm
  have hn := hS.1.1
  have hp7 := pow_le hn.2
  have hc7 : sC S < 128 := Nat.lt_of_lt_of_le hS.2.1 hp7
  have hg7 : sG S < 128 := sub_lt hS.2.2.1 hc7
  have hgn : sG S < 2 ^ sN S := sub_lt hS.2.2.1 hS.2.1
  obtain ⟨rfl, c2, rfl, rfl, rfl, rfl, rfl⟩ := hc
  unfold fX7_lost fX8_lost
  rw [show (0 : Int64) = (nI 0).toInt64 from rfl, show (10 : Int64) = (nI 10).toInt64 from by decide]
  rcases m_inN (a := 0) (b := 10) (by decide) (by decide) x1 with ⟨k, _, hk, rfl, h4, h5, h6⟩ | ⟨h1, h2⟩
  · rw [h4, Option.bind_some, if_neg (show ¬ (1 : Int32) = 0 by decide), if_neg (show ¬ nI k < 0 from h5), if_neg (show ¬ (10 : Int32) < nI k from h6), show (nI 0).toInt64 = (0 : Int64) from rfl]
    rcases oneTwo x2 with ⟨o1, o2, o3⟩ | ⟨o1, o2, _⟩
    · obtain ⟨E', be', ne', a1, a2, a3, a4, a5, a6⟩ := c_cur hS.1 c2 hp hE
      have hodds : fX7_oddsOfTenths (nI (sN S)) (nI (sC S)) (nI (sG S)) wl nd al ned be ne (nI k) = some (nI (sumN (aM (sN S) (sL S) k (sG S) (sC S)) (2 ^ sN S)), nI (sN S), nI (2 ^ sN S - 1), nI E', be', ne') := by
        unfold fX7_oddsOfTenths
        rw [a1, Option.bind_some, c_bits _ hg7, Option.bind_some]
        dsimp only
        rw [c_odds a2 hS.1 hS.2.1 hg7 hk, Option.bind_some, sum_same hn.2 hgn]
      have hpc := pc_le (sG S) 7
      have hab := above_le (n := sN S) (nr := sL S) (k := k) (g := sG S) (c := sC S) (m := 2 ^ sN S)
      have hbel := sum_below (k := k) hn.2 hk hgn
      have hbig : 10 ^ pc 7 (sG S) ≤ 10 ^ 7 := Nat.pow_le_pow_right (by decide) hpc
      have hpos : 0 < 10 ^ pc 7 (sG S) := Nat.pow_pos (by decide)
      obtain ⟨d, d0, d1, d2, w, d3⟩ := both_div (a := sumN (aM (sN S) (sL S) k (sG S) (sC S)) (2 ^ sN S)) (b := 10 ^ pc 7 (sG S)) (st := st) (x := x2) (y := nI (sumN (aM (sN S) (sL S) k (sG S) (sC S)) (2 ^ sN S))) (z := nI (10 ^ pc 7 (sG S))) (by omega) hpos
      rw [o1, Option.bind_some, if_neg (show ¬ (1 : Int32) = 0 by decide), hodds, Option.bind_some, c_bits _ hg7, Option.bind_some, show (10 : Int32) = nI 10 from rfl, c_power (by omega), Option.bind_some, o2, Option.bind_some, if_neg (show ¬ (1 : Int32) = 0 by decide), m_sums hm hS hk, Option.bind_some]
      dsimp only
      rw [hbel, d3, Option.bind_some]
      unfold jX7_lost_52
      rw [d2, Option.bind_some, Option.bind_some, if_neg (nI_ne0 (by omega) d1), if_neg (nI_ne0 (by omega) d1)]
      have hNP := NP_of (E := E') hS.1 a2 a4 a5 a6
      have hd0 : ¬ nI d = 0 := nI_ne0 (by omega) d1
      unfold dv
      dsimp only
      rw [if_neg hd0, if_neg hd0, Option.bind_some, Option.bind_some, Option.bind_some, Option.bind_some]
      by_cases q : x2 = 0
      · rw [if_pos q, if_pos q]
        exact ⟨_, E', _, _, _, _, _, rfl, rfl, hNP, a3⟩
      · rw [if_neg q, if_neg q]
        exact ⟨_, E', _, _, _, _, _, rfl, rfl, hNP, a3⟩
    · rw [o1, Option.bind_some, if_pos rfl, o2, Option.bind_some, if_pos rfl]
      exact ⟨_, E, _, _, _, _, _, rfl, rfl, hp, by omega⟩
  · rw [h1, Option.bind_some, if_pos rfl]
    rcases h2 with h2 | ⟨h2, h3⟩
    · rw [if_pos (show x1 < 0 from h2)]
      exact ⟨_, E, _, _, _, _, _, rfl, rfl, hp, by omega⟩
    · rw [if_neg (show ¬ x1 < 0 from h2), if_pos (show (10 : Int32) < x1 from h3)]
      exact ⟨_, E, _, _, _, _, _, rfl, rfl, hp, by omega⟩
