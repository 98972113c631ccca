/-! allowed. -/
theorem itL_two2 {V W E F : Type} {b : V → Option (V ⊕ E)} {c : W → Option (W ⊕ F)} (R : Nat → V → W → Prop) (Q : E → F → Prop) (N : Nat) (hs : ∀ i v w, i < N → R i v w → (∃ v' w', b v = some (.inl v') ∧ c w = some (.inl w') ∧ R (i + 1) v' w') ∨ (∃ x y, b v = some (.inr x) ∧ c w = some (.inr y) ∧ Q x y)) (hx : ∀ v w, R N v w → ∃ x y, b v = some (.inr x) ∧ c w = some (.inr y) ∧ Q x y) : ∀ n v w, R 0 v w → N < n → ∃ x y, itL b n v = some x ∧ itL c n w = some y ∧ Q x y := by
  have key : ∀ k i, i + k = N → ∀ n v w, R i v w → k < n → ∃ x y, itL b n v = some x ∧ itL c n w = some y ∧ Q x y := by
    intro k
    induction k with
    | zero =>
      intro i e n v w h hn
      rw [Nat.add_zero] at e
      subst e
      obtain ⟨x, y, h1, h2, h3⟩ := hx v w h
      obtain ⟨n', rfl⟩ : ∃ n', n = n' + 1 := ⟨n - 1, by omega⟩
      refine ⟨x, y, ?_, ?_, h3⟩
      · unfold itL; rw [h1]
      · unfold itL; rw [h2]
    | succ k ih =>
      intro i e n v w h hn
      obtain ⟨n', rfl⟩ : ∃ n', n = n' + 1 := ⟨n - 1, by omega⟩
      rcases hs i v w (by omega) h with ⟨v', w', h1, h2, h3⟩ | ⟨x, y, h1, h2, h3⟩
      · obtain ⟨x, y, g1, g2, g3⟩ := ih (i + 1) (by omega) n' v' w' h3 (by omega)
        refine ⟨x, y, ?_, ?_, g3⟩
        · unfold itL; rw [h1]; exact g1
        · unfold itL; rw [h2]; exact g2
      · refine ⟨x, y, ?_, ?_, h3⟩
        · unfold itL; rw [h1]
        · unfold itL; rw [h2]
  exact fun n v w h hn => key N 0 (by omega) n v w h hn
/-- guards behind the first k acts of a row, if all are allowed -/
def alw (nr : Nat → Nat) (ki t : Nat) (a : Nat → Nat) : Nat → Option Nat
  | 0 => some 0
  | k + 1 => match alw nr ki t a k with
    | some g => if rul nr ki t g (a k) = 0 then some (gAft (a k) g) else none
    | none => none
theorem alw_some {nr : Nat → Nat} {ki t : Nat} {a : Nat → Nat} {k g : Nat} (h : alw nr ki t a k = some g) : alw nr ki t a (k + 1) = if rul nr ki t g (a k) = 0 then some (gAft (a k) g) else none := by
  show (match alw nr ki t a k with
    | some g => if rul nr ki t g (a k) = 0 then some (gAft (a k) g) else none
    | none => none) = _
  rw [h]
theorem alw_none {nr : Nat → Nat} {ki t : Nat} {a : Nat → Nat} {k : Nat} (h : alw nr ki t a k = none) : ∀ m, k ≤ m → alw nr ki t a m = none := by
  intro m hm
  induction m with
  | zero => rw [show k = 0 by omega] at h; exact h
  | succ m ih =>
    rcases Nat.eq_or_lt_of_le hm with e | q
    · rw [← e]; exact h
    · have := ih (by omega)
      show (match alw nr ki t a m with
        | some g => if rul nr ki t g (a m) = 0 then some (gAft (a m) g) else none
        | none => none) = _
      rw [this]
theorem c_allAllowed {n : Nat} {nr : Nat → Nat} {ki t i m : Nat} {a : Nat → Nat} {its : Nat → Int64} {nd al : Int32} {be ne : Nat → Int32} (hnet : netOk n nr nd al be ne) (hf : netFit n nr) (hki : ki < 3) (ht : t < 8) (ha : ∀ k, k < m → isA n (a k) ∧ its (i + k) = lN (a k)) (him : i + m ≤ 24) :
    fX7_allAllowed its (nI t) nd al be ne (nI i) (nI m) (nI ki) = some (if (alw nr ki t a m).isSome then 1 else 0) := by
  have hp := pow_le hf.1.2
  obtain ⟨x, f1, f2⟩ := itL_rel (b := bX7_allAllowed_6 its (nI t) nd al be ne (nI i) (nI m) (nI ki))
    (fun k v => ∃ g, g < 2 ^ n ∧ alw nr ki t a k = some g ∧ v = (nI g, nI (i + k)))
    (fun o => (o = .inl 0 ∧ alw nr ki t a m = none) ∨ ((∃ w, o = .inr w) ∧ (alw nr ki t a m).isSome = true)) m
    (by
      rintro k v hk ⟨g, hg, h1, rfl⟩
      obtain ⟨h2, h3⟩ := ha k hk
      unfold bX7_allAllowed_6
      dsimp only
      rw [nI_add, if_neg (show ¬ nI (i + m) ≤ nI (i + k) from nI_ge (by omega) (by omega)), rd_nI (by omega) (by decide), Option.bind_some, h3, lN_i, c_rul hnet hf h2 hg hki ht, Option.bind_some]
      by_cases q : rul nr ki t g (a k) = 0
      · rw [if_pos q, c_gAft hf.1.2 h2 (by omega), Option.bind_some, nI_1]
        refine Or.inl ⟨_, rfl, gAft (a k) g, gAft_lt hf.1.2 h2 hg, ?_, rfl⟩
        rw [alw_some h1, if_pos q]
      · rw [if_neg q]
        refine Or.inr ⟨_, rfl, Or.inl ⟨rfl, alw_none (k := k + 1) ?_ m (by omega)⟩⟩
        rw [alw_some h1, if_neg q])
    (by
      rintro v ⟨g, hg, h1, rfl⟩
      unfold bX7_allAllowed_6
      dsimp only
      rw [nI_add, if_pos (show nI (i + m) ≤ nI (i + m) from nI_le (Nat.le_refl _) (by omega))]
      exact ⟨_, rfl, Or.inr ⟨⟨_, rfl⟩, by rw [h1]; rfl⟩⟩)
    fu ((0 : Int32), nI i) ⟨0, Nat.two_pow_pos n, rfl, rfl⟩ (by show m < 5000; omega)
  unfold fX7_allAllowed
  rw [f1, Option.bind_some]
  rcases f2 with ⟨rfl, f3⟩ | ⟨⟨w, rfl⟩, f3⟩
  · rw [f3]; rfl
  · rw [f3]; rfl
theorem m_areAllowed {n : Nat} {nr : Nat → Nat} {ki t at' m : Nat} {a : Nat → Nat} {all : Nat → Int64} {st : Nat → Int32} (hs : stNet st n nr) (hf : netFit n nr) (hki : ki < 3) (ht : t < 8) (h11 : rd st 13 (11 : Int32) = some (nI t)) (ha : ∀ k, k < m → isA n (a k) ∧ all (at' + k) = lN (a k)) (him : at' + m ≤ 96) :
    fX8_areAllowed all st (nI ki) (nI at') (nI m) = some (if (alw nr ki t a m).isSome then 1 else 0) := by
  have hp := pow_le hf.1.2
  obtain ⟨x, f1, f2⟩ := itL_rel (b := bX8_areAllowed_9 all st (nI ki) (nI at') (nI m))
    (fun k v => (∃ g, g < 2 ^ n ∧ alw nr ki t a k = some g ∧ v = (nI g, 1, nI k)) ∨ (alw nr ki t a k = none ∧ ∃ g, v = (g, 0, nI k)))
    (fun o => o.2.1 = if (alw nr ki t a m).isSome then 1 else 0) m
    (by
      rintro k v hk (⟨g, hg, h1, rfl⟩ | ⟨h1, g, rfl⟩)
      · obtain ⟨h2, h3⟩ := ha k hk
        unfold bX8_areAllowed_9
        dsimp only
        rw [if_neg (show ¬ nI m ≤ nI k from nI_ge hk (by omega)), if_neg (show ¬ (1 : Int32) = 0 by decide), nI_add, rd_nI (by omega) (by decide), Option.bind_some, h3, lN_i, h11, Option.bind_some, m_rul hs hf h2 (by omega) hki ht, Option.bind_some]
        unfold jX8_areAllowed_56 jX8_areAllowed_75
        by_cases q : rul nr ki t g (a k) = 0
        · rw [if_pos q, if_neg (show ¬ (1 : Int32) = 0 by decide), m_gAft hf.1.2 h2 (by omega), Option.bind_some, nI_1]
          refine Or.inl ⟨_, rfl, Or.inl ⟨gAft (a k) g, gAft_lt hf.1.2 h2 hg, ?_, rfl⟩⟩
          rw [alw_some h1, if_pos q]
        · rw [if_neg q, if_pos rfl, nI_1]
          refine Or.inl ⟨_, rfl, Or.inr ⟨?_, _, rfl⟩⟩
          rw [alw_some h1, if_neg q]
      · unfold bX8_areAllowed_9
        dsimp only
        rw [if_neg (show ¬ nI m ≤ nI k from nI_ge hk (by omega)), if_pos rfl]
        refine Or.inr ⟨_, rfl, ?_⟩
        rw [alw_none h1 m (by omega)]
        rfl)
    (by
      rintro v (⟨g, hg, h1, rfl⟩ | ⟨h1, g, rfl⟩)
      · unfold bX8_areAllowed_9
        dsimp only
        rw [if_pos (show nI m ≤ nI m from nI_le (Nat.le_refl _) (by omega))]
        refine ⟨_, rfl, ?_⟩
        rw [h1]
        rfl
      · unfold bX8_areAllowed_9
        dsimp only
        rw [if_pos (show nI m ≤ nI m from nI_le (Nat.le_refl _) (by omega))]
        refine ⟨_, rfl, ?_⟩
        rw [h1]
        rfl)
    fu ((0 : Int32), (1 : Int32), (0 : Int32)) (Or.inl ⟨0, Nat.two_pow_pos n, rfl, rfl⟩) (by show m < 5000; omega)
  unfold fX8_areAllowed
  rw [f1, Option.bind_some, f2]
  cases (alw nr ki t a m).isSome
  · rw [if_neg (by decide), bz_0, Option.bind_some]
  · rw [if_pos rfl, bz_1, Option.bind_some]
theorem op_allowed {S : Sd} {E : Nat} {st : Nat → Int32} {wn wc wg wk wt wd' : Int32} {wl : Nat → Int32} {nd al ned : Int32} {be ne : Nat → Int32} {ped held : Int32} {len : Nat → Int32} {found goal : Int32} {seen : Nat → Int64} {states steps : Nat → Int32} {lane slen laneOf sizeOf : Nat → Int32} {its : Nat → Nat → Int64} {all : Nat → Int64} (hS : sdOK S) (hc : cSd S wn wl wc wg wk wt wd') (hm : mSd S st 0) (hp : NP E nd al ned be ne ped held len found goal seen states steps) (hE : E + 1 < 2 ^ 31) (h : shR lane slen its laneOf sizeOf all) (x1 x2 x3 x4 : Int32) :
    ∃ (v : Int32) (E' : Nat) (nd' al' ned' : Int32) (be' ne' : Nat → Int32), fX7_allowed wn wt wl nd al ned be ne lane slen its x1 x2 x3 x4 = some (v, nd', al', ned', be', ne') ∧ fX8_allowed all laneOf sizeOf st x1 x2 x3 x4 = some v ∧ NP E' nd' al' ned' be' ne' ped held len found goal seen states steps ∧ E' ≤ E + 1 := by
  have hnet := mSd_net hm
  have hn := hS.1.1
  obtain ⟨rfl, c2, rfl, rfl, rfl, rfl, rfl⟩ := hc
  obtain ⟨r8, r9, r10, r11, r12⟩ := st_rd hm
  unfold fX7_allowed fX8_allowed
  rcases sheetBoth x1 x2 with ⟨s, l, hs, hl, rfl, rfl, e1, e2, e3⟩ | ⟨e1, e3⟩
  · rw [e1, Option.bind_some, if_neg (show ¬ (1 : Int32) = 0 by decide), e2, Option.bind_some, if_neg (show ¬ (1 : Int32) = 0 by decide), e3, Option.bind_some, if_neg (show ¬ (1 : Int32) = 0 by decide)]
    rw [show (1 : Int64) = (nI 1).toInt64 from by decide, show (12 : Int64) = (nI 12).toInt64 from by decide]
    rcases m_inN (a := 1) (b := 12) (by decide) (by decide) x4 with ⟨m, hm1, hm2, rfl, h4, h5, h6⟩ | ⟨h1, h2⟩
    · rw [h4, Option.bind_some, if_neg (show ¬ (1 : Int32) = 0 by decide), if_neg (show ¬ nI m < (1 : Int32) from h5), if_pos (show nI m ≤ (12 : Int32) from nI_le (b := 12) hm2 (by decide)), sel4_at hs]
      obtain ⟨w, f1, f2, f3⟩ := found_same h hs hl (m := m) (by omega) x3
      rw [f1, f2, Option.bind_some, Option.bind_some]
      by_cases q : w = 0
      · obtain ⟨T, i, o1, rfl, hi⟩ := f3 q
        have hT := o1.2.1
        obtain ⟨E', be', ne', a1, a2, a3, a4, a5, a6⟩ := c_cur hS.1 c2 hp hE
        have hNP := NP_of (E := E') hS.1 a2 a4 a5 a6
        rw [if_pos q, if_pos q, a1, Option.bind_some, bnd_eq, show (24 : Int32) * nI s = nI (24 * s) from pk_mul 24 s, nI_add]
        dsimp only
        obtain ⟨x, y, g1, g2, g3⟩ := itL_two2 (b := bX7_allowed_64 (nI (sN S)) (nI (sT S)) wl lane slen its s (nI i) (nI m) (nI (sN S)) (nI (2 ^ sN S - 1)) (nI E') be' ne') (c := bX8_allowed_53 all laneOf sizeOf st (nI m) (nI (24 * s + i)))
          (fun k v w => v = nI (i + k) ∧ w = nI k ∧ ∀ j, j < k → ∃ a, isA (sN S) a ∧ its s (i + j) = lN a)
          (fun v w => (v = .inl (-2, nI (sN S), nI (2 ^ sN S - 1), nI E', be', ne') ∧ w = .inl (-2)) ∨ ((∃ a, v = .inr a) ∧ (∃ a, w = .inr a) ∧ ∀ j, j < m → ∃ a, isA (sN S) a ∧ its s (i + j) = lN a)) m
          (by
            rintro k v w hk ⟨rfl, rfl, z⟩
            have hit : its s (i + k) = all (24 * s + i + k) := by rw [o1.2.2.2.2.2.2 (i + k) (by omega), ← Nat.add_assoc]
            unfold bX7_allowed_64 bX8_allowed_53
            rw [nI_add, if_neg (show ¬ nI (i + m) ≤ nI (i + k) from nI_ge (by omega) (by omega)), rd_nI (by omega) (by decide), Option.bind_some, if_neg (show ¬ nI m ≤ nI k from nI_ge hk (by omega)), nI_add, rd_nI (by omega) (by decide), Option.bind_some, ← hit]
            rcases isAct_both hnet (by omega) hn.2 (its s (i + k)) with ⟨a, b1, b2, b3, b4⟩ | ⟨b3, b4⟩
            · rw [b3, b4, Option.bind_some, Option.bind_some, if_neg (show ¬ (1 : Int32) = 0 by decide), if_neg (show ¬ (1 : Int32) = 0 by decide), nI_1, nI_1]
              refine Or.inl ⟨_, _, rfl, rfl, rfl, rfl, fun j hj => ?_⟩
              rcases (show j = k ∨ j < k by omega) with rfl | qq
              · exact ⟨a, b1, b2⟩
              · exact z j qq
            · rw [b3, b4, Option.bind_some, Option.bind_some, if_pos rfl, if_pos rfl]
              exact Or.inr ⟨_, _, rfl, rfl, Or.inl ⟨rfl, rfl⟩⟩)
          (by
            rintro v w ⟨rfl, rfl, z⟩
            unfold bX7_allowed_64 bX8_allowed_53
            rw [nI_add, if_pos (show nI (i + m) ≤ nI (i + m) from nI_le (Nat.le_refl _) (by omega)), if_pos (show nI m ≤ nI m from nI_le (Nat.le_refl _) (by omega))]
            exact ⟨_, _, rfl, rfl, Or.inr ⟨⟨_, rfl⟩, ⟨_, rfl⟩, z⟩⟩)
          fu (nI i) (0 : Int32) ⟨rfl, rfl, fun j hj => absurd hj (by omega)⟩ (by show m < 5000; omega)
        rw [g1, g2, Option.bind_some, Option.bind_some]
        rcases g3 with ⟨rfl, rfl⟩ | ⟨⟨b1, rfl⟩, ⟨b2, rfl⟩, g3⟩
        · exact ⟨_, E', _, _, _, _, _, rfl, rfl, hNP, a3⟩
        · have hch : ∃ a : Nat → Nat, ∀ j, j < m → isA (sN S) (a j) ∧ its s (i + j) = lN (a j) := by
            refine ⟨fun j => (its s (i + j)).toBitVec.toNat, fun j hj => ?_⟩
            obtain ⟨a, z1, z2⟩ := g3 j hj
            dsimp only
            have ha := isA_lt hn.2 z1
            rw [z2, lN_nat (by omega)]
            exact ⟨z1, rfl⟩
          obtain ⟨a, ha⟩ := hch
          have hb : ∀ k, k < m → isA (sN S) (a k) ∧ all (24 * s + i + k) = lN (a k) := fun k hk => ⟨(ha k hk).1, by rw [Nat.add_assoc, ← o1.2.2.2.2.2.2 (i + k) (by omega)]; exact (ha k hk).2⟩
          have ht8 : sT S < 8 := by have := hS.2.2.2.2.2.1; omega
          show ∃ v E' nd' al' ned' be' ne', Option.bind _ _ = _ ∧ Option.bind _ _ = _ ∧ _
          obtain ⟨x, y, k1, k2, u, rfl, rfl⟩ := itL_two (b := bX7_allowed_106 (nI (sN S)) (nI (sT S)) wl lane slen its s (nI i) (nI m) (nI (sN S)) (nI (2 ^ sN S - 1)) (nI E') be' ne') (c := bX8_allowed_92 all laneOf sizeOf st (nI m) (nI (24 * s + i)))
            (fun k v w => ∃ u, v = (u, nI k) ∧ w = (u, nI k)) (fun v w => ∃ u, v = (u, nI 3) ∧ w = (u, nI 3)) 3
            (by
              rintro k v w hk ⟨u, rfl, rfl⟩
              unfold bX7_allowed_106 bX8_allowed_92
              dsimp only
              rw [if_neg (show ¬ (3 : Int32) ≤ nI k from nI_ge (b := 3) hk (by decide)), c_allAllowed a2 hS.1 hk ht8 ha (by omega), Option.bind_some, if_neg (show ¬ (3 : Int32) ≤ nI k from nI_ge (b := 3) hk (by decide)), m_areAllowed hnet hS.1 hk ht8 r11 hb (by omega), Option.bind_some, bnd_eq]
              unfold jX7_allowed_135 jX8_allowed_121
              cases (alw (sL S) k (sT S) a m).isSome
              · rw [if_pos (by decide), if_pos (by decide), nI_1, Int32.or_zero]
                exact ⟨_, _, rfl, rfl, _, rfl, rfl⟩
              · rw [if_neg (by decide), if_neg (by decide), nI_1]
                exact ⟨_, _, rfl, rfl, _, rfl, rfl⟩)
            (by
              rintro v w ⟨u, rfl, rfl⟩
              unfold bX7_allowed_106 bX8_allowed_92
              dsimp only
              rw [if_pos (by decide), if_pos (by decide)]
              exact ⟨_, _, rfl, rfl, _, rfl, rfl⟩)
            fu ((0 : Int32), (0 : Int32)) ((0 : Int32), (0 : Int32)) ⟨_, rfl, rfl⟩ (by decide)
          rw [k1, k2, Option.bind_some, Option.bind_some]
          exact ⟨_, E', _, _, _, _, _, rfl, rfl, hNP, a3⟩
      · rw [if_neg q, if_neg q]
        exact ⟨_, E, _, _, _, _, _, rfl, rfl, hp, by omega⟩
    · rw [h1, Option.bind_some, if_pos rfl]
      rcases h2 with h2 | ⟨h2, h3⟩
      · rw [if_pos (show x4 < (1 : Int32) from h2)]
        exact ⟨_, E, _, _, _, _, _, rfl, rfl, hp, by omega⟩
      · rw [if_neg (show ¬ x4 < (1 : Int32) from h2), if_neg (show ¬ x4 ≤ (12 : Int32) from Int32.not_le.mpr h3)]
        exact ⟨_, E, _, _, _, _, _, rfl, rfl, hp, by omega⟩
  · rw [e3, Option.bind_some, if_pos rfl]
    rcases e1 with ⟨e1, e2⟩ | e1
    · rw [e1, Option.bind_some, if_neg (show ¬ (1 : Int32) = 0 by decide), e2, Option.bind_some, if_pos rfl]
      exact ⟨_, E, _, _, _, _, _, rfl, rfl, hp, by omega⟩
    · rw [e1, Option.bind_some, if_pos rfl]
      exact ⟨_, E, _, _, _, _, _, rfl, rfl, hp, by omega⟩
