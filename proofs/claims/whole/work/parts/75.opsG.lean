/-! copy, film, allowed. -/
theorem sh_write {lane len laneOf sizeOf : Nat → Int32} {its : Nat → Nat → Int64} {all : Nat → Int64} {s T l i : Nat} {v : Int64} (h : shR lane len its laneOf sizeOf all) (o : shO T l (lane s) (len s) (laneOf s) (sizeOf s) (its s) all s) (hi : i < T) :
    shR lane len (va_up its s (vp_updL (its s) i v)) laneOf sizeOf (vp_updL all (24 * s + i) v) ∧ shO T l (lane s) (len s) (laneOf s) (sizeOf s) (va_up its s (vp_updL (its s) i v) s) (vp_updL all (24 * s + i) v) s := by
  have hT := o.2.1
  have key : shO T l (lane s) (len s) (laneOf s) (sizeOf s) (va_up its s (vp_updL (its s) i v) s) (vp_updL all (24 * s + i) v) s := by
    refine ⟨o.1, o.2.1, o.2.2.1, o.2.2.2.1, o.2.2.2.2.1, o.2.2.2.2.2.1, fun k hk => ?_⟩
    rw [vu]
    by_cases e : k = i
    · subst e
      rw [pk_uLs, pk_uLs]
    · rw [pk_uLn e, pk_uLn (by omega)]
      exact o.2.2.2.2.2.2 k hk
  exact ⟨sh_other (t := s) h (fun j hj hne => ⟨rfl, rfl, vn hne, rfl, rfl⟩) (fun j hj hne k hk => pk_uLn (by omega)) (Or.inr ⟨T, l, key⟩), key⟩
theorem op_film {S : Sd} {st : Nat → Int32} {wn wc wg wk wt wd' : Int32} {wl : Nat → Int32} {lane len laneOf sizeOf : Nat → Int32} {its : Nat → Nat → Int64} {all : Nat → Int64} (hS : sdOK S) (hc : cSd S wn wl wc wg wk wt wd') (hm : mSd S st 0) (h : shR lane len its laneOf sizeOf all) (x1 x2 x3 : Int32) :
    ∃ r its' all', fX7_film wn wc wg lane len its x1 x2 x3 = some (r, its') ∧ fX8_film all laneOf sizeOf st x1 x2 x3 = some (r, all') ∧ shR lane len its' laneOf sizeOf all' := by
  have hn := hS.1.1
  obtain ⟨rfl, c2, rfl, rfl, rfl, rfl, rfl⟩ := hc
  have r0 : rd st 13 (0 : Int32) = some (nI (sN S)) := by rw [l0, rd_nI (by decide) (by decide), hm.1]
  unfold fX7_film fX8_film
  rcases sheetBoth x1 x2 with ⟨s, l, hs, hl, rfl, rfl, e1, e2, e3⟩ | ⟨e1, e3⟩
  · rw [e1, Option.bind_some, if_neg (show ¬ (1 : Int32) = 0 by decide), e2, Option.bind_some, if_neg (show ¬ (1 : Int32) = 0 by decide), e3, Option.bind_some, if_neg (show ¬ (1 : Int32) = 0 by decide), sel4_at hs, r0, Option.bind_some]
    obtain ⟨w, f1, f2, f3⟩ := found_same h hs hl (m := sN S) (by omega) x3
    rw [f1, f2, Option.bind_some, Option.bind_some]
    by_cases q : w = 0
    · obtain ⟨T, i, o1, rfl, hi⟩ := f3 q
      have hT := o1.2.1
      rw [if_pos q, if_pos q]
      obtain ⟨x, y, g1, g2, its', all', rfl, rfl, g3⟩ := itL_two (b := bX7_film_51 (nI (sN S)) (nI (sC S)) (nI (sG S)) lane len s (nI i)) (c := bX8_film_36 laneOf sizeOf st (nI s) (nI i))
        (fun k v w => ∃ its' all', v = (nI k, its') ∧ w = (nI k, all') ∧ shR lane len its' laneOf sizeOf all' ∧ shO T l (lane s) (len s) (laneOf s) (sizeOf s) (its' s) all' s)
        (fun v w => ∃ its' all', v = (nI (sN S), its') ∧ w = (nI (sN S), all') ∧ shR lane len its' laneOf sizeOf all') (sN S)
        (by
          rintro k v w hk ⟨its', all', rfl, rfl, z1, z2⟩
          obtain ⟨r, l1, l2⟩ := op_look hS hm hk
          obtain ⟨w1, w2⟩ := sh_write (i := i + k) (v := r.toInt64) z1 z2 (by omega)
          refine ⟨(nI (k + 1), va_up its' s (vp_updL (its' s) (i + k) r.toInt64)), (nI (k + 1), vp_updL all' (24 * s + (i + k)) r.toInt64), ?_, ?_, _, _, rfl, rfl, w1, w2⟩
          · unfold bX7_film_51
            dsimp only
            rw [if_neg (show ¬ nI (sN S) ≤ nI k from nI_ge hk (by omega)), l1, Option.bind_some, nI_add, wl_nI (by omega) (by decide), Option.bind_some, nI_1]
          · unfold bX8_film_36
            dsimp only
            rw [r0, Option.bind_some, if_neg (show ¬ nI (sN S) ≤ nI k from nI_ge hk (by omega)), l2, Option.bind_some, show (24 : Int32) * nI s = nI (24 * s) from pk_mul 24 s, nI_add, nI_add, Nat.add_assoc, wl_nI (by omega) (by decide), Option.bind_some, nI_1])
        (by
          rintro v w ⟨its', all', rfl, rfl, z1, z2⟩
          refine ⟨(nI (sN S), its'), (nI (sN S), all'), ?_, ?_, _, _, rfl, rfl, z1⟩
          · unfold bX7_film_51
            dsimp only
            rw [if_pos (show nI (sN S) ≤ nI (sN S) from nI_le (Nat.le_refl _) (by omega))]
          · unfold bX8_film_36
            dsimp only
            rw [r0, Option.bind_some, if_pos (show nI (sN S) ≤ nI (sN S) from nI_le (Nat.le_refl _) (by omega))])
        fu ((0 : Int32), its) ((0 : Int32), all) ⟨_, _, rfl, rfl, h, o1⟩ (by show sN S < 5000; omega)
      rw [g1, g2, Option.bind_some, Option.bind_some, Option.bind_some]
      exact ⟨_, _, _, rfl, rfl, g3⟩
    · rw [if_neg q, if_neg q]
      exact ⟨_, _, _, rfl, rfl, h⟩
  · rw [e3, Option.bind_some, if_pos rfl]
    rcases e1 with ⟨e1, e2⟩ | e1
    · rw [e1, Option.bind_some, if_neg (show ¬ (1 : Int32) = 0 by decide), e2, Option.bind_some, if_pos rfl]
      exact ⟨_, _, _, rfl, rfl, h⟩
    · rw [e1, Option.bind_some, if_pos rfl]
      exact ⟨_, _, _, rfl, rfl, h⟩
/-- the reference's copy: upwards or downwards, as it is needed -/
theorem m_copy {s t i j m : Nat} {la si : Nat → Int32} {all : Nat → Int64} {up : Int32} (hs : s < 4) (ht : t < 4) (hi : i + m ≤ 24) (hj : j + m ≤ 24) (hup : (up = 0 ∧ j ≤ i) ∨ (up = 1 ∧ i < j)) :
    ∃ all', jX8_copy_127 la si (nI s) (nI i) (nI t) (nI j) (nI m) up all = some (nI m, all') ∧ ∀ x, all' x = if 24 * t + j ≤ x ∧ x < 24 * t + j + m then all (24 * s + i + (x - (24 * t + j))) else all x := by
  have a24 : ∀ k, (24 : Int32) * nI k = nI (24 * k) := fun k => pk_mul 24 k
  rcases hup with ⟨rfl, hup⟩ | ⟨rfl, hup⟩
  · have key : itL (bX8_copy_132 la si (nI s) (nI i) (nI t) (nI j) (nI m) 0) fu ((0 : Int32), all) = some (nI m, fun x => if 24 * t + j ≤ x ∧ x < 24 * t + j + m then all (24 * s + i + (x - (24 * t + j))) else all x) := by
      refine itL_for (fun k => (nI k, fun x => if 24 * t + j ≤ x ∧ x < 24 * t + j + k then all (24 * s + i + (x - (24 * t + j))) else all x)) m _ ?_ ?_ (by show m < 5000; omega) ?_
      · intro k hk
        unfold bX8_copy_132 jX8_copy_156
        dsimp only
        rw [if_neg (show ¬ nI m ≤ nI k from nI_ge hk (by omega)), if_pos rfl, a24, a24, nI_add, nI_add, nI_add, nI_add, rd_nI (by omega) (by decide), Option.bind_some, wl_nI (by omega) (by decide), Option.bind_some, nI_1]
        refine congrArg (fun z => some (Sum.inl (nI (k + 1), z))) (funext (fun x => ?_))
        have hrd : (if 24 * t + j ≤ 24 * s + i + k ∧ 24 * s + i + k < 24 * t + j + k then all (24 * s + i + (24 * s + i + k - (24 * t + j))) else all (24 * s + i + k)) = all (24 * s + i + k) := if_neg (by omega)
        rw [hrd]
        by_cases e : x = 24 * t + j + k
        · subst e
          rw [pk_uLs, if_pos (by omega)]
          congr 1
          omega
        · rw [pk_uLn e]
          by_cases q : 24 * t + j ≤ x ∧ x < 24 * t + j + k
          · rw [if_pos q, if_pos (by omega)]
          · rw [if_neg q, if_neg (by omega)]
      · unfold bX8_copy_132
        dsimp only
        rw [if_pos (show nI m ≤ nI m from nI_le (Nat.le_refl _) (by omega))]
      · refine congrArg (fun z => ((0 : Int32), z)) (funext (fun x => ?_))
        rw [if_neg (by omega)]
    unfold jX8_copy_127
    rw [key, Option.bind_some]
    exact ⟨_, rfl, fun x => rfl⟩
  · have key : itL (bX8_copy_132 la si (nI s) (nI i) (nI t) (nI j) (nI m) 1) fu ((0 : Int32), all) = some (nI m, fun x => if 24 * t + j ≤ x ∧ x < 24 * t + j + m then all (24 * s + i + (x - (24 * t + j))) else all x) := by
      refine itL_for (fun k => (nI k, fun x => if 24 * t + j + (m - k) ≤ x ∧ x < 24 * t + j + m then all (24 * s + i + (x - (24 * t + j))) else all x)) m _ ?_ ?_ (by show m < 5000; omega) ?_
      · intro k hk
        unfold bX8_copy_132 jX8_copy_156
        dsimp only
        rw [if_neg (show ¬ nI m ≤ nI k from nI_ge hk (by omega)), if_neg (show ¬ (1 : Int32) = 0 by decide), show nI m - (1 : Int32) = nI (m - 1) from pk_sub (a := m) (b := 1) (by omega), pk_sub (show k ≤ m - 1 by omega), a24, a24, nI_add, nI_add, nI_add, nI_add, rd_nI (by omega) (by decide), Option.bind_some, wl_nI (by omega) (by decide), Option.bind_some, nI_1]
        refine congrArg (fun z => some (Sum.inl (nI (k + 1), z))) (funext (fun x => ?_))
        have hrd : (if 24 * t + j + (m - k) ≤ 24 * s + i + (m - 1 - k) ∧ 24 * s + i + (m - 1 - k) < 24 * t + j + m then all (24 * s + i + (24 * s + i + (m - 1 - k) - (24 * t + j))) else all (24 * s + i + (m - 1 - k))) = all (24 * s + i + (m - 1 - k)) := if_neg (by omega)
        rw [hrd]
        by_cases e : x = 24 * t + j + (m - 1 - k)
        · subst e
          rw [pk_uLs, if_pos (by omega)]
          congr 1
          omega
        · rw [pk_uLn e]
          by_cases q : 24 * t + j + (m - k) ≤ x ∧ x < 24 * t + j + m
          · rw [if_pos q, if_pos (by omega)]
          · rw [if_neg q, if_neg (by omega)]
      · unfold bX8_copy_132
        dsimp only
        rw [if_pos (show nI m ≤ nI m from nI_le (Nat.le_refl _) (by omega))]
        refine congrArg (fun z => some (Sum.inr (nI m, z))) (funext (fun x => ?_))
        rw [show 24 * t + j + (m - m) = 24 * t + j by omega]
      · refine congrArg (fun z => ((0 : Int32), z)) (funext (fun x => ?_))
        rw [if_neg (by omega)]
    unfold jX8_copy_127
    rw [key, Option.bind_some]
    exact ⟨_, rfl, fun x => rfl⟩
theorem op_copy {lane len laneOf sizeOf : Nat → Int32} {its : Nat → Nat → Int64} {all : Nat → Int64} (h : shR lane len its laneOf sizeOf all) (x1 x2 x3 x4 x5 : Int32) :
    ∃ r its' all', fX7_copy lane len its x1 x2 x3 x4 x5 = some (r, its') ∧ fX8_copy all laneOf sizeOf x1 x2 x3 x4 x5 = some (r, all') ∧ shR lane len its' laneOf sizeOf all' := by
  unfold fX7_copy fX8_copy
  rcases sheetOf x1 with ⟨s, hs, rfl, e1, _, e2⟩ | ⟨e1, _, e2⟩
  · rw [e1, Option.bind_some, if_neg (show ¬ (1 : Int32) = 0 by decide), e2, Option.bind_some, if_neg (show ¬ (1 : Int32) = 0 by decide)]
    rcases sheetOf x3 with ⟨t, ht, rfl, e3, _, e4⟩ | ⟨e3, _, e4⟩
    · rw [e3, Option.bind_some, if_neg (show ¬ (1 : Int32) = 0 by decide), e4, Option.bind_some, if_neg (show ¬ (1 : Int32) = 0 by decide), sel4_at hs, sel4_at ht, rd_nI hs (by decide), Option.bind_some, rd_nI ht (by decide)]
      unfold fX4_isMissing
      rcases h s hs with ⟨h1, h2⟩ | ⟨T, l, a⟩
      · rw [if_pos h1, Option.bind_some, if_neg (show ¬ (1 : Int32) = 0 by decide), if_pos h2]
        exact ⟨_, _, _, rfl, rfl, h⟩
      · have a0 := a
        obtain ⟨a1, a2, a3, a4, a5, a6, a7⟩ := a
        rw [if_neg (show ¬ lane s = -1 by rw [a3]; exact m1_ne (by omega)), Option.bind_some, if_pos rfl, if_neg (show ¬ laneOf s < 0 by rw [a4]; exact nI_pos (by omega)), Option.bind_some, Option.bind_some]
        rcases h t ht with ⟨h1, h2⟩ | ⟨T', l', b⟩
        · rw [if_pos h1, Option.bind_some, if_neg (show ¬ (1 : Int32) = 0 by decide), if_neg (show ¬ 0 ≤ laneOf t from Int32.not_le.mpr h2)]
          exact ⟨_, _, _, rfl, rfl, h⟩
        · have b0 := b
          obtain ⟨b1, b2, b3, b4, b5, b6, b7⟩ := b
          rw [if_neg (show ¬ lane t = -1 by rw [b3]; exact m1_ne (by omega)), Option.bind_some, if_pos rfl, if_pos (show 0 ≤ laneOf t by rw [b4, l0]; exact nI_le (Nat.zero_le _) (by omega)), Option.bind_some, a3, b3, a4, b4]
          by_cases ql : nI l = nI l'
          · rw [if_pos ql, if_pos ql, a5, b5]
            unfold fX4_holds
            by_cases q5 : x5 < 0
            · rw [if_pos q5, if_pos q5, if_pos q5, Option.bind_some, if_pos rfl]
              exact ⟨_, _, _, rfl, rfl, h⟩
            · obtain ⟨m, hm, rfl⟩ := nI_of q5
              rw [if_neg q5, if_neg q5, if_neg q5]
              by_cases q2 : x2 < 0
              · rw [if_pos q2, Option.bind_some, if_pos rfl, if_pos q2, ite_self]
                exact ⟨_, _, _, rfl, rfl, h⟩
              · obtain ⟨i, hi, rfl⟩ := nI_of q2
                rw [if_neg q2, if_neg q2, rd_nI hs (by decide), Option.bind_some, a6]
                by_cases qa : T < i + m
                · rw [if_pos ((diff_lt (by omega) hm hi).mpr qa), if_pos ((diff_lt (by omega) hm hi).mpr qa), Option.bind_some, if_pos rfl, ite_self, ite_self]
                  exact ⟨_, _, _, rfl, rfl, h⟩
                · rw [if_neg (fun z => qa ((diff_lt (by omega) hm hi).mp z)), if_neg (fun z => qa ((diff_lt (by omega) hm hi).mp z)), Option.bind_some, if_neg (show ¬ (1 : Int32) = 0 by decide), if_neg (show ¬ (24 : Int32) < nI m from nI_nlt (a := 24) (b := m) (by omega) (by decide))]
                  by_cases q4 : x4 < 0
                  · rw [if_pos q4, if_pos q4, Option.bind_some, if_pos rfl]
                    exact ⟨_, _, _, rfl, rfl, h⟩
                  · obtain ⟨j, hj, rfl⟩ := nI_of q4
                    rw [if_neg q4, if_neg q4, rd_nI ht (by decide), Option.bind_some, b6]
                    by_cases qb : T' < j + m
                    · rw [if_pos ((diff_lt (by omega) hm hj).mpr qb), Option.bind_some, if_pos rfl, if_neg (fun z => absurd ((diff_le (by omega) hm hj).mp z) (by omega))]
                      exact ⟨_, _, _, rfl, rfl, h⟩
                    · rw [if_neg (fun z => qb ((diff_lt (by omega) hm hj).mp z)), Option.bind_some, if_neg (show ¬ (1 : Int32) = 0 by decide), if_pos ((diff_le (by omega) hm hj).mpr (by omega))]
                      have hcp : cpy (its s) (its t) 24 24 (nI i) (nI j) (nI m) = some (va_cpy (its s) (its t) i j m) := by
                        unfold cpy
                        rw [nI_clamp hi, nI_clamp hj, nI_clamp hm, if_pos ⟨q2, q4, q5, by omega, by omega⟩]
                      rw [hcp, Option.bind_some]
                      have fin : ∀ up : Int32, ((up = 0 ∧ j ≤ i) ∨ (up = 1 ∧ i < j)) → ∃ r its' all', some (nI m, va_up its t (va_cpy (its s) (its t) i j m)) = some (r, its') ∧ jX8_copy_127 laneOf sizeOf (nI s) (nI i) (nI t) (nI j) (nI m) up all = some (r, all') ∧ shR lane len its' laneOf sizeOf all' := by
                        intro up hup
                        obtain ⟨all', c1, c2⟩ := m_copy (la := laneOf) (si := sizeOf) (all := all) hs ht (show i + m ≤ 24 by omega) (show j + m ≤ 24 by omega) hup
                        refine ⟨_, _, all', rfl, c1, sh_other (t := t) h (fun k hk hne => ⟨rfl, rfl, vn hne, rfl, rfl⟩) (fun k hk hne x hx => ?_) (Or.inr ⟨T', l', b0.1, b0.2.1, b0.2.2.1, b0.2.2.2.1, b0.2.2.2.2.1, b0.2.2.2.2.2.1, fun x hx => ?_⟩)⟩
                        · rw [c2, if_neg (by omega)]
                        · rw [vu, c2]
                          by_cases qx : j ≤ x ∧ x < j + m
                          · rw [pk_cpy_in qx.1 qx.2, if_pos (by omega), a7 _ (by omega)]
                            congr 1
                            omega
                          · rw [pk_cpy_out (by omega), if_neg (by omega)]
                            exact b7 x hx
                      by_cases qu : j ≤ i
                      · rw [if_pos (nI_le qu hi)]
                        exact fin 0 (Or.inl ⟨rfl, qu⟩)
                      · rw [if_neg (show ¬ nI j ≤ nI i from nI_ge (by omega) hj)]
                        exact fin 1 (Or.inr ⟨rfl, by omega⟩)
          · rw [if_neg ql, if_neg ql]
            exact ⟨_, _, _, rfl, rfl, h⟩
    · rw [e3, Option.bind_some, if_pos rfl, e4, Option.bind_some, if_pos rfl]
      exact ⟨_, _, _, rfl, rfl, h⟩
  · rw [e1, Option.bind_some, if_pos rfl, e2, Option.bind_some, if_pos rfl]
    exact ⟨_, _, _, rfl, rfl, h⟩
