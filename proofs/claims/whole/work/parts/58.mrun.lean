/-! The reference's search, whole. -/
def notAll (all : Nat) (L : List En) (j : Nat) : Prop := ∀ e, L[j]? = some e → e.1 ≠ all
def metOK (r : Nat) (met : Nat → Int32) : Prop := ∀ x, x < 16384 → ∃ m, m ≤ r ∧ met x = nI m
theorem m_root {r c0 g0 : Nat} {by' code far from' met : Nat → Int32} (hm : metOK r met) (hr : r + 1 < 2 ^ 31) (hc : c0 < 128) (hg : g0 < 128) : ∃ many' by'' code' far' from'' met', fX8_meets 0 (nI (r + 1)) by' code far from' met (nI (c0 + 128 * g0)) (-1) (-4) = some (many', by'', code', far', from'', met') ∧ MR (r + 1) [(c0, g0, 0, 0)] many' by'' code' far' from'' met' := by
  have hs : c0 + 128 * g0 < 16384 := by omega
  obtain ⟨m0, hm0, em0⟩ := hm _ hs
  refine ⟨1, upd by' 0 (-4), upd code 0 (nI (c0 + 128 * g0)), upd far 0 0, upd from' 0 (-1), upd met (c0 + 128 * g0) (nI (r + 1)), ?_, ?_⟩
  · unfold fX8_meets jX8_meets_77
    rw [rd_nI hs (by decide), Option.bind_some, em0, if_neg (fun q => by have := nI_inj (by omega) hr q; omega), wi_nI hs (by decide), Option.bind_some, show (0 : Int32) = nI 0 from rfl, wi_nI (by decide) (by decide), Option.bind_some, wi_nI (by decide) (by decide), Option.bind_some, wi_nI (by decide) (by decide), Option.bind_some, if_neg (by decide), wi_nI (by decide) (by decide), Option.bind_some]
    rfl
  · refine ⟨rfl, fun i e hi => ?_, fun c g hc' hg' => ?_, fun x hx => ?_⟩
    · have h0 : i = 0 := by
        have := (List.getElem?_eq_some_iff.mp hi).1
        simp at this
        exact this
      subst h0
      simp at hi
      subst hi
      exact ⟨rfl, rfl, fun h => by omega⟩
    · unfold upd
      rw [hasB_iff]
      by_cases q : c + 128 * g = c0 + 128 * g0
      · rw [if_pos q]
        have e1 : c0 = c := by omega
        have e2 : g0 = g := by omega
        simp [e1, e2]
      · rw [if_neg q]
        obtain ⟨m, hm1, em⟩ := hm (c + 128 * g) (by omega)
        rw [em]
        constructor
        · intro z
          have := nI_inj (by omega) hr z
          omega
        · rintro ⟨e, he, z1, z2⟩
          rw [List.mem_singleton.mp he] at z1 z2
          exact absurd (by rw [← z1, ← z2]) q
    · unfold upd
      by_cases q : x = c0 + 128 * g0
      · rw [if_pos q]; exact ⟨r + 1, Nat.le_refl _, rfl⟩
      · rw [if_neg q]
        obtain ⟨m, hm1, em⟩ := hm x hx
        exact ⟨m, by omega, em⟩
/-- where the reference's search stops -/
def stopM (n : Nat) (nr : Nat → Nat) (kind team : Nat) (sd : Bool) (c0 g0 K : Nat) : Prop := (∀ j, j < K → j < (Lk n nr kind team sd c0 g0 j).length ∧ notAll (2 ^ n - 1) (Lk n nr kind team sd c0 g0 j) j)
theorem m_run {st : Nat → Int32} {n : Nat} {nr : Nat → Nat} {kind team : Nat} {sd : Bool} {c0 g0 r : Nat} {many : Int32} {by' code far from' met : Nat → Int32} (hs : stNet st n nr) (hf : netFit n nr) (hki : kind < 3) (ht : team < 8) (hc : c0 < 2 ^ n) (hg : g0 &&& c0 = g0) (hm : metOK r met) (hr : r + 1 < 2 ^ 31) :
    ∃ K at' many' by'' code' far' from'' met', fX8_search many (nI r) by' code far from' met st (nI c0) (nI g0) (nI kind) (nI team) (if sd then 1 else 0) = some (at', many', nI (r + 1), by'', code', far', from'', met') ∧ MR (r + 1) (Lk n nr kind team sd c0 g0 K) many' by'' code' far' from'' met' ∧ stopM n nr kind team sd c0 g0 K ∧ ((at' = nI K ∧ ∃ e, (Lk n nr kind team sd c0 g0 K)[K]? = some e ∧ e.1 = 2 ^ n - 1) ∨ (at' = -4 ∧ (Lk n nr kind team sd c0 g0 K).length ≤ K)) := by
  have hn := hf.1.2
  have hp := pow_le hn
  have hg2 := sub_lt hg hc
  obtain ⟨m1, b1, c1, f1, r1, t1, q1, q2⟩ := m_root (by' := by') (code := code) (far := far) (from' := from') (c0 := c0) (g0 := g0) hm hr (by omega) (by omega)
  have q2 : MR (r + 1) (Lk n nr kind team sd c0 g0 0) m1 b1 c1 f1 r1 t1 := q2
  obtain ⟨x, hx1, hx2⟩ := itL_rel (b := bX8_search_32 st (nI kind) (nI team) (if sd then 1 else 0) (nI (r + 1))) (fun i (v : V7) => v.1 = nI i ∧ MRv (r + 1) (Lk n nr kind team sd c0 g0 i) v ∧ stopM n nr kind team sd c0 g0 i) (fun x => (∃ K v, x = .inl (nI K, v) ∧ MR (r + 1) (Lk n nr kind team sd c0 g0 K) v.1 v.2.2.1 v.2.2.2.1 v.2.2.2.2.1 v.2.2.2.2.2.1 v.2.2.2.2.2.2 ∧ v.2.1 = nI (r + 1) ∧ stopM n nr kind team sd c0 g0 K ∧ ∃ e, (Lk n nr kind team sd c0 g0 K)[K]? = some e ∧ e.1 = 2 ^ n - 1) ∨ ∃ K v, x = .inr v ∧ MRv (r + 1) (Lk n nr kind team sd c0 g0 K) v ∧ stopM n nr kind team sd c0 g0 K ∧ (Lk n nr kind team sd c0 g0 K).length ≤ K) 2187 (fun i v hi hv => by
      have hok := (Lk_ok (nr := nr) (kind := kind) (team := team) (sd := sd) hn hc hg i).1
      have hlen := okL_len hok.1
      obtain ⟨v1, v2, v3⟩ := hv
      have hmany : v.2.1 = nI (Lk n nr kind team sd c0 g0 i).length := v2.1
      unfold bX8_search_32
      by_cases z1 : (Lk n nr kind team sd c0 g0 i).length ≤ i
      · refine Or.inr ⟨.inr v, ?_, Or.inr ⟨i, v, rfl, v2, v3, z1⟩⟩
        rw [v1, hmany, if_pos (nI_le z1 (by omega)), ← v1, ← hmany]
      · have hlt : i < (Lk n nr kind team sd c0 g0 i).length := by omega
        have he := List.getElem?_eq_getElem hlt
        have oe := hok.1.1 _ (List.getElem_mem hlt)
        have hcode := (v2.2.1 i _ he).1
        rw [v1, hmany, if_neg (show ¬ nI (Lk n nr kind team sd c0 g0 i).length ≤ nI i from nI_ge hlt (by omega)), rd_nI (by omega) (by decide), Option.bind_some, m_all hs hn, Option.bind_some, hcode, show (128 : Int32) = nI 128 from rfl, pk_rem (d := 128) (by have := oe.1; have := oe.2.1; omega) (by decide) (by decide), Nat.add_mul_mod_self_left, Nat.mod_eq_of_lt oe.1]
        by_cases z2 : ((Lk n nr kind team sd c0 g0 i)[i]).1 = 2 ^ n - 1
        · refine Or.inr ⟨.inl (nI i, v.2.1, nI (r + 1), v.2.2), ?_, Or.inl ⟨i, _, rfl, v2, rfl, v3, _, he, z2⟩⟩
          rw [if_pos (by rw [z2]), ← hmany]
        · rw [if_neg (fun q => z2 (nI_inj (Nat.lt_trans oe.1 (by decide)) (Nat.lt_trans (all_lt hn) (by decide)) q))]
          refine Or.inl ?_
          obtain ⟨x1, a1, a2⟩ := m_puts (sd := sd) (v0 := (0, v.2)) hs hf hki ht hok he rfl v2
          have s1 : stays n (Lk n nr kind team sd c0 g0 i) _ := stays_put (nr := nr) (kind := kind) (team := team) (sd := sd) hn hok he ⟨hok, List.prefix_refl _⟩
          obtain ⟨x2, a3, a4⟩ := m_takes (sd := sd) (v0 := (0, x1.2)) hs hf hki ht s1.1 (pre_at s1.2 he) rfl a2
          have s2 := stays_take (nr := nr) (kind := kind) (team := team) (sd := sd) hn hok he s1
          obtain ⟨x3, a5, a6⟩ := m_moves (sd := sd) (v0 := (0, x2.2)) hs hf hki ht s2.1 (pre_at s2.2 he) rfl a4
          refine ⟨(nI (i + 1), x3.2), ?_, rfl, ?_, fun j hj => ?_⟩
          · rw [← hmany]
            rw [show ((0 : Int32), v.2.1, v.2.2.1, v.2.2.2.1, v.2.2.2.2.1, v.2.2.2.2.2.1, v.2.2.2.2.2.2) = ((0 : Int32), v.2) from rfl, a1, Option.bind_some]
            rw [show ((0 : Int32), x1.2.1, x1.2.2.1, x1.2.2.2.1, x1.2.2.2.2.1, x1.2.2.2.2.2.1, x1.2.2.2.2.2.2) = ((0 : Int32), x1.2) from rfl, a3, Option.bind_some]
            rw [show ((0 : Int32), x2.2.1, x2.2.2.1, x2.2.2.2.1, x2.2.2.2.2.1, x2.2.2.2.2.2.1, x2.2.2.2.2.2.2) = ((0 : Int32), x2.2) from rfl, a5, Option.bind_some, nI_1]
          · rw [Lk_some he]; exact a6
          · by_cases e : j = i
            · subst e
              exact ⟨hlt, fun e' he' => by
                rw [he] at he'
                obtain rfl := Option.some.inj he'
                exact z2⟩
            · exact v3 j (by omega)) (fun v hv => by
      have hok := (Lk_ok (nr := nr) (kind := kind) (team := team) (sd := sd) hn hc hg 2187).1
      have hlen := okL_len hok.1
      obtain ⟨v1, v2, v3⟩ := hv
      have hmany : v.2.1 = nI (Lk n nr kind team sd c0 g0 2187).length := v2.1
      refine ⟨.inr v, ?_, Or.inr ⟨2187, v, rfl, v2, v3, hlen⟩⟩
      unfold bX8_search_32
      rw [v1, hmany, if_pos (nI_le hlen (by decide)), ← v1, ← hmany]) fu (0, m1, b1, c1, f1, r1, t1) ⟨rfl, q2, fun j hj => by omega⟩ (by decide)
  unfold fX8_search
  rw [nI_1, show (128 : Int32) * nI g0 = nI (128 * g0) from pk_mul 128 g0, nI_add, q1, Option.bind_some, hx1, Option.bind_some]
  rcases hx2 with ⟨K, v, rfl, h1, h2, h3, h4⟩ | ⟨K, v, rfl, h1, h2, h3⟩
  · refine ⟨K, nI K, v.1, v.2.2.1, v.2.2.2.1, v.2.2.2.2.1, v.2.2.2.2.2.1, v.2.2.2.2.2.2, ?_, h1, h3, Or.inl ⟨rfl, h4⟩⟩
    rw [← h2]; rfl
  · exact ⟨K, -4, v.2.1, v.2.2.1, v.2.2.2.1, v.2.2.2.2.1, v.2.2.2.2.2.1, v.2.2.2.2.2.2, rfl, h1, h2, Or.inr ⟨rfl, h3⟩⟩
