/-! Both searches find the same, by the same acts. -/
theorem gIdx_some {all : Nat} {L : List En} (h : gIdx all L < L.length) : ∃ e, L[gIdx all L]? = some e ∧ e.1 = all := by
  refine ⟨L[gIdx all L], List.getElem?_eq_getElem h, ?_⟩
  have := List.findIdx_getElem (p := fun e : En => decide (e.1 = all)) (xs := L) (w := h)
  exact of_decide_eq_true this
theorem gIdx_before {all : Nat} {L : List En} {j : Nat} {e : En} (h : L[j]? = some e) (he : e.1 = all) : gIdx all L ≤ j ∧ gIdx all L < L.length := by
  have hj := (List.getElem?_eq_some_iff.mp h).1
  have hle : gIdx all L ≤ j := by
    rcases Nat.lt_or_ge j (gIdx all L) with q | q
    · have := List.not_of_lt_findIdx (p := fun e : En => decide (e.1 = all)) (xs := L) q
      have e2 : L[j] = e := (List.getElem?_eq_some_iff.mp h).2
      rw [e2] at this
      simp [he] at this
    · exact q
  exact ⟨hle, by omega⟩
theorem goalI_none {all : Nat} {L : List En} (hl : L.length ≤ 2187) : goalI all L = -1 ↔ ∀ (j : Nat) (e : En), L[j]? = some e → e.1 ≠ all := by
  unfold goalI
  by_cases q : gIdx all L < L.length
  · rw [if_pos q]
    constructor
    · intro h; exact absurd h (nI_nm1 (by omega))
    · intro h
      obtain ⟨e, h1, h2⟩ := gIdx_some q
      exact absurd h2 (h _ e h1)
  · rw [if_neg q]
    exact ⟨fun _ j e hj he => q (gIdx_before hj he).2, fun _ => rfl⟩
theorem both_stop {n : Nat} {nr : Nat → Nat} {kind team : Nat} {sd : Bool} {c0 g0 Kc Km : Nat} {at' : Int32} (hn : n ≤ 7) (hc : c0 < 2 ^ n) (hg : g0 &&& c0 = g0) (h1 : stopC n nr kind team sd c0 g0 Kc) (h2 : stopM n nr kind team sd c0 g0 Km) (h3 : (at' = nI Km ∧ ∃ e, (Lk n nr kind team sd c0 g0 Km)[Km]? = some e ∧ e.1 = 2 ^ n - 1) ∨ (at' = -4 ∧ (Lk n nr kind team sd c0 g0 Km).length ≤ Km)) :
    (∃ i, goalI (2 ^ n - 1) (Lk n nr kind team sd c0 g0 Kc) = nI i ∧ at' = nI i ∧ i < (Lk n nr kind team sd c0 g0 Kc).length ∧ Lk n nr kind team sd c0 g0 Kc <+: Lk n nr kind team sd c0 g0 Km) ∨ (goalI (2 ^ n - 1) (Lk n nr kind team sd c0 g0 Kc) = -1 ∧ at' = -4) := by
  have ok := fun k => Lk_ok (nr := nr) (kind := kind) (team := team) (sd := sd) hn hc hg k
  have len := fun k => okL_len (ok k).1.1
  have mono : ∀ {j k : Nat}, j ≤ k → Lk n nr kind team sd c0 g0 j <+: Lk n nr kind team sd c0 g0 k := fun h => Lk_mono hn hc hg h
  by_cases hgo : goalI (2 ^ n - 1) (Lk n nr kind team sd c0 g0 Kc) = -1
  · refine Or.inr ⟨hgo, ?_⟩
    have hno := (goalI_none (len Kc)).mp hgo
    rcases h1.2 with hl | hl
    · rcases h3 with ⟨_, e, he, hall⟩ | ⟨q, _⟩
      · rcases (Nat.lt_or_ge Kc Km).symm with q | q
        · exact absurd hall (hno Km e (pre_at (mono q) he))
        · have := (h2 Kc q).1
          omega
      · exact q
    · exact absurd hgo hl
  · have hlt : gIdx (2 ^ n - 1) (Lk n nr kind team sd c0 g0 Kc) < (Lk n nr kind team sd c0 g0 Kc).length := by
      rcases Nat.lt_or_ge (gIdx (2 ^ n - 1) (Lk n nr kind team sd c0 g0 Kc)) (Lk n nr kind team sd c0 g0 Kc).length with q | q
      · exact q
      · exact absurd (by unfold goalI; rw [if_neg (by omega)]) hgo
    obtain ⟨e, he, hall⟩ := gIdx_some hlt
    generalize hi : gIdx (2 ^ n - 1) (Lk n nr kind team sd c0 g0 Kc) = i at hlt he
    have hgoal : goalI (2 ^ n - 1) (Lk n nr kind team sd c0 g0 Kc) = nI i := by unfold goalI; rw [hi, if_pos hlt]
    have hKi : Kc ≤ i := by
      rcases Nat.eq_zero_or_pos Kc with q | q
      · omega
      · have hj := h1.1 (Kc - 1) (by omega)
        have hno := (goalI_none (len (Kc - 1))).mp hj.2
        rcases Nat.lt_or_ge i (Lk n nr kind team sd c0 g0 (Kc - 1)).length with z | z
        · have hz := List.getElem?_eq_getElem z
          have := pre_at (mono (show Kc - 1 ≤ Kc by omega)) hz
          rw [he] at this
          obtain rfl := Option.some.inj this
          exact absurd hall (hno i _ hz)
        · omega
    have hKm : Km = i := by
      rcases Nat.lt_trichotomy Km i with q | q | q
      · exfalso
        rcases h3 with ⟨_, e', he', hall'⟩ | ⟨_, hl⟩
        · have hat : (Lk n nr kind team sd c0 g0 Kc)[Km]? = some e' := by
            rcases (Nat.lt_or_ge Kc Km).symm with z | z
            · exact pre_at (mono z) he'
            · have hx := List.getElem?_eq_getElem (l := Lk n nr kind team sd c0 g0 Kc) (i := Km) (by omega)
              have := pre_at (mono (Nat.le_of_lt z)) hx
              rw [he'] at this
              rw [hx, this]
          have := (gIdx_before hat hall').1
          omega
        · rcases Nat.lt_or_ge Km Kc with z | z
          · have := (h1.1 Km z).1
            omega
          · have := pre_len (mono z)
            omega
      · exact q
      · exact absurd hall ((h2 i q).2 e (pre_at (mono hKi) he))
    refine Or.inl ⟨i, hgoal, ?_, hlt, mono (by omega)⟩
    rcases h3 with ⟨q, _⟩ | ⟨_, q⟩
    · rw [q, hKm]
    · have := pre_len (mono (show Kc ≤ Km by omega))
      omega
/-- so many steps back -/
def itPar (L : List En) : Nat → Nat → Nat
  | 0, i => i
  | m + 1, i => itPar L m (par L i)
theorem itPar_lt {L : List En} (h : okL L) : ∀ m i, i < L.length → m ≤ dep L i → itPar L m i < L.length ∧ dep L (itPar L m i) = dep L i - m := by
  intro m
  induction m with
  | zero => intro i hi _; exact ⟨hi, rfl⟩
  | succ m ih =>
    intro i hi hm
    have h0 : 0 < i := by
      rcases Nat.eq_zero_or_pos i with q | q
      · subst q; rw [dep_0] at hm; omega
      · exact q
    have hp := par_lt h h0 hi
    have hd := dep_S h h0 hi
    obtain ⟨a, b⟩ := ih (par L i) (by omega) (by omega)
    exact ⟨a, by show dep L (itPar L m (par L i)) = _; rw [b]; omega⟩
def actK (L : List En) (i k : Nat) : Nat := (L.getD (itPar L (dep L i - 1 - k) i) (0, 0, 0, 0)).2.2.2
theorem getD_at {L : List En} {i : Nat} {e : En} (h : L[i]? = some e) : L.getD i (0, 0, 0, 0) = e := by
  rw [List.getD_eq_getElem?_getD, h]; rfl
theorem c_step {all : Nat} {L : List En} {found goal : Int32} {seen : Nat → Int64} {states steps : Nat → Int32} (h : CR all L found goal seen states steps) (hL : okL L) {j : Nat} (hj : j < L.length) : rd steps 2187 (nI j) = some (nI (par L j * 256 + (L.getD j (0, 0, 0, 0)).2.2.2)) ∧ (L.getD j (0, 0, 0, 0)).2.2.2 < 256 ∧ (0 < j → par L j < j) := by
  have hlen := okL_len hL
  have he := List.getElem?_eq_getElem hj
  refine ⟨?_, ?_, fun h0 => par_lt hL h0 hj⟩
  · rw [rd_nI (by omega) (by decide), (h.2.2.1 j _ he).2]
    unfold par
    rw [getD_at he]
  · rw [getD_at he]; exact (hL.1 _ (List.getElem_mem hj)).2.2.2
theorem shr8 {p a : Nat} (hp : p < 2187) (ha : a < 256) : nI (p * 256 + a) >>> ((8 : Int32) &&& 31) = nI p := by
  rw [pk_shrN (by omega) _ 8 (by decide)]
  congr 1
  omega
theorem and255 {p a : Nat} (hp : p < 2187) (ha : a < 256) : nI (p * 256 + a) &&& (255 : Int32) = nI a := by
  rw [show (255 : Int32) = nI (2 ^ 8 - 1) from rfl, fa_mask]
  congr 1
  omega
theorem c_acts {all i : Nat} {L : List En} {found : Int32} {seen : Nat → Int64} {states steps : Nat → Int32} (h : CR all L found (nI i) seen states steps) (hL : okL L) (hi : i < L.length) : fX3_acts (nI i) steps = some (nI (dep L i)) := by
  have hlen := okL_len hL
  have hdi := dep_le hL hi
  have loop : ∀ (d j m : Nat), j < L.length → dep L j = d → m + d = dep L i → ∀ N, d < N → ∃ z, itL (bX3_acts_18 (nI i) steps) N (nI m, nI j) = some (nI (dep L i), z) := by
    intro d
    induction d with
    | zero =>
      intro j m hj hd hm N hN
      obtain ⟨N, rfl⟩ : ∃ N', N = N' + 1 := ⟨N - 1, by omega⟩
      have h0 : j = 0 := by
        rcases Nat.eq_zero_or_pos j with q | q
        · exact q
        · rw [dep_S hL q hj] at hd; omega
      subst h0
      refine ⟨nI 0, ?_⟩
      rw [itL]
      unfold bX3_acts_18
      dsimp only
      rw [if_pos (by decide)]
      have : m = dep L i := by omega
      rw [this]
    | succ d ih =>
      intro j m hj hd hm N hN
      obtain ⟨N, rfl⟩ : ∃ N', N = N' + 1 := ⟨N - 1, by omega⟩
      have h0 : 0 < j := by
        rcases Nat.eq_zero_or_pos j with q | q
        · subst q; rw [dep_0] at hd; omega
        · exact q
      obtain ⟨c1, c2, c3⟩ := c_step h hL hj
      have hp := c3 h0
      obtain ⟨z, hz⟩ := ih (par L j) (m + 1) (by omega) (by rw [dep_S hL h0 hj] at hd; omega) (by omega) N (by omega)
      refine ⟨z, ?_⟩
      have hb : bX3_acts_18 (nI i) steps (nI m, nI j) = some (.inl (nI (m + 1), nI (par L j))) := by
        unfold bX3_acts_18 bnd
        dsimp only
        rw [if_neg (nI_nle h0 (by omega)), if_neg (show ¬ (2187 : Int32) ≤ nI m from nI_ge (b := 2187) (by omega) (by decide)), c1, Option.bind_some, shr8 (by omega) c2, nI_1]
      rw [itL, hb]
      exact hz
  obtain ⟨z, hz⟩ := loop (dep L i) i 0 hi rfl (by omega) fu (by unfold fu; omega)
  unfold fX3_acts
  rw [if_neg (nI_nm1 (by omega)), show ((0 : Int32), nI i) = (nI 0, nI i) from rfl, hz]; rfl
theorem c_actAt {all i k : Nat} {L : List En} {found : Int32} {seen : Nat → Int64} {states steps : Nat → Int32} (h : CR all L found (nI i) seen states steps) (hL : okL L) (hi : i < L.length) (hk : k < 2 ^ 31) : fX3_actAt (nI i) steps (nI k) = some (if k < dep L i then nI (actK L i k) else -4) := by
  have hlen := okL_len hL
  have hdi := dep_le hL hi
  unfold fX3_actAt
  rw [c_acts h hL hi, Option.bind_some, if_neg (nI_pos hk)]
  by_cases q : k < dep L i
  · rw [if_pos (nI_lt q (by omega)), if_pos q]
    have loop : ∀ (m j : Nat), j < L.length → m ≤ dep L j → ∀ N, m < N → ∃ z, itL (bX3_actAt_27 (nI i) steps (nI k)) N (nI j, nI (k + m)) = some (nI (itPar L m j), z) := by
      intro m
      induction m with
      | zero =>
        intro j hj hm N hN
        obtain ⟨N, rfl⟩ : ∃ N', N = N' + 1 := ⟨N - 1, by omega⟩
        refine ⟨nI (k + 0), ?_⟩
        rw [itL]
        unfold bX3_actAt_27
        dsimp only
        rw [if_pos (nI_le (by omega) hk)]
        rfl
      | succ m ih =>
        intro j hj hm N hN
        obtain ⟨N, rfl⟩ : ∃ N', N = N' + 1 := ⟨N - 1, by omega⟩
        have hdj := dep_le hL hj
        have h0 : 0 < j := by omega
        obtain ⟨c1, c2, c3⟩ := c_step h hL hj
        have hp := c3 h0
        have hd := dep_S hL h0 hj
        obtain ⟨z, hz⟩ := ih (par L j) (by omega) (by omega) N (by omega)
        refine ⟨z, ?_⟩
        have hb : bX3_actAt_27 (nI i) steps (nI k) (nI j, nI (k + (m + 1))) = some (.inl (nI (par L j), nI (k + m))) := by
          unfold bX3_actAt_27 bnd
          dsimp only
          rw [if_neg (nI_ge (by omega) (by omega)), c1, Option.bind_some, shr8 (by omega) c2, show k + (m + 1) = (k + m) + 1 by omega, pk_m1]
        rw [itL, hb]
        exact hz
    obtain ⟨z, hz⟩ := loop (dep L i - 1 - k) i hi (by omega) fu (by unfold fu; omega)
    rw [show k + (dep L i - 1 - k) = dep L i - 1 by omega] at hz
    rw [show nI (dep L i) - (1 : Int32) = nI (dep L i - 1) from pk_sub (a := dep L i) (b := 1) (by omega), hz, Option.bind_some]
    obtain ⟨a1, a2⟩ := itPar_lt hL (dep L i - 1 - k) i hi (by omega)
    obtain ⟨c1, c2, c3⟩ := c_step h hL a1
    have hp : par L (itPar L (dep L i - 1 - k) i) < 2187 := by
      rcases Nat.eq_zero_or_pos (itPar L (dep L i - 1 - k) i) with z | z
      · rw [z] at a2; rw [dep_0] at a2; omega
      · have := c3 z; omega
    dsimp only
    rw [c1, Option.bind_some, and255 hp c2]
    rfl
  · rw [if_neg (show ¬ nI k < nI (dep L i) from nI_nlt (by omega) hk), if_neg q]
theorem m_actOf {rn i k : Nat} {L : List En} {many : Int32} {by' code far from' met : Nat → Int32} (h : MR rn L many by' code far from' met) (hL : okL L) (hi : i < L.length) (hk : k < 2 ^ 31) : fX8_actOf by' far from' (nI i) (nI k) = some (if k < dep L i then nI (actK L i k) else -4) := by
  have hlen := okL_len hL
  have hdi := dep_le hL hi
  have hfar : ∀ j, j < L.length → rd far 2187 (nI j) = some (nI (dep L j)) := fun j hj => by
    rw [rd_nI (by omega) (by decide), (h.2.1 j _ (List.getElem?_eq_getElem hj)).2.1]
  unfold fX8_actOf
  rw [hfar i hi, Option.bind_some]
  by_cases q : k < dep L i
  · rw [if_pos (nI_lt q (by omega)), if_pos q]
    have loop : ∀ (m j : Nat), j < L.length → dep L j = k + 1 + m → ∀ N, m < N → itL (bX8_actOf_15 by' far from' (nI k)) N (nI j) = some (nI (itPar L m j)) := by
      intro m
      induction m with
      | zero =>
        intro j hj hm N hN
        obtain ⟨N, rfl⟩ : ∃ N', N = N' + 1 := ⟨N - 1, by omega⟩
        rw [itL]
        unfold bX8_actOf_15
        rw [hfar j hj, Option.bind_some, hm, nI_1, if_pos (nI_le (by omega) (by omega))]
        rfl
      | succ m ih =>
        intro j hj hm N hN
        obtain ⟨N, rfl⟩ : ∃ N', N = N' + 1 := ⟨N - 1, by omega⟩
        have hdj := dep_le hL hj
        have h0 : 0 < j := by omega
        have hp := par_lt hL h0 hj
        have hd := dep_S hL h0 hj
        have he := List.getElem?_eq_getElem hj
        have hfr : rd from' 2187 (nI j) = some (nI (par L j)) := by
          rw [rd_nI (by omega) (by decide), ((h.2.1 j _ he).2.2 h0).1]
          unfold par
          rw [getD_at he]
        have hb : bX8_actOf_15 by' far from' (nI k) (nI j) = some (.inl (nI (par L j))) := by
          unfold bX8_actOf_15
          rw [hfar j hj, Option.bind_some, hm, nI_1, if_neg (show ¬ nI (k + 1 + (m + 1)) ≤ nI (k + 1) from nI_ge (by omega) (by omega)), hfr, Option.bind_some]
        rw [itL, hb]
        exact ih (par L j) (by omega) (by omega) N (by omega)
    have hz := loop (dep L i - 1 - k) i hi (by omega) fu (by unfold fu; omega)
    obtain ⟨a1, a2⟩ := itPar_lt hL (dep L i - 1 - k) i hi (by omega)
    have h0 : 0 < itPar L (dep L i - 1 - k) i := by
      rcases Nat.eq_zero_or_pos (itPar L (dep L i - 1 - k) i) with z | z
      · rw [z] at a2; rw [dep_0] at a2; omega
      · exact z
    have he := List.getElem?_eq_getElem a1
    rw [hz, Option.bind_some, rd_nI (by omega) (by decide), Option.bind_some, ((h.2.1 _ _ he).2.2 h0).2]
    unfold actK
    rw [getD_at he]
  · rw [if_neg (show ¬ nI k < nI (dep L i) from nI_nlt (by omega) hk), if_neg q]
theorem itPar_app {L M : List En} (h : okL L) : ∀ m i, i < L.length → m ≤ dep L i → itPar (L ++ M) m i = itPar L m i := by
  intro m
  induction m with
  | zero => intro i _ _; rfl
  | succ m ih =>
    intro i hi hm
    have h0 : 0 < i := by
      rcases Nat.eq_zero_or_pos i with q | q
      · subst q; rw [dep_0] at hm; omega
      · exact q
    have hp := par_lt h h0 hi
    have hd := dep_S h h0 hi
    show itPar (L ++ M) m (par (L ++ M) i) = itPar L m (par L i)
    rw [par_app hi]
    exact ih (par L i) (by omega) (by omega)
theorem same_pre {L M : List En} (h : okL L) (h2 : okL M) (hp : L <+: M) {i k : Nat} (hi : i < L.length) : dep M i = dep L i ∧ (k < dep L i → actK M i k = actK L i k) := by
  obtain ⟨t, rfl⟩ := hp
  have hd := dep_app h h2 hi
  refine ⟨hd, fun hk => ?_⟩
  unfold actK
  rw [hd, itPar_app h _ _ hi (by omega)]
  obtain ⟨a1, -⟩ := itPar_lt h (dep L i - 1 - k) i hi (by omega)
  rw [List.getD_eq_getElem?_getD, List.getElem?_append_left a1, ← List.getD_eq_getElem?_getD]
