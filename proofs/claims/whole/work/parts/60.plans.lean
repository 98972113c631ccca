/-! Plans: what a search answers, and what the class keeps of it. -/
def actsOf (all : Nat) (L : List En) : Int32 := if gIdx all L < L.length then nI (dep L (gIdx all L)) else -4
def actAtOf (all : Nat) (L : List En) (k : Nat) : Int32 := if gIdx all L < L.length then (if k < dep L (gIdx all L) then nI (actK L (gIdx all L) k) else -4) else -4
theorem c_acts' {all : Nat} {L : List En} {found goal : Int32} {seen : Nat → Int64} {states steps : Nat → Int32} (h : CR all L found goal seen states steps) (hL : okL L) : fX3_acts goal steps = some (actsOf all L) := by
  have hg := h.2.1
  unfold actsOf
  unfold goalI at hg
  by_cases q : gIdx all L < L.length
  · rw [if_pos q] at hg ⊢
    subst hg
    exact c_acts h hL q
  · rw [if_neg q] at hg ⊢
    unfold fX3_acts
    rw [if_pos hg]
theorem c_actAt' {all k : Nat} {L : List En} {found goal : Int32} {seen : Nat → Int64} {states steps : Nat → Int32} (h : CR all L found goal seen states steps) (hL : okL L) (hk : k < 2 ^ 31) : fX3_actAt goal steps (nI k) = some (actAtOf all L k) := by
  have hg := h.2.1
  unfold actAtOf
  unfold goalI at hg
  by_cases q : gIdx all L < L.length
  · rw [if_pos q] at hg ⊢
    subst hg
    exact c_actAt h hL q hk
  · rw [if_neg q] at hg ⊢
    unfold fX3_actAt fX3_acts
    rw [if_pos hg, Option.bind_some, if_neg (nI_pos hk), if_neg (fun z => ?_)]
    exact absurd (Int32.lt_trans z (by decide)) (nI_pos hk)
/-- what a search answers: how many acts, which ones -/
def ansC (n : Nat) (nr : Nat → Nat) (kind team : Nat) (sd : Bool) (c0 g0 : Nat) (v : Int32) : Prop := ∃ K, stopC n nr kind team sd c0 g0 K ∧ v = actsOf (2 ^ n - 1) (Lk n nr kind team sd c0 g0 K)
def ansAt (n : Nat) (nr : Nat → Nat) (kind team : Nat) (sd : Bool) (c0 g0 k : Nat) (v : Int32) : Prop := ∃ K, stopC n nr kind team sd c0 g0 K ∧ v = actAtOf (2 ^ n - 1) (Lk n nr kind team sd c0 g0 K) k
theorem stopC_uniq {n : Nat} {nr : Nat → Nat} {kind team : Nat} {sd : Bool} {c0 g0 K K' : Nat} (h : stopC n nr kind team sd c0 g0 K) (h' : stopC n nr kind team sd c0 g0 K') : K = K' := by
  rcases Nat.lt_trichotomy K K' with q | q | q
  · have := h'.1 K q
    rcases h.2 with z | z
    · omega
    · exact absurd this.2 z
  · exact q
  · have := h.1 K' q
    rcases h'.2 with z | z
    · omega
    · exact absurd this.2 z
theorem ansC_uniq {n : Nat} {nr : Nat → Nat} {kind team : Nat} {sd : Bool} {c0 g0 : Nat} {v v' : Int32} (h : ansC n nr kind team sd c0 g0 v) (h' : ansC n nr kind team sd c0 g0 v') : v = v' := by
  obtain ⟨K, h1, rfl⟩ := h
  obtain ⟨K', h2, rfl⟩ := h'
  rw [stopC_uniq h1 h2]
theorem ansAt_uniq {n : Nat} {nr : Nat → Nat} {kind team : Nat} {sd : Bool} {c0 g0 k : Nat} {v v' : Int32} (h : ansAt n nr kind team sd c0 g0 k v) (h' : ansAt n nr kind team sd c0 g0 k v') : v = v' := by
  obtain ⟨K, h1, rfl⟩ := h
  obtain ⟨K', h2, rfl⟩ := h'
  rw [stopC_uniq h1 h2]
theorem stopC_ex {n : Nat} {nr : Nat → Nat} {kind team : Nat} {sd : Bool} {c0 g0 : Nat} (hf : netFit n nr) (hki : kind < 3) (ht : team < 8) (hc : c0 < 2 ^ n) (hg : g0 &&& c0 = g0) : ∃ K, stopC n nr kind team sd c0 g0 K := by
  obtain ⟨K, _, _, _, _, _, _, _, h⟩ := c_run (sd := sd) (nd := nI n) (al := nI (2 ^ n - 1)) (be := fun s => nI (lnk 7 nr s)) (ne := fun v => nI (nr v)) (found := 0) (goal := 0) (isd := 0) (seen := fun _ => 0) (states := fun _ => 0) (steps := fun _ => 0) ⟨rfl, rfl, fun s _ => rfl, fun v _ => rfl⟩ hf hki ht hc hg
  exact ⟨K, h⟩
theorem m4_neg : ¬ (0 : Int32) ≤ -4 := by decide
/-- the reference's search: its answers -/
theorem m_search {st : Nat → Int32} {n : Nat} {nr : Nat → Nat} {kind team : Nat} {sd : Bool} {c0 g0 r : Nat} {many : Int32} {by' code far from' met : Nat → Int32} (hs : stNet st n nr) (hf : netFit n nr) (hki : kind < 3) (ht : team < 8) (hc : c0 < 2 ^ n) (hg : g0 &&& c0 = g0) (hm : metOK r met) (hr : r + 1 < 2 ^ 31) :
    ∃ at' many' by'' code' far' from'' met', fX8_search many (nI r) by' code far from' met st (nI c0) (nI g0) (nI kind) (nI team) (if sd then 1 else 0) = some (at', many', nI (r + 1), by'', code', far', from'', met') ∧ metOK (r + 1) met' ∧ ((at' = -4 ∧ ansC n nr kind team sd c0 g0 (-4) ∧ ∀ k, ansAt n nr kind team sd c0 g0 k (-4)) ∨ (0 ≤ at' ∧ (∃ d, d < 2187 ∧ rd far' 2187 at' = some (nI d) ∧ ansC n nr kind team sd c0 g0 (nI d)) ∧ ∀ k, k < 2 ^ 31 → ∃ v, fX8_actOf by'' far' from'' at' (nI k) = some v ∧ ansAt n nr kind team sd c0 g0 k v)) := by
  have hn := hf.1.2
  obtain ⟨Kc, hKc⟩ := stopC_ex (nr := nr) (kind := kind) (team := team) (sd := sd) hf hki ht hc hg
  obtain ⟨Km, at', m1, b1, c1, f1, r1, t1, q1, q2, q3, q4⟩ := m_run (sd := sd) (many := many) (by' := by') (code := code) (far := far) (from' := from') hs hf hki ht hc hg hm hr
  refine ⟨at', m1, b1, c1, f1, r1, t1, q1, q2.2.2.2, ?_⟩
  have okc := (Lk_ok (nr := nr) (kind := kind) (team := team) (sd := sd) hn hc hg Kc).1
  have okm := (Lk_ok (nr := nr) (kind := kind) (team := team) (sd := sd) hn hc hg Km).1
  have lenc := okL_len okc.1
  have lenm := okL_len okm.1
  rcases both_stop hn hc hg hKc q3 q4 with ⟨i, h1, rfl, h3, h4⟩ | ⟨h1, h2⟩
  · right
    have hlt : gIdx (2 ^ n - 1) (Lk n nr kind team sd c0 g0 Kc) < (Lk n nr kind team sd c0 g0 Kc).length := by
      rcases Nat.lt_or_ge (gIdx (2 ^ n - 1) (Lk n nr kind team sd c0 g0 Kc)) (Lk n nr kind team sd c0 g0 Kc).length with z | z
      · exact z
      · unfold goalI at h1
        rw [if_neg (by omega)] at h1
        exact absurd h1.symm (nI_nm1 (by omega))
    have hgi : gIdx (2 ^ n - 1) (Lk n nr kind team sd c0 g0 Kc) = i := by
      unfold goalI at h1
      rw [if_pos hlt] at h1
      exact nI_inj (by omega) (by omega) h1
    have hlm := pre_len h4
    have hd := dep_le okc.1 h3
    refine ⟨nI_pos' (by omega), ⟨dep (Lk n nr kind team sd c0 g0 Kc) i, by omega, ?_, Kc, hKc, ?_⟩, fun k hk => ?_⟩
    · rw [rd_nI (by omega) (by decide), (q2.2.1 i _ (List.getElem?_eq_getElem (show i < _ by omega))).2.1, (same_pre (k := 0) okc.1 okm.1 h4 h3).1]
    · unfold actsOf
      rw [if_pos hlt, hgi]
    · refine ⟨_, m_actOf q2 okm.1 (by omega) hk, Kc, hKc, ?_⟩
      unfold actAtOf
      obtain ⟨e1, e2⟩ := same_pre (k := k) okc.1 okm.1 h4 h3
      rw [if_pos hlt, hgi, e1]
      by_cases z : k < dep (Lk n nr kind team sd c0 g0 Kc) i
      · rw [if_pos z, if_pos z, e2 z]
      · rw [if_neg z, if_neg z]
  · left
    have hno : ¬ gIdx (2 ^ n - 1) (Lk n nr kind team sd c0 g0 Kc) < (Lk n nr kind team sd c0 g0 Kc).length := fun z => by
      unfold goalI at h1
      rw [if_pos z] at h1
      exact absurd h1 (nI_nm1 (by omega))
    exact ⟨h2, ⟨Kc, hKc, by unfold actsOf; rw [if_neg hno]⟩, fun k => ⟨Kc, hKc, by unfold actAtOf; rw [if_neg hno]⟩⟩
/-- the class's notes of plans -/
def keyN (kind team st : Nat) : Nat := (kind * 7 + team - 1) * 2 + st
def keyOk (kind team st : Nat) : Prop := kind < 3 ∧ 1 ≤ team ∧ team ≤ 7 ∧ st < 2
def plOK (n : Nat) (nr : Nat → Nat) (held : Int32) (len : Nat → Int32) (found goal : Int32) (seen : Nat → Int64) (states steps : Nat → Int32) : Prop :=
  (∀ kind team st, keyOk kind team st → len (keyN kind team st) = 0 ∨ ansC n nr kind team (decide (st = 1)) 0 0 (len (keyN kind team st))) ∧
  (held = -1 ∨ ∃ kind team st K, keyOk kind team st ∧ held = nI (keyN kind team st) ∧ stopC n nr kind team (decide (st = 1)) 0 0 K ∧ CR (2 ^ n - 1) (Lk n nr kind team (decide (st = 1)) 0 0 K) found goal seen states steps)
theorem key_lt {kind team st : Nat} (h : keyOk kind team st) : keyN kind team st < 42 := by
  obtain ⟨a, b, c, d⟩ := h
  unfold keyN; omega
theorem key_inj {kind team st kind' team' st' : Nat} (h : keyOk kind team st) (h' : keyOk kind' team' st') (e : keyN kind team st = keyN kind' team' st') : kind = kind' ∧ team = team' ∧ st = st' := by
  obtain ⟨a, b, c, d⟩ := h
  obtain ⟨a', b', c', d'⟩ := h'
  unfold keyN at e
  omega
theorem c_key {kind team st : Nat} (h : keyOk kind team st) : fX2_keyOf (nI kind) (nI team) (nI st) = some (nI (keyN kind team st)) := by
  obtain ⟨a, b, c, d⟩ := h
  unfold fX2_keyOf keyN
  rw [show nI kind * (7 : Int32) = nI (kind * 7) from pk_mul kind 7, nI_add, show nI (kind * 7 + team) - (1 : Int32) = nI (kind * 7 + team - 1) from pk_sub (a := kind * 7 + team) (b := 1) (by omega), show nI (kind * 7 + team - 1) * (2 : Int32) = nI ((kind * 7 + team - 1) * 2) from pk_mul _ 2, nI_add]
theorem c_forget {n : Nat} {nr : Nat → Nat} {ped ned held : Int32} {len : Nat → Int32} {found goal : Int32} {seen : Nat → Int64} {states steps : Nat → Int32} (h : ped = ned → plOK n nr held len found goal seen states steps) : ∃ held' len', fX2_forgetOlderNets ped held len ned = some (ned, held', len') ∧ plOK n nr held' len' found goal seen states steps := by
  unfold fX2_forgetOlderNets
  by_cases e : ped = ned
  · rw [if_pos e]
    exact ⟨held, len, by rw [e], h e⟩
  · rw [if_neg e]
    have key : itL (bX2_forgetOlderNets_33 ned ned (-1)) fu ((0 : Int32), len) = some (nI 42, fun k => if k < 42 then 0 else len k) := by
      refine itL_for (fun i => (nI i, fun k => if k < i then 0 else len k)) 42 _ ?_ ?_ (by decide) ?_
      · intro i hi
        unfold bX2_forgetOlderNets_33
        dsimp only
        rw [if_neg (show ¬ (42 : Int32) ≤ nI i from nI_ge (b := 42) hi (by decide)), wi_nI hi (by decide), Option.bind_some, nI_1]
        congr 3
        funext k
        unfold upd
        dsimp only
        by_cases q : k = i
        · rw [if_pos q, if_pos (by omega)]
        · rw [if_neg q]
          by_cases z : k < i
          · rw [if_pos z, if_pos (by omega)]
          · rw [if_neg z, if_neg (by omega)]
      · unfold bX2_forgetOlderNets_33
        dsimp only
        rw [if_pos (by decide)]
      · congr 1
    rw [key, Option.bind_some]
    refine ⟨-1, _, rfl, fun kind team st hk => Or.inl ?_, Or.inl rfl⟩
    dsimp only
    rw [if_pos (key_lt hk)]
theorem st_bool {st : Nat} (h : st < 2) : (if nI st = (1 : Int32) then (1 : Nat) else 0) = st := by
  rcases (show st = 0 ∨ st = 1 by omega) with rfl | rfl <;> decide
theorem c_fewest {n : Nat} {nr : Nat → Nat} {kind team st : Nat} {nd al ped ned held found goal isd : Int32} {be ne len : Nat → Int32} {seen : Nat → Int64} {states steps : Nat → Int32} (hnet : netOk n nr nd al be ne) (hf : netFit n nr) (hk : keyOk kind team st) (h : ped = ned → plOK n nr held len found goal seen states steps) :
    ∃ v held' len' found' goal' isd' seen' states' steps', fX2_fewestActs ped held len found goal isd nd al ned be ne seen states steps (nI kind) (nI team) (nI st) = some (v, ned, held', len', found', goal', isd', seen', states', steps') ∧ ansC n nr kind team (decide (st = 1)) 0 0 v ∧ plOK n nr held' len' found' goal' seen' states' steps' := by
  have hkl := key_lt hk
  obtain ⟨held1, len1, h1, h2⟩ := c_forget (nr := nr) (n := n) h
  unfold fX2_fewestActs
  rw [h1, Option.bind_some, c_key hk, Option.bind_some]
  dsimp only
  rw [rd_nI hkl (by decide), Option.bind_some]
  by_cases z : len1 (keyN kind team st) = 0
  · rw [if_pos z]
    obtain ⟨K, f1, g1, s1, t1, p1, a1, a2, a3⟩ := c_run (sd := decide (st = 1)) (c0 := 0) (g0 := 0) (found := found) (goal := goal) (isd := isd) (seen := seen) (states := states) (steps := steps) hnet hf hk.1 (show team < 8 by have := hk.2.2.1; omega) (Nat.two_pow_pos n) rfl
    have okc := (Lk_ok (nr := nr) (kind := kind) (team := team) (sd := decide (st = 1)) (c0 := 0) (g0 := 0) hf.1.2 (Nat.two_pow_pos n) rfl K).1
    have hj : jX2_fewestActs_40 nd al ned be ne (nI (keyN kind team st)) (if decide (st = 1) = true then 1 else 0) (nI team) (nI kind) 0 0 ned held1 len1 found goal isd seen states steps = some (actsOf (2 ^ n - 1) (Lk n nr kind team (decide (st = 1)) 0 0 K), ned, nI (keyN kind team st), upd len1 (keyN kind team st) (actsOf (2 ^ n - 1) (Lk n nr kind team (decide (st = 1)) 0 0 K)), f1, g1, (if decide (st = 1) = true then 1 else 0), s1, t1, p1) := by
      unfold jX2_fewestActs_40 jX2_fewestActs_63
      rw [show nI 0 = (0 : Int32) from rfl] at a1
      rw [a1, Option.bind_some]
      dsimp only
      rw [c_acts' a2 okc.1, Option.bind_some, wi_nI hkl (by decide), Option.bind_some, rd_nI hkl (by decide), Option.bind_some]
      unfold upd
      rw [if_pos rfl]
    refine ⟨actsOf (2 ^ n - 1) (Lk n nr kind team (decide (st = 1)) 0 0 K), nI (keyN kind team st), upd len1 (keyN kind team st) (actsOf (2 ^ n - 1) (Lk n nr kind team (decide (st = 1)) 0 0 K)), f1, g1, (if decide (st = 1) = true then 1 else 0), s1, t1, p1, ?_, ⟨K, a3, rfl⟩, fun kind' team' st' hk' => ?_, Or.inr ⟨kind, team, st, K, hk, rfl, a3, a2⟩⟩
    · by_cases e : st = 1
      · subst e
        rw [if_pos (show nI 1 = 1 from rfl)]
        exact hj
      · have e0 : st = 0 := by have := hk.2.2.2; omega
        subst e0
        rw [if_neg (show ¬ nI 0 = 1 by decide)]
        exact hj
    · unfold upd
      by_cases q : keyN kind' team' st' = keyN kind team st
      · obtain ⟨rfl, rfl, rfl⟩ := key_inj hk' hk q
        rw [if_pos rfl]
        exact Or.inr ⟨K, a3, rfl⟩
      · rw [if_neg q]
        exact h2.1 kind' team' st' hk'
  · rw [if_neg z]
    unfold jX2_fewestActs_63
    rw [rd_nI hkl (by decide), Option.bind_some]
    refine ⟨_, _, _, _, _, _, _, _, _, rfl, ?_, h2⟩
    rcases h2.1 kind team st hk with q | q
    · exact absurd q z
    · exact q
