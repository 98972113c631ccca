/-! One more is met: the class's find, the reference's meets. -/
theorem two_bv {k : Nat} (hk : k < 64) : (lN (2 ^ k)).toBitVec = BitVec.twoPow 64 k := by
  rw [wb_tb]
  apply BitVec.eq_of_toNat_eq
  rw [BitVec.toNat_ofNat, BitVec.toNat_twoPow]
theorem bit_and {w : Int64} {k : Nat} (hk : k < 64) : w &&& lN (2 ^ k) = 0 ↔ w.toBitVec.getLsbD k = false := by
  rw [← Int64.toBitVec_inj, Int64.toBitVec_and, two_bv hk]
  constructor
  · intro h
    have := congrArg (fun b => b.getLsbD k) h
    simpa [BitVec.getLsbD_twoPow, hk] using this
  · intro h
    apply BitVec.eq_of_getLsbD_eq
    intro i hi
    rw [BitVec.getLsbD_and, BitVec.getLsbD_twoPow]
    by_cases e : k = i
    · subst e; simp [h]
    · simp [e]
theorem bit_or {w : Int64} {k j : Nat} (hk : k < 64) : (w ||| lN (2 ^ k)).toBitVec.getLsbD j = (w.toBitVec.getLsbD j || decide (j = k)) := by
  rw [Int64.toBitVec_or, two_bv hk, BitVec.getLsbD_or, BitVec.getLsbD_twoPow]
  by_cases e : j = k
  · subst e; simp [hk]
  · have : ¬ k = j := fun h => e h.symm
    simp [e, this]
/-- where the first all clean one stands -/
def gIdx (all : Nat) (L : List En) : Nat := L.findIdx (fun e => decide (e.1 = all))
def goalI (all : Nat) (L : List En) : Int32 := if gIdx all L < L.length then nI (gIdx all L) else -1
theorem nI_nm1 {k : Nat} (h : k < 2 ^ 31) : ¬ nI k = -1 := fun e => by
  have h1 : (nI k) < 0 := by rw [e]; decide
  exact nI_pos h h1
def seenAt (seen : Nat → Int64) (s : Nat) : Bool := (seen (s / 64)).toBitVec.getLsbD (s % 64)
/-- what the class's search holds of a row -/
def CR (all : Nat) (L : List En) (found goal : Int32) (seen : Nat → Int64) (states steps : Nat → Int32) : Prop :=
  found = nI L.length ∧ goal = goalI all L ∧ (∀ (i : Nat) (e : En), L[i]? = some e → states i = nI (e.1 * 128 + e.2.1) ∧ steps i = nI (e.2.2.1 * 256 + e.2.2.2)) ∧ ∀ c g, c < 128 → g < 128 → seenAt seen (c * 128 + g) = hasB L c g
theorem hasB_add {L : List En} {e : En} {c g : Nat} : hasB (L ++ [e]) c g = (hasB L c g || (decide (e.1 = c) && decide (e.2.1 = g))) := by
  unfold hasB
  rw [List.any_append]
  simp
theorem goalI_add {all : Nat} {L : List En} {e : En} (hl : L.length ≤ 2187) : goalI all (L ++ [e]) = if goalI all L = -1 then (if e.1 = all then nI L.length else -1) else goalI all L := by
  unfold goalI gIdx
  rw [List.findIdx_append, List.length_append, List.length_singleton]
  by_cases q : List.findIdx (fun e => decide (e.1 = all)) L < L.length
  · rw [if_pos q, if_pos (show List.findIdx (fun e => decide (e.1 = all)) L < L.length + 1 by omega), if_pos q, if_neg (nI_nm1 (by omega))]
  · rw [if_neg q, if_neg q, if_pos rfl]
    by_cases g : e.1 = all
    · have h0 : List.findIdx (fun e => decide (e.1 = all)) [e] = 0 := by simp [List.findIdx_cons, g]
      rw [h0, if_pos g, if_pos (show 0 + L.length < L.length + 1 by omega), Nat.zero_add]
    · have h0 : List.findIdx (fun e => decide (e.1 = all)) [e] = 1 := by simp [List.findIdx_cons, g]
      rw [h0, if_neg g, if_neg (show ¬ 1 + L.length < L.length + 1 by omega)]
theorem c_find {all c g p a : Nat} {L : List En} {found goal : Int32} {seen : Nat → Int64} {states steps : Nat → Int32} (h : CR all L found goal seen states steps) (hl : L.length ≤ 2187) (ha : all < 128) (hc : c < 128) (hg : g < 128) (hr : hasB L c g = false → L.length < 2187) :
    ∃ found' goal' seen' states' steps', fX3_find found goal (nI all) seen states steps (nI c) (nI g) (nI (p * 256 + a)) = some (found', goal', seen', states', steps') ∧ CR all (addE L (c, g, p, a)) found' goal' seen' states' steps' := by
  obtain ⟨h1, h2, h3, h4⟩ := h
  have hs : c * 128 + g < 16384 := by omega
  have e1 : nI c * (128 : Int32) + nI g = nI (c * 128 + g) := by rw [show (128 : Int32) = nI 128 from rfl, pk_mul, nI_add]
  have e2 : nI (c * 128 + g) &&& (63 : Int32) = nI ((c * 128 + g) % 64) := by
    rw [show (63 : Int32) = nI (2 ^ 6 - 1) from rfl, fa_mask]
  have e3 : (1 : Int64) <<< ((nI ((c * 128 + g) % 64)).toInt64 &&& 63) = lN (2 ^ ((c * 128 + g) % 64)) := by
    have := wb_shl 1 (k := (c * 128 + g) % 64) (by omega)
    rw [Nat.one_mul] at this
    exact this
  have e4 : nI (c * 128 + g) >>> ((6 : Int32) &&& 31) = nI ((c * 128 + g) / 64) := pk_shrN (by omega) _ 6 (by decide)
  unfold fX3_find bnd
  dsimp only
  rw [e1, e2, e3, e4]
  by_cases hf : hasB L c g = true
  · have hb : ¬ seen ((c * 128 + g) / 64) &&& lN (2 ^ ((c * 128 + g) % 64)) = 0 := fun q => by
      have := (bit_and (by omega)).mp q
      have h5 := h4 c g hc hg
      unfold seenAt at h5
      rw [this, hf] at h5
      cases h5
    refine ⟨found, goal, seen, states, steps, ?_, ?_⟩
    · rw [rd_nI (by omega) (by decide), Option.bind_some, if_neg (fun q => hb ((lg_cmp_eq _ _).mp q))]
      split <;> rfl
    · unfold addE
      rw [if_pos hf]
      exact ⟨h1, h2, h3, h4⟩
  · have hf' : hasB L c g = false := Bool.eq_false_iff.mpr hf
    have hlt := hr hf'
    have hb : seen ((c * 128 + g) / 64) &&& lN (2 ^ ((c * 128 + g) % 64)) = 0 := (bit_and (by omega)).mpr (by
      have h5 := h4 c g hc hg
      unfold seenAt at h5
      rw [h5]; exact hf')
    refine ⟨nI (L.length + 1), goalI all (L ++ [(c, g, p, a)]), vp_updL seen ((c * 128 + g) / 64) (seen ((c * 128 + g) / 64) ||| lN (2 ^ ((c * 128 + g) % 64))), upd states L.length (nI (c * 128 + g)), upd steps L.length (nI (p * 256 + a)), ?_, ?_⟩
    · rw [h1, if_neg (show ¬ (2187 : Int32) ≤ nI L.length from nI_ge (b := 2187) hlt (by decide)), rd_nI (by omega) (by decide), Option.bind_some, if_pos ((lg_cmp_eq _ _).mpr hb), Option.bind_some, wl_nI (by omega) (by decide), Option.bind_some, wi_nI hlt (by decide), Option.bind_some, wi_nI hlt (by decide), Option.bind_some]
      unfold jX3_find_110
      rw [goalI_add hl, ← h2, nI_1]
      by_cases g1 : goal = -1
      · rw [if_pos g1, if_pos g1]
        by_cases g2 : c = all
        · rw [if_pos (by rw [g2]), if_pos g2]
        · rw [if_neg (fun q => g2 (nI_inj (by omega) (by omega) q)), if_neg g2, g1]
      · rw [if_neg g1, if_neg g1]
    · unfold addE
      rw [if_neg hf]
      refine ⟨by simp, rfl, fun i e hi => ?_, fun c' g' hc' hg' => ?_⟩
      · by_cases q : i < L.length
        · rw [List.getElem?_append_left q] at hi
          unfold upd
          rw [if_neg (by omega), if_neg (by omega)]
          exact h3 i e hi
        · have hi2 : i = L.length := by
            have := (List.getElem?_eq_some_iff.mp hi).1
            simp at this
            omega
          subst hi2
          simp at hi
          subst hi
          unfold upd
          simp
      · rw [hasB_add, ← h4 c' g' hc' hg']
        unfold seenAt vp_updL
        by_cases q : (c' * 128 + g') / 64 = (c * 128 + g) / 64
        · rw [if_pos q, q, bit_or (by omega)]
          congr 1
          by_cases q2 : (c' * 128 + g') % 64 = (c * 128 + g) % 64
          · have e5 : c = c' := by omega
            have e6 : g = g' := by omega
            simp [e5, e6]
          · have : ¬ (c = c' ∧ g = g') := fun y => q2 (by rw [y.1, y.2])
            simp [q2]
            exact fun y z => this ⟨y, z⟩
        · rw [if_neg q]
          have : ¬ (c = c' ∧ g = g') := fun y => q (by rw [y.1, y.2])
          have h7 : (decide (c = c') && decide (g = g')) = false := by
            rw [Bool.and_eq_false_iff]
            simp only [decide_eq_false_iff_not]
            by_cases y : c = c'
            · exact Or.inr (fun z => this ⟨y, z⟩)
            · exact Or.inl y
          dsimp only
          rw [h7, Bool.or_false]
/-- how many acts lead to a place of the row -/
def par (L : List En) (i : Nat) : Nat := (L.getD i (0, 0, 0, 0)).2.2.1
def depF (L : List En) : Nat → Nat → Nat
  | 0, _ => 0
  | f + 1, i => if i = 0 then 0 else depF L f (par L i) + 1
def dep (L : List En) (i : Nat) : Nat := depF L i i
theorem par_lt {L : List En} (h : okL L) {i : Nat} (h0 : 0 < i) (hi : i < L.length) : par L i < i := by
  unfold par
  have e : L.getD i (0, 0, 0, 0) = L[i] := by rw [List.getD_eq_getElem?_getD, List.getElem?_eq_getElem hi]; rfl
  rw [e]
  exact h.2.2 i _ (List.getElem?_eq_getElem hi) h0
theorem depF_enough {L : List En} (h : okL L) : ∀ f i, i < L.length → i ≤ f → depF L f i = dep L i := by
  have key : ∀ i f f', i < L.length → i ≤ f → i ≤ f' → depF L f i = depF L f' i := by
    intro i
    induction i using Nat.strongRecOn with
    | _ i ih =>
      intro f f' hi h1 h2
      cases f with
      | zero =>
        have : i = 0 := by omega
        subst this
        cases f' with
        | zero => rfl
        | succ f' => unfold depF; rw [if_pos rfl]
      | succ f =>
        cases f' with
        | zero =>
          have : i = 0 := by omega
          subst this
          unfold depF; rw [if_pos rfl]
        | succ f' =>
          unfold depF
          by_cases e : i = 0
          · rw [if_pos e, if_pos e]
          · have hp := par_lt h (by omega) hi
            rw [if_neg e, if_neg e, ih _ hp f f' (by omega) (by omega) (by omega)]
  intro f i hi hf
  exact key i f i hi hf (Nat.le_refl i)
theorem dep_0 {L : List En} : dep L 0 = 0 := rfl
theorem dep_S {L : List En} (h : okL L) {i : Nat} (h0 : 0 < i) (hi : i < L.length) : dep L i = dep L (par L i) + 1 := by
  have hp := par_lt h h0 hi
  obtain ⟨k, rfl⟩ : ∃ k, i = k + 1 := ⟨i - 1, by omega⟩
  show depF L (k + 1) (k + 1) = _
  unfold depF
  rw [if_neg (by omega), depF_enough h k _ (by omega) (by omega)]
theorem par_app {L M : List En} {i : Nat} (hi : i < L.length) : par (L ++ M) i = par L i := by
  unfold par
  rw [List.getD_eq_getElem?_getD, List.getElem?_append_left hi, ← List.getD_eq_getElem?_getD]
theorem dep_app {L M : List En} (h : okL L) (h2 : okL (L ++ M)) {i : Nat} (hi : i < L.length) : dep (L ++ M) i = dep L i := by
  induction i using Nat.strongRecOn with
  | _ i ih =>
    rcases Nat.eq_zero_or_pos i with q | q
    · subst q; rfl
    · have hp := par_lt h q hi
      rw [dep_S h2 q (by simp; omega), dep_S h q hi, par_app hi, ih _ hp (by omega)]
theorem dep_le {L : List En} (h : okL L) {i : Nat} (hi : i < L.length) : dep L i ≤ i := by
  induction i using Nat.strongRecOn with
  | _ i ih =>
    rcases Nat.eq_zero_or_pos i with q | q
    · subst q; exact Nat.le_refl 0
    · have hp := par_lt h q hi
      rw [dep_S h q hi]
      have := ih _ hp (by omega)
      omega
/-- what the reference's search holds of a row -/
def MR (rd' : Nat) (L : List En) (many : Int32) (by' code far from' met : Nat → Int32) : Prop :=
  many = nI L.length ∧ (∀ (i : Nat) (e : En), L[i]? = some e → code i = nI (e.1 + 128 * e.2.1) ∧ far i = nI (dep L i) ∧ (0 < i → from' i = nI e.2.2.1 ∧ by' i = nI e.2.2.2)) ∧ (∀ c g, c < 128 → g < 128 → (met (c + 128 * g) = nI rd' ↔ hasB L c g = true)) ∧ ∀ x, x < 16384 → ∃ m, m ≤ rd' ∧ met x = nI m
theorem m_meets {rn c g p a : Nat} {L : List En} {many : Int32} {by' code far from' met : Nat → Int32} (h : MR rn L many by' code far from' met) (hL : okL L) (hc : c < 128) (hg : g < 128) (hp : p < L.length) (he : okE (c, g, p, a)) :
    ∃ many' by'' code' far' from'' met', fX8_meets many (nI rn) by' code far from' met (nI (c + 128 * g)) (nI p) (nI a) = some (many', by'', code', far', from'', met') ∧ MR rn (addE L (c, g, p, a)) many' by'' code' far' from'' met' := by
  obtain ⟨h1, h2, h3, h4⟩ := h
  have hlen := okL_len hL
  have hs : c + 128 * g < 16384 := by omega
  unfold fX8_meets
  rw [rd_nI hs (by decide), Option.bind_some]
  by_cases hf : hasB L c g = true
  · refine ⟨many, by', code, far, from', met, ?_, ?_⟩
    · rw [if_pos ((h3 c g hc hg).mpr hf)]
    · unfold addE
      rw [if_pos hf]
      exact ⟨h1, h2, h3, h4⟩
  · have hf' : hasB L c g = false := Bool.eq_false_iff.mpr hf
    have hlt := okL_room hL he hp hf'
    have hap : okL (L ++ [(c, g, p, a)]) := by
      have := okL_add hL he hp
      unfold addE at this
      rw [if_neg hf] at this
      exact this
    have hdep : dep (L ++ [(c, g, p, a)]) L.length = dep L p + 1 := by
      rw [dep_S hap (by omega) (by simp)]
      have : par (L ++ [(c, g, p, a)]) L.length = p := by
        unfold par
        rw [List.getD_eq_getElem?_getD]
        simp
      rw [this, dep_app hL hap hp]
    refine ⟨nI (L.length + 1), upd by' L.length (nI a), upd code L.length (nI (c + 128 * g)), upd far L.length (nI (dep L p + 1)), upd from' L.length (nI p), upd met (c + 128 * g) (nI rn), ?_, ?_⟩
    · rw [if_neg (fun q => hf ((h3 c g hc hg).mp q)), wi_nI hs (by decide), Option.bind_some, h1, wi_nI hlt (by decide), Option.bind_some, wi_nI hlt (by decide), Option.bind_some, wi_nI hlt (by decide), Option.bind_some, if_pos (nI_pos' (by omega)), rd_nI (by omega) (by decide), Option.bind_some]
      have hfp := (h2 p _ (List.getElem?_eq_getElem hp)).2.1
      unfold jX8_meets_77
      rw [hfp, nI_1, wi_nI hlt (by decide), Option.bind_some, nI_1]
    · unfold addE
      rw [if_neg hf]
      refine ⟨by simp, fun i e hi => ?_, fun c' g' hc' hg' => ?_, fun x hx => ?_⟩
      · by_cases q : i < L.length
        · rw [List.getElem?_append_left q] at hi
          unfold upd
          rw [if_neg (by omega), if_neg (by omega), if_neg (by omega), if_neg (by omega), dep_app hL hap q]
          exact h2 i e hi
        · have hi2 : i = L.length := by
            have := (List.getElem?_eq_some_iff.mp hi).1
            simp at this
            omega
          subst hi2
          simp at hi
          subst hi
          rw [hdep]
          unfold upd
          simp
      · rw [hasB_add]
        unfold upd
        by_cases q : c' + 128 * g' = c + 128 * g
        · have e5 : c = c' := by omega
          have e6 : g = g' := by omega
          rw [if_pos q]
          simp [e5, e6]
        · rw [if_neg q, h3 c' g' hc' hg']
          have : ¬ (c = c' ∧ g = g') := fun y => q (by rw [y.1, y.2])
          have h7 : (decide (c = c') && decide (g = g')) = false := by
            rw [Bool.and_eq_false_iff]
            simp only [decide_eq_false_iff_not]
            by_cases y : c = c'
            · exact Or.inr (fun z => this ⟨y, z⟩)
            · exact Or.inl y
          dsimp only
          rw [h7, Bool.or_false]
      · unfold upd
        by_cases q : x = c + 128 * g
        · rw [if_pos q]; exact ⟨rn, Nat.le_refl rn, rfl⟩
        · rw [if_neg q]; exact h4 x hx
