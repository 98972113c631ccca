/-! What stands now, on both sides; the net that is followed. -/
/-- nodes, links, clean, guards, kind, team, draw -/
abbrev Sd : Type := Nat × (Nat → Nat) × Nat × Nat × Nat × Nat × Nat
def sN (S : Sd) : Nat := S.1
def sL (S : Sd) : Nat → Nat := S.2.1
def sC (S : Sd) : Nat := S.2.2.1
def sG (S : Sd) : Nat := S.2.2.2.1
def sK (S : Sd) : Nat := S.2.2.2.2.1
def sT (S : Sd) : Nat := S.2.2.2.2.2.1
def sD (S : Sd) : Nat := S.2.2.2.2.2.2
def sdOK (S : Sd) : Prop := netFit (sN S) (sL S) ∧ sC S < 2 ^ sN S ∧ sG S &&& sC S = sG S ∧ fouled (sN S) (sL S) (sG S) (sC S) = sC S ∧ sK S < 3 ∧ (1 ≤ sT S ∧ sT S ≤ 7) ∧ sD S < 2 ^ 31
/-- the class's Standing -/
def cSd (S : Sd) (nd : Int32) (near : Nat → Int32) (cl gu ki te dr : Int32) : Prop := nd = nI (sN S) ∧ (∀ v, v < 7 → near v = nI (sL S v)) ∧ cl = nI (sC S) ∧ gu = nI (sG S) ∧ ki = nI (sK S) ∧ te = nI (sT S) ∧ dr = nI (sD S)
/-- the reference's thirteen numbers, from place o on -/
def mSd (S : Sd) (st : Nat → Int32) (o : Nat) : Prop := st o = nI (sN S) ∧ (∀ v, v < 7 → st (o + 1 + v) = nI (sL S v)) ∧ st (o + 8) = nI (sC S) ∧ st (o + 9) = nI (sG S) ∧ st (o + 10) = nI (sK S) ∧ st (o + 11) = nI (sT S) ∧ st (o + 12) = nI (sD S)
theorem mSd_net {S : Sd} {st : Nat → Int32} (h : mSd S st 0) : stNet st (sN S) (sL S) := ⟨h.1, fun v hv => by have := h.2.1 v hv; rw [Nat.zero_add] at this; exact this⟩
theorem netFit_eq {n : Nat} {nr nr' : Nat → Nat} (h : netFit n nr) (h' : netFit n nr') (e : ∀ v, v < 7 → nr v = nr' v) : nr = nr' := funext (fun v => by
  by_cases q : v < 7
  · exact e v q
  · rw [h.2.2.1 v (by have := h.1.2; omega), h'.2.2.1 v (by have := h.1.2; omega)])
/-- the net that the class holds, with the notes of plans -/
def NP (E : Nat) (nd al ned : Int32) (be ne : Nat → Int32) (ped held : Int32) (len : Nat → Int32) (found goal : Int32) (seen : Nat → Int64) (states steps : Nat → Int32) : Prop :=
  be 0 = 0 ∧ ned = nI E ∧ (∃ P, P ≤ E ∧ ped = nI P) ∧ (nd = 0 ∨ ∃ n nr, netFit n nr ∧ netOk n nr nd al be ne ∧ (ped = ned → plOK n nr held len found goal seen states steps))
theorem c_cur {E n : Nat} {nr : Nat → Nat} {pn : Nat → Int32} {nd al ned : Int32} {be ne : Nat → Int32} {ped held : Int32} {len : Nat → Int32} {found goal : Int32} {seen : Nat → Int64} {states steps : Nat → Int32} (hf : netFit n nr) (hpn : ∀ v, v < 7 → pn v = nI (nr v)) (h : NP E nd al ned be ne ped held len found goal seen states steps) (hE : E + 1 < 2 ^ 31) :
    ∃ (E' : Nat) (be' ne' : Nat → Int32), fX7_currentNet (nI n) pn nd al ned be ne = some (nI n, nI (2 ^ n - 1), nI E', be', ne') ∧ netOk n nr (nI n) (nI (2 ^ n - 1)) be' ne' ∧ E' ≤ E + 1 ∧ be' 0 = 0 ∧ (∃ P, P ≤ E' ∧ ped = nI P) ∧ (ped = nI E' → plOK n nr held len found goal seen states steps) := by
  obtain ⟨h0, rfl, ⟨P, hP, rfl⟩, h3⟩ := h
  have hsome : netSome nd al be ne := ⟨h0, h3.elim Or.inl (fun ⟨n', nr', a, b, _⟩ => Or.inr ⟨n', nr', a.1, nr_lt a, b⟩)⟩
  obtain ⟨ed', be', ne', f1, f2, f3⟩ := c_follow (ed := nI E) hf.1 (nr_lt hf) hpn hsome
  have hb0 : be' 0 = 0 := by rw [f2.2.2.1 0 (by decide), lnk_0]; rfl
  rcases f3 with ⟨rfl, e1, e2, rfl, rfl⟩ | ⟨rfl, e1⟩
  · refine ⟨E, be', ne', ?_, f2, by omega, hb0, ⟨P, hP, rfl⟩, fun q => ?_⟩
    · unfold fX7_currentNet; rw [f1]; rfl
    · rcases h3 with z | ⟨n', nr', a, b, c⟩
      · exact absurd (e1.symm.trans z) (nI_ne0 (by have := hf.1.1; omega) (by have := hf.1.2; omega))
      · have en : n' = n := nI_inj (by have := a.1.2; omega) (by have := hf.1.2; omega) (b.1.symm.trans e1)
        subst en
        have enr : nr' = nr := netFit_eq a hf (fun v hv => nI_inj (Nat.lt_trans (nr_lt a v) (by decide)) (Nat.lt_trans (nr_lt hf v) (by decide)) (by rw [← b.2.2.2 v hv, f2.2.2.2 v hv]))
        subst enr
        exact c q
  · refine ⟨E + 1, be', ne', ?_, f2, by omega, hb0, ⟨P, by omega, rfl⟩, fun q => ?_⟩
    · unfold fX7_currentNet; rw [f1, nI_1]; rfl
    · have := nI_inj (by omega) (by omega) q
      omega
/-- behind currentNet the notes still fit -/
theorem NP_of {E n : Nat} {nr : Nat → Nat} {be ne : Nat → Int32} {ped held : Int32} {len : Nat → Int32} {found goal : Int32} {seen : Nat → Int64} {states steps : Nat → Int32} (hf : netFit n nr) (h1 : netOk n nr (nI n) (nI (2 ^ n - 1)) be ne) (h0 : be 0 = 0) (hP : ∃ P, P ≤ E ∧ ped = nI P) (h2 : ped = nI E → plOK n nr held len found goal seen states steps) : NP E (nI n) (nI (2 ^ n - 1)) (nI E) be ne ped held len found goal seen states steps := ⟨h0, rfl, hP, Or.inr ⟨n, nr, hf, h1, h2⟩⟩
/-- numbers that are given: those that are nodes -/
theorem x_node {n : Nat} (hn : n < 2 ^ 31) (x : Int32) : (∃ v, v < n ∧ x = nI v) ∨ (x < 0 ∨ nI n ≤ x) := by
  rcases pk_ix x hn with q | q | q
  · exact Or.inr (Or.inl q)
  · exact Or.inr (Or.inr q)
  · exact Or.inl q
theorem c_isNode {n : Nat} (hn : n < 2 ^ 31) (x : Int32) : (∃ v, v < n ∧ x = nI v ∧ fX7_isNode (nI n) x = some 1) ∨ (fX7_isNode (nI n) x = some 0 ∧ (x < 0 ∨ nI n ≤ x)) := by
  unfold fX7_isNode
  rcases x_node hn x with ⟨v, hv, rfl⟩ | q | q
  · exact Or.inl ⟨v, hv, rfl, by rw [if_neg (nI_pos (by omega)), if_neg (show ¬ nI n ≤ nI v from nI_ge hv hn)]⟩
  · exact Or.inr ⟨by rw [if_pos q], Or.inl q⟩
  · refine Or.inr ⟨?_, Or.inr q⟩
    rw [if_pos q, ite_self]
theorem i64_lt {a b : Int32} : a.toInt64 < b.toInt64 ↔ a < b := fa_wide_lt a b
/-- a test of a number between two: by the numbers themselves -/
theorem m_in32 (x a b : Int32) : fX8_in x.toInt64 a.toInt64 b.toInt64 = some (if x < a then 0 else if b < x then 0 else 1) := by
  unfold fX8_in
  by_cases h1 : x < a
  · rw [if_pos ((lg_cmp_lt _ _).mpr (i64_lt.mpr h1)), if_pos h1]
  · rw [if_neg (fun q => h1 (i64_lt.mp ((lg_cmp_lt _ _).mp q))), if_neg h1]
    by_cases h2 : b < x
    · rw [if_pos ((lg_cmp_gt _ _).mpr (i64_lt.mpr h2)), if_pos h2]
    · rw [if_neg (fun q => h2 (i64_lt.mp ((lg_cmp_gt _ _).mp q))), if_neg h2]
theorem m_isNode {S : Sd} {st : Nat → Int32} (h : mSd S st 0) (hf : netFit (sN S) (sL S)) (x : Int32) : fX8_isNode st x = fX7_isNode (nI (sN S)) x := by
  have hn := hf.1
  have hst : rd st 13 (0 : Int32) = some (nI (sN S)) := by rw [l0, rd_nI (by decide) (by decide), h.1]
  unfold fX8_isNode fX7_isNode
  rw [hst, Option.bind_some, show nI (sN S) - (1 : Int32) = nI (sN S - 1) from pk_sub (a := sN S) (b := 1) (by omega), show (0 : Int64) = (0 : Int32).toInt64 from rfl, m_in32, Option.bind_some]
  by_cases h1 : x < 0
  · rw [if_pos h1, if_pos h1]; rfl
  · rw [if_neg h1, if_neg h1]
    obtain ⟨j, hj, rfl⟩ := nI_of h1
    by_cases h2 : sN S ≤ j
    · rw [if_pos (nI_le h2 hj), if_pos (nI_lt (by omega) hj)]; rfl
    · rw [if_neg (show ¬ nI (sN S) ≤ nI j from nI_ge (by omega) (by omega)), if_neg (show ¬ nI (sN S - 1) < nI j from nI_nlt (by omega) (by omega))]; rfl
