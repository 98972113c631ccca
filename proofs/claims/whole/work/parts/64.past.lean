/-! What can be undone, on both sides. -/
def pushK (k : Nat) : Nat := if k = 6 then 6 else k + 1
def pushP (k : Nat) (Ps : Nat → Sd) (S : Sd) : Nat → Sd := if k = 6 then fun i => if i = 5 then S else Ps (i + 1) else fun i => if i = k then S else Ps i
def cPast (k : Nat) (Ps : Nat → Sd) (kn : Int32) (pn pc' pg pk pt pd : Nat → Int32) (pl : Nat → Nat → Int32) : Prop := kn = nI k ∧ k ≤ 6 ∧ ∀ i, i < k → sdOK (Ps i) ∧ cSd (Ps i) (pn i) (pl i) (pc' i) (pg i) (pk i) (pt i) (pd i)
def mPast (k : Nat) (Ps : Nat → Sd) (acts : Int32) (past : Nat → Int32) : Prop := acts = nI k ∧ ∀ i, i < k → mSd (Ps i) past (13 * i)
theorem cpy_7 {f g : Nat → Int32} : ∃ h, cpy f g 7 7 (0 : Int32) (0 : Int32) (7 : Int32) = some h ∧ ∀ v, v < 7 → h v = f v := by
  refine ⟨va_cpy f g 0 0 7, ?_, fun v hv => ?_⟩
  · unfold cpy
    rw [if_pos (by decide)]
    rfl
  · rw [pk_cpy_in (by omega) (by omega)]
    congr 1
    omega
theorem c_become {S : Sd} {a1 a2 a3 a4 a5 a6 b1 b2 b3 b4 b5 b6 : Int32} {al bl : Nat → Int32} (h : cSd S a1 al a2 a3 a4 a5 a6) : ∃ bl', fX5_become a1 a2 a3 a4 a5 a6 al b1 b2 b3 b4 b5 b6 bl = some (a1, a2, a3, a4, a5, a6, bl') ∧ cSd S a1 bl' a2 a3 a4 a5 a6 := by
  obtain ⟨x, h1, h2⟩ := cpy_7 (f := al) (g := bl)
  refine ⟨x, ?_, h.1, fun v hv => by rw [h2 v hv]; exact h.2.1 v hv, h.2.2⟩
  unfold fX5_become
  rw [h1, Option.bind_some]
theorem sel6_at {β : Type} {f : Nat → Option β} : ∀ {k : Nat}, k < 6 → sel6 (nI k) f = f k := by
  intro k hk
  rcases (show k = 0 ∨ k = 1 ∨ k = 2 ∨ k = 3 ∨ k = 4 ∨ k = 5 by omega) with rfl | rfl | rfl | rfl | rfl | rfl
  · exact if_pos (by decide)
  · exact (if_neg (by decide)).trans (if_pos (by decide))
  · exact (if_neg (by decide)).trans ((if_neg (by decide)).trans (if_pos (by decide)))
  · exact (if_neg (by decide)).trans ((if_neg (by decide)).trans ((if_neg (by decide)).trans (if_pos (by decide))))
  · exact (if_neg (by decide)).trans ((if_neg (by decide)).trans ((if_neg (by decide)).trans ((if_neg (by decide)).trans (if_pos (by decide)))))
  · exact (if_neg (by decide)).trans ((if_neg (by decide)).trans ((if_neg (by decide)).trans ((if_neg (by decide)).trans ((if_neg (by decide)).trans (if_pos (by decide))))))
theorem c_rem13 {S : Sd} {k : Nat} {Ps : Nat → Sd} {a1 a2 a3 a4 a5 a6 : Int32} {al : Nat → Int32} {R NR : Nat → Nat} {pn pc' pg pk pt pd : Nat → Int32} {pl : Nat → Nat → Int32} (hS : sdOK S) (h : cSd S a1 al a2 a3 a4 a5 a6) (hk : k < 6) (hp : ∀ i, i < k → sdOK (Ps i) ∧ cSd (Ps i) (pn i) (pl i) (pc' i) (pg i) (pk i) (pt i) (pd i)) :
    ∃ pn' pc'' pg' pk' pt' pd' pl', jX1_remember_13 a1 a2 a3 a4 a5 a6 al (nI k) R pn NR pc' pg pk pt pd pl = some (nI (k + 1), R, pn', NR, pc'', pg', pk', pt', pd', pl') ∧ cPast (k + 1) (fun i => if i = k then S else Ps i) (nI (k + 1)) pn' pc'' pg' pk' pt' pd' pl' := by
  obtain ⟨bl, h1, h2⟩ := c_become (b1 := pn k) (b2 := pc' k) (b3 := pg k) (b4 := pk k) (b5 := pt k) (b6 := pd k) (bl := pl k) h
  refine ⟨va_up pn k a1, va_up pc' k a2, va_up pg k a3, va_up pk k a4, va_up pt k a5, va_up pd k a6, va_up pl k bl, ?_, rfl, by omega, fun i hi => ?_⟩
  · unfold jX1_remember_13
    rw [sel6_at hk, h1, Option.bind_some, nI_1]
  · unfold va_up
    dsimp only
    by_cases e : i = k
    · rw [if_pos e, if_pos e, if_pos e, if_pos e, if_pos e, if_pos e, if_pos e, if_pos e]
      exact ⟨hS, h2⟩
    · rw [if_neg e, if_neg e, if_neg e, if_neg e, if_neg e, if_neg e, if_neg e, if_neg e]
      exact hp i (by omega)
theorem c_remember {S : Sd} {k : Nat} {Ps : Nat → Sd} {a1 a2 a3 a4 a5 a6 kn : Int32} {al : Nat → Int32} {R NR : Nat → Nat} {pn pc' pg pk pt pd : Nat → Int32} {pl : Nat → Nat → Int32} (hS : sdOK S) (h : cSd S a1 al a2 a3 a4 a5 a6) (hp : cPast k Ps kn pn pc' pg pk pt pd pl) :
    ∃ R' NR' pn' pc'' pg' pk' pt' pd' pl', fX1_remember a1 a2 a3 a4 a5 a6 al kn R pn NR pc' pg pk pt pd pl = some (nI (pushK k), R', pn', NR', pc'', pg', pk', pt', pd', pl') ∧ cPast (pushK k) (pushP k Ps S) (nI (pushK k)) pn' pc'' pg' pk' pt' pd' pl' := by
  obtain ⟨rfl, hk, hp⟩ := hp
  unfold fX1_remember pushK pushP
  by_cases e : k = 6
  · subst e
    rw [if_pos (show nI 6 = 6 from rfl), if_pos rfl, if_pos rfl]
    obtain ⟨b1, b2, b3, b4, b5, b6, b7, q1, q2⟩ := c_rem13 (S := S) (k := 5) (Ps := fun i => Ps (i + 1)) (R := rot6 R) (NR := rot6 NR) (pn := rot6 pn) (pc' := rot6 pc') (pg := rot6 pg) (pk := rot6 pk) (pt := rot6 pt) (pd := rot6 pd) (pl := rot6 pl) hS h (by decide) (fun i hi => by
      unfold rot6
      rw [if_neg (by omega), if_neg (by omega), if_neg (by omega), if_neg (by omega), if_neg (by omega), if_neg (by omega), if_neg (by omega)]
      exact hp (i + 1) (by omega))
    refine ⟨rot6 R, rot6 NR, b1, b2, b3, b4, b5, b6, b7, ?_, q2⟩
    unfold fX1_loseOldest
    rw [Option.bind_some]
    dsimp only
    rw [show nI 6 - (1 : Int32) = nI 5 by decide]
    exact q1
  · rw [if_neg (show ¬ nI k = (6 : Int32) from fun z => e (nI_inj (a := k) (b := 6) (by omega) (by decide) z)), if_neg e, if_neg e]
    obtain ⟨b1, b2, b3, b4, b5, b6, b7, q1, q2⟩ := c_rem13 (S := S) (k := k) (Ps := Ps) (R := R) (NR := NR) hS h (by omega) hp
    exact ⟨R, NR, b1, b2, b3, b4, b5, b6, b7, q1, q2⟩
theorem m_bring {n0 n1 i j n : Nat} {f t : Nat → Int32} (hi : i + n ≤ n0) (hj : j + n ≤ n1) (h0 : n0 < 200) (h1 : n1 < 200) : fX8_bring n0 n1 f t (nI i) (nI j) (nI n) = some (fun x => if j ≤ x ∧ x < j + n then f (i + (x - j)) else t x) := by
  have key : itL (bX8_bring_3 n0 n1 f (nI i) (nI j) (nI n)) fu ((0 : Int32), t) = some (nI n, fun x => if j ≤ x ∧ x < j + n then f (i + (x - j)) else t x) := by
    refine itL_for (fun k => (nI k, fun x => if j ≤ x ∧ x < j + k then f (i + (x - j)) else t x)) n _ ?_ ?_ (by unfold fu; omega) ?_
    · intro k hk
      unfold bX8_bring_3
      dsimp only
      rw [if_neg (show ¬ nI n ≤ nI k from nI_ge hk (by omega)), nI_add, rd_nI (by omega) (by omega), Option.bind_some, nI_add, wi_nI (by omega) (by omega), Option.bind_some, nI_1]
      congr 3
      funext x
      unfold upd
      dsimp only
      by_cases e : x = j + k
      · subst e
        rw [if_pos rfl, if_pos (by omega), Nat.add_sub_cancel_left]
      · rw [if_neg e]
        by_cases z : j ≤ x ∧ x < j + k
        · rw [if_pos z, if_pos (by omega)]
        · rw [if_neg z, if_neg (by omega)]
    · unfold bX8_bring_3
      dsimp only
      rw [if_pos (nI_le (Nat.le_refl _) (by omega))]
    · congr 1
      funext x
      rw [if_neg (by omega)]
  unfold fX8_bring
  rw [key]; rfl
theorem m_bringS {n0 i j n : Nat} {f : Nat → Int32} (hij : j ≤ i) (hi : i + n ≤ n0) (h0 : n0 < 200) : fX8_bringS n0 f (nI i) (nI j) (nI n) = some (fun x => if j ≤ x ∧ x < j + n then f (i + (x - j)) else f x) := by
  have key : itL (bX8_bringS_3 n0 (nI i) (nI j) (nI n)) fu ((0 : Int32), f) = some (nI n, fun x => if j ≤ x ∧ x < j + n then f (i + (x - j)) else f x) := by
    refine itL_for (fun k => (nI k, fun x => if j ≤ x ∧ x < j + k then f (i + (x - j)) else f x)) n _ ?_ ?_ (by unfold fu; omega) ?_
    · intro k hk
      unfold bX8_bringS_3
      dsimp only
      rw [if_neg (show ¬ nI n ≤ nI k from nI_ge hk (by omega)), nI_add, rd_nI (by omega) (by omega), Option.bind_some, nI_add, wi_nI (by omega) (by omega), Option.bind_some, nI_1, if_neg (show ¬ (j ≤ i + k ∧ i + k < j + k) by omega)]
      congr 3
      funext x
      unfold upd
      dsimp only
      by_cases e : x = j + k
      · subst e
        rw [if_pos rfl, if_pos (by omega), Nat.add_sub_cancel_left]
      · rw [if_neg e]
        by_cases z : j ≤ x ∧ x < j + k
        · rw [if_pos z, if_pos (by omega)]
        · rw [if_neg z, if_neg (by omega)]
    · unfold bX8_bringS_3
      dsimp only
      rw [if_pos (nI_le (Nat.le_refl _) (by omega))]
    · congr 1
      funext x
      rw [if_neg (by omega)]
  unfold fX8_bringS
  rw [key]; rfl
/-- thirteen numbers brought elsewhere -/
theorem mSd_to {S : Sd} {f g : Nat → Int32} {o p : Nat} (h : mSd S f o) (e : ∀ d, d < 13 → g (p + d) = f (o + d)) : mSd S g p := by
  refine ⟨by have := e 0 (by decide); rw [Nat.add_zero, Nat.add_zero] at this; rw [this]; exact h.1, fun v hv => ?_, ?_, ?_, ?_, ?_, ?_⟩
  · rw [Nat.add_assoc, e (1 + v) (by omega), ← Nat.add_assoc]; exact h.2.1 v hv
  · rw [e 8 (by decide)]; exact h.2.2.1
  · rw [e 9 (by decide)]; exact h.2.2.2.1
  · rw [e 10 (by decide)]; exact h.2.2.2.2.1
  · rw [e 11 (by decide)]; exact h.2.2.2.2.2.1
  · rw [e 12 (by decide)]; exact h.2.2.2.2.2.2
theorem m_notes35 {S : Sd} {k : Nat} {Ps : Nat → Sd} {st past : Nat → Int32} (h : mSd S st 0) (hk : k < 6) (hp : ∀ i, i < k → mSd (Ps i) past (13 * i)) : ∃ past', jX8_notes_35 st (nI k) past = some (nI (k + 1), past') ∧ mPast (k + 1) (fun i => if i = k then S else Ps i) (nI (k + 1)) past' := by
  unfold jX8_notes_35
  rw [show (13 : Int32) * nI k = nI (13 * k) from pk_mul 13 k, show (0 : Int32) = nI 0 from rfl, show (13 : Int32) = nI 13 from rfl, m_bring (by decide) (by omega) (by decide) (by decide), Option.bind_some, nI_1]
  refine ⟨_, rfl, rfl, fun i hi => ?_⟩
  dsimp only
  by_cases e : i = k
  · subst e
    rw [if_pos rfl]
    refine mSd_to h (fun d hd => ?_)
    rw [if_pos (by omega)]
    congr 1
    omega
  · rw [if_neg e]
    refine mSd_to (hp i (by omega)) (fun d hd => ?_)
    rw [if_neg (by omega)]
theorem m_notes {S : Sd} {k : Nat} {Ps : Nat → Sd} {acts : Int32} {st past : Nat → Int32} (h : mSd S st 0) (hk : k ≤ 6) (hp : mPast k Ps acts past) : ∃ past', fX8_notes acts past st = some (nI (pushK k), past') ∧ mPast (pushK k) (pushP k Ps S) (nI (pushK k)) past' := by
  obtain ⟨rfl, hp⟩ := hp
  unfold fX8_notes pushK pushP
  by_cases e : k = 6
  · subst e
    rw [if_pos (show nI 6 = 6 from rfl), if_pos rfl, if_pos rfl, show (13 : Int32) = nI 13 from rfl, show (0 : Int32) = nI 0 from rfl, show (65 : Int32) = nI 65 from rfl, m_bringS (by decide) (by decide) (by decide), Option.bind_some, show nI 6 - (1 : Int32) = nI 5 by decide]
    exact m_notes35 (k := 5) h (by decide) (fun i hi => mSd_to (hp (i + 1) (by omega)) (fun d hd => by
      rw [if_pos (by omega)]
      congr 1
      omega))
  · rw [if_neg (show ¬ nI k = (6 : Int32) from fun z => e (nI_inj (a := k) (b := 6) (by omega) (by decide) z)), if_neg e, if_neg e]
    exact m_notes35 h (by omega) hp
theorem pushK_le {k : Nat} (h : k ≤ 6) : pushK k ≤ 6 := by unfold pushK; split <;> omega
