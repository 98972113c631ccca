/-! The class's leave and the reference's turn do the same acts. -/
theorem itL_rel {V E : Type} {b : V → Option (V ⊕ E)} (R : Nat → V → Prop) (Q : E → Prop) (N : Nat) (hs : ∀ i v, i < N → R i v → (∃ v', b v = some (.inl v') ∧ R (i + 1) v') ∨ (∃ x, b v = some (.inr x) ∧ Q x)) (hx : ∀ v, R N v → ∃ x, b v = some (.inr x) ∧ Q x) : ∀ n v, R 0 v → N < n → ∃ x, itL b n v = some x ∧ Q x := by
  have key : ∀ k i, i + k = N → ∀ n v, R i v → k < n → ∃ x, itL b n v = some x ∧ Q x := by
    intro k
    induction k with
    | zero =>
      intro i hi n v hv hn
      obtain ⟨m, rfl⟩ : ∃ m, n = m + 1 := ⟨n - 1, by omega⟩
      have : i = N := by omega
      subst this
      obtain ⟨x, h1, h2⟩ := hx v hv
      exact ⟨x, by rw [itL, h1], h2⟩
    | succ k ih =>
      intro i hi n v hv hn
      obtain ⟨m, rfl⟩ : ∃ m, n = m + 1 := ⟨n - 1, by omega⟩
      rcases hs i v (by omega) hv with ⟨v', h1, h2⟩ | ⟨x, h1, h2⟩
      · obtain ⟨x, h3, h4⟩ := ih (i + 1) (by omega) m v' h2 (by omega)
        exact ⟨x, by rw [itL, h1]; exact h3, h4⟩
      · exact ⟨x, by rw [itL, h1], h2⟩
  intro n v hv hn
  exact key N 0 (by omega) n v hv hn
def mvF (n : Nat) (nr : Nat → Nat) (kind team : Nat) (sd : Bool) (k c g : Nat) (i : Nat) (L : List En) : List En := foldN (fun u M => foldN (fun w M => if (u < n ∧ w < n ∧ u ≠ w) ∧ rul nr kind team g (100 + 10 * u + w) = 0 then doA n nr sd k c g (100 + 10 * u + w) M else M) 10 M) i L
theorem stays_mv {n : Nat} {nr : Nat → Nat} {kind team : Nat} {sd : Bool} {k : Nat} {e : En} {L M : List En} (hn : n ≤ 7) (hL : stOK n L) (hk : L[k]? = some e) (h : stays n L M) (i : Nat) : stays n L (mvF n nr kind team sd k e.1 e.2.1 i M) := foldN_ind (stays n L) i M h (fun u _ M hM => foldN_ind (stays n L) 10 M hM (fun w _ M hM => by
  by_cases q : (u < n ∧ w < n ∧ u ≠ w) ∧ rul nr kind team e.2.1 (100 + 10 * u + w) = 0
  · rw [if_pos q]; exact stays_do hn hL hk (isA_move q.1) hM
  · rw [if_neg q]; exact hM))
theorem mv_none {n : Nat} {nr : Nat → Nat} {kind team : Nat} {sd : Bool} {k c g : Nat} {L : List En} (h : kind ≠ 1) : moveA n nr kind team sd k c g L = L := by
  have inner : ∀ u M, foldN (fun w M => if (u < n ∧ w < n ∧ u ≠ w) ∧ rul nr kind team g (100 + 10 * u + w) = 0 then doA n nr sd k c g (100 + 10 * u + w) M else M) 10 M = M := fun u M => foldN_id (M := 0) 10 M (by decide) (fun w _ hw M => by
    rw [if_neg (fun y => ?_)]
    have y2 := y.2
    rw [rul_move (by omega), if_neg (fun z => h z.1)] at y2
    exact absurd y2 (by decide))
  exact foldN_id (M := 0) 7 L (by decide) (fun u _ _ M => inner u M)
theorem mv_n {n : Nat} {nr : Nat → Nat} {kind team : Nat} {sd : Bool} {k c g : Nat} {L : List En} (hn : n ≤ 7) : moveA n nr kind team sd k c g L = mvF n nr kind team sd k c g n L := foldN_id 7 L hn (fun u hu _ M => foldN_id (M := 0) 10 M (by decide) (fun w _ _ M => by rw [if_neg (fun y => by have := y.1.1; omega)]))
theorem c_leave {n : Nat} {nr : Nat → Nat} {kind team : Nat} {sd : Bool} {k : Nat} {e : En} {L : List En} {nd al found goal : Int32} {be ne : Nat → Int32} {seen : Nat → Int64} {states steps : Nat → Int32} (hnet : netOk n nr nd al be ne) (hf : netFit n nr) (hki : kind < 3) (ht : team < 8) (h : CR (2 ^ n - 1) L found goal seen states steps) (hL : stOK n L) (hk : L[k]? = some e) :
    ∃ found' goal' seen' states' steps', fX3_leave found goal (if sd then 1 else 0) nd al be ne seen states steps (nI k) (nI kind) (nI team) = some (found', goal', seen', states', steps') ∧ CR (2 ^ n - 1) (leaveA n nr kind team sd k e.1 e.2.1 L) found' goal' seen' states' steps' := by
  have hn := hf.1.2
  have hp := pow_le hn
  have hem : e ∈ L := List.mem_of_getElem? hk
  have oe := hL.1.1 e hem
  have hc := hL.2 e hem
  have hg : e.2.1 < 2 ^ n := sub_lt oe.2.2.1 hc
  have hkl : k < L.length := (List.getElem?_eq_some_iff.mp hk).1
  have hlen := okL_len hL.1
  have hst := (h.2.2.1 k e hk).1
  have tail : ∀ (fd gl : Int32) (sn : Nat → Int64) (sts sps : Nat → Int32), CR (2 ^ n - 1) (putA n nr kind team sd k e.1 e.2.1 L) fd gl sn sts sps → ∃ fd' gl' sn' sts' sps', jX3_leave_37 (if sd then 1 else 0) nd al be ne (nI k) (nI kind) (nI e.2.1) fd gl sn sts sps = some (fd', gl', sn', sts', sps') ∧ CR (2 ^ n - 1) (leaveA n nr kind team sd k e.1 e.2.1 L) fd' gl' sn' sts' sps' := by
    intro fd gl sn sts sps hC
    have s1 : stays n L (putA n nr kind team sd k e.1 e.2.1 L) := stays_put hn hL hk ⟨hL, List.prefix_refl L⟩
    obtain ⟨f1, g1, q1, t1, p1, r1, r2⟩ := c_doEach (base := 10) (S := takeS kind e.2.1) (sd := sd) hnet hf hC s1.1 (pre_at s1.2 hk) (takeS_lt oe.2.1) (by decide) (fun v hv z => isA_take (bit_lt (take_bit.mp z).1 hg))
    rw [each_take (team := team) hg] at r2
    have s2 : stays n L (takeA n nr kind team sd k e.1 e.2.1 (putA n nr kind team sd k e.1 e.2.1 L)) := stays_take hn hL hk s1
    unfold jX3_leave_37
    rw [c_takes hki, Option.bind_some, show (10 : Int32) = nI 10 from rfl, r1, Option.bind_some]
    by_cases k1 : kind = 1
    · obtain ⟨x, hx1, hx2⟩ := itL_rel (b := bX3_leave_53 (if sd then 1 else 0) nd al be ne (nI k) (nI kind) (nI e.2.1)) (fun i v => v.1 = nI i ∧ CR (2 ^ n - 1) (mvF n nr kind team sd k e.1 e.2.1 i (takeA n nr kind team sd k e.1 e.2.1 (putA n nr kind team sd k e.1 e.2.1 L))) v.2.1 v.2.2.1 v.2.2.2.1 v.2.2.2.2.1 v.2.2.2.2.2) (fun v => CR (2 ^ n - 1) (leaveA n nr kind team sd k e.1 e.2.1 L) v.2.1 v.2.2.1 v.2.2.2.1 v.2.2.2.2.1 v.2.2.2.2.2) n (fun i v hi hv => by
          refine Or.inl ?_
          have s3 := stays_mv (nr := nr) (kind := kind) (team := team) (sd := sd) hn hL hk s2 i
          obtain ⟨a1, a2, a3, a4, a5, b1, b2⟩ := c_doEach (base := 100 + 10 * i) (S := moveS nr kind e.2.1 i) (sd := sd) hnet hf hv.2 s3.1 (pre_at s3.2 hk) (moveS_lt (nr_lt hf)) (by omega) (fun w hw z => by
            have hb := (move_bit hw).mp z
            exact isA_move ⟨hi, bit_lt hb.2.2.2 (hf.2.1 i), fun q => by
              have := hb.2.2.2
              rw [q, hf.2.2.2.2 w] at this; cases this⟩)
          rw [each_move (team := team) hf hi] at b2
          refine ⟨(nI (i + 1), a1, a2, a3, a4, a5), ?_, rfl, b2⟩
          unfold bX3_leave_53
          rw [hnet.1, hv.1, if_neg (show ¬ nI n ≤ nI i from nI_ge hi (by omega)), if_pos (show nI kind = 1 by rw [k1]; rfl), ← hnet.1, c_moves hnet hf oe.2.1 hki hi, Option.bind_some, show (100 : Int32) + (10 : Int32) * nI i = nI (100 + 10 * i) from by rw [show (10 : Int32) * nI i = nI (10 * i) from pk_mul 10 i]; exact nI_add 100 _, b1, Option.bind_some, nI_1]) (fun v hv => by
          refine ⟨v, ?_, ?_⟩
          · unfold bX3_leave_53
            rw [hnet.1, hv.1, if_pos (nI_le (Nat.le_refl _) (by omega)), ← hv.1]
          · unfold leaveA
            rw [mv_n hn]; exact hv.2) fu (0, f1, g1, q1, t1, p1) ⟨rfl, r2⟩ (by unfold fu; omega)
      refine ⟨x.2.1, x.2.2.1, x.2.2.2.1, x.2.2.2.2.1, x.2.2.2.2.2, ?_, hx2⟩
      dsimp only
      rw [hx1]; rfl
    · refine ⟨f1, g1, q1, t1, p1, ?_, by unfold leaveA; rw [mv_none k1]; exact r2⟩
      have hb : itL (bX3_leave_53 (if sd then 1 else 0) nd al be ne (nI k) (nI kind) (nI e.2.1)) fu ((0 : Int32), f1, g1, q1, t1, p1) = some ((0 : Int32), f1, g1, q1, t1, p1) := by
        unfold fu
        rw [itL]
        unfold bX3_leave_53
        dsimp only
        rw [if_neg (show ¬ nI kind = (1 : Int32) from fun z => k1 (nI_inj (a := kind) (b := 1) (by omega) (by decide) z)), ite_self]
      dsimp only
      rw [hb]; rfl
  unfold fX3_leave bnd
  rw [rd_nI (by omega) (by decide), Option.bind_some, hst, show (128 : Int32) = nI 128 from rfl, pk_rem (a := e.1 * 128 + e.2.1) (d := 128) (by have := oe.1; have := oe.2.1; omega) (by decide) (by decide), show (e.1 * 128 + e.2.1) % 128 = e.2.1 by have := oe.2.1; omega]
  dsimp only
  rw [c_full oe.2.1 ht, Option.bind_some]
  by_cases hfull : pc 7 e.2.1 < team
  · obtain ⟨f1, g1, q1, t1, p1, r1, r2⟩ := c_doEach (base := 0) (S := putS n nr kind e.2.1) (sd := sd) hnet hf h hL hk (putS_lt hn (nr_lt hf)) (by decide) (fun v hv z => by rw [Nat.zero_add]; exact isA_put (bit_lt z (putS_lt2 hf)))
    rw [each_put hf hg hfull] at r2
    rw [if_pos hfull, if_pos rfl, c_puts hnet hf hg hki, Option.bind_some, show (0 : Int32) = nI 0 from rfl]
    rw [show nI 0 = (0 : Int32) from rfl] at r1 ⊢
    rw [r1, Option.bind_some]
    exact tail _ _ _ _ _ r2
  · rw [if_neg hfull, if_neg (show ¬ (1 : Int32) = 0 by decide)]
    exact tail _ _ _ _ _ (by rw [full_put hfull]; exact h)
