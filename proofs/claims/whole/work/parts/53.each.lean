/-! All acts of a kind from a state on: the class's doEach. -/
theorem foldN_congr {S : Type} {f g : Nat → S → S} : ∀ (N : Nat) (s : S), (∀ i, i < N → ∀ s, f i s = g i s) → foldN f N s = foldN g N s := by
  intro N
  induction N with
  | zero => intro s _; rfl
  | succ N ih =>
    intro s h
    unfold foldN
    rw [ih s (fun i hi => h i (by omega)), h N (by omega)]
theorem foldN_id {S : Type} {f : Nat → S → S} {M : Nat} : ∀ (N : Nat) (s : S), M ≤ N → (∀ i, M ≤ i → i < N → ∀ s, f i s = s) → foldN f N s = foldN f M s := by
  intro N
  induction N with
  | zero => intro s h _; have : M = 0 := by omega
            subst this; rfl
  | succ N ih =>
    intro s h1 h2
    by_cases e : M = N + 1
    · subst e; rfl
    · unfold foldN
      rw [h2 N (by omega) (by omega), ih s (by omega) (fun i a b => h2 i a (by omega))]
      cases M <;> rfl
theorem foldN_ind {S : Type} {f : Nat → S → S} (I : S → Prop) : ∀ (N : Nat) (s : S), I s → (∀ i, i < N → ∀ s, I s → I (f i s)) → I (foldN f N s) := by
  intro N
  induction N with
  | zero => intro s h _; exact h
  | succ N ih =>
    intro s h hs
    exact hs N (by omega) _ (ih s h (fun i hi => hs i (by omega)))
/-- acts told as a base and a place, those of a set -/
def eachA (n : Nat) (nr : Nat → Nat) (sd : Bool) (k c g base S : Nat) (i : Nat) (L : List En) : List En := foldN (fun v M => if S.testBit v = true then doA n nr sd k c g (base + v) M else M) i L
theorem sd_0 {sd : Bool} : ((if sd = true then (1 : Int32) else 0) = 0) ↔ sd = false := by cases sd <;> decide
theorem shr_nI {S i : Nat} (hS : S < 128) (hi : i < 32) : nI S >>> (nI i &&& 31) = nI (S / 2 ^ i) := pk_shrN (by omega) _ i (s_l i hi)
theorem ok_each {n : Nat} {nr : Nat → Nat} {sd : Bool} {k base S : Nat} {e : En} {L : List En} (hn : n ≤ 7) (hL : stOK n L) (hk : L[k]? = some e) (hA : ∀ v, v < 7 → S.testBit v = true → isA n (base + v)) : ∀ i, i ≤ 7 → stOK n (eachA n nr sd k e.1 e.2.1 base S i L) ∧ L <+: eachA n nr sd k e.1 e.2.1 base S i L := by
  have hem : e ∈ L := List.mem_of_getElem? hk
  have hc := hL.2 e hem
  have hg : e.2.1 < 2 ^ n := sub_lt (hL.1.1 e hem).2.2.1 hc
  have hkl : k < L.length := (List.getElem?_eq_some_iff.mp hk).1
  intro i hi
  refine foldN_ind (fun M => stOK n M ∧ L <+: M) i L ⟨hL, List.prefix_refl L⟩ (fun v hv M hM => ?_)
  by_cases q : S.testBit v = true
  · rw [if_pos q]
    exact ⟨ok_doA hM.1 hn (hA v (by omega) q) hc hg (Nat.lt_of_lt_of_le hkl (pre_len hM.2)), List.IsPrefix.trans hM.2 pre_doA⟩
  · rw [if_neg q]; exact hM
theorem c_doEach {n : Nat} {nr : Nat → Nat} {sd : Bool} {k base S : Nat} {e : En} {L : List En} {nd al found goal : Int32} {be ne : Nat → Int32} {seen : Nat → Int64} {states steps : Nat → Int32} (hnet : netOk n nr nd al be ne) (hf : netFit n nr) (h : CR (2 ^ n - 1) L found goal seen states steps) (hL : stOK n L) (hk : L[k]? = some e) (hS : S < 128) (hb : base < 200) (hA : ∀ v, v < 7 → S.testBit v = true → isA n (base + v)) :
    ∃ found' goal' seen' states' steps', fX3_doEach found goal (if sd then 1 else 0) al be seen states steps (nI k) (nI base) (nI S) = some (found', goal', seen', states', steps') ∧ CR (2 ^ n - 1) (eachA n nr sd k e.1 e.2.1 base S 7 L) found' goal' seen' states' steps' := by
  have hn := hf.1.2
  have hp := pow_le hn
  have hem : e ∈ L := List.mem_of_getElem? hk
  have oe := hL.1.1 e hem
  have hc := hL.2 e hem
  have hg : e.2.1 < 2 ^ n := sub_lt oe.2.2.1 hc
  have hkl : k < L.length := (List.getElem?_eq_some_iff.mp hk).1
  have hlen := okL_len hL.1
  have loop : ∀ (m i : Nat), i + m = 7 → ∀ (fd gl : Int32) (sn : Nat → Int64) (sts sps : Nat → Int32), CR (2 ^ n - 1) (eachA n nr sd k e.1 e.2.1 base S i L) fd gl sn sts sps → ∀ N, m < N → ∃ j fd' gl' sn' sts' sps', itL (bX3_doEach_27 (if sd then 1 else 0) al be (nI k) (nI base) (nI S) (nI e.1) (nI e.2.1)) N (nI i, fd, gl, sn, sts, sps) = some (j, fd', gl', sn', sts', sps') ∧ CR (2 ^ n - 1) (eachA n nr sd k e.1 e.2.1 base S 7 L) fd' gl' sn' sts' sps' := by
    intro m
    induction m with
    | zero =>
      intro i hi fd gl sn sts sps hC N hN
      have : i = 7 := by omega
      subst this
      obtain ⟨N, rfl⟩ : ∃ N', N = N' + 1 := ⟨N - 1, by omega⟩
      refine ⟨nI 7, fd, gl, sn, sts, sps, ?_, hC⟩
      rw [itL]
      unfold bX3_doEach_27
      dsimp only
      rw [if_pos (show (7 : Int32) ≤ nI 7 from by decide), ite_self]
    | succ m ih =>
      intro i hi fd gl sn sts sps hC N hN
      obtain ⟨N, rfl⟩ : ∃ N', N = N' + 1 := ⟨N - 1, by omega⟩
      by_cases hz : S < 2 ^ i
      · have heq : eachA n nr sd k e.1 e.2.1 base S 7 L = eachA n nr sd k e.1 e.2.1 base S i L := foldN_id 7 L (by omega) (fun j hj _ M => by
          have : S.testBit j = false := Nat.testBit_lt_two_pow (Nat.lt_of_lt_of_le hz (Nat.pow_le_pow_right (by decide) hj))
          rw [this]; rfl)
        refine ⟨nI i, fd, gl, sn, sts, sps, ?_, by rw [heq]; exact hC⟩
        rw [itL]
        unfold bX3_doEach_27
        dsimp only
        rw [shr_nI hS (by omega), Nat.div_eq_of_lt hz, if_pos (show nI 0 = 0 from rfl)]
      · have hd : 0 < S / 2 ^ i := Nat.div_pos (by omega) (Nat.two_pow_pos i)
        have hd2 : S / 2 ^ i < 2 ^ 31 := Nat.lt_of_le_of_lt (Nat.div_le_self S _) (by omega)
        have hstep : eachA n nr sd k e.1 e.2.1 base S (i + 1) L = if S.testBit i = true then doA n nr sd k e.1 e.2.1 (base + i) (eachA n nr sd k e.1 e.2.1 base S i L) else eachA n nr sd k e.1 e.2.1 base S i L := rfl
        have body : ∃ fd' gl' sn' sts' sps', bX3_doEach_27 (if sd then 1 else 0) al be (nI k) (nI base) (nI S) (nI e.1) (nI e.2.1) (nI i, fd, gl, sn, sts, sps) = some (.inl (nI (i + 1), fd', gl', sn', sts', sps')) ∧ CR (2 ^ n - 1) (eachA n nr sd k e.1 e.2.1 base S (i + 1) L) fd' gl' sn' sts' sps' := by
          rw [hstep]
          unfold bX3_doEach_27
          dsimp only
          rw [shr_nI hS (by omega), if_neg (nI_ne0 hd hd2), if_neg (show ¬ (7 : Int32) ≤ nI i from nI_ge (b := 7) (by omega) (by decide)), c_has hS (by omega), Option.bind_some]
          by_cases q : S.testBit i = true
          · have ha := hA i (by omega) q
            have hal := isA_lt hn ha
            have hgl := gAft_lt hn ha hg
            obtain ⟨hok, hpre⟩ := ok_each (nr := nr) (sd := sd) hn hL hk hA i (by omega)
            obtain ⟨no, nl⟩ := new_ok (nr := nr) (k := k) hn ha hc hg
            have hki : k < (eachA n nr sd k e.1 e.2.1 base S i L).length := Nat.lt_of_lt_of_le hkl (pre_len hpre)
            rw [if_pos q, if_pos q, if_neg (show ¬ (1 : Int32) = 0 by decide), nI_add, c_gAft hn ha oe.2.1, Option.bind_some, fa_or, c_fouled hnet hn (nr_lt hf) (by omega) (Nat.or_lt_two_pow hc hgl), Option.bind_some, and_cm oe.1]
            have go : ∃ fd' gl' sn' sts' sps', jX3_doEach_94 (if sd then 1 else 0) al be (nI k) (nI base) (nI S) (nI e.1) (nI e.2.1) (nI i) (nI (gAft (base + i) e.2.1)) (nI (fouled n nr (gAft (base + i) e.2.1) (e.1 ||| gAft (base + i) e.2.1))) fd gl sn sts sps = some (.inl (nI (i + 1), fd', gl', sn', sts', sps')) ∧ CR (2 ^ n - 1) (addE (eachA n nr sd k e.1 e.2.1 base S i L) (fouled n nr (gAft (base + i) e.2.1) (e.1 ||| gAft (base + i) e.2.1), gAft (base + i) e.2.1, k, base + i)) fd' gl' sn' sts' sps' := by
              obtain ⟨f1, g1, s1, t1, p1, q1, q2⟩ := c_find (p := k) (a := base + i) hC (okL_len hok.1) (all_lt hn) no.1 no.2.1 (fun z => okL_room hok.1 no hki z)
              refine ⟨f1, g1, s1, t1, p1, ?_, q2⟩
              unfold jX3_doEach_94 jX3_doEach_111
              have hst : (nI k <<< ((8 : Int32) &&& 31)) ||| (nI base + nI i) = nI (k * 256 + (base + i)) := by
                rw [pk_shlN (n := k) _ 8 (by decide) (by omega), nI_add, show k * 2 ^ 8 = 2 ^ 8 * k from Nat.mul_comm _ _, fa_or_sum k (by omega)]
              rw [hst, hnet.2.1, q1, Option.bind_some, nI_1]
            unfold doA
            by_cases hsd : sd = false
            · rw [if_pos (sd_0.mpr hsd), if_pos (Or.inl hsd)]
              exact go
            · rw [if_neg (fun z => hsd (sd_0.mp z))]
              by_cases z : e.1 &&& cm (fouled n nr (gAft (base + i) e.2.1) (e.1 ||| gAft (base + i) e.2.1)) = 0
              · rw [if_pos (by rw [z]; rfl), if_pos (Or.inr z)]
                exact go
              · rw [if_neg (nI_ne0 (by omega) (Nat.lt_trans (and_lt oe.1) (by decide))), if_neg (show ¬ (sd = false ∨ e.1 &&& cm (fouled n nr (gAft (base + i) e.2.1) (e.1 ||| gAft (base + i) e.2.1)) = 0) from fun y => y.elim hsd z)]
                exact ⟨fd, gl, sn, sts, sps, by unfold jX3_doEach_111; rw [nI_1], hC⟩
          · rw [if_neg q, if_neg q, if_pos rfl]
            exact ⟨fd, gl, sn, sts, sps, by unfold jX3_doEach_111; rw [nI_1], hC⟩
        obtain ⟨fd', gl', sn', sts', sps', q1, q2⟩ := body
        obtain ⟨j, f2, g2, s2, t2, p2, q3, q4⟩ := ih (i + 1) (by omega) fd' gl' sn' sts' sps' q2 N (by omega)
        exact ⟨j, f2, g2, s2, t2, p2, by rw [itL, q1]; exact q3, q4⟩
  have hst := (h.2.2.1 k e hk).1
  obtain ⟨j, f2, g2, s2, t2, p2, q3, q4⟩ := loop 7 0 rfl found goal seen states steps h fu (by decide)
  rw [show nI 0 = (0 : Int32) from rfl] at q3
  refine ⟨f2, g2, s2, t2, p2, ?_, q4⟩
  unfold fX3_doEach bnd
  rw [rd_nI (by omega) (by decide), Option.bind_some]
  dsimp only
  rw [Option.bind_some, hst, show (128 : Int32) = nI 128 from rfl]
  rw [pk_rem (a := e.1 * 128 + e.2.1) (d := 128) (by have := oe.1; have := oe.2.1; omega) (by decide) (by decide), pk_div (a := e.1 * 128 + e.2.1) (d := 128) (by have := oe.1; have := oe.2.1; omega) (by decide) (by decide), show (e.1 * 128 + e.2.1) % 128 = e.2.1 by have := oe.2.1; omega, show (e.1 * 128 + e.2.1) / 128 = e.1 by have := oe.2.1; omega, q3]
  rfl
