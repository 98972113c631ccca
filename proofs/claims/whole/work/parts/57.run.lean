/-! The searches, whole. -/
def Lk (n : Nat) (nr : Nat → Nat) (kind team : Nat) (sd : Bool) (c0 g0 : Nat) : Nat → List En
  | 0 => [(c0, g0, 0, 0)]
  | k + 1 => match (Lk n nr kind team sd c0 g0 k)[k]? with
    | some e => leaveA n nr kind team sd k e.1 e.2.1 (Lk n nr kind team sd c0 g0 k)
    | none => Lk n nr kind team sd c0 g0 k
theorem Lk_some {n : Nat} {nr : Nat → Nat} {kind team : Nat} {sd : Bool} {c0 g0 k : Nat} {e : En} (h : (Lk n nr kind team sd c0 g0 k)[k]? = some e) : Lk n nr kind team sd c0 g0 (k + 1) = leaveA n nr kind team sd k e.1 e.2.1 (Lk n nr kind team sd c0 g0 k) := by
  show (match (Lk n nr kind team sd c0 g0 k)[k]? with
    | some e => leaveA n nr kind team sd k e.1 e.2.1 (Lk n nr kind team sd c0 g0 k)
    | none => Lk n nr kind team sd c0 g0 k) = _
  rw [h]
theorem Lk_none {n : Nat} {nr : Nat → Nat} {kind team : Nat} {sd : Bool} {c0 g0 k : Nat} (h : (Lk n nr kind team sd c0 g0 k)[k]? = none) : Lk n nr kind team sd c0 g0 (k + 1) = Lk n nr kind team sd c0 g0 k := by
  show (match (Lk n nr kind team sd c0 g0 k)[k]? with
    | some e => leaveA n nr kind team sd k e.1 e.2.1 (Lk n nr kind team sd c0 g0 k)
    | none => Lk n nr kind team sd c0 g0 k) = _
  rw [h]
theorem ok_root {n c0 g0 : Nat} (hn : n ≤ 7) (hc : c0 < 2 ^ n) (hg : g0 &&& c0 = g0) : stOK n [(c0, g0, 0, 0)] := by
  have hp := pow_le hn
  have hg2 := sub_lt hg hc
  refine ⟨⟨fun e he => ?_, by simp, fun i e hi h0 => ?_⟩, fun e he => ?_⟩
  · rw [List.mem_singleton.mp he]
    exact ⟨Nat.lt_of_lt_of_le hc hp, Nat.lt_of_lt_of_le hg2 hp, hg, (by decide : 0 < 256)⟩
  · rw [List.getElem?_eq_none (by simp only [List.length_singleton]; omega)] at hi; cases hi
  · rw [List.mem_singleton.mp he]; exact hc
theorem Lk_ok {n : Nat} {nr : Nat → Nat} {kind team : Nat} {sd : Bool} {c0 g0 : Nat} (hn : n ≤ 7) (hc : c0 < 2 ^ n) (hg : g0 &&& c0 = g0) : ∀ k, stOK n (Lk n nr kind team sd c0 g0 k) ∧ Lk n nr kind team sd c0 g0 k <+: Lk n nr kind team sd c0 g0 (k + 1) := by
  have step : ∀ k, stOK n (Lk n nr kind team sd c0 g0 k) → stOK n (Lk n nr kind team sd c0 g0 (k + 1)) ∧ Lk n nr kind team sd c0 g0 k <+: Lk n nr kind team sd c0 g0 (k + 1) := by
    intro k h
    cases q : (Lk n nr kind team sd c0 g0 k)[k]? with
    | none => rw [Lk_none q]; exact ⟨h, List.prefix_refl _⟩
    | some e => rw [Lk_some q]; exact stays_leave hn h q
  intro k
  induction k with
  | zero => exact ⟨ok_root hn hc hg, (step 0 (ok_root hn hc hg)).2⟩
  | succ k ih =>
    have := step k ih.1
    exact ⟨this.1, (step (k + 1) this.1).2⟩
theorem Lk_mono {n : Nat} {nr : Nat → Nat} {kind team : Nat} {sd : Bool} {c0 g0 : Nat} (hn : n ≤ 7) (hc : c0 < 2 ^ n) (hg : g0 &&& c0 = g0) {j k : Nat} (h : j ≤ k) : Lk n nr kind team sd c0 g0 j <+: Lk n nr kind team sd c0 g0 k := by
  induction k with
  | zero => have : j = 0 := by omega
            subst this; exact List.prefix_refl _
  | succ k ih =>
    by_cases e : j = k + 1
    · subst e; exact List.prefix_refl _
    · exact List.IsPrefix.trans (ih (by omega)) (Lk_ok hn hc hg k).2
/-- where the class's search stops -/
def stopC (n : Nat) (nr : Nat → Nat) (kind team : Nat) (sd : Bool) (c0 g0 K : Nat) : Prop := (∀ j, j < K → j < (Lk n nr kind team sd c0 g0 j).length ∧ goalI (2 ^ n - 1) (Lk n nr kind team sd c0 g0 j) = -1) ∧ ((Lk n nr kind team sd c0 g0 K).length ≤ K ∨ goalI (2 ^ n - 1) (Lk n nr kind team sd c0 g0 K) ≠ -1)
theorem clear_seen {a1 a2 : Int32} {a3 a4 : Nat → Int32} {b1 b2 b3 b4 b5 c1 c2 c3 : Int32} {d1 d2 : Nat → Int32} {seen : Nat → Int64} : itL (bX3_run_3 a1 a2 a3 a4 b1 b2 b3 b4 b5 c1 c2 c3 d1 d2) fu ((0 : Int32), seen) = some (nI 256, fun k => if k < 256 then 0 else seen k) := by
  refine itL_for (fun i => (nI i, fun k => if k < i then 0 else seen k)) 256 _ ?_ ?_ (by decide) ?_
  · intro i hi
    unfold bX3_run_3
    dsimp only
    rw [if_neg (show ¬ (256 : Int32) ≤ nI i from nI_ge (b := 256) hi (by decide)), wl_nI hi (by decide), Option.bind_some, nI_1]
    congr 3
    funext k
    unfold vp_updL
    dsimp only
    by_cases e : k = i
    · rw [if_pos e, if_pos (by omega)]
    · rw [if_neg e]
      by_cases q : k < i
      · rw [if_pos q, if_pos (by omega)]
      · rw [if_neg q, if_neg (by omega)]
  · unfold bX3_run_3
    dsimp only
    rw [if_pos (by decide)]
  · congr 1
theorem CR_nil {all : Nat} {seen : Nat → Int64} {states steps : Nat → Int32} : CR all [] 0 (-1) (fun k => if k < 256 then 0 else seen k) states steps := by
  refine ⟨rfl, rfl, fun i e hi => by simp at hi, fun c g hc hg => ?_⟩
  unfold seenAt
  dsimp only
  rw [if_pos (by omega)]
  simp [hasB]
theorem c_run {n : Nat} {nr : Nat → Nat} {kind team : Nat} {sd : Bool} {c0 g0 : Nat} {nd al found goal isd : Int32} {be ne : Nat → Int32} {seen : Nat → Int64} {states steps : Nat → Int32} (hnet : netOk n nr nd al be ne) (hf : netFit n nr) (hki : kind < 3) (ht : team < 8) (hc : c0 < 2 ^ n) (hg : g0 &&& c0 = g0) :
    ∃ K found' goal' seen' states' steps', fX3_run found goal isd nd al be ne seen states steps (nI c0) (nI g0) (nI kind) (nI team) (if sd then 1 else 0) = some (found', goal', (if sd then 1 else 0), seen', states', steps') ∧ CR (2 ^ n - 1) (Lk n nr kind team sd c0 g0 K) found' goal' seen' states' steps' ∧ stopC n nr kind team sd c0 g0 K := by
  have hn := hf.1.2
  have hp := pow_le hn
  have hg2 := sub_lt hg hc
  have hbz : bz (if sd = true then (1 : Int32) else 0) = some () := by cases sd <;> decide
  obtain ⟨f1, g1, s1, t1, p1, q1, q2⟩ := c_find (p := 0) (a := 0) (c := c0) (g := g0) (CR_nil (all := 2 ^ n - 1) (seen := seen) (states := states) (steps := steps)) (by simp) (all_lt hn) (by omega) (by omega) (fun _ => by simp)
  have q2 : CR (2 ^ n - 1) (Lk n nr kind team sd c0 g0 0) f1 g1 s1 t1 p1 := q2
  obtain ⟨x, hx1, K, hx2, hx3⟩ := itL_rel (b := bX3_run_51 nd al be ne (nI kind) (nI team) (if sd then 1 else 0)) (fun i v => v.1 = nI i ∧ CR (2 ^ n - 1) (Lk n nr kind team sd c0 g0 i) v.2.1 v.2.2.1 v.2.2.2.1 v.2.2.2.2.1 v.2.2.2.2.2 ∧ ∀ j, j < i → j < (Lk n nr kind team sd c0 g0 j).length ∧ goalI (2 ^ n - 1) (Lk n nr kind team sd c0 g0 j) = -1) (fun v => ∃ K, CR (2 ^ n - 1) (Lk n nr kind team sd c0 g0 K) v.2.1 v.2.2.1 v.2.2.2.1 v.2.2.2.2.1 v.2.2.2.2.2 ∧ stopC n nr kind team sd c0 g0 K) 2187 (fun i v hi hv => by
      have hok := (Lk_ok (nr := nr) (kind := kind) (team := team) (sd := sd) hn hc hg i).1
      have hlen := okL_len hok.1
      obtain ⟨v1, v2, v3⟩ := hv
      unfold bX3_run_51
      rw [v1, v2.1]
      by_cases z1 : (Lk n nr kind team sd c0 g0 i).length ≤ i
      · refine Or.inr ⟨v, ?_, i, v2, v3, Or.inl z1⟩
        rw [if_pos (nI_le z1 (by omega)), ← v1, ← v2.1]
      · rw [if_neg (show ¬ nI (Lk n nr kind team sd c0 g0 i).length ≤ nI i from nI_ge (by omega) (by omega)), if_neg (show ¬ (2187 : Int32) ≤ nI i from nI_ge (b := 2187) hi (by decide))]
        by_cases z2 : v.2.2.1 = -1
        · rw [if_pos z2]
          have hlt : i < (Lk n nr kind team sd c0 g0 i).length := by omega
          have he := List.getElem?_eq_getElem hlt
          obtain ⟨a1, a2, a3, a4, a5, b1, b2⟩ := c_leave (kind := kind) (team := team) (sd := sd) hnet hf hki ht v2 hok he
          refine Or.inl ⟨(nI (i + 1), a1, a2, a3, a4, a5), ?_, rfl, ?_, fun j hj => ?_⟩
          · rw [← v2.1, b1, Option.bind_some, nI_1]
          · rw [Lk_some he]; exact b2
          · by_cases e : j = i
            · subst e; exact ⟨hlt, by rw [← v2.2.1]; exact z2⟩
            · exact v3 j (by omega)
        · rw [if_neg z2]
          refine Or.inr ⟨v, ?_, i, v2, v3, Or.inr (by rw [← v2.2.1]; exact z2)⟩
          rw [← v1, ← v2.1]) (fun v hv => by
      have hok := (Lk_ok (nr := nr) (kind := kind) (team := team) (sd := sd) hn hc hg 2187).1
      have hlen := okL_len hok.1
      obtain ⟨v1, v2, v3⟩ := hv
      refine ⟨v, ?_, 2187, v2, v3, Or.inl hlen⟩
      unfold bX3_run_51
      rw [v1, v2.1, if_pos (nI_le hlen (by decide)), ← v1, ← v2.1]) fu (0, f1, g1, s1, t1, p1) ⟨rfl, q2, fun j hj => by omega⟩ (by decide)
  refine ⟨K, x.2.1, x.2.2.1, x.2.2.2.1, x.2.2.2.2.1, x.2.2.2.2.2, ?_, hx2, hx3⟩
  unfold fX3_run
  rw [clear_seen, Option.bind_some, hbz, Option.bind_some, hnet.2.1]
  dsimp only
  rw [show (nI (0 * 256 + 0) : Int32) = 0 from rfl] at q1
  rw [q1, Option.bind_some, ← hnet.2.1, hx1, Option.bind_some]
