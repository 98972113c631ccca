/-! All that can be come to from a state: the class's leave; the reference's turn of its search. -/
def putA (n : Nat) (nr : Nat → Nat) (kind team : Nat) (sd : Bool) (k c g : Nat) (L : List En) : List En := foldN (fun v M => if v < n ∧ rul nr kind team g v = 0 then doA n nr sd k c g v M else M) 7 L
def takeA (n : Nat) (nr : Nat → Nat) (kind team : Nat) (sd : Bool) (k c g : Nat) (L : List En) : List En := foldN (fun v M => if v < n ∧ rul nr kind team g (10 + v) = 0 then doA n nr sd k c g (10 + v) M else M) 7 L
def moveA (n : Nat) (nr : Nat → Nat) (kind team : Nat) (sd : Bool) (k c g : Nat) (L : List En) : List En := foldN (fun u M => foldN (fun w M => if (u < n ∧ w < n ∧ u ≠ w) ∧ rul nr kind team g (100 + 10 * u + w) = 0 then doA n nr sd k c g (100 + 10 * u + w) M else M) 10 M) 7 L
def leaveA (n : Nat) (nr : Nat → Nat) (kind team : Nat) (sd : Bool) (k c g : Nat) (L : List En) : List En := moveA n nr kind team sd k c g (takeA n nr kind team sd k c g (putA n nr kind team sd k c g L))
/-- what stays while acts are done from place k on -/
def stays (n : Nat) (L M : List En) : Prop := stOK n M ∧ L <+: M
theorem stays_do {n : Nat} {nr : Nat → Nat} {sd : Bool} {k a : Nat} {e : En} {L M : List En} (hn : n ≤ 7) (hL : stOK n L) (hk : L[k]? = some e) (ha : isA n a) (h : stays n L M) : stays n L (doA n nr sd k e.1 e.2.1 a M) := by
  have hem : e ∈ L := List.mem_of_getElem? hk
  have hc := hL.2 e hem
  have hg : e.2.1 < 2 ^ n := sub_lt (hL.1.1 e hem).2.2.1 hc
  have hkl : k < L.length := (List.getElem?_eq_some_iff.mp hk).1
  exact ⟨ok_doA h.1 hn ha hc hg (Nat.lt_of_lt_of_le hkl (pre_len h.2)), List.IsPrefix.trans h.2 pre_doA⟩
theorem isA_put {n v : Nat} (h : v < n) : isA n v := Or.inl h
theorem isA_take {n v : Nat} (h : v < n) : isA n (10 + v) := Or.inr (Or.inl ⟨v, h, rfl⟩)
theorem isA_move {n u w : Nat} (h : u < n ∧ w < n ∧ u ≠ w) : isA n (100 + 10 * u + w) := Or.inr (Or.inr ⟨u, w, h.1, h.2.1, h.2.2, rfl⟩)
theorem stays_put {n : Nat} {nr : Nat → Nat} {kind team : Nat} {sd : Bool} {k : Nat} {e : En} {L M : List En} (hn : n ≤ 7) (hL : stOK n L) (hk : L[k]? = some e) (h : stays n L M) : stays n L (putA n nr kind team sd k e.1 e.2.1 M) := foldN_ind (stays n L) 7 M h (fun v _ M hM => by
  by_cases q : v < n ∧ rul nr kind team e.2.1 v = 0
  · rw [if_pos q]; exact stays_do hn hL hk (isA_put q.1) hM
  · rw [if_neg q]; exact hM)
theorem stays_take {n : Nat} {nr : Nat → Nat} {kind team : Nat} {sd : Bool} {k : Nat} {e : En} {L M : List En} (hn : n ≤ 7) (hL : stOK n L) (hk : L[k]? = some e) (h : stays n L M) : stays n L (takeA n nr kind team sd k e.1 e.2.1 M) := foldN_ind (stays n L) 7 M h (fun v _ M hM => by
  by_cases q : v < n ∧ rul nr kind team e.2.1 (10 + v) = 0
  · rw [if_pos q]; exact stays_do hn hL hk (isA_take q.1) hM
  · rw [if_neg q]; exact hM)
theorem stays_move {n : Nat} {nr : Nat → Nat} {kind team : Nat} {sd : Bool} {k : Nat} {e : En} {L M : List En} (hn : n ≤ 7) (hL : stOK n L) (hk : L[k]? = some e) (h : stays n L M) : stays n L (moveA n nr kind team sd k e.1 e.2.1 M) := foldN_ind (stays n L) 7 M h (fun u _ M hM => foldN_ind (stays n L) 10 M hM (fun w _ M hM => by
  by_cases q : (u < n ∧ w < n ∧ u ≠ w) ∧ rul nr kind team e.2.1 (100 + 10 * u + w) = 0
  · rw [if_pos q]; exact stays_do hn hL hk (isA_move q.1) hM
  · rw [if_neg q]; exact hM))
theorem stays_leave {n : Nat} {nr : Nat → Nat} {kind team : Nat} {sd : Bool} {k : Nat} {e : En} {L : List En} (hn : n ≤ 7) (hL : stOK n L) (hk : L[k]? = some e) : stays n L (leaveA n nr kind team sd k e.1 e.2.1 L) := stays_move hn hL hk (stays_take hn hL hk (stays_put hn hL hk ⟨hL, List.prefix_refl L⟩))
theorem putS_lt2 {n : Nat} {nr : Nat → Nat} {kind g : Nat} (hf : netFit n nr) : putS n nr kind g < 2 ^ n := by
  have h1 : 1 < 2 ^ n := Nat.one_lt_two_pow (by have := hf.1.1; omega)
  unfold putS
  split
  · exact Nat.lt_of_le_of_lt Nat.and_le_left (by omega)
  · split
    · exact Nat.lt_of_le_of_lt Nat.and_le_left h1
    · exact Nat.lt_of_le_of_lt Nat.and_le_left (Nat.or_lt_two_pow h1 (lnk_lt2 hf.2.1 g))
/-- the class's sets hold just the acts that the rules allow -/
theorem each_put {n : Nat} {nr : Nat → Nat} {kind team : Nat} {sd : Bool} {k c g : Nat} {L : List En} (hf : netFit n nr) (hg : g < 2 ^ n) (ht : pc 7 g < team) : eachA n nr sd k c g 0 (putS n nr kind g) 7 L = putA n nr kind team sd k c g L := foldN_congr 7 L (fun v hv M => by
  have hn := hf.1.2
  by_cases q : v < n
  · have hb := put_bit (kind := kind) hf q hg
    by_cases z : (putS n nr kind g).testBit v = true
    · rw [if_pos z, if_pos ⟨q, by rw [rul_put (by omega), if_pos (hb.mp z), if_pos ht]⟩, Nat.zero_add]
    · rw [if_neg z, if_neg (fun y => z (hb.mpr (by
        have y2 := y.2
        rw [rul_put (by omega)] at y2
        by_cases p : g.testBit v = false ∧ (kind = 0 ∨ v = 0 ∨ (kind ≠ 1 ∧ nr v &&& g ≠ 0))
        · exact p
        · rw [if_neg p] at y2; exact absurd y2 (by decide))))]
  · have z : ¬ (putS n nr kind g).testBit v = true := fun y => q (bit_lt y (putS_lt2 hf))
    rw [if_neg z, if_neg (fun y => q y.1)])
theorem full_put {n : Nat} {nr : Nat → Nat} {kind team : Nat} {sd : Bool} {k c g : Nat} {L : List En} (ht : ¬ pc 7 g < team) : putA n nr kind team sd k c g L = L := by
  have h := foldN_id (f := fun v M => if v < n ∧ rul nr kind team g v = 0 then doA n nr sd k c g v M else M) (M := 0) 7 L (by decide) (fun v _ hv M => by
    rw [if_neg (fun y => ?_)]
    have y2 := y.2
    rw [rul_put (by omega)] at y2
    by_cases p : g.testBit v = false ∧ (kind = 0 ∨ v = 0 ∨ (kind ≠ 1 ∧ nr v &&& g ≠ 0))
    · rw [if_pos p, if_neg ht] at y2; exact absurd y2 (by decide)
    · rw [if_neg p] at y2; exact absurd y2 (by decide))
  exact h
theorem each_take {n : Nat} {nr : Nat → Nat} {kind team : Nat} {sd : Bool} {k c g : Nat} {L : List En} (hg : g < 2 ^ n) : eachA n nr sd k c g 10 (takeS kind g) 7 L = takeA n nr kind team sd k c g L := foldN_congr 7 L (fun v hv M => by
  by_cases z : (takeS kind g).testBit v = true
  · have hb := take_bit.mp z
    rw [if_pos z, if_pos ⟨bit_lt hb.1 hg, by rw [rul_take (by omega), if_pos hb]⟩]
  · rw [if_neg z, if_neg (fun y => z (take_bit.mpr (by
      have y2 := y.2
      rw [rul_take (by omega)] at y2
      by_cases p : g.testBit v = true ∧ (kind ≠ 1 ∨ v = 0)
      · exact p
      · rw [if_neg p] at y2; exact absurd y2 (by decide))))])
theorem each_move {n : Nat} {nr : Nat → Nat} {kind team : Nat} {sd : Bool} {k c g u : Nat} {L : List En} (hf : netFit n nr) (hu : u < n) : eachA n nr sd k c g (100 + 10 * u) (moveS nr kind g u) 7 L = foldN (fun w M => if (u < n ∧ w < n ∧ u ≠ w) ∧ rul nr kind team g (100 + 10 * u + w) = 0 then doA n nr sd k c g (100 + 10 * u + w) M else M) 10 L := by
  have hn := hf.1.2
  rw [foldN_id (M := 7) 10 L (by decide) (fun w hw _ M => by rw [if_neg (fun y => by have := y.1.2.1; omega)])]
  refine foldN_congr 7 L (fun w hw M => ?_)
  by_cases z : (moveS nr kind g u).testBit w = true
  · have hb := (move_bit hw).mp z
    have hwn : w < n := bit_lt hb.2.2.2 (hf.2.1 u)
    have hne : u ≠ w := fun e => by
      have := hb.2.2.2
      rw [e, hf.2.2.2.2 w] at this; cases this
    rw [if_pos z, if_pos ⟨⟨hu, hwn, hne⟩, by rw [rul_move (by omega), if_pos hb]⟩]
  · rw [if_neg z, if_neg (fun y => z ((move_bit hw).mpr (by
      have y2 := y.2
      rw [rul_move (by omega)] at y2
      by_cases p : kind = 1 ∧ g.testBit u = true ∧ g.testBit w = false ∧ (nr u).testBit w = true
      · exact p
      · rw [if_neg p] at y2; exact absurd y2 (by decide))))]
