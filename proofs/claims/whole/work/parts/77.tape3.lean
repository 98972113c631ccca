/-! The text read: names. -/
def wch (i k : Nat) : Nat := ((([[112, 97, 116, 104], [114, 105, 110, 103], [115, 116, 97, 114], [97, 108, 108], [110, 101, 116], [103, 114, 105, 100]] : List (List Nat)).getD i []).getD k 0)
def wln (i : Nat) : Nat := lenT.getD i 0
theorem wch_ch : ∀ i, i < 6 → ∀ k, k < wln i → chT i k = nI (wch i k) := by decide
theorem wch_az : ∀ i, i < 6 → ∀ k, k < wln i → 97 ≤ wch i k ∧ wch i k ≤ 122 := by decide
theorem wln_le : ∀ i, i < 6 → wln i ≤ 4 := by decide
def isAz (c : Nat) : Prop := 97 ≤ c ∧ c ≤ 122
def rnF (L : Nat → Nat) : Nat → Nat → Nat
  | 0, p => p
  | k + 1, p => if 97 ≤ L p ∧ L p ≤ 122 then rnF L k (p + 1) else p
def rn (T : Nat) (L : Nat → Nat) (p : Nat) : Nat := rnF L (T - p) p
theorem rn_end {T : Nat} {L : Nat → Nat} {p : Nat} (h : T ≤ p) : rn T L p = p := by
  unfold rn
  rw [show T - p = 0 by omega]
  rfl
theorem rn_stop {T : Nat} {L : Nat → Nat} {p : Nat} (h : ¬ isAz (L p)) : rn T L p = p := by
  unfold rn
  cases hk : T - p with
  | zero => rfl
  | succ k =>
    show (if 97 ≤ L p ∧ L p ≤ 122 then rnF L k (p + 1) else p) = p
    exact if_neg h
theorem rn_on {T : Nat} {L : Nat → Nat} {p : Nat} (hp : p < T) (h : isAz (L p)) : rn T L p = rn T L (p + 1) := by
  unfold rn
  rw [show T - p = (T - (p + 1)) + 1 by omega]
  show (if 97 ≤ L p ∧ L p ≤ 122 then rnF L (T - (p + 1)) (p + 1) else p) = _
  exact if_pos h
theorem rn_b {T : Nat} {L : Nat → Nat} : ∀ (d p : Nat), T - p = d → p ≤ T → p ≤ rn T L p ∧ rn T L p ≤ T ∧ (rn T L p < T → ¬ isAz (L (rn T L p))) := by
  intro d
  induction d with
  | zero =>
    intro p h hp
    rw [rn_end (by omega)]
    exact ⟨Nat.le_refl _, hp, fun z => absurd z (by omega)⟩
  | succ d ih =>
    intro p h hp
    by_cases q : isAz (L p)
    · rw [rn_on (by omega) q]
      obtain ⟨a, b, c⟩ := ih (p + 1) (by omega) (by omega)
      exact ⟨by omega, b, c⟩
    · rw [rn_stop q]
      exact ⟨Nat.le_refl _, hp, fun _ => q⟩
theorem rn_is {T : Nat} {L : Nat → Nat} : ∀ (d p : Nat), p + d ≤ T → (∀ j, j < d → isAz (L (p + j))) → (p + d < T → ¬ isAz (L (p + d))) → rn T L p = p + d := by
  intro d
  induction d with
  | zero =>
    intro p hp h1 h2
    by_cases q : p < T
    · exact rn_stop (h2 q)
    · exact rn_end (by omega)
  | succ d ih =>
    intro p hp h1 h2
    rw [rn_on (p := p) (by omega) (by have := h1 0 (by omega); exact this), ih (p + 1) (by omega) (fun j hj => by rw [show p + 1 + j = p + (j + 1) by omega]; exact h1 (j + 1) (by omega)) (by rw [show p + 1 + d = p + (d + 1) by omega]; exact h2)]
    omega
theorem c_run' {T : Nat} {L : Nat → Nat} {f : Nat → Int32} {x y : Int32} (hl : lett T L f) : ∀ (d p : Nat), T - p = d → p ≤ T → ∀ n, d < n → itL (bX6_readName_9 (nI T) f x y) n (nI p) = some (nI (rn T L p)) := by
  obtain ⟨hT, hf⟩ := hl
  intro d
  induction d with
  | zero =>
    intro p h hp n hn
    obtain ⟨n', rfl⟩ : ∃ n', n = n' + 1 := ⟨n - 1, by omega⟩
    unfold itL bX6_readName_9
    rw [if_pos (nI_le (show T ≤ p by omega) (by omega)), rn_end (by omega)]
  | succ d ih =>
    intro p h hp n hn
    obtain ⟨n', rfl⟩ : ∃ n', n = n' + 1 := ⟨n - 1, by omega⟩
    obtain ⟨⟨f1, f2⟩, f3⟩ := hf p (by omega)
    unfold itL bX6_readName_9
    rw [if_neg (show ¬ nI T ≤ nI p from nI_ge (by omega) (by omega)), rd_nI (by omega) (by decide), Option.bind_some, f3]
    by_cases q : L p < 97
    · rw [if_pos (show nI (L p) < (97 : Int32) from nI_lt (b := 97) q (by decide)), rn_stop (fun z => by have := z.1; omega)]
    · rw [if_neg (show ¬ nI (L p) < (97 : Int32) from nI_nlt (b := 97) (by omega) (by omega)), Option.bind_some]
      by_cases q2 : 122 < L p
      · rw [if_pos (show (122 : Int32) < nI (L p) from nI_lt (a := 122) q2 (by omega)), rn_stop (fun z => by have := z.2; omega)]
      · rw [if_neg (show ¬ (122 : Int32) < nI (L p) from nI_nlt (a := 122) (by omega) (by decide)), nI_1, rn_on (by omega) ⟨by omega, by omega⟩]
        exact ih (p + 1) (by omega) (by omega) n' (by omega)
/-- the letters of a word stand from s on -/
def eqW (L : Nat → Nat) (i s : Nat) : Prop := ∀ k, k < wln i → L (s + k) = wch i k
def isW (T : Nat) (L : Nat → Nat) (i s : Nat) : Prop := s + wln i ≤ T ∧ eqW L i s ∧ ¬ (s + wln i < T ∧ isAz (L (s + wln i)))
theorem c_name {T : Nat} {L : Nat → Nat} {f : Nat → Int32} {i s : Nat} (hl : lett T L f) (hi : i < 6) (hs : s ≤ T) : (isW T L i s ∧ rn T L s = s + wln i ∧ fX6_isNameFrom i (nI (rn T L s)) f (nI s) = some 1) ∨ (¬ isW T L i s ∧ fX6_isNameFrom i (nI (rn T L s)) f (nI s) = some 0) := by
  obtain ⟨r1, r2, r3⟩ := rn_b (L := L) (T - s) s rfl hs
  have hT := hl.1
  have hw := wln_le i hi
  unfold fX6_isNameFrom jX6_isNameFrom_18
  by_cases q : rn T L s = s + wln i
  · have e : nI (rn T L s) - nI s = nI (lenT.getD i 0) := by rw [q, pk_sub (by omega), Nat.add_sub_cancel_left]; rfl
    rw [if_pos e]
    obtain ⟨x, f1, f2⟩ := itL_rel (b := bX6_isNameFrom_22 i (nI (rn T L s)) f (nI s))
      (fun k v => (v = (1, nI k) ∧ ∀ j, j < k → L (s + j) = wch i j) ∨ ((∃ y, v = (0, y)) ∧ ¬ eqW L i s))
      (fun x => (x.1 = 1 ∧ eqW L i s) ∨ (x.1 = 0 ∧ ¬ eqW L i s)) (wln i)
      (by
        rintro k v hk (⟨rfl, h1⟩ | ⟨⟨y, rfl⟩, h1⟩)
        · obtain ⟨⟨g1, g2⟩, g3⟩ := hl.2 (s + k) (by omega)
          have ha := wch_az i hi k hk
          have hch : fJ0_charAt i (nI k) = some (nI (wch i k)) := by
            rw [← wch_ch i hi k hk]
            exact rd_nI (f := chT i) (n := lenT.getD i 0) hk (show wln i < 2 ^ 31 by omega)
          left
          unfold bX6_isNameFrom_22 jX6_isNameFrom_58
          dsimp only
          rw [if_neg (by decide), if_neg (show ¬ nI (lenT.getD i 0) ≤ nI k from nI_ge hk (show wln i < 2 ^ 31 by omega)), nI_add, rd_nI (by omega) (by decide), Option.bind_some, hch, Option.bind_some, g3, nI_1]
          by_cases z : L (s + k) = wch i k
          · rw [if_pos (congrArg nI z)]
            refine ⟨_, rfl, Or.inl ⟨rfl, fun j hj => ?_⟩⟩
            rcases (show j = k ∨ j < k by omega) with rfl | w
            · exact z
            · exact h1 j w
          · rw [if_neg (fun w => z ((nI_32 g2 _ (by omega)).mp w))]
            exact ⟨_, rfl, Or.inr ⟨⟨_, rfl⟩, fun w => z (w k hk)⟩⟩
        · right
          unfold bX6_isNameFrom_22
          dsimp only
          rw [if_pos rfl]
          exact ⟨_, rfl, Or.inr ⟨rfl, h1⟩⟩)
      (by
        rintro v (⟨rfl, h1⟩ | ⟨⟨y, rfl⟩, h1⟩)
        · unfold bX6_isNameFrom_22
          dsimp only
          rw [if_neg (by decide), if_pos (show nI (lenT.getD i 0) ≤ nI (wln i) from nI_le (Nat.le_refl _) (by omega))]
          exact ⟨_, rfl, Or.inl ⟨rfl, h1⟩⟩
        · unfold bX6_isNameFrom_22
          dsimp only
          rw [if_pos rfl]
          exact ⟨_, rfl, Or.inr ⟨rfl, h1⟩⟩)
      fu ((1 : Int32), (0 : Int32)) (Or.inl ⟨rfl, fun j hj => absurd hj (by omega)⟩) (by show wln i < 5000; omega)
    rw [f1, Option.bind_some]
    rcases f2 with ⟨f2, f3⟩ | ⟨f2, f3⟩
    · rw [f2, bz_1, Option.bind_some]
      exact Or.inl ⟨⟨by omega, f3, fun z => r3 (by omega) (by rw [q]; exact z.2)⟩, q, rfl⟩
    · rw [f2, bz_0, Option.bind_some]
      exact Or.inr ⟨fun z => f3 z.2.1, rfl⟩
  · have e : ¬ nI (rn T L s) - nI s = nI (lenT.getD i 0) := fun z => by
      rw [pk_sub (by omega)] at z
      have := nI_inj (a := rn T L s - s) (b := wln i) (by omega) (by omega) z
      omega
    have k0 : itL (bX6_isNameFrom_22 i (nI (rn T L s)) f (nI s)) fu ((0 : Int32), (0 : Int32)) = some (0, 0) := by
      refine itL_for (fun _ => ((0 : Int32), (0 : Int32))) 0 _ (fun i hi => absurd hi (by omega)) ?_ (by decide) rfl
      unfold bX6_isNameFrom_22
      dsimp only
      rw [if_pos rfl]
    rw [if_neg e, k0, Option.bind_some]
    dsimp only
    rw [bz_0, Option.bind_some]
    refine Or.inr ⟨fun z => q (rn_is (wln i) s z.1 (fun j hj => ?_) (fun w => fun v => z.2.2 ⟨w, v⟩)), rfl⟩
    rw [z.2.1 j hj]
    exact wch_az i hi j hj
theorem m_isThere {T : Nat} {L : Nat → Nat} {f : Nat → Int32} {p c : Nat} (hl : lett T L f) (hp : p < 200) (hc : c ≤ 126) : ((p < T ∧ L p = c) ∧ fX8_isThere (nI T) f (nI p) (nI c) = some 1) ∨ (¬ (p < T ∧ L p = c) ∧ fX8_isThere (nI T) f (nI p) (nI c) = some 0) := by
  have hT := hl.1
  unfold fX8_isThere
  by_cases q : p < T
  · obtain ⟨⟨g1, g2⟩, g3⟩ := hl.2 p q
    rw [if_neg (show ¬ nI T ≤ nI p from nI_ge q (by omega)), rd_nI (by omega) (by decide), Option.bind_some, g3]
    by_cases z : L p = c
    · rw [if_pos (congrArg nI z)]
      exact Or.inl ⟨⟨q, z⟩, rfl⟩
    · rw [if_neg (fun w => z ((nI_32 g2 _ hc).mp w))]
      exact Or.inr ⟨fun w => z w.2, rfl⟩
  · rw [if_pos (nI_le (show T ≤ p by omega) (by omega))]
    exact Or.inr ⟨fun w => q w.1, rfl⟩
theorem m_word1 {T : Nat} {L : Nat → Nat} {f : Nat → Int32} {s m : Nat} (hl : lett T L f) (hs : s ≤ T) (hm : m ≤ 4) : (¬ (s + m < T ∧ isAz (L (s + m))) ∧ jX8_isWord_77 (nI T) (nI s) f (nI m) 1 = some 1) ∨ ((s + m < T ∧ isAz (L (s + m))) ∧ jX8_isWord_77 (nI T) (nI s) f (nI m) 1 = some 0) := by
  have hT := hl.1
  unfold jX8_isWord_77 jX8_isWord_123
  rw [if_neg (by decide), nI_add]
  by_cases q : s + m < T
  · obtain ⟨⟨g1, g2⟩, g3⟩ := hl.2 (s + m) q
    rw [if_neg (show ¬ nI T ≤ nI (s + m) from nI_ge q (by omega)), rd_nI (by omega) (by decide), Option.bind_some, g3, show (97 : Int64) = (nI 97).toInt64 from by decide, show (122 : Int64) = (nI 122).toInt64 from by decide, m_in32]
    by_cases z : L (s + m) < 97
    · rw [if_pos (nI_lt z (by decide)), Option.bind_some, if_pos rfl]
      exact Or.inl ⟨fun w => by have := w.2.1; omega, rfl⟩
    · rw [if_neg (nI_nlt (by omega) (by omega))]
      by_cases z2 : 122 < L (s + m)
      · rw [if_pos (nI_lt z2 (by omega)), Option.bind_some, if_pos rfl]
        exact Or.inl ⟨fun w => by have := w.2.2; omega, rfl⟩
      · rw [if_neg (nI_nlt (by omega) (by decide)), Option.bind_some, if_neg (by decide)]
        exact Or.inr ⟨⟨q, by omega, by omega⟩, rfl⟩
  · rw [if_pos (nI_le (show T ≤ s + m by omega) (by omega))]
    exact Or.inl ⟨fun w => q w.1, rfl⟩
theorem m_word0 {T : Nat} {f : Nat → Int32} {s : Nat} {x : Int32} : jX8_isWord_77 (nI T) (nI s) f x 0 = some 0 := by
  unfold jX8_isWord_77
  rw [if_pos rfl]
theorem m_isWord4 {T : Nat} {L : Nat → Nat} {f : Nat → Int32} {i s a b c d : Nat} (hl : lett T L f) (hs : s ≤ T) (hi : i < 6) (hw : wln i = 4) (ha : a = wch i 0) (hb : b = wch i 1) (hc : c = wch i 2) (hd : d = wch i 3) : (isW T L i s ∧ fX8_isWord (nI T) (nI s) f (nI a) (nI b) (nI c) (nI d) = some 1) ∨ (¬ isW T L i s ∧ fX8_isWord (nI T) (nI s) f (nI a) (nI b) (nI c) (nI d) = some 0) := by
  have hT := hl.1
  subst ha hb hc hd
  have w0 := wch_az i hi 0 (by omega)
  have w1 := wch_az i hi 1 (by omega)
  have w2 := wch_az i hi 2 (by omega)
  have w3 := wch_az i hi 3 (by omega)
  unfold fX8_isWord jX8_isWord_10 jX8_isWord_76 jX8_isWord_72
  rw [if_neg (nI_ne0 (by omega) (by omega)), show nI s + (1 : Int32) = nI (s + 1) from nI_add s 1, show nI s + (2 : Int32) = nI (s + 2) from nI_add s 2, show nI s + (3 : Int32) = nI (s + 3) from nI_add s 3]
  have no : ∀ j, j < 4 → ¬ (s + j < T ∧ L (s + j) = wch i j) → ¬ isW T L i s := fun j hj h z => h ⟨by have := z.1; omega, z.2.1 j (by omega)⟩
  rcases m_isThere hl (show s < 200 by omega) (show wch i 0 ≤ 126 by omega) with ⟨h0, e⟩ | ⟨h0, e⟩
  · rw [e, Option.bind_some, if_neg (by decide)]
    rcases m_isThere hl (show s + 1 < 200 by omega) (show wch i 1 ≤ 126 by omega) with ⟨h1, e⟩ | ⟨h1, e⟩
    · rw [e, Option.bind_some, if_neg (by decide)]
      rcases m_isThere hl (show s + 2 < 200 by omega) (show wch i 2 ≤ 126 by omega) with ⟨h2, e⟩ | ⟨h2, e⟩
      · rw [e, Option.bind_some, if_neg (by decide), if_neg (nI_ne0 (by omega) (by omega))]
        rcases m_isThere hl (show s + 3 < 200 by omega) (show wch i 3 ≤ 126 by omega) with ⟨h3, e⟩ | ⟨h3, e⟩
        · rw [e, Option.bind_some, if_neg (by decide)]
          rcases m_word1 hl hs (show 4 ≤ 4 by omega) with ⟨g1, g2⟩ | ⟨g1, g2⟩
          · refine Or.inl ⟨⟨by omega, fun k hk => ?_, by rw [hw]; exact g1⟩, g2⟩
            rcases (show k = 0 ∨ k = 1 ∨ k = 2 ∨ k = 3 by omega) with rfl | rfl | rfl | rfl
            · exact h0.2
            · exact h1.2
            · exact h2.2
            · exact h3.2
          · exact Or.inr ⟨fun z => z.2.2 (by rw [hw]; exact g1), g2⟩
        · rw [e, Option.bind_some, if_pos rfl]
          exact Or.inr ⟨no 3 (by decide) h3, m_word0⟩
      · rw [e, Option.bind_some, if_pos rfl]
        exact Or.inr ⟨no 2 (by decide) h2, m_word0⟩
    · rw [e, Option.bind_some, if_pos rfl]
      exact Or.inr ⟨no 1 (by decide) h1, m_word0⟩
  · rw [e, Option.bind_some, if_pos rfl]
    exact Or.inr ⟨no 0 (by decide) h0, m_word0⟩
theorem m_isWord3 {T : Nat} {L : Nat → Nat} {f : Nat → Int32} {i s a b c : Nat} (hl : lett T L f) (hs : s ≤ T) (hi : i < 6) (hw : wln i = 3) (ha : a = wch i 0) (hb : b = wch i 1) (hc : c = wch i 2) : (isW T L i s ∧ fX8_isWord (nI T) (nI s) f (nI a) (nI b) (nI c) 0 = some 1) ∨ (¬ isW T L i s ∧ fX8_isWord (nI T) (nI s) f (nI a) (nI b) (nI c) 0 = some 0) := by
  have hT := hl.1
  subst ha hb hc
  have w0 := wch_az i hi 0 (by omega)
  have w1 := wch_az i hi 1 (by omega)
  have w2 := wch_az i hi 2 (by omega)
  unfold fX8_isWord jX8_isWord_10 jX8_isWord_76 jX8_isWord_72
  rw [if_pos rfl, show nI s + (1 : Int32) = nI (s + 1) from nI_add s 1, show nI s + (2 : Int32) = nI (s + 2) from nI_add s 2]
  have no : ∀ j, j < 3 → ¬ (s + j < T ∧ L (s + j) = wch i j) → ¬ isW T L i s := fun j hj h z => h ⟨by have := z.1; omega, z.2.1 j (by omega)⟩
  rcases m_isThere hl (show s < 200 by omega) (show wch i 0 ≤ 126 by omega) with ⟨h0, e⟩ | ⟨h0, e⟩
  · rw [e, Option.bind_some, if_neg (by decide)]
    rcases m_isThere hl (show s + 1 < 200 by omega) (show wch i 1 ≤ 126 by omega) with ⟨h1, e⟩ | ⟨h1, e⟩
    · rw [e, Option.bind_some, if_neg (by decide)]
      rcases m_isThere hl (show s + 2 < 200 by omega) (show wch i 2 ≤ 126 by omega) with ⟨h2, e⟩ | ⟨h2, e⟩
      · rw [e, Option.bind_some, if_neg (by decide), if_pos rfl]
        rcases m_word1 hl hs (show 3 ≤ 4 by omega) with ⟨g1, g2⟩ | ⟨g1, g2⟩
        · refine Or.inl ⟨⟨by omega, fun k hk => ?_, by rw [hw]; exact g1⟩, g2⟩
          rcases (show k = 0 ∨ k = 1 ∨ k = 2 by omega) with rfl | rfl | rfl
          · exact h0.2
          · exact h1.2
          · exact h2.2
        · exact Or.inr ⟨fun z => z.2.2 (by rw [hw]; exact g1), g2⟩
      · rw [e, Option.bind_some, if_pos rfl]
        exact Or.inr ⟨no 2 (by decide) h2, m_word0⟩
    · rw [e, Option.bind_some, if_pos rfl]
      exact Or.inr ⟨no 1 (by decide) h1, m_word0⟩
  · rw [e, Option.bind_some, if_pos rfl]
    exact Or.inr ⟨no 0 (by decide) h0, m_word0⟩
