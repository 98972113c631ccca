/-! The text read: the name, links, on both sides. -/
theorem both_word {T : Nat} {L : Nat → Nat} {f g : Nat → Int32} {s : Nat} (hf : lett T L f) (hg : lett T L g) (hs : s ≤ T) :
    ((∃ i, i < 6 ∧ s + wln i ≤ T ∧ rn T L s = s + wln i ∧ fX6_shapeNamedFrom (nI (rn T L s)) f (nI s) = some (nI (i + 1)) ∧ ∀ r x, Option.bind (fX8_isWord (nI T) (nI s) g (112 : Int32) (97 : Int32) (116 : Int32) (104 : Int32)) (fun r8 => (if r8 = 0 then Option.bind (fX8_isWord (nI T) (nI s) g (114 : Int32) (105 : Int32) (110 : Int32) (103 : Int32)) (fun r11 => (if r11 = 0 then Option.bind (fX8_isWord (nI T) (nI s) g (115 : Int32) (116 : Int32) (97 : Int32) (114 : Int32)) (fun r14 => (if r14 = 0 then Option.bind (fX8_isWord (nI T) (nI s) g (97 : Int32) (108 : Int32) (108 : Int32) (0 : Int32)) (fun r17 => (if r17 = 0 then Option.bind (fX8_isWord (nI T) (nI s) g (110 : Int32) (101 : Int32) (116 : Int32) (0 : Int32)) (fun r20 => (if r20 = 0 then Option.bind (fX8_isWord (nI T) (nI s) g (103 : Int32) (114 : Int32) (105 : Int32) (100 : Int32)) (fun r23 => (if r23 = 0 then jX8_name_119 (nI T) g (-4 : Int32) r x else jX8_name_119 (nI T) g (5 : Int32) r x)) else jX8_name_119 (nI T) g (4 : Int32) r x)) else jX8_name_119 (nI T) g (3 : Int32) r x)) else jX8_name_119 (nI T) g (2 : Int32) r x)) else jX8_name_119 (nI T) g (1 : Int32) r x)) else jX8_name_119 (nI T) g (0 : Int32) r x)) = jX8_name_119 (nI T) g (nI i) r x)
    ∨ (fX6_shapeNamedFrom (nI (rn T L s)) f (nI s) = some 0 ∧ ∀ r x, Option.bind (fX8_isWord (nI T) (nI s) g (112 : Int32) (97 : Int32) (116 : Int32) (104 : Int32)) (fun r8 => (if r8 = 0 then Option.bind (fX8_isWord (nI T) (nI s) g (114 : Int32) (105 : Int32) (110 : Int32) (103 : Int32)) (fun r11 => (if r11 = 0 then Option.bind (fX8_isWord (nI T) (nI s) g (115 : Int32) (116 : Int32) (97 : Int32) (114 : Int32)) (fun r14 => (if r14 = 0 then Option.bind (fX8_isWord (nI T) (nI s) g (97 : Int32) (108 : Int32) (108 : Int32) (0 : Int32)) (fun r17 => (if r17 = 0 then Option.bind (fX8_isWord (nI T) (nI s) g (110 : Int32) (101 : Int32) (116 : Int32) (0 : Int32)) (fun r20 => (if r20 = 0 then Option.bind (fX8_isWord (nI T) (nI s) g (103 : Int32) (114 : Int32) (105 : Int32) (100 : Int32)) (fun r23 => (if r23 = 0 then jX8_name_119 (nI T) g (-4 : Int32) r x else jX8_name_119 (nI T) g (5 : Int32) r x)) else jX8_name_119 (nI T) g (4 : Int32) r x)) else jX8_name_119 (nI T) g (3 : Int32) r x)) else jX8_name_119 (nI T) g (2 : Int32) r x)) else jX8_name_119 (nI T) g (1 : Int32) r x)) else jX8_name_119 (nI T) g (0 : Int32) r x)) = jX8_name_119 (nI T) g (-4) r x)) := by
  have m0 : (isW T L 0 s ∧ fX8_isWord (nI T) (nI s) g (112 : Int32) (97 : Int32) (116 : Int32) (104 : Int32) = some 1) ∨ (¬ isW T L 0 s ∧ fX8_isWord (nI T) (nI s) g (112 : Int32) (97 : Int32) (116 : Int32) (104 : Int32) = some 0) := m_isWord4 (i := 0) (a := 112) (b := 97) (c := 116) (d := 104) hg hs (by decide) rfl rfl rfl rfl rfl
  have m1 : (isW T L 1 s ∧ fX8_isWord (nI T) (nI s) g (114 : Int32) (105 : Int32) (110 : Int32) (103 : Int32) = some 1) ∨ (¬ isW T L 1 s ∧ fX8_isWord (nI T) (nI s) g (114 : Int32) (105 : Int32) (110 : Int32) (103 : Int32) = some 0) := m_isWord4 (i := 1) (a := 114) (b := 105) (c := 110) (d := 103) hg hs (by decide) rfl rfl rfl rfl rfl
  have m2 : (isW T L 2 s ∧ fX8_isWord (nI T) (nI s) g (115 : Int32) (116 : Int32) (97 : Int32) (114 : Int32) = some 1) ∨ (¬ isW T L 2 s ∧ fX8_isWord (nI T) (nI s) g (115 : Int32) (116 : Int32) (97 : Int32) (114 : Int32) = some 0) := m_isWord4 (i := 2) (a := 115) (b := 116) (c := 97) (d := 114) hg hs (by decide) rfl rfl rfl rfl rfl
  have m3 : (isW T L 3 s ∧ fX8_isWord (nI T) (nI s) g (97 : Int32) (108 : Int32) (108 : Int32) (0 : Int32) = some 1) ∨ (¬ isW T L 3 s ∧ fX8_isWord (nI T) (nI s) g (97 : Int32) (108 : Int32) (108 : Int32) (0 : Int32) = some 0) := m_isWord3 (i := 3) (a := 97) (b := 108) (c := 108) hg hs (by decide) rfl rfl rfl rfl
  have m4 : (isW T L 4 s ∧ fX8_isWord (nI T) (nI s) g (110 : Int32) (101 : Int32) (116 : Int32) (0 : Int32) = some 1) ∨ (¬ isW T L 4 s ∧ fX8_isWord (nI T) (nI s) g (110 : Int32) (101 : Int32) (116 : Int32) (0 : Int32) = some 0) := m_isWord3 (i := 4) (a := 110) (b := 101) (c := 116) hg hs (by decide) rfl rfl rfl rfl
  have m5 : (isW T L 5 s ∧ fX8_isWord (nI T) (nI s) g (103 : Int32) (114 : Int32) (105 : Int32) (100 : Int32) = some 1) ∨ (¬ isW T L 5 s ∧ fX8_isWord (nI T) (nI s) g (103 : Int32) (114 : Int32) (105 : Int32) (100 : Int32) = some 0) := m_isWord4 (i := 5) (a := 103) (b := 114) (c := 105) (d := 100) hg hs (by decide) rfl rfl rfl rfl rfl
  have z10 : ¬ (1 : Int32) = 0 := by decide
  unfold fX6_shapeNamedFrom
  rcases c_name hf (show 0 < 6 by decide) hs with ⟨w, hr, c0⟩ | ⟨w, c0⟩
  · rcases m0 with ⟨_, e⟩ | ⟨v, _⟩
    · left
      rw [c0, Option.bind_some, if_neg z10, e]
      exact ⟨0, by decide, w.1, hr, rfl, fun r x => by rw [Option.bind_some, if_neg z10]; rfl⟩
    · exact absurd w v
  · rcases m0 with ⟨v, _⟩ | ⟨_, e0⟩
    · exact absurd v w
    · rw [c0, Option.bind_some, if_pos rfl, e0]
      rcases c_name hf (show 1 < 6 by decide) hs with ⟨w, hr, c0⟩ | ⟨w, c0⟩
      · rcases m1 with ⟨_, e⟩ | ⟨v, _⟩
        · left
          rw [c0, Option.bind_some, if_neg z10, e]
          exact ⟨1, by decide, w.1, hr, rfl, fun r x => by rw [Option.bind_some, if_pos rfl, Option.bind_some, if_neg z10]; rfl⟩
        · exact absurd w v
      · rcases m1 with ⟨v, _⟩ | ⟨_, e1⟩
        · exact absurd v w
        · rw [c0, Option.bind_some, if_pos rfl, e1]
          rcases c_name hf (show 2 < 6 by decide) hs with ⟨w, hr, c0⟩ | ⟨w, c0⟩
          · rcases m2 with ⟨_, e⟩ | ⟨v, _⟩
            · left
              rw [c0, Option.bind_some, if_neg z10, e]
              exact ⟨2, by decide, w.1, hr, rfl, fun r x => by rw [Option.bind_some, if_pos rfl, Option.bind_some, if_pos rfl, Option.bind_some, if_neg z10]; rfl⟩
            · exact absurd w v
          · rcases m2 with ⟨v, _⟩ | ⟨_, e2⟩
            · exact absurd v w
            · rw [c0, Option.bind_some, if_pos rfl, e2]
              rcases c_name hf (show 3 < 6 by decide) hs with ⟨w, hr, c0⟩ | ⟨w, c0⟩
              · rcases m3 with ⟨_, e⟩ | ⟨v, _⟩
                · left
                  rw [c0, Option.bind_some, if_neg z10, e]
                  exact ⟨3, by decide, w.1, hr, rfl, fun r x => by rw [Option.bind_some, if_pos rfl, Option.bind_some, if_pos rfl, Option.bind_some, if_pos rfl, Option.bind_some, if_neg z10]; rfl⟩
                · exact absurd w v
              · rcases m3 with ⟨v, _⟩ | ⟨_, e3⟩
                · exact absurd v w
                · rw [c0, Option.bind_some, if_pos rfl, e3]
                  rcases c_name hf (show 4 < 6 by decide) hs with ⟨w, hr, c0⟩ | ⟨w, c0⟩
                  · rcases m4 with ⟨_, e⟩ | ⟨v, _⟩
                    · left
                      rw [c0, Option.bind_some, if_neg z10, e]
                      exact ⟨4, by decide, w.1, hr, rfl, fun r x => by rw [Option.bind_some, if_pos rfl, Option.bind_some, if_pos rfl, Option.bind_some, if_pos rfl, Option.bind_some, if_pos rfl, Option.bind_some, if_neg z10]; rfl⟩
                    · exact absurd w v
                  · rcases m4 with ⟨v, _⟩ | ⟨_, e4⟩
                    · exact absurd v w
                    · rw [c0, Option.bind_some, if_pos rfl, e4]
                      rcases c_name hf (show 5 < 6 by decide) hs with ⟨w, hr, c0⟩ | ⟨w, c0⟩
                      · rcases m5 with ⟨_, e⟩ | ⟨v, _⟩
                        · left
                          rw [c0, Option.bind_some, if_neg z10, e]
                          exact ⟨5, by decide, w.1, hr, rfl, fun r x => by rw [Option.bind_some, if_pos rfl, Option.bind_some, if_pos rfl, Option.bind_some, if_pos rfl, Option.bind_some, if_pos rfl, Option.bind_some, if_pos rfl, Option.bind_some, if_neg z10]; rfl⟩
                        · exact absurd w v
                      · rcases m5 with ⟨v, _⟩ | ⟨_, e5⟩
                        · exact absurd v w
                        · right
                          rw [c0, Option.bind_some, if_pos rfl, e5]
                          exact ⟨rfl, fun r x => by rw [Option.bind_some, if_pos rfl, Option.bind_some, if_pos rfl, Option.bind_some, if_pos rfl, Option.bind_some, if_pos rfl, Option.bind_some, if_pos rfl, Option.bind_some, if_pos rfl]⟩
theorem m_nm {T s : Nat} {g : Nat → Int32} {x : Int32} : ∀ {i : Nat}, i < 6 → jX8_name_119 (nI T) g (nI i) (nI s) x = some (nI i, nI (s + wln i), 0) := by
  intro i hi
  unfold jX8_name_119 jX8_name_132 jX8_name_161 jX8_name_166
  rcases (show i = 0 ∨ i = 1 ∨ i = 2 ∨ i = 3 ∨ i = 4 ∨ i = 5 by omega) with rfl | rfl | rfl | rfl | rfl | rfl
  · rw [if_neg (by decide), bz_0, Option.bind_some, if_pos rfl, if_neg (by decide), if_neg (by decide), show nI s + (4 : Int32) = nI (s + 4) from nI_add s 4]; rfl
  · rw [if_neg (by decide), bz_0, Option.bind_some, if_pos rfl, if_neg (by decide), if_neg (by decide), show nI s + (4 : Int32) = nI (s + 4) from nI_add s 4]; rfl
  · rw [if_neg (by decide), bz_0, Option.bind_some, if_pos rfl, if_neg (by decide), if_neg (by decide), show nI s + (4 : Int32) = nI (s + 4) from nI_add s 4]; rfl
  · rw [if_neg (by decide), bz_0, Option.bind_some, if_pos rfl, if_pos (by decide), show nI s + (3 : Int32) = nI (s + 3) from nI_add s 3]; rfl
  · rw [if_neg (by decide), bz_0, Option.bind_some, if_pos rfl, if_neg (by decide), if_pos (by decide), show nI s + (3 : Int32) = nI (s + 3) from nI_add s 3]; rfl
  · rw [if_neg (by decide), bz_0, Option.bind_some, if_pos rfl, if_neg (by decide), if_neg (by decide), show nI s + (4 : Int32) = nI (s + 4) from nI_add s 4]; rfl
theorem both_name {T : Nat} {L : Nat → Nat} {f g : Nat → Int32} {p : Nat} {ft x : Int32} (hf : lett T L f) (hg : lett T L g) (hp : p ≤ T) :
    (∃ i q, i < 6 ∧ q ≤ T ∧ fX6_readName (nI T) (nI p) ft f = some (nI (i + 1), nI q, ft) ∧ fX8_name (nI T) (nI p) x g = some (nI i, nI q, 0)) ∨ (∃ q, q ≤ T ∧ fX6_readName (nI T) (nI p) ft f = some (0, nI q, nI (skp T L p)) ∧ fX8_name (nI T) (nI p) x g = some (-4, nI (skp T L p), 1)) := by
  obtain ⟨s1, s2, s3⟩ := skp_b (L := L) hp
  obtain ⟨r1, r2, r3⟩ := rn_b (L := L) (T - skp T L p) (skp T L p) rfl s2
  have hT := hf.1
  unfold fX6_readName fX8_name
  rw [c_skip hf hp, Option.bind_some, m_looks hg hp, Option.bind_some, c_run' hf (T - skp T L p) (skp T L p) rfl s2 fu (by show _ < 5000; omega), Option.bind_some]
  dsimp only
  rcases both_word hf hg s2 with ⟨i, hi, h1, h2, h3, h4⟩ | ⟨h3, h4⟩
  · rw [h3, Option.bind_some, h4, m_nm hi, if_neg (nI_ne0 (by omega) (by omega)), h2]
    exact Or.inl ⟨i, _, hi, h1, rfl, rfl⟩
  · rw [h3, Option.bind_some, h4, if_pos rfl]
    unfold jX8_name_119 jX8_name_132 jX8_name_166
    rw [if_pos rfl, bz_1, Option.bind_some, if_neg (by decide), Int32.add_zero]
    exact Or.inr ⟨_, r2, rfl, rfl⟩
theorem m_linkF {T n u : Nat} {g : Nat → Int32} {x y : Int32} {told : Nat → Int32} : jX8_readsLink_55 (nI T) (nI n) g (nI u) y x 1 told = some (x, 1, told) := by
  unfold jX8_readsLink_55 jX8_readsLink_98 jX8_readsLink_103
  rw [if_neg (by decide), m_takesF, Option.bind_some]
  dsimp only
  rw [if_neg (by decide)]
theorem m_linkN {T n : Nat} {g : Nat → Int32} {x y z : Int32} {told : Nat → Int32} : jX8_readsLink_102 (nI T) (nI n) g y z x 0 told = some (x, 1, told) := by
  unfold jX8_readsLink_102 jX8_readsLink_103
  rw [m_takes0, Option.bind_some]
  dsimp only
  rw [if_neg (by decide)]
theorem both_link {T n : Nat} {L N : Nat → Nat} {f g near told : Nat → Int32} {p : Nat} {ft : Int32} (hf : lett T L f) (hg : lett T L g) (hp : p ≤ T) (hn : 2 ≤ n ∧ n ≤ 7) (hN : netFit n N) (h1 : told7 near N) (h2 : told7 told N) :
    (∃ q N' near' told', p < q ∧ q ≤ T ∧ netFit n N' ∧ told7 near' N' ∧ told7 told' N' ∧ fX6_readLink (nI T) (nI n) (nI p) ft f near = some (1, nI q, ft, near') ∧ fX8_readsLink (nI T) (nI p) 0 (nI n) g told = some (nI q, 0, told')) ∨ (∃ q w, q ≤ T ∧ w ≤ T ∧ skp T L w = w ∧ fX6_readLink (nI T) (nI n) (nI p) ft f near = some (0, nI q, nI w, near) ∧ fX8_readsLink (nI T) (nI p) 0 (nI n) g told = some (nI w, 1, told)) := by
  have hT := hf.1
  obtain ⟨s1, s2, s3⟩ := skp_b (L := L) hp
  unfold fX6_readLink fX8_readsLink
  rw [show nI n - (1 : Int32) = nI (n - 1) from pk_sub (a := n) (b := 1) (by omega)]
  have cf := c_fig (a := 0) (b := n - 1) (ft := ft) hf hp (by omega) (by omega)
  have mf := m_fig (a := 0) (b := n - 1) hg hp (by omega) (by omega)
  rw [show nI 0 = (0 : Int32) from rfl] at cf mf
  rcases cf with ⟨i1, c1⟩ | ⟨i1, c1⟩
  · rcases mf with ⟨_, e1⟩ | ⟨i2, _⟩
    · rw [c1, e1, Option.bind_some, Option.bind_some]
      dsimp only
      have hp2 : skp T L p + 1 ≤ T := by have := i1.1; omega
      obtain ⟨t1, t2, t3⟩ := skp_b (L := L) hp2
      generalize hu : L (skp T L p) - 48 = u
      have hun : u < n := by have := i1.2.1; have := i1.2.2; omega
      rw [if_neg (m1_ne (show u < 2 ^ 31 by omega)), if_pos rfl, m_looks hg hp2, Option.bind_some]
      dsimp only
      have cs := c_sign (c := 45) hf hp2 (by decide)
      rw [show nI 45 = (45 : Int32) from rfl] at cs
      rcases cs with ⟨k1, k2, k3⟩ | ⟨k1, k2, k3⟩
      · rw [k2, Option.bind_some, if_pos k3]
        dsimp only
        rw [if_neg (by decide)]
        unfold jX8_readsLink_29 jX8_readsLink_34
        have hp3 : skp T L (skp T L p + 1) + 1 ≤ T := by have := k1.1; omega
        obtain ⟨v1, v2, v3⟩ := skp_b (L := L) hp3
        rw [m_takes1, Option.bind_some]
        dsimp only
        rw [if_pos rfl, m_looks hg hp3, Option.bind_some]
        dsimp only
        have cf2 := c_fig (a := 0) (b := n - 1) (ft := ft) hf hp3 (by omega) (by omega)
        have mf2 := m_inFig (T := T) (L := L) (q := skp T L (skp T L (skp T L p + 1) + 1)) (a := 0) (b := n - 1) (fun q => (hf.2 _ q).1) (by omega) (by omega)
        have hss := skp_skp (T := T) (L := L) hp3
        rw [show nI 0 = (0 : Int32) from rfl] at cf2 mf2
        generalize skp T L (skp T L (skp T L p + 1) + 1) = w at v1 v2 v3 cf2 mf2 hss ⊢
        unfold jX8_readsLink_55
        rw [if_pos rfl, show nI n - (1 : Int32) = nI (n - 1) from pk_sub (a := n) (b := 1) (by omega), show (0 : Int64) = (0 : Int32).toInt64 from rfl]
        rcases cf2 with ⟨i3, c3⟩ | ⟨i3, c3⟩
        · rcases mf2 with ⟨_, e3, e4⟩ | ⟨i4, _⟩
          · rw [c3, Option.bind_some, e4, Option.bind_some, e3]
            dsimp only
            generalize hv : L w - 48 = v
            have hvn : v < n := by have := i3.2.1; have := i3.2.2; omega
            have hw := i3.1
            rw [if_neg (m1_ne (show v < 2 ^ 31 by omega)), if_neg (show ¬ (1 : Int32) = 0 by decide)]
            unfold jX6_readLink_75
            rw [show nI (w + 1) - (1 : Int32) = nI (w + 1 - 1) from pk_sub (a := w + 1) (b := 1) (by omega), Nat.add_sub_cancel]
            by_cases q : u = v
            · rw [if_pos (congrArg nI q), if_pos (congrArg nI q.symm), m_linkN]
              exact Or.inr ⟨w + 1, w, hw, by omega, hss, rfl, rfl⟩
            · have hNu : N u < 128 := nr_lt hN u
              rw [if_neg (fun z => q (nI_inj (by omega) (by omega) z)), if_neg (fun z => q (nI_inj (by omega) (by omega) z).symm), rd_nI (show u < 7 by omega) (by decide), Option.bind_some, rd_nI (show u < 7 by omega) (by decide), Option.bind_some, h1 u (by omega), h2 u (by omega), c_has hNu (by omega), m_has hNu (by omega), Option.bind_some, Option.bind_some]
              cases hb : (N u).testBit v
              · obtain ⟨near', j1, j2⟩ := c_join h1 (show u < 7 by omega) (show v < 7 by omega) q
                obtain ⟨told', j3, j4⟩ := m_links' h2 (show u < 7 by omega) (show v < 7 by omega) q
                unfold jX8_readsLink_98 jX8_readsLink_103
                rw [if_pos (by decide), if_pos (by decide), j1, Option.bind_some, m_takes1, Option.bind_some]
                dsimp only
                rw [if_pos rfl, j3, Option.bind_some]
                exact Or.inl ⟨w + 1, _, _, _, by omega, hw, jn_fit hN hun hvn q, j2, j4, rfl, rfl⟩
              · rw [if_neg (by decide), if_neg (by decide), m_linkN]
                exact Or.inr ⟨w + 1, w, hw, by omega, hss, rfl, rfl⟩
          · exact absurd i3 i4
        · rcases mf2 with ⟨i4, _, _⟩ | ⟨_, e4⟩
          · exact absurd i4 i3
          · rw [c3, Option.bind_some, e4, Option.bind_some, if_pos rfl, m_linkN]
            exact Or.inr ⟨w, w, v2, v2, hss, rfl, rfl⟩
      · rw [k2, Option.bind_some, if_neg k3]
        dsimp only
        rw [if_pos rfl]
        unfold jX8_readsLink_34
        rw [m_takes0, Option.bind_some]
        dsimp only
        rw [if_neg (by decide), m_linkF]
        exact Or.inr ⟨_, _, t2, t2, skp_skp hp2, rfl, rfl⟩
    · exact absurd i1 i2
  · rcases mf with ⟨i2, _⟩ | ⟨_, e1⟩
    · exact absurd i2 i1
    · rw [c1, e1, Option.bind_some, Option.bind_some]
      dsimp only
      rw [if_pos rfl, if_neg (by decide)]
      unfold jX8_readsLink_29 jX8_readsLink_34
      rw [m_takesF, Option.bind_some]
      dsimp only
      rw [if_neg (by decide), show (0 : Int32) = nI 0 from rfl, m_linkF]
      exact Or.inr ⟨_, _, s2, s2, skp_skp hp, rfl, rfl⟩
