/-! read. -/
theorem grid_fig : ∀ u, u < 8 → 1 ≤ u → ∀ v, v < 80 → (((if u = 1 then 2 else 1) ≤ v ∧ v ≤ 7 / u) ↔ ((1 ≤ v ∧ v ≤ 7) ∧ 2 ≤ u * v ∧ u * v ≤ 7)) := by decide +kernel
theorem m_gridF {T : Nat} {g : Nat → Int32} {x y z tm : Int32} {told : Nat → Int32} : jX8_readsGrid_51 (nI T) g y z x 1 tm told = some (x, 1, tm, told) := by
  unfold jX8_readsGrid_51 jX8_readsGrid_88 jX8_readsGrid_93
  rw [if_neg (by decide), m_takesF, Option.bind_some]
  dsimp only
  rw [if_neg (by decide)]
theorem m_gridN {T : Nat} {g : Nat → Int32} {x y z tm : Int32} {told : Nat → Int32} : jX8_readsGrid_92 (nI T) g y z x 0 tm told = some (x, 1, tm, told) := by
  unfold jX8_readsGrid_92 jX8_readsGrid_93
  rw [m_takes0, Option.bind_some]
  dsimp only
  rw [if_neg (by decide)]
theorem both_grid {T : Nat} {L : Nat → Nat} {f g near told : Nat → Int32} {p : Nat} {ft nd0 tm0 : Int32} (hf : lett T L f) (hg : lett T L g) (hp : p ≤ T) (h1 : told7 near (fun _ => 0)) (h2 : told7 told (fun _ => 0)) :
    ∃ nd a b nr ra isf td tm, fX6_readGrid (nI T) nd0 (nI p) ft f near = some (nd, a, b, nr) ∧ fX8_readsGrid (nI T) (nI p) 0 tm0 g told = some (ra, isf, tm, td) ∧ ((∃ n, (2 ≤ n ∧ n ≤ 7) ∧ nd = nI n ∧ tm = nI n ∧ rdOK T L n ft a b nr ra isf td) ∨ (∃ q w, q ≤ T ∧ w ≤ T ∧ skp T L w = w ∧ a = nI q ∧ b = nI w ∧ ra = nI w ∧ isf = 1)) := by
  have hT := hf.1
  obtain ⟨s1, s2, s3⟩ := skp_b (L := L) hp
  unfold fX6_readGrid fX8_readsGrid
  have cf := c_fig (a := 1) (b := 7) (ft := ft) hf hp (by omega) (by omega)
  have mf := m_fig (a := 1) (b := 7) hg hp (by omega) (by omega)
  rw [show nI 7 = (7 : Int32) from rfl, show nI 1 = (1 : Int32) from rfl] at cf mf
  rcases cf with ⟨i1, c1⟩ | ⟨i1, c1⟩
  · rcases mf with ⟨_, m1⟩ | ⟨i2, _⟩
    · rw [c1, m1, Option.bind_some, Option.bind_some]
      dsimp only
      have hp2 : skp T L p + 1 ≤ T := by have := i1.1; omega
      obtain ⟨t1, t2, t3⟩ := skp_b (L := L) hp2
      generalize hu : L (skp T L p) - 48 = u
      have hu7 : 1 ≤ u ∧ u ≤ 7 := by have := i1.2.1; have := i1.2.2; omega
      rw [if_pos (show (1 : Int32) ≤ nI u from nI_le (a := 1) hu7.1 (by omega)), if_pos rfl, m_looks hg hp2, Option.bind_some]
      dsimp only
      have cs := c_sign (c := 42) hf hp2 (by decide)
      rw [show nI 42 = (42 : Int32) from rfl] at cs
      rcases cs with ⟨k1, k2, k3⟩ | ⟨k1, k2, k3⟩
      · rw [k2, Option.bind_some, if_pos k3]
        dsimp only
        rw [if_neg (show ¬ (1 : Int32) = 0 by decide)]
        unfold jX8_readsGrid_25 jX8_readsGrid_30
        have hp3 : skp T L (skp T L p + 1) + 1 ≤ T := by have := k1.1; omega
        obtain ⟨v1, v2, v3⟩ := skp_b (L := L) hp3
        rw [m_takes1, Option.bind_some]
        dsimp only
        rw [if_pos rfl, m_looks hg hp3, Option.bind_some]
        dsimp only
        have ez : (if nI u = (1 : Int32) then jX6_readGrid_43 (nI T) f (nI u) (2 : Int32) nd0 (nI (skp T L (skp T L p + 1) + 1)) ft near else jX6_readGrid_43 (nI T) f (nI u) (1 : Int32) nd0 (nI (skp T L (skp T L p + 1) + 1)) ft near) = jX6_readGrid_43 (nI T) f (nI u) (nI (if u = 1 then 2 else 1)) nd0 (nI (skp T L (skp T L p + 1) + 1)) ft near := by
          by_cases q : u = 1
          · rw [if_pos (show nI u = (1 : Int32) by rw [q]; rfl), if_pos q]; rfl
          · rw [if_neg (show ¬ nI u = (1 : Int32) from fun z => q (nI_inj (a := u) (b := 1) (by omega) (by decide) z)), if_neg q]; rfl
        rw [ez]
        have hdiv : 7 / u ≤ 7 := Nat.div_le_self 7 u
        have cf2 := c_fig (a := if u = 1 then 2 else 1) (b := 7 / u) (ft := ft) hf hp3 (by split <;> omega) (by omega)
        have mf2 := m_inFig (T := T) (L := L) (q := skp T L (skp T L (skp T L p + 1) + 1)) (a := 1) (b := 7) (fun q => (hf.2 _ q).1) (by omega) (by omega)
        have hss := skp_skp (T := T) (L := L) hp3
        generalize skp T L (skp T L (skp T L p + 1) + 1) = w at v1 v2 v3 cf2 mf2 hss ⊢
        have hdv : dv (7 : Int32) (nI u) = some (nI (7 / u)) := by
          unfold dv
          rw [if_neg (nI_ne0 (by omega) (by omega)), show (7 : Int32) / nI u = nI (7 / u) from pk_div (a := 7) (d := u) (by decide) (by omega) (by omega)]
        unfold jX6_readGrid_43 jX8_readsGrid_51
        rw [hdv, Option.bind_some, if_pos rfl, show (1 : Int64) = (nI 1).toInt64 from by decide, show (7 : Int64) = (nI 7).toInt64 from by decide]
        have hL : w < T → L w - 48 < 80 := fun q => by have := (hf.2 w q).1.2; omega
        rcases mf2 with ⟨i3, e3, e4⟩ | ⟨i3, e4⟩
        · have hw := i3.1
          rw [e4, Option.bind_some, if_neg (show ¬ (1 : Int32) = 0 by decide), e3]
          have gf := grid_fig u (by omega) hu7.1 (L w - 48) (hL hw)
          generalize hv : L w - 48 = v at gf cf2 ⊢
          have hv7 : 1 ≤ v ∧ v ≤ 7 := by have := i3.2.1; have := i3.2.2; omega
          rw [pk_mul, show (2 : Int64) = (nI 2).toInt64 from by decide, m_in32]
          have huv : u * v ≤ 49 := Nat.mul_le_mul hu7.2 hv7.2
          by_cases q : 2 ≤ u * v ∧ u * v ≤ 7
          · have hfig : isFig T L w (if u = 1 then 2 else 1) (7 / u) := by
              have := gf.mpr ⟨hv7, q⟩
              exact ⟨hw, by omega, by omega⟩
            rcases cf2 with ⟨_, c3⟩ | ⟨no, _⟩
            · obtain ⟨x, g1, g2⟩ := c_grid (T := T) (f := f) (a := nI (w + 1)) (b := ft) (w := u) (n := u * v) (by omega) hu7.2 q.2 h1
              obtain ⟨y, g3, g4⟩ := m_grid (T := T) (f := g) (a := nI (w + 1)) (b := 0) (w := u) (n := u * v) (by omega) hu7.2 q.2 h2
              rw [c3, Option.bind_some]
              dsimp only
              rw [if_neg (m1_ne (show v < 2 ^ 31 by omega)), pk_mul, g1, Option.bind_some, if_neg (nI_nlt (by omega) (by omega)), if_neg (nI_nlt (by omega) (by decide)), Option.bind_some, if_neg (show ¬ (1 : Int32) = 0 by decide)]
              unfold jX8_readsGrid_88 jX8_readsGrid_93
              rw [m_takes1, Option.bind_some]
              dsimp only
              rw [if_pos rfl, pk_mul, g3, Option.bind_some]
              exact ⟨_, _, _, _, _, _, _, _, rfl, rfl, Or.inl ⟨u * v, q, rfl, rfl, Or.inl ⟨w + 1, _, hw, grA_fit (by omega) (zeros_fit q) (u * v) (Nat.le_refl _), g2, g4, rfl, rfl, rfl, rfl⟩⟩⟩
            · exact absurd hfig no
          · have hno : ¬ isFig T L w (if u = 1 then 2 else 1) (7 / u) := fun z => q (gf.mp ⟨by have := z.2.1; omega, by have := z.2.2; omega⟩).2
            rcases cf2 with ⟨yes, _⟩ | ⟨_, c3⟩
            · exact absurd yes hno
            · have hin : (if nI (u * v) < nI 2 then (0 : Int32) else if nI 7 < nI (u * v) then 0 else 1) = 0 := by
                by_cases q1 : u * v < 2
                · rw [if_pos (nI_lt q1 (by decide))]
                · rw [if_neg (nI_nlt (by omega) (by omega)), if_pos (nI_lt (by omega) (by omega))]
              rw [c3, Option.bind_some, hin, Option.bind_some, if_pos rfl, if_pos rfl, m_gridN]
              exact ⟨_, _, _, _, _, _, _, _, rfl, rfl, Or.inr ⟨w, w, v2, v2, hss, rfl, rfl, rfl, rfl⟩⟩
        · have hno : ¬ isFig T L w (if u = 1 then 2 else 1) (7 / u) := fun z => by
            have gf := grid_fig u (by omega) hu7.1 (L w - 48) (hL z.1)
            have h48 : 48 + (if u = 1 then 2 else 1) ≤ L w := z.2.1
            have := (gf.mp ⟨by omega, by have := z.2.2; omega⟩).1
            exact i3 ⟨z.1, by omega, by omega⟩
          rcases cf2 with ⟨yes, _⟩ | ⟨_, c3⟩
          · exact absurd yes hno
          · rw [c3, Option.bind_some, e4, Option.bind_some, if_pos rfl, if_pos rfl, m_gridN]
            exact ⟨_, _, _, _, _, _, _, _, rfl, rfl, Or.inr ⟨w, w, v2, v2, hss, rfl, rfl, rfl, rfl⟩⟩
      · rw [k2, Option.bind_some, if_neg k3]
        dsimp only
        rw [if_pos rfl]
        unfold jX8_readsGrid_30
        rw [m_takes0, Option.bind_some]
        dsimp only
        rw [if_neg (show ¬ (1 : Int32) = 0 by decide), m_gridF]
        exact ⟨_, _, _, _, _, _, _, _, rfl, rfl, Or.inr ⟨_, _, t2, t2, skp_skp hp2, rfl, rfl, rfl, rfl⟩⟩
    · exact absurd i1 i2
  · rcases mf with ⟨i2, _⟩ | ⟨_, m1⟩
    · exact absurd i2 i1
    · rw [c1, m1, Option.bind_some, Option.bind_some]
      dsimp only
      rw [if_neg (by decide), if_neg (by decide)]
      unfold jX8_readsGrid_25 jX8_readsGrid_30
      rw [m_takesF, Option.bind_some]
      dsimp only
      rw [if_neg (show ¬ (1 : Int32) = 0 by decide), m_gridF]
      exact ⟨_, _, _, _, _, _, _, _, rfl, rfl, Or.inr ⟨_, _, s2, s2, skp_skp hp, rfl, rfl, rfl, rfl⟩⟩
theorem c_zero7 {a b c d e : Int32} {f near : Nat → Int32} : ∃ x, itL (bX6_faultOfText_17 a f c d e) fu ((0 : Int32), near) = some x ∧ told7 x.2 (fun _ => 0) := by
  refine itL_rel (b := bX6_faultOfText_17 a f c d e) (fun i z => ∃ nr, z = (nI i, nr) ∧ ∀ v, v < i → nr v = nI 0) (fun x => told7 x.2 (fun _ => 0)) 7 ?_ ?_ fu _ ⟨near, rfl, fun v hv => absurd hv (by omega)⟩ (by decide)
  · rintro i z hi ⟨nr, rfl, h⟩
    left
    unfold bX6_faultOfText_17
    dsimp only
    rw [if_neg (show ¬ (7 : Int32) ≤ nI i from nI_ge (b := 7) hi (by decide)), wi_nI hi (by decide), Option.bind_some, nI_1]
    refine ⟨_, rfl, _, rfl, fun v hv => ?_⟩
    by_cases q : v = i
    · subst q; rw [pk_us]; rfl
    · rw [pk_un q]; exact h v (by omega)
  · rintro z ⟨nr, rfl, h⟩
    refine ⟨(nI 7, nr), ?_, fun v hv => h v hv⟩
    unfold bX6_faultOfText_17
    dsimp only
    rw [if_pos (by decide)]
theorem m_zero7 {a c d e : Int32} {f near : Nat → Int32} : ∃ x, itL (bX8_readsAll_12 a f c d e) fu ((0 : Int32), near) = some x ∧ told7 x.2 (fun _ => 0) := by
  refine itL_rel (b := bX8_readsAll_12 a f c d e) (fun i z => ∃ nr, z = (nI i, nr) ∧ ∀ v, v < i → nr v = nI 0) (fun x => told7 x.2 (fun _ => 0)) 7 ?_ ?_ fu _ ⟨near, rfl, fun v hv => absurd hv (by omega)⟩ (by decide)
  · rintro i z hi ⟨nr, rfl, h⟩
    left
    unfold bX8_readsAll_12
    dsimp only
    rw [if_neg (show ¬ (7 : Int32) ≤ nI i from nI_ge (b := 7) hi (by decide)), wi_nI hi (by decide), Option.bind_some, nI_1]
    refine ⟨_, rfl, _, rfl, fun v hv => ?_⟩
    by_cases q : v = i
    · subst q; rw [pk_us]; rfl
    · rw [pk_un q]; exact h v (by omega)
  · rintro z ⟨nr, rfl, h⟩
    refine ⟨(nI 7, nr), ?_, fun v hv => h v hv⟩
    unfold bX8_readsAll_12
    dsimp only
    rw [if_pos (by decide)]
