/-! The text read: all of it. -/
theorem itL_inl {V E : Type} {b : V → Option (V ⊕ E)} {n : Nat} {v v' : V} (h : b v = some (.inl v')) : itL b (n + 1) v = itL b n v' := by
  conv => lhs; unfold itL
  rw [h]
theorem itL_inr {V E : Type} {b : V → Option (V ⊕ E)} {n : Nat} {v : V} {x : E} (h : b v = some (.inr x)) : itL b (n + 1) v = some x := by
  unfold itL
  rw [h]
/-- what reading a shape comes to, on both sides: a net, or a fault at w -/
def rdOK (T : Nat) (L : Nat → Nat) (n : Nat) (ft : Int32) (at' fl : Int32) (near : Nat → Int32) (ra isf : Int32) (told : Nat → Int32) : Prop :=
  (∃ q N', q ≤ T ∧ netFit n N' ∧ told7 near N' ∧ told7 told N' ∧ at' = nI q ∧ fl = ft ∧ ra = nI q ∧ isf = 0) ∨ (∃ q w, q ≤ T ∧ w ≤ T ∧ skp T L w = w ∧ at' = nI q ∧ fl = nI w ∧ ra = nI w ∧ isf = 1)
theorem links_end {T n k : Nat} {f near : Nat → Int32} {a b : Int32} {m : Nat} (hk : k < 90) : itL (bX6_readLinks_9 (nI T) (nI n) f) (m + 1) (0, nI k + 1, a, b, near) = some (0, nI k + 1, a, b, near) := by
  refine itL_inr ?_
  unfold bX6_readLinks_9
  dsimp only
  rw [if_pos rfl, ite_self]
theorem both_linksL {T n : Nat} {L : Nat → Nat} {f g : Nat → Int32} {ft : Int32} (hf : lett T L f) (hg : lett T L g) (hn : 2 ≤ n ∧ n ≤ 7) :
    ∀ (d p k : Nat) (N : Nat → Nat) (near told : Nat → Int32) (nc nm : Nat), T - p = d → p ≤ T → k + d < 90 → netFit n N → told7 near N → told7 told N → d + 1 < nc → d + 1 < nm →
    ∃ gx kx a b nr ra isf td, itL (bX6_readLinks_9 (nI T) (nI n) f) nc (1, nI k, nI p, ft, near) = some (gx, kx, a, b, nr) ∧ Option.bind (fX8_readsLink (nI T) (nI p) 0 (nI n) g told) (fun r7 => itL (bX8_readsLinks_4 (nI T) (nI n) g) nm (r7.1, r7.2.1, r7.2.2)) = some (ra, isf, td) ∧ rdOK T L n ft a b nr ra isf td := by
  intro d
  induction d using Nat.strongRecOn with
  | _ d ih =>
    intro p k N near told nc nm hd hp hk hN h1 h2 hc hm
    obtain ⟨nc', rfl⟩ : ∃ n', nc = n' + 2 := ⟨nc - 2, by omega⟩
    obtain ⟨nm', rfl⟩ : ∃ n', nm = n' + 2 := ⟨nm - 2, by omega⟩
    have hge : ¬ (90 : Int32) ≤ nI k := nI_ge (b := 90) (by omega) (by decide)
    rcases both_link (ft := ft) hf hg hp hn hN h1 h2 with ⟨q, N', near', told', q1, q2, q3, q4, q5, q6, q7⟩ | ⟨q, w, q1, q2, q3, q6, q7⟩
    · obtain ⟨s1, s2, s3⟩ := skp_b (L := L) q2
      have cs := c_sign (c := 44) hf q2 (by decide)
      rw [show nI 44 = (44 : Int32) from rfl] at cs
      rw [q7, Option.bind_some]
      dsimp only
      rcases cs with ⟨k1, k2, k3⟩ | ⟨k1, k2, k3⟩
      · have stepC : bX6_readLinks_9 (nI T) (nI n) f (1, nI k, nI p, ft, near) = some (.inl (1, nI (k + 1), nI (skp T L q + 1), ft, near')) := by
          unfold bX6_readLinks_9
          dsimp only
          rw [if_neg hge, if_neg (by decide), q6, Option.bind_some]
          dsimp only
          rw [if_neg (by decide), k2, Option.bind_some]
          dsimp only
          rw [if_neg (by decide)]
          unfold jX6_readLinks_40
          rw [nI_1]
        have hp' : skp T L q + 1 ≤ T := by have := k1.1; omega
        obtain ⟨gx, kx, a, b, nr, ra, isf, td, r1, r2, r3⟩ := ih (T - (skp T L q + 1)) (by omega) (skp T L q + 1) (k + 1) N' near' told' (nc' + 1) (nm' + 1) rfl hp' (by omega) q3 q4 q5 (by omega) (by omega)
        refine ⟨gx, kx, a, b, nr, ra, isf, td, ?_, ?_, r3⟩
        · rw [itL_inl stepC]; exact r1
        · obtain ⟨rl, e1⟩ : ∃ rl, fX8_readsLink (nI T) (nI (skp T L q + 1)) 0 (nI n) g told' = some rl := by
            cases e : fX8_readsLink (nI T) (nI (skp T L q + 1)) 0 (nI n) g told' with
            | none => rw [e] at r2; cases r2
            | some rl => exact ⟨rl, rfl⟩
          rw [e1, Option.bind_some] at r2
          have stepM : bX8_readsLinks_4 (nI T) (nI n) g (nI q, 0, told') = some (.inl (rl.1, rl.2.1, rl.2.2)) := by
            unfold bX8_readsLinks_4
            dsimp only
            rw [if_pos rfl, m_looks hg q2, Option.bind_some]
            dsimp only
            rw [if_pos k3, nI_1, e1, Option.bind_some]
          rw [itL_inl stepM]
          exact r2
      · have stepC : bX6_readLinks_9 (nI T) (nI n) f (1, nI k, nI p, ft, near) = some (.inl (0, nI k + 1, nI (skp T L q), ft, near')) := by
          unfold bX6_readLinks_9
          dsimp only
          rw [if_neg hge, if_neg (by decide), q6, Option.bind_some]
          dsimp only
          rw [if_neg (by decide), k2, Option.bind_some]
          dsimp only
          rw [if_pos rfl]
          rfl
        have stepM : bX8_readsLinks_4 (nI T) (nI n) g (nI q, 0, told') = some (.inr (nI (skp T L q), 0, told')) := by
          unfold bX8_readsLinks_4
          dsimp only
          rw [if_pos rfl, m_looks hg q2, Option.bind_some]
          dsimp only
          rw [if_neg k3]
        refine ⟨0, nI k + 1, nI (skp T L q), ft, near', nI (skp T L q), 0, told', ?_, ?_, Or.inl ⟨skp T L q, N', s2, q3, q4, q5, rfl, rfl, rfl, rfl⟩⟩
        · rw [itL_inl stepC]; exact links_end (by omega)
        · exact itL_inr stepM
    · have stepC : bX6_readLinks_9 (nI T) (nI n) f (1, nI k, nI p, ft, near) = some (.inl (0, nI k + 1, nI q, nI w, near)) := by
        unfold bX6_readLinks_9
        dsimp only
        rw [if_neg hge, if_neg (by decide), q6, Option.bind_some]
        dsimp only
        rw [if_pos rfl]
        rfl
      have stepM : bX8_readsLinks_4 (nI T) (nI n) g (nI w, 1, told) = some (.inr (nI w, 1, told)) := by
        unfold bX8_readsLinks_4
        dsimp only
        rw [if_neg (by decide)]
      rw [q7, Option.bind_some]
      dsimp only
      refine ⟨0, nI k + 1, nI q, nI w, near, nI w, 1, told, ?_, itL_inr stepM, Or.inr ⟨q, w, q1, q2, q3, rfl, rfl, rfl, rfl⟩⟩
      rw [itL_inl stepC]
      exact links_end (by omega)
/-- the links of a net that is told one by one -/
theorem both_links {T n : Nat} {L N : Nat → Nat} {f g near told : Nat → Int32} {p : Nat} {ft : Int32} (hf : lett T L f) (hg : lett T L g) (hp : p ≤ T) (h0 : 0 < p) (hn : 2 ≤ n ∧ n ≤ 7) (hN : netFit n N) (h1 : told7 near N) (h2 : told7 told N) :
    ∃ a b nr ra isf td, fX6_readLinks (nI T) (nI n) (nI p) ft f near = some (a, b, nr) ∧ Option.bind (fX8_looks (nI T) (nI p) g) (fun r24 => (if r24.1 = (58 : Int32) then Option.bind (fX8_readsLinks (nI T) (r24.2 + (1 : Int32)) 0 (nI n) g told) (fun r27 => some (r27.1, r27.2.1, nI n, r27.2.2)) else some (r24.2, 0, nI n, told))) = some (ra, isf, nI n, td) ∧ rdOK T L n ft a b nr ra isf td := by
  have hT := hf.1
  obtain ⟨s1, s2, s3⟩ := skp_b (L := L) hp
  unfold fX6_readLinks
  rw [m_looks hg hp, Option.bind_some]
  dsimp only
  have cs := c_sign (c := 58) hf hp (by decide)
  rw [show nI 58 = (58 : Int32) from rfl] at cs
  rcases cs with ⟨k1, k2, k3⟩ | ⟨k1, k2, k3⟩
  · have hp' : skp T L p + 1 ≤ T := by have := k1.1; omega
    obtain ⟨gx, kx, a, b, nr, ra, isf, td, r1, r2, r3⟩ := both_linksL (ft := ft) hf hg hn (T - (skp T L p + 1)) (skp T L p + 1) 0 N near told fu fu rfl hp' (by omega) hN h1 h2 (by show _ < 5000; omega) (by show _ < 5000; omega)
    rw [k2, Option.bind_some, if_pos k3, nI_1]
    dsimp only
    unfold fX8_readsLinks
    obtain ⟨rl, e1⟩ : ∃ rl, fX8_readsLink (nI T) (nI (skp T L p + 1)) 0 (nI n) g told = some rl := by
      cases e : fX8_readsLink (nI T) (nI (skp T L p + 1)) 0 (nI n) g told with
      | none => rw [e] at r2; cases r2
      | some rl => exact ⟨rl, rfl⟩
    rw [e1, Option.bind_some] at r2
    have r1' : itL (bX6_readLinks_9 (nI T) (nI n) f) fu (1, 0, nI (skp T L p + 1), ft, near) = some (gx, kx, a, b, nr) := r1
    rw [r1', Option.bind_some, e1, Option.bind_some, r2, Option.bind_some, Option.bind_some]
    exact ⟨_, _, _, _, _, _, rfl, rfl, r3⟩
  · have e0 : itL (bX6_readLinks_9 (nI T) (nI n) f) fu (0, 0, nI (skp T L p), ft, near) = some (0, 0, nI (skp T L p), ft, near) := by
      refine itL_inr (n := 4999) ?_
      unfold bX6_readLinks_9
      dsimp only
      rw [if_pos rfl, ite_self]
    rw [k2, Option.bind_some, if_neg k3]
    dsimp only
    rw [e0, Option.bind_some]
    exact ⟨_, _, _, _, _, _, rfl, rfl, Or.inl ⟨skp T L p, N, s2, hN, h1, h2, rfl, rfl, rfl, rfl⟩⟩
theorem zeros_fit {n : Nat} (hn : 2 ≤ n ∧ n ≤ 7) : netFit n (fun _ => 0) := ⟨hn, fun v => Nat.two_pow_pos n, fun v _ => rfl, fun u v => by rw [Nat.zero_testBit, Nat.zero_testBit], fun v => Nat.zero_testBit v⟩
/-- shapes other than grids -/
theorem both_others {T i : Nat} {L : Nat → Nat} {f g near told : Nat → Int32} {p : Nat} {ft nd0 tm0 : Int32} (hf : lett T L f) (hg : lett T L g) (hp : p ≤ T) (hi : i < 5) (h1 : told7 near (fun _ => 0)) (h2 : told7 told (fun _ => 0)) :
    ∃ nd a b nr ra isf td tm, fX6_readShape (nI T) nd0 (nI p) ft f near (nI (i + 1)) = some (nd, a, b, nr) ∧ fX8_readsOthers (nI T) (nI p) 0 tm0 g told (nI i) = some (ra, isf, tm, td) ∧ ((∃ n, (2 ≤ n ∧ n ≤ 7) ∧ nd = nI n ∧ tm = nI n ∧ rdOK T L n ft a b nr ra isf td) ∨ (∃ q w, q ≤ T ∧ w ≤ T ∧ skp T L w = w ∧ a = nI q ∧ b = nI w ∧ ra = nI w ∧ isf = 1)) := by
  have hT := hf.1
  obtain ⟨s1, s2, s3⟩ := skp_b (L := L) hp
  have least : ∃ a, (a = 2 ∨ a = 3) ∧ fX6_readShape (nI T) nd0 (nI p) ft f near (nI (i + 1)) = jX6_readShape_27 (nI T) f (nI (i + 1)) (nI a) nd0 (nI p) ft near ∧ fX8_readsOthers (nI T) (nI p) 0 tm0 g told (nI i) = jX8_readsOthers_12 (nI T) g (nI i) (nI a) (nI p) 0 tm0 told := by
    unfold fX6_readShape fX8_readsOthers
    rw [if_neg (nI_ne0 (by omega) (by omega)), if_neg (show ¬ nI (i + 1) = (6 : Int32) from fun z => by have := nI_inj (a := i + 1) (b := 6) (by omega) (by decide) z; omega)]
    by_cases q : i = 1
    · subst q
      rw [if_pos (by decide), if_pos (by decide)]
      exact ⟨3, Or.inr rfl, rfl, rfl⟩
    · rw [if_neg (show ¬ nI (i + 1) = (2 : Int32) from fun z => q (by have := nI_inj (a := i + 1) (b := 2) (by omega) (by decide) z; omega)), if_neg (show ¬ nI i = (1 : Int32) from fun z => q (nI_inj (a := i) (b := 1) (by omega) (by decide) z))]
      exact ⟨2, Or.inl rfl, rfl, rfl⟩
  obtain ⟨a, ha, e1, e2⟩ := least
  rw [e1, e2]
  unfold jX6_readShape_27 jX8_readsOthers_12
  have cf := c_fig (a := a) (b := 7) (ft := ft) hf hp (by omega) (by omega)
  have mf := m_fig (a := a) (b := 7) hg hp (by omega) (by omega)
  rw [show nI 7 = (7 : Int32) from rfl] at cf mf
  rcases cf with ⟨i1, c1⟩ | ⟨i1, c1⟩
  · rcases mf with ⟨_, m1⟩ | ⟨i2, _⟩
    · rw [c1, m1, Option.bind_some, Option.bind_some]
      dsimp only
      have hp2 : skp T L p + 1 ≤ T := by have := i1.1; omega
      generalize hu : L (skp T L p) - 48 = n
      have hn : 2 ≤ n ∧ n ≤ 7 := by have := i1.2.1; have := i1.2.2; omega
      obtain ⟨x, j1, j2⟩ := m_joinAs (T := T) (g := g) (ra := nI (skp T L p + 1)) (sh := i) hi hn h2
      rw [if_neg (m1_ne (show n < 2 ^ 31 by omega)), if_pos rfl, j1, Option.bind_some]
      by_cases q : i = 4
      · subst q
        have hj4 : jAll 4 n n (fun _ => 0) = fun _ => 0 := by
          have inn : ∀ v k M, jIn 4 n v k M = M := by
            intro v k M
            induction k with
            | zero => rfl
            | succ k ih =>
              show (if jc 4 n k v = true then _ else jIn 4 n v k M) = M
              rw [show jc 4 n k v = false from rfl, if_neg (by decide), ih]
          have all : ∀ v M, jAll 4 n v M = M := by
            intro v M
            induction v with
            | zero => rfl
            | succ v ih => show jIn 4 n v v (jAll 4 n v M) = M; rw [inn, ih]
          exact all n _
        rw [hj4] at j2
        obtain ⟨a', b', nr, ra, isf, td, r1, r2, r3⟩ := both_links (ft := ft) hf hg hp2 (by omega) hn (zeros_fit hn) h1 j2
        rw [if_pos (by decide), r1, Option.bind_some, if_pos (by decide), r2]
        exact ⟨_, _, _, _, _, _, _, _, rfl, rfl, Or.inl ⟨n, hn, rfl, rfl, r3⟩⟩
      · obtain ⟨near', j3, j4⟩ := c_joinAs (sh := i) (by omega) hn h1
        rw [if_neg (show ¬ nI (i + 1) = (5 : Int32) from fun z => q (by have := nI_inj (a := i + 1) (b := 5) (by omega) (by decide) z; omega)), j3, Option.bind_some, if_neg (show ¬ nI i = (4 : Int32) from fun z => q (nI_inj (a := i) (b := 4) (by omega) (by decide) z))]
        exact ⟨_, _, _, _, _, _, _, _, rfl, rfl, Or.inl ⟨n, hn, rfl, rfl, Or.inl ⟨skp T L p + 1, _, hp2, jAll_fit (zeros_fit hn) n (Nat.le_refl _), j4, j2, rfl, rfl, rfl, rfl⟩⟩⟩
    · exact absurd i1 i2
  · rcases mf with ⟨i2, _⟩ | ⟨_, m1⟩
    · exact absurd i2 i1
    · rw [c1, m1, Option.bind_some, Option.bind_some]
      dsimp only
      rw [if_pos rfl, if_neg (by decide)]
      exact ⟨_, _, _, _, _, _, _, _, rfl, rfl, Or.inr ⟨_, _, s2, s2, skp_skp hp, rfl, rfl, rfl, rfl⟩⟩
