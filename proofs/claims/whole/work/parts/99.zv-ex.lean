-- READING AN E: what is compared, what is turned round
theorem rsg_cmp : ∀ x, x ∈ rsg → ((¬ x.1 < 5 ∧ ¬ 10 < x.1) ↔ (x.2 = 60 ∨ x.2 = 62 ∨ x.2 = 61 ∨ ¬ x.2 < 256)) ∧ ((¬ x.1 < 5 ∧ ¬ 10 < x.1) → jtr x.1 0 2 x.2 ∧ ¬ x.1 = 0 ∧ ¬ x.1 = 1 ∧ ¬ x.1 = 2) := by
  have hj : ∀ x, x ∈ rsg → ¬ x.1 < 5 → ¬ 10 < x.1 → jtb x.1 x.2 ∧ ¬ x.1 = 0 ∧ ¬ x.1 = 1 ∧ ¬ x.1 = 2 := by unfold jtb; decide +kernel
  have hk : ∀ x, x ∈ rsg → ((¬ x.1 < 5 ∧ ¬ 10 < x.1) ↔ (x.2 = 60 ∨ x.2 = 62 ∨ x.2 = 61 ∨ ¬ x.2 < 256)) := by decide +kernel
  exact fun x hx => ⟨hk x hx, fun q => ⟨Or.inr (Or.inr (Or.inr ⟨rfl, (hj x hx q.1 q.2).1⟩)), (hj x hx q.1 q.2).2⟩⟩
theorem tk_cmp {kd vl so va : Int32} (h : rTk kd vl so va) : (kd = 5 ∧ ¬ vl < 5 ∧ ¬ 10 < vl) ↔ (so = 3 ∧ (va = 60 ∨ va = 62 ∨ va = 61 ∨ ¬ va < 256)) := by
  rcases h with ⟨h1, h2⟩ | ⟨h1, h2⟩ | ⟨h1, h2, -⟩ | ⟨h1, h2, -⟩ | ⟨h1, h2, -⟩ | ⟨h1, h2, h3⟩
  · subst h1 h2; exact ⟨fun q => absurd q.1 (by decide), fun q => absurd q.1 (by decide)⟩
  · subst h1 h2; exact ⟨fun q => absurd q.1 (by decide), fun q => absurd q.1 (by decide)⟩
  · subst h1 h2; exact ⟨fun q => absurd q.1 (by decide), fun q => absurd q.1 (by decide)⟩
  · subst h1 h2; exact ⟨fun q => absurd q.1 (by decide), fun q => absurd q.1 (by decide)⟩
  · subst h1 h2; exact ⟨fun q => absurd q.1 (by decide), fun q => absurd q.1 (by decide)⟩
  · have := (rsg_cmp _ h3).1
    exact ⟨fun q => ⟨h2, this.mp q.2⟩, fun q => ⟨h1, this.mpr q.2⟩⟩
theorem tk_cmpj {kd vl so va : Int32} (h : rTk kd vl so va) (hq : kd = 5 ∧ ¬ vl < 5 ∧ ¬ 10 < vl) : jtr vl 0 2 va ∧ ¬ vl = 0 ∧ ¬ vl = 1 ∧ ¬ vl = 2 := by
  rcases h with ⟨h1, h2⟩ | ⟨h1, h2⟩ | ⟨h1, h2, -⟩ | ⟨h1, h2, -⟩ | ⟨h1, h2, -⟩ | ⟨h1, h2, h3⟩
  · subst h1 h2; exact absurd hq.1 (by decide)
  · subst h1 h2; exact absurd hq.1 (by decide)
  · subst h1 h2; exact absurd hq.1 (by decide)
  · subst h1 h2; exact absurd hq.1 (by decide)
  · subst h1 h2; exact absurd hq.1 (by decide)
  · exact (rsg_cmp _ h3).2 hq.2
theorem X_cmp {D D' N r a0 op kc nd d : Nat} {f : Nat → Int32} {g : Nat → Nat → Int32} {n2 : Nat → Nat → Int64} {p : Nat → Nat → Int32} {pa : Nat → Nat → Nat → Int32} {s : Nat → Nat → Int32} {sa : Nat → Nat → Nat → Int32} {sw : Bool} {t : List jE} {z : Nat × Nat × Nat × (Nat → Int32)} {w : Bool} {cx : jCX} {mf : Nat → Int32} {mg : Nat → Nat → Int32} {mn : Nat → Nat → Int64} {mb : Nat → Nat → Int32} {ml : Nat → Int64} {t1 : List jE} {z1 : Nat × Nat × Nat × (Nat → Int32)} (h : rEx N r a0 op kc nd d g f (p (jq w)) (pa (jq w)) mf mg)
    (HS : ∀ (f : Nat → Int32) (p : Nat → Nat → Int32) (pa : Nat → Nat → Nat → Int32) (mf : Nat → Int32) (mg : Nat → Nat → Int32) (kc1 nd d : Nat), kc ≤ kc1 → rEx N r a0 op kc1 nd d g f (p (jq w)) (pa (jq w)) mf mg → ((∃ f' p' pa' mf' mg' kc' nd', K_r_readSum D w (Int32.ofNat op) f g n2 p pa s sa sw t z = some (.inl (some (.int 1)), (jX f' g n2 p' pa' s sa sw (.ref (jpl w)) t, z)) ∧ K_m_sum D' cx mf mg mn mb ml t1 z1 = some (.inl none, (jXt cx (jY mf' mg' mn mb ml t1), z1)) ∧ xF r a0 (jq w) f p pa mf mg f' p' pa' mf' mg' ∧ rEx N r a0 (op) kc' nd' (d + 1) g f' (p' (jq w)) (pa' (jq w)) mf' mg' ∧ kc' + nd = kc1 + nd' ∧ kc1 ≤ kc') ∨ (∃ f' p' pa' mf' mg', K_r_readSum D w (Int32.ofNat op) f g n2 p pa s sa sw t z = some (.inl (some (.int 0)), (jX f' g n2 p' pa' s sa sw (.ref (jpl w)) t, z)) ∧ K_m_sum D' cx mf mg mn mb ml t1 z1 = some (.inl none, (jXt cx (jY mf' mg' mn mb ml t1), z1)) ∧ xF r a0 (jq w) f p pa mf mg f' p' pa' mf' mg' ∧ ¬ mf' 9 = 0 ∧ f' 7 = mf' 9 ∧ f' 8 = mf' 10)))
    (HB : ∀ (mf : Nat → Int32) (mg : Nat → Nat → Int32), ¬ mf 9 = 0 → K_m_sum D' cx mf mg mn mb ml t1 z1 = some (.inl none, (jXt cx (jY mf mg mn mb ml t1), z1))) :
    ((∃ f' p' pa' mf' mg' kc' nd', K_r_readCompared (D + 1) w (Int32.ofNat op) f g n2 p pa s sa sw t z = some (.inl (some (.int 1)), (jX f' g n2 p' pa' s sa sw (.ref (jpl w)) t, z)) ∧ jbO (K_m_sum D' cx mf mg mn mb ml t1 z1) (jk (D' + 1) 169 17 ([some (.ref 79), none], []) []) = some (.inl none, (jXt cx (jY mf' mg' mn mb ml t1), z1)) ∧ xF r a0 (jq w) f p pa mf mg f' p' pa' mf' mg' ∧ rEx N r a0 (op) kc' nd' (d + 1) g f' (p' (jq w)) (pa' (jq w)) mf' mg' ∧ kc' + nd = kc + nd' ∧ kc ≤ kc') ∨ (∃ f' p' pa' mf' mg', K_r_readCompared (D + 1) w (Int32.ofNat op) f g n2 p pa s sa sw t z = some (.inl (some (.int 0)), (jX f' g n2 p' pa' s sa sw (.ref (jpl w)) t, z)) ∧ jbO (K_m_sum D' cx mf mg mn mb ml t1 z1) (jk (D' + 1) 169 17 ([some (.ref 79), none], []) []) = some (.inl none, (jXt cx (jY mf' mg' mn mb ml t1), z1)) ∧ xF r a0 (jq w) f p pa mf mg f' p' pa' mf' mg' ∧ ¬ mf' 9 = 0 ∧ f' 7 = mf' 9 ∧ f' 8 = mf' 10)) := by
  have n10 : ¬ (1 : Int32) = 0 := by decide
  rw [E_r_readCompared]
  rcases HS f p pa mf mg kc nd d (Nat.le_refl kc) h with ⟨f2, p2, pa2, mf2, mg2, kc2, nd2, i1, i2, F2, i4, i5, i6⟩ | ⟨f2, p2, pa2, mf2, mg2, i1, i2, F2, b1, b2, b3⟩
  rotate_left
  · right
    refine ⟨f2, p2, pa2, mf2, mg2, ?_, ?_, F2, b1, b2, b3⟩
    · rw [i1, jbO_some, jk_some, E_r_readCompared_3, if_pos rfl]
    · rw [i2, jbO_some, jk_none, E_m_negation_17, if_neg b1]
  rw [i1, jbO_some, jk_some, E_r_readCompared_3, if_neg n10, i2, jbO_some, jk_none, E_m_negation_17, if_pos i4.2.2.1]
  have hc := tk_cmp i4.1.2.2
  by_cases hs : f2 11 = 5 ∧ ¬ f2 12 < 5 ∧ ¬ 10 < f2 12
  rotate_left
  · left
    refine ⟨f2, p2, pa2, mf2, mg2, kc2, nd2, ?_, ?_, F2, i4, i5, i6⟩
    · by_cases a1 : f2 11 = 5
      · rw [if_pos a1]
        by_cases a2 : f2 12 < 5
        · rw [if_pos a2]
        · rw [if_neg a2]
          by_cases a3 : 10 < f2 12
          · rw [if_pos a3]
          · exact absurd ⟨a1, a2, a3⟩ hs
      · rw [if_neg a1]
    · have hs' := fun q => hs (hc.mpr q)
      by_cases a1 : mf2 7 = 3
      · rw [if_pos a1, if_neg (fun q => hs' ⟨a1, Or.inl q⟩), if_neg (fun q => hs' ⟨a1, Or.inr (Or.inl q)⟩), if_neg (fun q => hs' ⟨a1, Or.inr (Or.inr (Or.inl q))⟩)]
        by_cases a2 : mf2 8 < 256
        · rw [if_pos a2]
        · exact absurd ⟨a1, Or.inr (Or.inr (Or.inr a2))⟩ hs'
      · rw [if_neg a1]
  obtain ⟨hm7, hm8⟩ := hc.mp hs
  obtain ⟨hjt, hj0, hj1, hj2⟩ := tk_cmpj i4.1.2.2 hs
  have hmk : (if mf2 7 = 3 then (if mf2 8 = 60 then K_m_negation_41 (D' + 1) none cx mf2 mg2 mn mb ml t1 z1 else (if mf2 8 = 62 then K_m_negation_41 (D' + 1) none cx mf2 mg2 mn mb ml t1 z1 else (if mf2 8 = 61 then K_m_negation_41 (D' + 1) none cx mf2 mg2 mn mb ml t1 z1 else (if mf2 8 < 256 then some (.inl none, (jXt cx (jY mf2 mg2 mn mb ml t1), z1)) else K_m_negation_41 (D' + 1) none cx mf2 mg2 mn mb ml t1 z1)))) else some (.inl none, (jXt cx (jY mf2 mg2 mn mb ml t1), z1))) = K_m_negation_41 (D' + 1) none cx mf2 mg2 mn mb ml t1 z1 := by
    rw [if_pos hm7]
    by_cases a1 : mf2 8 = 60
    · rw [if_pos a1]
    · rw [if_neg a1]
      by_cases a2 : mf2 8 = 62
      · rw [if_pos a2]
      · rw [if_neg a2]
        by_cases a3 : mf2 8 = 61
        · rw [if_pos a3]
        · rw [if_neg a3, if_neg (by rcases hm8 with q | q | q | q <;> first | exact absurd q a1 | exact absurd q a2 | exact absurd q a3 | exact q)]
  rw [hmk, if_pos hs.1, if_neg hs.2.1, if_neg hs.2.2, E_m_negation_41]
  rcases X_knot (D := D + 1) (D' := D' + 1) (f := f2) (g := g) (n2 := n2) (p := p2) (pa := pa2) (s := s) (sa := sa) (sw := sw) (t := t) (z := z) (w := w) (cx := cx) (mf := mf2) (mg := mg2) (mn := mn) (mb := mb) (ml := ml) (t1 := t1) (z1 := z1) i4 with ⟨f3, p3, mfa, mf3, k1, k2, k3, F3, k4⟩ | ⟨f3, mf3, k1, k2, F3, b1, b2, b3⟩
  rotate_left
  · right
    refine ⟨f3, p2, pa2, mf3, mg2, ?_, ?_, F2.tr F3, b1, b2, b3⟩
    · rw [k1, jbO_some, jk_some, E_r_readCompared_25, if_pos rfl]
    · rw [k2, jbO_some, jk_none, E_m_negation_46, B_goOn b1, jbO_some, jk_none, E_m_negation_48, HB _ _ b1, jbO_some, jk_none, E_m_negation_50, B_puts b1, jbO_some, jk_none, E_m_negation_54]
  rw [k1, jbO_some, jk_some, E_r_readCompared_25, if_neg n10, k2, jbO_some, jk_none, E_m_negation_46, k3, jbO_some, jk_none, E_m_negation_48]
  rcases HS f3 p3 pa2 mf3 mg2 (kc2 + 1) nd2 (d + 1) (by omega) k4 with ⟨f4, p4, pa4, mf4, mg4, kc4, nd4, j1, j2, F4, j4, j5, j6⟩ | ⟨f4, p4, pa4, mf4, mg4, j1, j2, F4, b1, b2, b3⟩
  rotate_left
  · right
    refine ⟨f4, p4, pa4, mf4, mg4, ?_, ?_, (F2.tr F3).tr F4, b1, b2, b3⟩
    · rw [j1, jbO_some, jk_some, E_r_readCompared_29, if_pos rfl]
    · rw [j2, jbO_some, jk_none, E_m_negation_50, B_puts b1, jbO_some, jk_none, E_m_negation_54]
  have hle := i4.2.2.2.2.2.1.2.2
  obtain ⟨p5, pa5, mg5, e1, e2, F5, e4⟩ := X_emit (D := D + 1) (D' := D' + 1) (d' := d + 1) (k := f2 12) (v := 0) (ms := 2) (mv := mf2 8) (f := f4) (g := g) (n2 := n2) (p := p4) (pa := pa4) (s := s) (sa := sa) (sw := sw) (t := t) (z := z) (w := w) (cx := cx) (mf := mf4) (mg := mg4) (mn := mn) (mb := mb) (ml := ml) (t1 := t1) (z1 := z1) j4 (by omega) hjt (by
    intro kd vl hj hkd hvl
    unfold jdp; rw [hj]; dsimp only; rw [hkd, if_neg hj0, if_neg hj1, if_neg hj2, if_neg (by omega)]; rfl)
  left
  refine ⟨f4, p5, pa5, mf4, mg5, kc4, nd4 + 1, ?_, ?_, ((F2.tr F3).tr F4).tr F5, e4, by omega, by omega⟩
  · rw [j1, jbO_some, jk_some, E_r_readCompared_29, if_neg n10, e1 f4 j4.2.2.2.1.1, jbO_some, jk_some, E_r_readCompared_34, if_neg n10]
  · rw [j2, jbO_some, jk_none, E_m_negation_50, e2 mf4 j4.2.2.1, jbO_some, jk_none, E_m_negation_54]
theorem X_truth_2 {D D0 N r a0 op kc0 : Nat} {g : Nat → Nat → Int32} {n2 : Nat → Nat → Int64} {s : Nat → Nat → Int32} {sa : Nat → Nat → Nat → Int32} {sw : Bool} {t : List jE} {z : Nat × Nat × Nat × (Nat → Int32)} {w : Bool} {cx : jCX} {mn : Nat → Nat → Int64} {mb : Nat → Nat → Int32} {ml : Nat → Int64} {t1 : List jE} {z1 : Nat × Nat × Nat × (Nat → Int32)} (HDpos : 1 ≤ D0)
    (HS : ∀ (f : Nat → Int32) (p : Nat → Nat → Int32) (pa : Nat → Nat → Nat → Int32) (mf : Nat → Int32) (mg : Nat → Nat → Int32) (kc1 nd d D' : Nat), kc0 ≤ kc1 → D0 + (65 - kc1) ≤ D' → rEx N r a0 op kc1 nd d g f (p (jq w)) (pa (jq w)) mf mg → ((∃ f' p' pa' mf' mg' kc' nd', K_r_readCompared D w (Int32.ofNat op) f g n2 p pa s sa sw t z = some (.inl (some (.int 1)), (jX f' g n2 p' pa' s sa sw (.ref (jpl w)) t, z)) ∧ jbO (K_m_sum D' cx mf mg mn mb ml t1 z1) (jk (D' + 1) 169 17 ([some (.ref 79), none], []) []) = some (.inl none, (jXt cx (jY mf' mg' mn mb ml t1), z1)) ∧ xF r a0 (jq w) f p pa mf mg f' p' pa' mf' mg' ∧ rEx N r a0 (op) kc' nd' (d + 1) g f' (p' (jq w)) (pa' (jq w)) mf' mg' ∧ kc' + nd = kc1 + nd' ∧ kc1 ≤ kc') ∨ (∃ f' p' pa' mf' mg', K_r_readCompared D w (Int32.ofNat op) f g n2 p pa s sa sw t z = some (.inl (some (.int 0)), (jX f' g n2 p' pa' s sa sw (.ref (jpl w)) t, z)) ∧ jbO (K_m_sum D' cx mf mg mn mb ml t1 z1) (jk (D' + 1) 169 17 ([some (.ref 79), none], []) []) = some (.inl none, (jXt cx (jY mf' mg' mn mb ml t1), z1)) ∧ xF r a0 (jq w) f p pa mf mg f' p' pa' mf' mg' ∧ ¬ mf' 9 = 0 ∧ f' 7 = mf' 9 ∧ f' 8 = mf' 10)))
    (HB : ∀ (mf : Nat → Int32) (mg : Nat → Nat → Int32) (D' : Nat), D0 ≤ D' → ¬ mf 9 = 0 → K_m_negation (D' + 1) cx mf mg mn mb ml t1 z1 = some (.inl none, (jXt cx (jY mf mg mn mb ml t1), z1))) :
    ∀ (c : Nat) (f : Nat → Int32) (p : Nat → Nat → Int32) (pa : Nat → Nat → Nat → Int32) (mf : Nat → Int32) (mg : Nat → Nat → Int32) (kc nd d m D' : Nat) (d3 : Option Value), 64 - kc ≤ c → kc0 ≤ kc → m ≤ kc → D0 + (65 - kc) ≤ D' → rEx N r a0 op kc nd d g f (p (jq w)) (pa (jq w)) mf mg →
      (∃ f' p' pa' mf' mg' kc' nd' j d1, K_r_readTruth_2 (D + 1) w (Int32.ofNat op) (Int32.ofNat m) d3 f g n2 p pa s sa sw t z = K_r_readTruth_25 (D + 1) w d1 (Int32.ofNat (m + j)) (Int32.ofNat j) f' g n2 p' pa' s sa sw t z ∧ K_m_negation (D' + 1) cx mf mg mn mb ml t1 z1 = some (.inl none, (jXt cx (jY mf' mg' mn mb ml t1), z1)) ∧ xF r a0 (jq w) f p pa mf mg f' p' pa' mf' mg' ∧ rEx N r a0 op kc' nd' (d + 1) g f' (p' (jq w)) (pa' (jq w)) mf' mg' ∧ kc' + nd = kc + nd' ∧ kc + j ≤ kc') ∨
      (∃ f' p' pa' mf' mg', K_r_readTruth_2 (D + 1) w (Int32.ofNat op) (Int32.ofNat m) d3 f g n2 p pa s sa sw t z = some (.inl (some (.int 0)), (jX f' g n2 p' pa' s sa sw (.ref (jpl w)) t, z)) ∧ K_m_negation (D' + 1) cx mf mg mn mb ml t1 z1 = some (.inl none, (jXt cx (jY mf' mg' mn mb ml t1), z1)) ∧ xF r a0 (jq w) f p pa mf mg f' p' pa' mf' mg' ∧ ¬ mf' 9 = 0 ∧ f' 7 = mf' 9 ∧ f' 8 = mf' 10) := by
  have n10 : ¬ (1 : Int32) = 0 := by decide
  -- no further one
  have hno : ∀ (f : Nat → Int32) (p : Nat → Nat → Int32) (pa : Nat → Nat → Nat → Int32) (mf : Nat → Int32) (mg : Nat → Nat → Int32) (kc nd d m D' : Nat) (d3 : Option Value), kc0 ≤ kc → m ≤ kc → D0 + (65 - kc) ≤ D' → rEx N r a0 op kc nd d g f (p (jq w)) (pa (jq w)) mf mg → ¬ (f 11 = 4 ∧ f 12 = 14) →
      (∃ f' p' pa' mf' mg' kc' nd' j d1, K_r_readTruth_2 (D + 1) w (Int32.ofNat op) (Int32.ofNat m) d3 f g n2 p pa s sa sw t z = K_r_readTruth_25 (D + 1) w d1 (Int32.ofNat (m + j)) (Int32.ofNat j) f' g n2 p' pa' s sa sw t z ∧ K_m_negation (D' + 1) cx mf mg mn mb ml t1 z1 = some (.inl none, (jXt cx (jY mf' mg' mn mb ml t1), z1)) ∧ xF r a0 (jq w) f p pa mf mg f' p' pa' mf' mg' ∧ rEx N r a0 op kc' nd' (d + 1) g f' (p' (jq w)) (pa' (jq w)) mf' mg' ∧ kc' + nd = kc + nd' ∧ kc + j ≤ kc') ∨
      (∃ f' p' pa' mf' mg', K_r_readTruth_2 (D + 1) w (Int32.ofNat op) (Int32.ofNat m) d3 f g n2 p pa s sa sw t z = some (.inl (some (.int 0)), (jX f' g n2 p' pa' s sa sw (.ref (jpl w)) t, z)) ∧ K_m_negation (D' + 1) cx mf mg mn mb ml t1 z1 = some (.inl none, (jXt cx (jY mf' mg' mn mb ml t1), z1)) ∧ xF r a0 (jq w) f p pa mf mg f' p' pa' mf' mg' ∧ ¬ mf' 9 = 0 ∧ f' 7 = mf' 9 ∧ f' 8 = mf' 10) := by
    intro f p pa mf mg kc nd d m D' d3 hk0 hm hD h hs
    have h64 : ¬ (64 : Int32) < Int32.ofNat m := jlt_n (a := 64) (by have := h.2.2.2.2.1.2.2; omega) (by have := h.2.2.2.2.1.2.2; omega)
    have hA := tk_word h.1.2.2 (x := 14) (by decide)
    have e1 : K_r_readTruth_2 (D + 1) w (Int32.ofNat op) (Int32.ofNat m) d3 f g n2 p pa s sa sw t z = jbO (K_r_readCompared D w (Int32.ofNat op) f g n2 p pa s sa sw t z) (jk (D + 1) 68 20 ([some (.ref 1), some (.int (Int32.ofNat op)), some (.int (Int32.ofNat m)), d3], []) []) := by
      rw [L_r_readTruth_2, if_neg h64, S_k_isWord, if_neg hs, jbO_some, jk_some, E_r_readTruth_9, if_pos rfl, E_r_readTruth_17]
    have e2 : K_m_negation (D' + 1) cx mf mg mn mb ml t1 z1 = jbO (K_m_sum D' cx mf mg mn mb ml t1 z1) (jk (D' + 1) 169 17 ([some (.ref 79), none], []) []) := by
      rw [E_m_negation, M_isWord, if_neg (fun q : mf 9 = 0 ∧ mf 7 = 0 ∧ mf 8 = 15 => hs (hA.mpr q.2)), jbO_some, jk_some, E_m_negation_3, if_pos rfl]
    rw [e1, e2]
    rcases HS f p pa mf mg kc nd d D' hk0 hD h with ⟨f2, p2, pa2, mf2, mg2, kc2, nd2, i1, i2, F2, i4, i5, i6⟩ | ⟨f2, p2, pa2, mf2, mg2, i1, i2, F2, b1, b2, b3⟩
    · left
      refine ⟨f2, p2, pa2, mf2, mg2, kc2, nd2, 0, some (.int (Int32.ofNat op)), ?_, i2, F2, i4, i5, by omega⟩
      rw [i1, jbO_some, jk_some, E_r_readTruth_20, if_neg n10]; rfl
    · right
      refine ⟨f2, p2, pa2, mf2, mg2, ?_, i2, F2, b1, b2, b3⟩
      rw [i1, jbO_some, jk_some, E_r_readTruth_20, if_pos rfl]
  intro c
  induction c with
  | zero =>
    intro f p pa mf mg kc nd d m D' d3 hc hk0 hm hD h
    by_cases hs : f 11 = 4 ∧ f 12 = 14
    rotate_left
    · exact hno f p pa mf mg kc nd d m D' d3 hk0 hm hD h hs
    have h64 : ¬ (64 : Int32) < Int32.ofNat m := jlt_n (a := 64) (by have := h.2.2.2.2.1.2.2; omega) (by have := h.2.2.2.2.1.2.2; omega)
    have hA := tk_word h.1.2.2 (x := 14) (by decide)
    right
    rcases X_knot (D := D + 1) (D' := D' + 1) (f := f) (g := g) (n2 := n2) (p := p) (pa := pa) (s := s) (sa := sa) (sw := sw) (t := t) (z := z) (w := w) (cx := cx) (mf := mf) (mg := mg) (mn := mn) (mb := mb) (ml := ml) (t1 := t1) (z1 := z1) h with ⟨f3, p3, mfa, mf3, k1, k2, k3, F3, k4⟩ | ⟨f3, mf3, k1, k2, F3, b1, b2, b3⟩
    · have := k4.2.2.2.2.1.2.2; omega
    refine ⟨f3, p, pa, mf3, mg, ?_, ?_, F3, b1, b2, b3⟩
    · rw [L_r_readTruth_2, if_neg h64, S_k_isWord, if_pos hs, jbO_some, jk_some, E_r_readTruth_9, if_neg n10, k1, jbO_some, jk_some, E_r_readTruth_12, if_pos rfl]
    · obtain ⟨D2, rfl⟩ : ∃ D2, D' = D2 + 1 := ⟨D' - 1, by omega⟩
      rw [E_m_negation, M_isWord, if_pos (⟨h.2.2.1, hA.mp hs⟩ : mf 9 = 0 ∧ mf 7 = 0 ∧ mf 8 = 15), jbO_some, jk_some, E_m_negation_3, if_neg n10, k2, jbO_some, jk_none, E_m_negation_6, B_goOn b1, jbO_some, jk_none, E_m_negation_8, HB _ _ _ (by have := h.2.2.2.2.1.2.2; omega) b1, jbO_some, jk_none, E_m_negation_10, B_puts b1, jbO_some, jk_none, E_m_negation_14]
  | succ c ih =>
    intro f p pa mf mg kc nd d m D' d3 hc hk0 hm hD h
    by_cases hs : f 11 = 4 ∧ f 12 = 14
    rotate_left
    · exact hno f p pa mf mg kc nd d m D' d3 hk0 hm hD h hs
    have h64 : ¬ (64 : Int32) < Int32.ofNat m := jlt_n (a := 64) (by have := h.2.2.2.2.1.2.2; omega) (by have := h.2.2.2.2.1.2.2; omega)
    have hA := tk_word h.1.2.2 (x := 14) (by decide)
    obtain ⟨D2, rfl⟩ : ∃ D2, D' = D2 + 1 := ⟨D' - 1, by omega⟩
    rw [L_r_readTruth_2, if_neg h64, S_k_isWord, if_pos hs, jbO_some, jk_some, E_r_readTruth_9, if_neg n10, E_m_negation, M_isWord, if_pos (⟨h.2.2.1, hA.mp hs⟩ : mf 9 = 0 ∧ mf 7 = 0 ∧ mf 8 = 15), jbO_some, jk_some, E_m_negation_3, if_neg n10]
    rcases X_knot (D := D + 1) (D' := D2 + 1 + 1) (f := f) (g := g) (n2 := n2) (p := p) (pa := pa) (s := s) (sa := sa) (sw := sw) (t := t) (z := z) (w := w) (cx := cx) (mf := mf) (mg := mg) (mn := mn) (mb := mb) (ml := ml) (t1 := t1) (z1 := z1) h with ⟨f3, p3, mfa, mf3, k1, k2, k3, F3, k4⟩ | ⟨f3, mf3, k1, k2, F3, b1, b2, b3⟩
    rotate_left
    · right
      refine ⟨f3, p, pa, mf3, mg, ?_, ?_, F3, b1, b2, b3⟩
      · rw [k1, jbO_some, jk_some, E_r_readTruth_12, if_pos rfl]
      · rw [k2, jbO_some, jk_none, E_m_negation_6, B_goOn b1, jbO_some, jk_none, E_m_negation_8, HB _ _ _ (by have := h.2.2.2.2.1.2.2; omega) b1, jbO_some, jk_none, E_m_negation_10, B_puts b1, jbO_some, jk_none, E_m_negation_14]
    have hkc1 := k4.2.2.2.2.1.2.2
    have hle := h.2.2.2.2.2.1.2.2
    rw [k1, jbO_some, jk_some, E_r_readTruth_12, if_neg n10, jsucc, k2, jbO_some, jk_none, E_m_negation_6, k3, jbO_some, jk_none, E_m_negation_8]
    rcases ih f3 p3 pa mf3 mg (kc + 1) nd d (m + 1) D2 d3 (by omega) (by omega) (by omega) (by omega) k4 with ⟨f4, p4, pa4, mf4, mg4, kc4, nd4, j, d1, j1, j2, F4, j4, j5, j6⟩ | ⟨f4, p4, pa4, mf4, mg4, j1, j2, F4, b1, b2, b3⟩
    rotate_left
    · right
      refine ⟨f4, p4, pa4, mf4, mg4, j1, ?_, F3.tr F4, b1, b2, b3⟩
      rw [j2, jbO_some, jk_none, E_m_negation_10, B_puts b1, jbO_some, jk_none, E_m_negation_14]
    have hk4 := j4.2.2.2.2.1.2.2
    obtain ⟨p5, pa5, mg5, e1, e2, F5, e4⟩ := X_emit (D := D + 1) (D' := D2 + 1 + 1) (d' := d + 1) (k := 2) (v := 0) (ms := 2) (mv := 260) (f := f4) (g := g) (n2 := n2) (p := p4) (pa := pa4) (s := s) (sa := sa) (sw := sw) (t := t) (z := z) (w := w) (cx := cx) (mf := mf4) (mg := mg4) (mn := mn) (mb := mb) (ml := ml) (t1 := t1) (z1 := z1) j4 (by omega) (Or.inr (Or.inr (Or.inl ⟨rfl, rfl, rfl⟩))) (by
      intro kd vl hj hkd hvl
      unfold jdp; rw [hj]; dsimp only; rw [hkd, if_neg (by decide), if_neg (by decide), if_pos rfl, if_neg (by omega)])
    left
    refine ⟨f4, p5, pa5, mf4, mg5, kc4, nd4 + 1, j + 1, d1, ?_, ?_, (F3.tr F4).tr F5, e4, by omega, by omega⟩
    · rw [j1, L_r_readTruth_25, if_pos (jlt_t (by omega) (by omega)), e1 f4 j4.2.2.2.1.1, jbO_some, jk_some, E_r_readTruth_32, jsucc, show m + 1 + j = m + (j + 1) by omega]
    · rw [j2, jbO_some, jk_none, E_m_negation_10, e2 mf4 j4.2.2.1, jbO_some, jk_none, E_m_negation_14]
theorem X_truth {D D0 D' N r a0 op kc nd d : Nat} {f : Nat → Int32} {g : Nat → Nat → Int32} {n2 : Nat → Nat → Int64} {p : Nat → Nat → Int32} {pa : Nat → Nat → Nat → Int32} {s : Nat → Nat → Int32} {sa : Nat → Nat → Nat → Int32} {sw : Bool} {t : List jE} {z : Nat × Nat × Nat × (Nat → Int32)} {w : Bool} {cx : jCX} {mf : Nat → Int32} {mg : Nat → Nat → Int32} {mn : Nat → Nat → Int64} {mb : Nat → Nat → Int32} {ml : Nat → Int64} {t1 : List jE} {z1 : Nat × Nat × Nat × (Nat → Int32)} (h : rEx N r a0 op kc nd d g f (p (jq w)) (pa (jq w)) mf mg) (hD : D0 + (65 - kc) ≤ D') (HDpos : 1 ≤ D0)
    (HS : ∀ (f : Nat → Int32) (p : Nat → Nat → Int32) (pa : Nat → Nat → Nat → Int32) (mf : Nat → Int32) (mg : Nat → Nat → Int32) (kc1 nd d D' : Nat), kc ≤ kc1 → D0 + (65 - kc1) ≤ D' → rEx N r a0 op kc1 nd d g f (p (jq w)) (pa (jq w)) mf mg → ((∃ f' p' pa' mf' mg' kc' nd', K_r_readCompared D w (Int32.ofNat op) f g n2 p pa s sa sw t z = some (.inl (some (.int 1)), (jX f' g n2 p' pa' s sa sw (.ref (jpl w)) t, z)) ∧ jbO (K_m_sum D' cx mf mg mn mb ml t1 z1) (jk (D' + 1) 169 17 ([some (.ref 79), none], []) []) = some (.inl none, (jXt cx (jY mf' mg' mn mb ml t1), z1)) ∧ xF r a0 (jq w) f p pa mf mg f' p' pa' mf' mg' ∧ rEx N r a0 (op) kc' nd' (d + 1) g f' (p' (jq w)) (pa' (jq w)) mf' mg' ∧ kc' + nd = kc1 + nd' ∧ kc1 ≤ kc') ∨ (∃ f' p' pa' mf' mg', K_r_readCompared D w (Int32.ofNat op) f g n2 p pa s sa sw t z = some (.inl (some (.int 0)), (jX f' g n2 p' pa' s sa sw (.ref (jpl w)) t, z)) ∧ jbO (K_m_sum D' cx mf mg mn mb ml t1 z1) (jk (D' + 1) 169 17 ([some (.ref 79), none], []) []) = some (.inl none, (jXt cx (jY mf' mg' mn mb ml t1), z1)) ∧ xF r a0 (jq w) f p pa mf mg f' p' pa' mf' mg' ∧ ¬ mf' 9 = 0 ∧ f' 7 = mf' 9 ∧ f' 8 = mf' 10)))
    (HB : ∀ (mf : Nat → Int32) (mg : Nat → Nat → Int32) (D' : Nat), D0 ≤ D' → ¬ mf 9 = 0 → K_m_negation (D' + 1) cx mf mg mn mb ml t1 z1 = some (.inl none, (jXt cx (jY mf mg mn mb ml t1), z1))) :
    ((∃ f' p' pa' mf' mg' kc' nd', K_r_readTruth (D + 1) w (Int32.ofNat op) f g n2 p pa s sa sw t z = some (.inl (some (.int 1)), (jX f' g n2 p' pa' s sa sw (.ref (jpl w)) t, z)) ∧ K_m_negation (D' + 1) cx mf mg mn mb ml t1 z1 = some (.inl none, (jXt cx (jY mf' mg' mn mb ml t1), z1)) ∧ xF r a0 (jq w) f p pa mf mg f' p' pa' mf' mg' ∧ rEx N r a0 (op) kc' nd' (d + 1) g f' (p' (jq w)) (pa' (jq w)) mf' mg' ∧ kc' + nd = kc + nd' ∧ kc ≤ kc') ∨ (∃ f' p' pa' mf' mg', K_r_readTruth (D + 1) w (Int32.ofNat op) f g n2 p pa s sa sw t z = some (.inl (some (.int 0)), (jX f' g n2 p' pa' s sa sw (.ref (jpl w)) t, z)) ∧ K_m_negation (D' + 1) cx mf mg mn mb ml t1 z1 = some (.inl none, (jXt cx (jY mf' mg' mn mb ml t1), z1)) ∧ xF r a0 (jq w) f p pa mf mg f' p' pa' mf' mg' ∧ ¬ mf' 9 = 0 ∧ f' 7 = mf' 9 ∧ f' 8 = mf' 10)) := by
  rw [E_r_readTruth]
  rcases X_truth_2 HDpos HS HB (64 - kc) f p pa mf mg kc nd d 0 D' none (Nat.le_refl _) (Nat.le_refl _) (Nat.zero_le _) hD h with ⟨f4, p4, pa4, mf4, mg4, kc4, nd4, j, d1, j1, j2, F4, j4, j5, j6⟩ | ⟨f4, p4, pa4, mf4, mg4, j1, j2, F4, b1, b2, b3⟩
  · left
    have := j4.2.2.2.2.1.2.2
    refine ⟨f4, p4, pa4, mf4, mg4, kc4, nd4, ?_, j2, F4, j4, j5, by omega⟩
    have j1' : K_r_readTruth_2 (D + 1) w (Int32.ofNat op) 0 none f g n2 p pa s sa sw t z = _ := j1
    rw [j1', L_r_readTruth_25, if_neg (jlt_n (by omega) (by omega))]
  · right
    exact ⟨f4, p4, pa4, mf4, mg4, j1, j2, F4, b1, b2, b3⟩
