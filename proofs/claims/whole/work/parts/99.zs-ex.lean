-- READING AN E: a part
theorem xfail {N r a0 v : Nat} {k : Int32} {f : Nat → Int32} {p : Nat → Nat → Int32} {pa : Nat → Nat → Nat → Int32} {mf : Nat → Int32} {mg : Nat → Nat → Int32} (h1 : rTok N f mf) (hk : ¬ k = 0) :
    xF r a0 v f p pa mf mg (jup (jup f 7 k) 8 (f 13)) p pa (jup (jup mf 10 (mf 6)) 9 k) mg ∧ ¬ (jup (jup mf 10 (mf 6)) 9 k) 9 = 0 ∧ (jup (jup f 7 k) 8 (f 13)) 7 = (jup (jup mf 10 (mf 6)) 9 k) 9 ∧ (jup (jup f 7 k) 8 (f 13)) 8 = (jup (jup mf 10 (mf 6)) 9 k) 10 := by
  refine ⟨⟨fun k hk => by rw [jup_ne (by omega), jup_ne (by omega)], fun j hj => ⟨rfl, rfl⟩, fun k a b => rfl, fun k _ _ => rfl, fun k hk => by rw [jup_ne (by omega), jup_ne (by omega)], fun k _ _ _ => rfl, fun i _ => rfl, fun i _ => ⟨rfl, rfl⟩, Nat.le_of_eq (by rw [jup_ne (by omega), jup_ne (by omega)]), fun q => by rw [jup_same] at q; exact absurd q hk⟩, ?_, ?_, ?_⟩
  · rw [jup_same]; exact hk
  · rw [jup_ne (by omega), jup_same, jup_same]
  · obtain ⟨pl, -, a1, a2⟩ := h1.2.1
    rw [jup_same, jup_ne (by omega), jup_same, a1, a2]
theorem tk_num {kd vl so va : Int32} (h : rTk kd vl so va) : kd = 2 ↔ so = 2 := by
  rcases h with ⟨h1, h2⟩ | ⟨h1, h2⟩ | ⟨h1, h2, -⟩ | ⟨h1, h2, -⟩ | ⟨h1, h2, -⟩ | ⟨h1, h2, -⟩ <;> subst h1 h2 <;> decide
theorem tk_wd {kd vl so va : Int32} (h : rTk kd vl so va) : kd = 4 ↔ so = 0 := by
  rcases h with ⟨h1, h2⟩ | ⟨h1, h2⟩ | ⟨h1, h2, -⟩ | ⟨h1, h2, -⟩ | ⟨h1, h2, -⟩ | ⟨h1, h2, -⟩ <;> subst h1 h2 <;> decide
theorem wmp_name : ∀ x, x < 22 → (x < 15 → wmp x < 16 ∧ ¬ wmp x = 6) ∧ (¬ x < 15 → (wmp x = 6 ∧ x - 15 = 2) ∨ (16 ≤ wmp x ∧ wmp x - 16 = x - 15 ∧ ¬ wmp x = 6)) := by decide +kernel
/-- behind a fault, a part of the reference comes to its end -/
theorem B_primary_86 {D : Nat} {x : Int32} {cx : jCX} {f : Nat → Int32} {g : Nat → Nat → Int32} {n : Nat → Nat → Int64} {b : Nat → Nat → Int32} {l : Nat → Int64} {t : List jE} {z : Nat × Nat × Nat × (Nat → Int32)} (h : ¬ f 9 = 0) : K_m_primary_86 D x cx f g n b l t z = some (.inl none, (jXt cx (jY f g n b l t), z)) := by
  have h109 : ∀ d1 u0 u1, K_m_primary_109 D d1 u0 u1 cx f g n b l t z = some (.inl none, (jXt cx (jY f g n b l t), z)) := by
    intro d1 u0 u1
    rw [E_m_primary_109, B_puts h, jbO_some, jk_none, E_m_primary_110, B_goOn h, jbO_some, jk_none, E_m_primary_112]
  have h94 : ∀ u, K_m_primary_94 D x u cx f g n b l t z = some (.inl none, (jXt cx (jY f g n b l t), z)) := by
    intro u
    rw [E_m_primary_94]
    split
    · split <;> exact h109 _ _ _
    · exact h109 _ _ _
  rw [E_m_primary_86, B_knot h, jbO_some, jk_none, E_m_primary_88]
  split <;> exact h94 _
theorem X_part {D D' N r a0 op kc nd d : Nat} {f : Nat → Int32} {g : Nat → Nat → Int32} {n2 : Nat → Nat → Int64} {p : Nat → Nat → Int32} {pa : Nat → Nat → Nat → Int32} {s : Nat → Nat → Int32} {sa : Nat → Nat → Nat → Int32} {sw : Bool} {t : List jE} {z : Nat × Nat × Nat × (Nat → Int32)} {w : Bool} {cx : jCX} {mf : Nat → Int32} {mg : Nat → Nat → Int32} {mn : Nat → Nat → Int64} {mb : Nat → Nat → Int32} {ml : Nat → Int64} {t1 : List jE} {z1 : Nat × Nat × Nat × (Nat → Int32)} (h : rEx N r a0 op kc nd d g f (p (jq w)) (pa (jq w)) mf mg) (hD : 7 * (8 - op) + 1 ≤ D) (hD' : 6 * (8 - op) + 1 + (65 - kc) ≤ D')
    (IH : op < 8 → ∀ (f : Nat → Int32) (p : Nat → Nat → Int32) (pa : Nat → Nat → Nat → Int32) (mf : Nat → Int32) (mg : Nat → Nat → Int32) (kc nd d D D' : Nat), 7 * (8 - op) ≤ D → 6 * (8 - op) + (65 - kc) ≤ D' → rEx N r a0 (op + 1) kc nd d g f (p (jq w)) (pa (jq w)) mf mg →
      ((∃ f' p' pa' mf' mg' kc' nd', K_r_readEither D w (Int32.ofNat (op + 1)) f g n2 p pa s sa sw t z = some (.inl (some (.int 1)), (jX f' g n2 p' pa' s sa sw (.ref (jpl w)) t, z)) ∧ K_m_expression D' cx mf mg mn mb ml t1 z1 = some (.inl none, (jXt cx (jY mf' mg' mn mb ml t1), z1)) ∧ xF r a0 (jq w) f p pa mf mg f' p' pa' mf' mg' ∧ rEx N r a0 (op + 1) kc' nd' (d + 1) g f' (p' (jq w)) (pa' (jq w)) mf' mg' ∧ kc' + nd = kc + nd' ∧ kc ≤ kc') ∨ (∃ f' p' pa' mf' mg', K_r_readEither D w (Int32.ofNat (op + 1)) f g n2 p pa s sa sw t z = some (.inl (some (.int 0)), (jX f' g n2 p' pa' s sa sw (.ref (jpl w)) t, z)) ∧ K_m_expression D' cx mf mg mn mb ml t1 z1 = some (.inl none, (jXt cx (jY mf' mg' mn mb ml t1), z1)) ∧ xF r a0 (jq w) f p pa mf mg f' p' pa' mf' mg' ∧ ¬ mf' 9 = 0 ∧ f' 7 = mf' 9 ∧ f' 8 = mf' 10))) :
    ((∃ f' p' pa' mf' mg' kc' nd', K_r_readPart D w (Int32.ofNat op) f g n2 p pa s sa sw t z = some (.inl (some (.int 1)), (jX f' g n2 p' pa' s sa sw (.ref (jpl w)) t, z)) ∧ K_m_primary D' cx mf mg mn mb ml t1 z1 = some (.inl none, (jXt cx (jY mf' mg' mn mb ml t1), z1)) ∧ xF r a0 (jq w) f p pa mf mg f' p' pa' mf' mg' ∧ rEx N r a0 (op) kc' nd' (d + 1) g f' (p' (jq w)) (pa' (jq w)) mf' mg' ∧ kc' + nd = kc + nd' ∧ kc ≤ kc') ∨ (∃ f' p' pa' mf' mg', K_r_readPart D w (Int32.ofNat op) f g n2 p pa s sa sw t z = some (.inl (some (.int 0)), (jX f' g n2 p' pa' s sa sw (.ref (jpl w)) t, z)) ∧ K_m_primary D' cx mf mg mn mb ml t1 z1 = some (.inl none, (jXt cx (jY mf' mg' mn mb ml t1), z1)) ∧ xF r a0 (jq w) f p pa mf mg f' p' pa' mf' mg' ∧ ¬ mf' 9 = 0 ∧ f' 7 = mf' 9 ∧ f' 8 = mf' 10)) := by
  have h0 := h
  obtain ⟨h1, h2, h3, ⟨h4, hr⟩, ⟨h5, h5', h5''⟩, ⟨h6, h6', h6''⟩, h7, h8', ⟨h9, h9'⟩⟩ := h
  have hs40 := tk_sign h1.2.2 (a := 101) (c := 40) (by decide)
  -- a fault that the class finds at once
  have hbad1 : ¬ f 11 = 2 → (f 11 = 4 → f 12 < 15) → ¬ (f 11 = 5 ∧ f 12 = 101) → (K_r_readPart D w (Int32.ofNat op) f g n2 p pa s sa sw t z = some (.inl (some (.int 0)), (jX (jup (jup f 7 1) 8 (f 13)) g n2 p pa s sa sw (.ref (jpl w)) t, z))) := by
    intro b1 b2 b3
    have h48 : ∀ d2, K_r_readPart_48 D w (Int32.ofNat op) d2 f g n2 p pa s sa sw t z = some (.inl (some (.int 0)), (jX (jup (jup f 7 1) 8 (f 13)) g n2 p pa s sa sw (.ref (jpl w)) t, z)) := by
      intro d2
      rw [E_r_readPart_48, S_k_isSign, if_neg b3, jbO_some, jk_some, E_r_readPart_52, if_pos rfl, E_r_fail, jbO_some, jk_some, E_r_readPart_56, if_pos (Or.inl rfl)]
    rw [E_r_readPart, if_neg b1]
    by_cases b4 : f 11 = 4
    · rw [if_pos b4, if_pos (b2 b4)]; exact h48 _
    · rw [if_neg b4]; exact h48 _
  have rbad : ¬ (mf 9 = 0 ∧ mf 7 = 3 ∧ mf 8 = 40) → ¬ mf 7 = 2 → (mf 7 = 0 → mf 8 < 16 ∧ ¬ mf 8 = 6) → K_m_primary D' cx mf mg mn mb ml t1 z1 = some (.inl none, (jXt cx (jY (jup (jup mf 10 (mf 6)) 9 1) mg mn mb ml t1), z1)) := by
    intro b1 b2 b3
    have h83 : K_m_primary_83 D' 0 cx mf mg mn mb ml t1 z1 = some (.inl none, (jXt cx (jY (jup (jup mf 10 (mf 6)) 9 1) mg mn mb ml t1), z1)) := by
      rw [E_m_primary_83, M_wrong h3, jbO_some, jk_none, F_m_primary_86, B_primary_86 (by rw [jup_same]; decide)]
    rw [E_m_primary, if_pos h3, M_isSign, if_neg b1, jbO_some, jk_some, E_m_primary_7, if_pos rfl, if_neg b2, E_m_primary_59, if_pos rfl, E_m_primary_70, if_pos rfl]
    by_cases b4 : mf 7 = 0
    · rw [if_pos b4, if_pos (b3 b4).1, if_neg (b3 b4).2]; exact h83
    · rw [if_neg b4]; exact h83
  -- a number or a name, put behind a knot
  have hput : ∀ (k v ms mv : Int32), (k = 0 ∧ ms = 0 ∨ k = 1 ∧ ms = 1 ∧ ¬ jout v 7) → mv = v →
      (∀ (KT : Option (jO × jH)), K_r_takeKnot D w f g n2 p pa s sa sw t z = KT → ∀ f' p', KT = some (.inl (some (.int 1)), (jX f' g n2 p' pa s sa sw (.ref (jpl w)) t, z)) → ∀ p'' pa'', K_r_emit D w k v f' g n2 p' pa s sa sw t z = some (.inl (some (.int 1)), (jX f' g n2 p'' pa'' s sa sw (.ref (jpl w)) t, z)) → K_r_readPart D w (Int32.ofNat op) f g n2 p pa s sa sw t z = some (.inl (some (.int 1)), (jX f' g n2 p'' pa'' s sa sw (.ref (jpl w)) t, z))) →
      (∀ f', K_r_takeKnot D w f g n2 p pa s sa sw t z = some (.inl (some (.int 0)), (jX f' g n2 p pa s sa sw (.ref (jpl w)) t, z)) → K_r_readPart D w (Int32.ofNat op) f g n2 p pa s sa sw t z = some (.inl (some (.int 0)), (jX f' g n2 p pa s sa sw (.ref (jpl w)) t, z))) →
      (∀ mfa mfb mgb, K_m_knot D' cx mf mg mn mb ml t1 z1 = some (.inl none, (jXt cx (jY mfa mg mn mb ml t1), z1)) → mfa 8 = mf 8 → K_m_puts D' ms mv cx mfa mg mn mb ml t1 z1 = some (.inl none, (jXt cx (jY mfa mgb mn mb ml t1), z1)) → K_m_goOn D' cx mfa mgb mn mb ml t1 z1 = some (.inl none, (jXt cx (jY mfb mgb mn mb ml t1), z1)) → K_m_primary D' cx mf mg mn mb ml t1 z1 = some (.inl none, (jXt cx (jY mfb mgb mn mb ml t1), z1))) →
      ((∃ f' p' pa' mf' mg' kc' nd', K_r_readPart D w (Int32.ofNat op) f g n2 p pa s sa sw t z = some (.inl (some (.int 1)), (jX f' g n2 p' pa' s sa sw (.ref (jpl w)) t, z)) ∧ K_m_primary D' cx mf mg mn mb ml t1 z1 = some (.inl none, (jXt cx (jY mf' mg' mn mb ml t1), z1)) ∧ xF r a0 (jq w) f p pa mf mg f' p' pa' mf' mg' ∧ rEx N r a0 (op) kc' nd' (d + 1) g f' (p' (jq w)) (pa' (jq w)) mf' mg' ∧ kc' + nd = kc + nd' ∧ kc ≤ kc') ∨ (∃ f' p' pa' mf' mg', K_r_readPart D w (Int32.ofNat op) f g n2 p pa s sa sw t z = some (.inl (some (.int 0)), (jX f' g n2 p' pa' s sa sw (.ref (jpl w)) t, z)) ∧ K_m_primary D' cx mf mg mn mb ml t1 z1 = some (.inl none, (jXt cx (jY mf' mg' mn mb ml t1), z1)) ∧ xF r a0 (jq w) f p pa mf mg f' p' pa' mf' mg' ∧ ¬ mf' 9 = 0 ∧ f' 7 = mf' 9 ∧ f' 8 = mf' 10)) := by
    intro k v ms mv hkm hmv c1 c2 c3
    by_cases hk : kc < 64
    · left
      have hR1 : rEx N r a0 op (kc + 1) nd d g f (jup (p (jq w)) 9 (p (jq w) 9 + 1)) (pa (jq w)) (jup mf 14 (mf 14 + 1)) mg := by
        refine ⟨⟨⟨h1.1.1, h1.1.2.1, ?_, ?_⟩, ?_, ?_⟩, h2, ?_, ⟨h4, hr⟩, ⟨?_, ?_, by omega⟩, ⟨?_, h6', by omega⟩, h7, h8', ?_, h9'⟩
        · rw [jup_ne (by omega)]; exact h1.1.2.2.1
        · rw [jup_ne (by omega)]; exact h1.1.2.2.2
        · rw [jup_ne (by omega)]; exact h1.2.1
        · rw [jup_ne (by omega), jup_ne (by omega)]; exact h1.2.2
        · rw [jup_ne (by omega)]; exact h3
        · rw [jup_same, h5, jsucc]
        · rw [jup_same, h5', jsucc]
        · rw [jup_ne (by omega)]; exact h6
        · rw [jup_ne (by omega)]; exact h9
      have hR1' : rEx N r a0 op (kc + 1) nd d g f ((jup p (jq w) (jup (p (jq w)) 9 (p (jq w) 9 + 1))) (jq w)) (pa (jq w)) (jup mf 14 (mf 14 + 1)) mg := by rw [jup_same]; exact hR1
      obtain ⟨p2, pa2, mg2, e1, e2, e3, e4⟩ := X_emit (D := D) (D' := D') (d' := d + 1) (k := k) (v := v) (ms := ms) (mv := mv) (g := g) (n2 := n2) (s := s) (sa := sa) (sw := sw) (t := t) (z := z) (w := w) (cx := cx) (mn := mn) (mb := mb) (ml := ml) (t1 := t1) (z1 := z1) hR1' (by omega)
        (by rcases hkm with ⟨q1, q2⟩ | ⟨q1, q2, -⟩
            · exact Or.inl ⟨q1, q2, hmv⟩
            · exact Or.inr (Or.inl ⟨q1, q2, hmv⟩))
        (by intro kd vl hj hkd hvl
            unfold jdp; rw [hj]; dsimp only; rw [hkd, hvl]
            rcases hkm with ⟨q1, q2⟩ | ⟨q1, q2, q3⟩
            · rw [if_pos q1]
            · rw [if_neg (by rw [q1]; decide), if_pos q1, if_neg q3])
      obtain ⟨f', mf', s1, s2, s3, s4, s5, s6⟩ := X_step (D := D) (D' := D') (f := f) (g := g) (n2 := n2) (p := jup p (jq w) (jup (p (jq w)) 9 (p (jq w) 9 + 1))) (pa := pa) (s := s) (sa := sa) (sw := sw) (rp := .ref (jpl w)) (t := t) (z := z) (cx := cx) (mf := jup mf 14 (mf 14 + 1)) (mg := mg2) (mn := mn) (mb := mb) (ml := ml) (t1 := t1) (z1 := z1) e4
      have hne : ¬ Int32.ofNat kc = 64 := by intro q; have := jofinj (b := 64) (by omega) (by omega) q; omega
      have hknot : K_m_knot D' cx mf mg mn mb ml t1 z1 = some (.inl none, (jXt cx (jY (jup mf 14 (mf 14 + 1)) mg mn mb ml t1), z1)) := by rw [E_m_knot, if_pos h3, if_neg (by rw [h5']; exact hne)]
      have htake : K_r_takeKnot D w f g n2 p pa s sa sw t z = some (.inl (some (.int 1)), (jX f' g n2 (jup p (jq w) (jup (p (jq w)) 9 (p (jq w) 9 + 1))) pa s sa sw (.ref (jpl w)) t, z)) := by
        rw [E_r_takeKnot, if_pos (by rw [h5]; exact jlt_t (b := 64) hk (by omega)), s1, jbO_some, jk_none, E_r_takeKnot_19]
      refine ⟨f', p2, pa2, mf', mg2, kc + 1, nd + 1, c1 _ rfl f' _ htake p2 pa2 (e1 f' ((s4 6 (by omega)).trans h4)), c3 _ mf' mg2 hknot (by rw [jup_ne (by omega)]) (e2 _ (by rw [jup_ne (by omega)]; exact h3)) ?_, ?_, s3, by omega, by omega⟩
      · rw [E_m_goOn, if_pos (by rw [jup_ne (by omega)]; exact h3), s2, jbO_some, jk_none, E_m_goOn_5]
      · have t1' : xF r a0 (jq w) f p pa mf mg f (jup p (jq w) (jup (p (jq w)) 9 (p (jq w) 9 + 1))) pa (jup mf 14 (mf 14 + 1)) mg :=
          ⟨fun k _ => rfl, fun j hj => ⟨jup_ne hj, rfl⟩, fun k a b => by rw [jup_same, jup_ne a], fun k _ _ => rfl, fun k hk => by rw [jup_ne (by omega)], fun k _ _ _ => rfl, fun i _ => rfl, fun i _ => ⟨rfl, rfl⟩, Nat.le_refl _, fun _ => ⟨h3, rfl, rfl, by rw [jup_ne (by omega)]⟩⟩
        have t2' : xF r a0 (jq w) f p2 pa2 (jup mf 14 (mf 14 + 1)) mg2 f' p2 pa2 mf' mg2 :=
          ⟨fun k hk => s4 k (by omega), fun j hj => ⟨rfl, rfl⟩, fun k a b => rfl, fun k _ _ => rfl, fun k hk => s5 k (by omega), fun k _ _ _ => rfl, fun i _ => rfl, fun i _ => ⟨rfl, rfl⟩, s6, fun _ => ⟨by rw [jup_ne (by omega)]; exact h3, s4 7 (by omega), s4 8 (by omega), s5 10 (by omega)⟩⟩
        exact (t1'.tr e3).tr t2'
    · right
      obtain ⟨k3, k4, k5, k6⟩ := xfail (r := r) (a0 := a0) (v := jq w) (k := 2) (p := p) (pa := pa) (mg := mg) h1 (by decide)
      have hkc : kc = 64 := by omega
      have k1 : K_r_takeKnot D w f g n2 p pa s sa sw t z = some (.inl (some (.int 0)), (jX (jup (jup f 7 2) 8 (f 13)) g n2 p pa s sa sw (.ref (jpl w)) t, z)) := by
        rw [E_r_takeKnot, if_neg (by rw [h5]; exact jlt_n (b := 64) (by omega) (by omega)), E_r_fail, jbO_some, jk_some, E_r_takeKnot_8, if_pos (Or.inl rfl)]
      have k2 : K_m_knot D' cx mf mg mn mb ml t1 z1 = some (.inl none, (jXt cx (jY (jup (jup mf 10 (mf 6)) 9 2) mg mn mb ml t1), z1)) := by
        rw [E_m_knot, if_pos h3, if_pos (by rw [h5', hkc]; rfl), M_wrong h3, jbO_some, jk_none, E_m_knot_11]
      exact ⟨_, p, pa, _, mg, c2 _ k1, c3 _ _ mg k2 (by rw [jup_ne (by omega), jup_ne (by omega)]) (B_puts k4) (B_goOn k4), k3, k4, k5, k6⟩
  -- by the token
  obtain ⟨x3, x4, x5, x6⟩ := xfail (r := r) (a0 := a0) (v := jq w) (k := 1) (p := p) (pa := pa) (mg := mg) h1 (by decide)
  obtain ⟨y3, y4, y5, y6⟩ := xfail (r := r) (a0 := a0) (v := jq w) (k := 2) (p := p) (pa := pa) (mg := mg) h1 (by decide)
  have hend1 : ¬ f 11 = 2 → (f 11 = 4 → f 12 < 15) → ¬ (f 11 = 5 ∧ f 12 = 101) → ¬ (mf 9 = 0 ∧ mf 7 = 3 ∧ mf 8 = 40) → ¬ mf 7 = 2 → (mf 7 = 0 → mf 8 < 16 ∧ ¬ mf 8 = 6) →
      ((∃ f' p' pa' mf' mg' kc' nd', K_r_readPart D w (Int32.ofNat op) f g n2 p pa s sa sw t z = some (.inl (some (.int 1)), (jX f' g n2 p' pa' s sa sw (.ref (jpl w)) t, z)) ∧ K_m_primary D' cx mf mg mn mb ml t1 z1 = some (.inl none, (jXt cx (jY mf' mg' mn mb ml t1), z1)) ∧ xF r a0 (jq w) f p pa mf mg f' p' pa' mf' mg' ∧ rEx N r a0 (op) kc' nd' (d + 1) g f' (p' (jq w)) (pa' (jq w)) mf' mg' ∧ kc' + nd = kc + nd' ∧ kc ≤ kc') ∨ (∃ f' p' pa' mf' mg', K_r_readPart D w (Int32.ofNat op) f g n2 p pa s sa sw t z = some (.inl (some (.int 0)), (jX f' g n2 p' pa' s sa sw (.ref (jpl w)) t, z)) ∧ K_m_primary D' cx mf mg mn mb ml t1 z1 = some (.inl none, (jXt cx (jY mf' mg' mn mb ml t1), z1)) ∧ xF r a0 (jq w) f p pa mf mg f' p' pa' mf' mg' ∧ ¬ mf' 9 = 0 ∧ f' 7 = mf' 9 ∧ f' 8 = mf' 10)) :=
    fun b1 b2 b3 b4 b5 b6 => Or.inr ⟨_, p, pa, _, mg, hbad1 b1 b2 b3, rbad b4 b5 b6, x3, x4, x5, x6⟩
  rcases h1.2.2 with ⟨t1', t2'⟩ | ⟨t1', t2'⟩ | ⟨t1', t2', x, y, hx, hy, hx6, hy6, hxy⟩ | ⟨t1', t2', -⟩ | ⟨t1', t2', x, hx, hvl, hva⟩ | ⟨t1', t2', t3'⟩
  · exact hend1 (by rw [t1']; decide) (by rw [t1']; intro q; exact absurd q (by decide)) (by rw [t1']; intro q; exact absurd q.1 (by decide)) (by rw [t2']; intro q; exact absurd q.2.1 (by decide)) (by rw [t2']; decide) (by rw [t2']; intro q; exact absurd q (by decide))
  · exact hend1 (by rw [t1']; decide) (by rw [t1']; intro q; exact absurd q (by decide)) (by rw [t1']; intro q; exact absurd q.1 (by decide)) (by rw [t2']; intro q; exact absurd q.2.1 (by decide)) (by rw [t2']; decide) (by rw [t2']; intro q; exact absurd q (by decide))
  · -- a number
    have hn40 : ¬ (mf 9 = 0 ∧ mf 7 = 3 ∧ mf 8 = 40) := by rw [t2']; intro q; exact absurd q.2.1 (by decide)
    have hn0 : ¬ f 12 < 0 := by rw [hx]; exact jnonneg (by omega)
    by_cases hbig : 9999 < x
    · have hy9 : 9999 < y := by omega
      refine Or.inr ⟨_, p, pa, _, mg, ?_, ?_, y3, y4, y5, y6⟩
      · rw [E_r_readPart, if_pos t1', E_r_isNumber, if_pos t1', if_neg hn0, if_pos (by rw [hx]; exact jlt_t (a := 9999) hbig (by omega)), E_r_isNumber_19, E_r_fail, jbO_some, jk_some, E_r_isNumber_22, if_pos (Or.inl rfl), jbO_some, jk_some, E_r_readPart_13, if_pos rfl]
      · rw [E_m_primary, if_pos h3, M_isSign, if_neg hn40, jbO_some, jk_some, E_m_primary_7, if_pos rfl, if_pos t2', E_m_primary_59, if_neg (by decide), if_pos (by rw [hy]; exact jlt_t (a := 9999) hy9 (by omega)), M_wrong h3, jbO_some, jk_none, E_m_primary_69, B_primary_86 (by rw [jup_same]; decide)]
    · have hxe : x = y := by omega
      have hlt1 : ¬ 9999 < f 12 := by rw [hx]; exact jlt_n (a := 9999) (by omega) (by omega)
      have hlt2 : ¬ 9999 < mf 8 := by rw [hy]; exact jlt_n (a := 9999) (by omega) (by omega)
      have hnum : K_r_isNumber D w 0 9999 f g n2 p pa s sa sw t z = some (.inl (some (.int 1)), (jX f g n2 p pa s sa sw (.ref (jpl w)) t, z)) := by
        rw [E_r_isNumber, if_pos t1', if_neg hn0, if_neg hlt1]
      refine hput 0 (f 12) 0 (mf 8) (Or.inl ⟨rfl, rfl⟩) (by rw [hx, hy, hxe]) ?_ ?_ ?_
      · intro KT e1 f' p' e2 p'' pa'' e3
        rw [E_r_readPart, if_pos t1', hnum, jbO_some, jk_some, E_r_readPart_13, if_neg (by decide), e1, e2, jbO_some, jk_some, E_r_readPart_16, if_neg (by decide), e3, jbO_some, jk_some, E_r_readPart_21, if_neg (by decide)]
      · intro f' e1
        rw [E_r_readPart, if_pos t1', hnum, jbO_some, jk_some, E_r_readPart_13, if_neg (by decide), e1, jbO_some, jk_some, E_r_readPart_16, if_pos rfl]
      · intro mfa mfb mgb e1 e8 e2 e3
        rw [E_m_primary, if_pos h3, M_isSign, if_neg hn40, jbO_some, jk_some, E_m_primary_7, if_pos rfl, if_pos t2', E_m_primary_59, if_neg (by decide), if_neg hlt2, E_m_primary_70, if_neg (by decide), E_m_primary_86, e1, jbO_some, jk_none, E_m_primary_88, if_neg (by decide), E_m_primary_94, if_neg (by decide), E_m_primary_109, e8, e2, jbO_some, jk_none, E_m_primary_110, e3, jbO_some, jk_none, E_m_primary_112]
  · exact hend1 (by rw [t1']; decide) (by rw [t1']; intro q; exact absurd q (by decide)) (by rw [t1']; intro q; exact absurd q.1 (by decide)) (by rw [t2']; intro q; exact absurd q.2.1 (by decide)) (by rw [t2']; decide) (by rw [t2']; intro q; exact absurd q (by decide))
  · -- a word
    have hn40 : ¬ (mf 9 = 0 ∧ mf 7 = 3 ∧ mf 8 = 40) := by rw [t2']; intro q; exact absurd q.2.1 (by decide)
    have hwn := wmp_name x hx
    have hw23 := wmp_lt x hx
    by_cases h15 : x < 15
    · obtain ⟨a1, a2⟩ := hwn.1 h15
      refine hend1 (by rw [t1']; decide) (fun _ => by rw [hvl]; exact jlt_t (b := 15) h15 (by omega)) (by rw [t1']; intro q; exact absurd q.1 (by decide)) hn40 (by rw [t2']; decide) (fun _ => ⟨by rw [hva]; exact jlt_t (b := 16) a1 (by omega), ?_⟩)
      rw [hva]; intro q; exact a2 (jofinj (b := 6) (by omega) (by omega) q)
    · have h15' : ¬ f 12 < 15 := by rw [hvl]; exact jlt_n (b := 15) (by omega) (by omega)
      have hv : f 12 - 15 = Int32.ofNat (x - 15) := by rw [hvl]; exact (Int32.ofNat_sub x 15 (by omega)).symm
      have hn2 : ¬ f 11 = 2 := by rw [t1']; decide
      refine hput 1 (f 12 - 15) 1 (if mf 8 = 6 then 2 else mf 8 - 16) (Or.inr ⟨rfl, rfl, by rw [hv]; exact jout_n (by omega) (by omega)⟩) ?_ ?_ ?_ ?_
      · rw [hv, hva]
        rcases hwn.2 h15 with ⟨a1, a2⟩ | ⟨a1, a2, a3⟩
        · rw [if_pos (by rw [a1]; rfl), a2]; rfl
        · rw [if_neg (show ¬ Int32.ofNat (wmp x) = 6 from fun q => a3 (jofinj (b := 6) (by omega) (by omega) q)), show (16 : Int32) = Int32.ofNat 16 from rfl, ← Int32.ofNat_sub (wmp x) 16 a1, a2]
      · intro KT e1 f' p' e2 p'' pa'' e3
        rw [E_r_readPart, if_neg hn2, if_pos t1', if_neg h15', e1, e2, jbO_some, jk_some, E_r_readPart_36, if_neg (by decide), e3, jbO_some, jk_some, E_r_readPart_43, if_neg (by decide)]
      · intro f' e1
        rw [E_r_readPart, if_neg hn2, if_pos t1', if_neg h15', e1, jbO_some, jk_some, E_r_readPart_36, if_pos rfl]
      · intro mfa mfb mgb e1 e8 e2 e3
        have h86 : K_m_primary D' cx mf mg mn mb ml t1 z1 = K_m_primary_86 D' 0 cx mf mg mn mb ml t1 z1 := by
          rw [E_m_primary, if_pos h3, M_isSign, if_neg hn40, jbO_some, jk_some, E_m_primary_7, if_pos rfl, if_neg (by rw [t2']; decide), E_m_primary_59, if_pos rfl, E_m_primary_70, if_pos rfl, if_pos t2', hva]
          rcases hwn.2 h15 with ⟨a1, a2⟩ | ⟨a1, a2, a3⟩
          · rw [if_pos (by rw [a1]; decide), if_pos (by rw [a1]; rfl)]
          · rw [if_neg (show ¬ Int32.ofNat (wmp x) < 16 from jlt_n (b := 16) (by omega) (by omega))]
        rw [h86, E_m_primary_86, e1, jbO_some, jk_none, E_m_primary_88, if_pos rfl, E_m_primary_94, if_pos rfl, e8]
        by_cases h6 : mf 8 = 6
        · rw [if_pos h6] at e2 ⊢
          rw [E_m_primary_109, e2, jbO_some, jk_none, E_m_primary_110, e3, jbO_some, jk_none, E_m_primary_112]
        · rw [if_neg h6] at e2 ⊢
          rw [E_m_primary_109, e2, jbO_some, jk_none, E_m_primary_110, e3, jbO_some, jk_none, E_m_primary_112]
  · -- a sign
    by_cases hop : f 12 = 101
    rotate_left
    · refine hend1 (by rw [t1']; decide) (by rw [t1']; intro q; exact absurd q (by decide)) (fun q => hop q.2) (fun q => hop (hs40.mpr q.2).2) (by rw [t2']; decide) (by rw [t2']; intro q; exact absurd q (by decide))
    have hm40 := hs40.mp ⟨t1', hop⟩
    have hc48 : K_r_readPart D w (Int32.ofNat op) f g n2 p pa s sa sw t z = K_r_readPart_48 D w (Int32.ofNat op) (some (.int (f 12))) f g n2 p pa s sa sw t z := by
      rw [E_r_readPart, if_neg (by rw [t1']; decide), if_neg (by rw [t1']; decide)]
    have n10 : ¬ (1 : Int32) = 0 := by decide
    have hcK : K_r_readPart D w (Int32.ofNat op) f g n2 p pa s sa sw t z = if Int32.ofNat op < 8 then (jbO (K_k_step D f g n2 p pa s sa sw (.ref (jpl w)) t z) (jk D 72 67 ([some (.ref 1), some (.int (Int32.ofNat op)), some (.int (f 12))], []) [])) else (jbO (K_r_fail D w 2 f g n2 p pa s sa sw t z) (jk D 72 63 ([some (.ref 1), some (.int (Int32.ofNat op)), some (.int (f 12))], []) [])) := by
      rw [hc48, E_r_readPart_48, S_k_isSign, if_pos (⟨t1', hop⟩ : f 11 = 5 ∧ f 12 = 101), jbO_some, jk_some, E_r_readPart_52, if_neg n10]
    have hmK : K_m_primary D' cx mf mg mn mb ml t1 z1 = if mf 13 = 8 then (jbO (K_m_wrong D' 2 cx mf mg mn mb ml t1 z1) (jk D' 172 15 ([some (.ref 79), none], []) [])) else K_m_primary_15 D' none cx mf mg mn mb ml t1 z1 := by
      rw [E_m_primary, if_pos h3, M_isSign, if_pos (⟨h3, hm40⟩ : mf 9 = 0 ∧ mf 7 = 3 ∧ mf 8 = 40), jbO_some, jk_some, E_m_primary_7, if_neg n10]
    rw [hcK, hmK]
    by_cases h8 : op < 8
    rotate_left
    · right
      have hop8 : op = 8 := by omega
      refine ⟨_, p, pa, _, mg, ?_, ?_, y3, y4, y5, y6⟩
      · rw [if_neg (show ¬ Int32.ofNat op < 8 from jlt_n (b := 8) (by omega) (by omega)), E_r_fail, jbO_some, jk_some, E_r_readPart_63, if_pos (Or.inl rfl)]
      · rw [if_pos (by rw [h9, hop8]; rfl), M_wrong h3, jbO_some, jk_none, F_m_primary_15, E_m_primary_15, if_neg (by rw [jup_same]; decide)]
    obtain ⟨D1, rfl⟩ : ∃ D1, D = D1 + 1 := ⟨D - 1, by omega⟩
    obtain ⟨D2, rfl⟩ : ∃ D2, D' = D2 + 1 := ⟨D' - 1, by omega⟩
    have hne8 : ¬ mf 13 = 8 := by rw [h9]; intro q; have := jofinj (b := 8) (by omega) (by omega) q; omega
    have hRo : rEx N r a0 (op + 1) kc nd d g f (p (jq w)) (pa (jq w)) (jup mf 13 (mf 13 + 1)) mg := by
      refine ⟨⟨⟨h1.1.1, h1.1.2.1, ?_, ?_⟩, ?_, ?_⟩, h2, ?_, ⟨h4, hr⟩, ⟨h5, ?_, h5''⟩, ⟨h6, h6', h6''⟩, h7, h8', ?_, by omega⟩
      · rw [jup_ne (by omega)]; exact h1.1.2.2.1
      · rw [jup_ne (by omega)]; exact h1.1.2.2.2
      · rw [jup_ne (by omega)]; exact h1.2.1
      · rw [jup_ne (by omega), jup_ne (by omega)]; exact h1.2.2
      · rw [jup_ne (by omega)]; exact h3
      · rw [jup_ne (by omega)]; exact h5'
      · rw [jup_same, h9, jsucc]
    obtain ⟨f1, mf1, s1, s2, s3, s4, s5, s6⟩ := X_step (D := D1 + 1) (D' := D2 + 1) (f := f) (g := g) (n2 := n2) (p := p) (pa := pa) (s := s) (sa := sa) (sw := sw) (rp := .ref (jpl w)) (t := t) (z := z) (cx := cx) (mf := jup mf 13 (mf 13 + 1)) (mg := mg) (mn := mn) (mb := mb) (ml := ml) (t1 := t1) (z1 := z1) hRo
    have F1 : xF r a0 (jq w) f p pa mf mg f1 p pa mf1 mg :=
      ⟨fun k hk => s4 k (by omega), fun j hj => ⟨rfl, rfl⟩, fun k a b => rfl, fun k _ _ => rfl, fun k hk => by rw [s5 k (by omega), jup_ne (by omega)], fun k _ _ _ => rfl, fun i _ => rfl, fun i _ => ⟨rfl, rfl⟩, s6, fun _ => ⟨h3, s4 7 (by omega), s4 8 (by omega), by rw [s5 10 (by omega), jup_ne (by omega)]⟩⟩
    rw [if_pos (show Int32.ofNat op < 8 from jlt_t (b := 8) h8 (by omega)), s1, jbO_some, jk_none, E_r_readPart_67, jsucc, if_neg hne8, E_m_primary_15, if_pos h3, s2, jbO_some, jk_none, E_m_primary_27]
    rcases IH h8 f1 p pa mf1 mg kc nd d D1 D2 (by omega) (by omega) s3 with ⟨f2, p2, pa2, mf2, mg2, kc2, nd2, i1, i2, i3, i4, i5, i6⟩ | ⟨f2, p2, pa2, mf2, mg2, i1, i2, i3, i4, i5, i6⟩
    rotate_left
    · right
      refine ⟨f2, p2, pa2, mf2, mg2, ?_, ?_, F1.tr i3, i4, i5, i6⟩
      · rw [i1, jbO_some, jk_some, E_r_readPart_72, if_pos rfl]
      · rw [i2, jbO_some, jk_none, E_m_primary_29, if_neg i4, E_m_primary_39, if_neg i4]
    obtain ⟨j1, j2, j3, j4, j5, j6, j7, j8, j9⟩ := id i4
    have hs41 := tk_sign j1.2.2 (a := 102) (c := 41) (by decide)
    rw [i1, jbO_some, jk_some, E_r_readPart_72, if_neg n10, i2, jbO_some, jk_none, E_m_primary_29, if_pos j3]
    by_cases hcl : f2 11 = 5 ∧ f2 12 = 102
    rotate_left
    · right
      obtain ⟨w3, w4, w5, w6⟩ := xfail (r := r) (a0 := a0) (v := jq w) (k := 1) (p := p2) (pa := pa2) (mg := mg2) j1 (by decide)
      refine ⟨_, p2, pa2, _, mg2, ?_, ?_, (F1.tr i3).tr w3, w4, w5, w6⟩
      · rw [S_k_isSign, if_neg hcl, jbO_some, jk_some, E_r_readPart_79, if_pos rfl, E_r_fail, jbO_some, jk_some, E_r_readPart_83, if_pos (Or.inl rfl)]
      · rw [M_isSign, if_neg (fun q : mf2 9 = 0 ∧ mf2 7 = 3 ∧ mf2 8 = 41 => hcl (hs41.mpr q.2)), jbO_some, jk_some, E_m_primary_35, if_pos rfl, M_wrong j3, jbO_some, jk_none, F_m_primary_39, E_m_primary_39, if_neg w4]
    left
    have hRc : rEx N r a0 op kc2 nd2 (d + 1) g f2 (p2 (jq w)) (pa2 (jq w)) (jup mf2 13 (mf2 13 - 1)) mg2 := by
      refine ⟨⟨⟨j1.1.1, j1.1.2.1, ?_, ?_⟩, ?_, ?_⟩, j2, ?_, j4, ⟨j5.1, ?_, j5.2.2⟩, j6, j7, j8, ?_, by omega⟩
      · rw [jup_ne (by omega)]; exact j1.1.2.2.1
      · rw [jup_ne (by omega)]; exact j1.1.2.2.2
      · rw [jup_ne (by omega)]; exact j1.2.1
      · rw [jup_ne (by omega), jup_ne (by omega)]; exact j1.2.2
      · rw [jup_ne (by omega)]; exact j3
      · rw [jup_ne (by omega)]; exact j5.2.1
      · rw [jup_same, j9.1, show (1 : Int32) = Int32.ofNat 1 from rfl, ← Int32.ofNat_sub (op + 1) 1 (by omega)]; rfl
    obtain ⟨f3, mf3, r1, r2, r3, r4, r5, r6⟩ := X_step (D := D1 + 1) (D' := D2 + 1) (f := f2) (g := g) (n2 := n2) (p := p2) (pa := pa2) (s := s) (sa := sa) (sw := sw) (rp := .ref (jpl w)) (t := t) (z := z) (cx := cx) (mf := jup mf2 13 (mf2 13 - 1)) (mg := mg2) (mn := mn) (mb := mb) (ml := ml) (t1 := t1) (z1 := z1) hRc
    have F2 : xF r a0 (jq w) f2 p2 pa2 mf2 mg2 f3 p2 pa2 mf3 mg2 :=
      ⟨fun k hk => r4 k (by omega), fun j hj => ⟨rfl, rfl⟩, fun k a b => rfl, fun k _ _ => rfl, fun k hk => by rw [r5 k (by omega), jup_ne (by omega)], fun k _ _ _ => rfl, fun i _ => rfl, fun i _ => ⟨rfl, rfl⟩, r6, fun _ => ⟨j3, r4 7 (by omega), r4 8 (by omega), by rw [r5 10 (by omega), jup_ne (by omega)]⟩⟩
    refine ⟨f3, p2, pa2, mf3, mg2, kc2, nd2, ?_, ?_, (F1.tr i3).tr F2, r3, i5, i6⟩
    · rw [S_k_isSign, if_pos hcl, jbO_some, jk_some, E_r_readPart_79, if_neg (by decide), r1, jbO_some, jk_none, E_r_readPart_87]
    · rw [M_isSign, if_pos (⟨j3, hs41.mp hcl⟩ : mf2 9 = 0 ∧ mf2 7 = 3 ∧ mf2 8 = 41), jbO_some, jk_some, E_m_primary_35, if_neg (by decide), E_m_primary_39, if_pos j3, r2, jbO_some, jk_none, E_m_primary_51]
