-- READING AN E: a knot taken, a thing put
theorem jmu_mono {N : Nat} {f f' mf mf' : Nat → Int32} (h : rPos N f mf) (h' : rPos N f' mf') (hj : jmu N f' ≤ N - (f 10).toNatClampNeg) : (f 10).toNatClampNeg ≤ (f' 10).toNatClampNeg := by
  obtain ⟨hN, -, -, i, hi, e, -⟩ := h
  obtain ⟨-, -, -, i', hi', e', -⟩ := h'
  unfold jmu at hj
  rw [e] at hj ⊢
  rw [e'] at hj ⊢
  have e1 : (Int32.ofNat i).toNatClampNeg = i := jclamp (by omega)
  have e2 : (Int32.ofNat i').toNatClampNeg = i' := jclamp (by omega)
  rw [e1] at hj ⊢
  rw [e2] at hj ⊢
  omega
theorem X_step {D D' N r a0 op kc nd d : Nat} {q : Nat → Int32} {qa : Nat → Nat → Int32} {f : Nat → Int32} {g : Nat → Nat → Int32} {n2 : Nat → Nat → Int64} {p : Nat → Nat → Int32} {pa : Nat → Nat → Nat → Int32} {s : Nat → Nat → Int32} {sa : Nat → Nat → Nat → Int32} {sw : Bool} {rp : Value} {t : List jE} {z : Nat × Nat × Nat × (Nat → Int32)} {cx : jCX} {mf : Nat → Int32} {mg : Nat → Nat → Int32} {mn : Nat → Nat → Int64} {mb : Nat → Nat → Int32} {ml : Nat → Int64} {t1 : List jE} {z1 : Nat × Nat × Nat × (Nat → Int32)} (h : rEx N r a0 op kc nd d g f q qa mf mg) :
    ∃ f' mf', K_k_step D f g n2 p pa s sa sw rp t z = some (.inl none, (jX f' g n2 p pa s sa sw rp t, z)) ∧ K_m_token D' cx mf mg mn mb ml t1 z1 = some (.inl none, (jXt cx (jY mf' mg mn mb ml t1), z1)) ∧ rEx N r a0 op kc nd d g f' q qa mf' mg ∧ (∀ k, k < 10 ∨ 13 < k → f' k = f k) ∧ (∀ k, k < 4 ∨ 8 < k → mf' k = mf k) ∧ (f 10).toNatClampNeg ≤ (f' 10).toNatClampNeg := by
  obtain ⟨h1, h2, h3, h4, h5, h6, h7, h8, h9⟩ := h
  obtain ⟨f', mf', e1, e2, e3, e4, e5, e6⟩ := T_step (D := D) (D' := D') (N := N) (f := f) (g := g) (n2 := n2) (p := p) (pa := pa) (s := s) (sa := sa) (sw := sw) (rp := rp) (t := t) (z := z) (cx := cx) (mf := mf) (mg := mg) (mn := mn) (mb := mb) (ml := ml) (t1 := t1) (z1 := z1) h1.1 h2
  refine ⟨f', mf', e1, e2, ⟨e3, h2, ?_, ?_, ?_, h6, h7, h8, ?_⟩, e4, e5, jmu_mono h1.1 e3.1 e6⟩
  · rw [e5 9 (by omega)]; exact h3
  · rw [e4 6 (by omega)]; exact h4
  · rw [e5 14 (by omega)]; exact h5
  · rw [e5 13 (by omega)]; exact h9
theorem X_knot {D D' N r a0 op kc nd d : Nat} {f : Nat → Int32} {g : Nat → Nat → Int32} {n2 : Nat → Nat → Int64} {p : Nat → Nat → Int32} {pa : Nat → Nat → Nat → Int32} {s : Nat → Nat → Int32} {sa : Nat → Nat → Nat → Int32} {sw : Bool} {t : List jE} {z : Nat × Nat × Nat × (Nat → Int32)} {w : Bool} {cx : jCX} {mf : Nat → Int32} {mg : Nat → Nat → Int32} {mn : Nat → Nat → Int64} {mb : Nat → Nat → Int32} {ml : Nat → Int64} {t1 : List jE} {z1 : Nat × Nat × Nat × (Nat → Int32)} (h : rEx N r a0 op kc nd d g f (p (jq w)) (pa (jq w)) mf mg) :
    (∃ f' p' mfa mf', K_r_takeKnot D w f g n2 p pa s sa sw t z = some (.inl (some (.int 1)), (jX f' g n2 p' pa s sa sw (.ref (jpl w)) t, z)) ∧ K_m_knot D' cx mf mg mn mb ml t1 z1 = some (.inl none, (jXt cx (jY mfa mg mn mb ml t1), z1)) ∧ K_m_goOn D' cx mfa mg mn mb ml t1 z1 = some (.inl none, (jXt cx (jY mf' mg mn mb ml t1), z1)) ∧ xF r a0 (jq w) f p pa mf mg f' p' pa mf' mg ∧ rEx N r a0 op (kc + 1) nd d g f' (p' (jq w)) (pa (jq w)) mf' mg) ∨
    (∃ f' mf', K_r_takeKnot D w f g n2 p pa s sa sw t z = some (.inl (some (.int 0)), (jX f' g n2 p pa s sa sw (.ref (jpl w)) t, z)) ∧ K_m_knot D' cx mf mg mn mb ml t1 z1 = some (.inl none, (jXt cx (jY mf' mg mn mb ml t1), z1)) ∧ xF r a0 (jq w) f p pa mf mg f' p pa mf' mg ∧ ¬ mf' 9 = 0 ∧ f' 7 = mf' 9 ∧ f' 8 = mf' 10) := by
  obtain ⟨h1, h2, h3, h4, ⟨h5, h5', h5''⟩, h6, h7, h8, h9⟩ := h
  by_cases hk : kc < 64
  · left
    have hR2 : rEx N r a0 op (kc + 1) nd d g f (jup (p (jq w)) 9 (p (jq w) 9 + 1)) (pa (jq w)) (jup mf 14 (mf 14 + 1)) mg := by
      refine ⟨⟨⟨h1.1.1, h1.1.2.1, ?_, ?_⟩, ?_, ?_⟩, h2, ?_, h4, ⟨?_, ?_, by omega⟩, ?_, h7, h8, ?_⟩
      · rw [jup_ne (by omega)]; exact h1.1.2.2.1
      · rw [jup_ne (by omega)]; exact h1.1.2.2.2
      · rw [jup_ne (by omega)]; exact h1.2.1
      · rw [jup_ne (by omega), jup_ne (by omega)]; exact h1.2.2
      · rw [jup_ne (by omega)]; exact h3
      · rw [jup_same, h5, jsucc]
      · rw [jup_same, h5', jsucc]
      · rw [jup_ne (by omega)]; exact ⟨h6.1, h6.2.1, by omega⟩
      · rw [jup_ne (by omega)]; exact h9
    obtain ⟨f', mf', e1, e2, e3, e4, e5, e6⟩ := X_step (D := D) (D' := D') (f := f) (g := g) (n2 := n2) (p := jup p (jq w) (jup (p (jq w)) 9 (p (jq w) 9 + 1))) (pa := pa) (s := s) (sa := sa) (sw := sw) (rp := .ref (jpl w)) (t := t) (z := z) (cx := cx) (mf := jup mf 14 (mf 14 + 1)) (mg := mg) (mn := mn) (mb := mb) (ml := ml) (t1 := t1) (z1 := z1) hR2
    have hne : ¬ Int32.ofNat kc = 64 := by intro q; have := jofinj (b := 64) (by omega) (by omega) q; omega
    refine ⟨f', jup p (jq w) (jup (p (jq w)) 9 (p (jq w) 9 + 1)), jup mf 14 (mf 14 + 1), mf', ?_, ?_, ?_, ?_, ?_⟩
    · rw [E_r_takeKnot, if_pos (by rw [h5]; exact jlt_t (b := 64) hk (by omega)), e1, jbO_some, jk_none, E_r_takeKnot_19]
    · rw [E_m_knot, if_pos h3, if_neg (by rw [h5']; exact hne)]
    · rw [E_m_goOn, if_pos (by rw [jup_ne (by omega)]; exact h3), e2, jbO_some, jk_none, E_m_goOn_5]
    · refine ⟨fun k hk => e4 k (by omega), fun j hj => ⟨jup_ne hj, rfl⟩, fun k a b => by rw [jup_same, jup_ne a], fun k _ _ => rfl, fun k hk => by rw [e5 k (by omega), jup_ne (by omega)], fun k _ _ _ => rfl, fun i _ => rfl, fun i _ => ⟨rfl, rfl⟩, e6, fun _ => ⟨h3, e4 7 (by omega), e4 8 (by omega), by rw [e5 10 (by omega), jup_ne (by omega)]⟩⟩
    · rw [jup_same]; exact e3
  · right
    have hkc : kc = 64 := by omega
    refine ⟨jup (jup f 7 2) 8 (f 13), jup (jup mf 10 (mf 6)) 9 2, ?_, ?_, ?_, ?_, ?_, ?_⟩
    · rw [E_r_takeKnot, if_neg (by rw [h5]; exact jlt_n (b := 64) (by omega) (by omega)), E_r_fail, jbO_some, jk_some, E_r_takeKnot_8, if_pos (Or.inl rfl)]
    · rw [E_m_knot, if_pos h3, if_pos (by rw [h5', hkc]; rfl), M_wrong h3, jbO_some, jk_none, E_m_knot_11]
    · refine ⟨fun k hk => by rw [jup_ne (by omega), jup_ne (by omega)], fun j hj => ⟨rfl, rfl⟩, fun k a b => rfl, fun k _ _ => rfl, fun k hk => by rw [jup_ne (by omega), jup_ne (by omega)], fun k _ _ _ => rfl, fun i _ => rfl, fun i _ => ⟨rfl, rfl⟩, Nat.le_of_eq (by rw [jup_ne (by omega), jup_ne (by omega)]), fun q => by rw [jup_same] at q; exact absurd q (by decide)⟩
    · rw [jup_same]; decide
    · rw [jup_ne (by omega), jup_same, jup_same]
    · obtain ⟨pl, -, a1, a2⟩ := h1.2.1
      rw [jup_same, jup_ne (by omega), jup_same, a1, a2]
theorem S_emit_r {D r : Nat} {k v : Int32} {w : Bool} {f : Nat → Int32} {g : Nat → Nat → Int32} {n2 : Nat → Nat → Int64} {p : Nat → Nat → Int32} {pa : Nat → Nat → Nat → Int32} {s : Nat → Nat → Int32} {sa : Nat → Nat → Nat → Int32} {sw : Bool} {t : List jE} {z : Nat × Nat × Nat × (Nat → Int32)} (h6 : f 6 = Int32.ofNat r) (hr : r < 3) : K_r_emit D w k v f g n2 p pa s sa sw t z = jbO (K_w_add D w r k v f g n2 p pa s sa sw (.ref (jpl w)) t z) (jk D 65 9 ([some (.ref 1), some (.int k), some (.int v)], []) []) := by
  have hf : f = jup f 6 (Int32.ofNat r) := by rw [← h6, jup_self]
  rcases jlt3 hr with rfl | rfl | rfl
  · rw [hf]; exact E_r_emit_r0
  · rw [hf]; exact E_r_emit_r1
  · rw [hf]; exact E_r_emit_r2
theorem S_emit_9 {D r : Nat} {d1 d2 : Option Value} {w : Bool} {f : Nat → Int32} {g : Nat → Nat → Int32} {n2 : Nat → Nat → Int64} {p : Nat → Nat → Int32} {pa : Nat → Nat → Nat → Int32} {s : Nat → Nat → Int32} {sa : Nat → Nat → Nat → Int32} {sw : Bool} {t : List jE} {z : Nat × Nat × Nat × (Nat → Int32)} (h6 : f 6 = Int32.ofNat r) (hr : r < 3) : jev D 65 9 ([some (.ref 1), d1, d2], []) [] ((jX f g n2 p pa s sa sw (.ref (jpl w)) t, z)) = some (.inl (some (.int 1)), (jX f g n2 p pa s sa sw (.ref (jpl w)) t, z)) := by
  have hf : f = jup f 6 (Int32.ofNat r) := by rw [← h6, jup_self]
  rcases jlt3 hr with rfl | rfl | rfl
  · rw [hf]; exact E_r_emit_r0_9
  · rw [hf]; exact E_r_emit_r1_9
  · rw [hf]; exact E_r_emit_r2_9
theorem M_puts {D m0 : Nat} {ms mv : Int32} {cx : jCX} {f : Nat → Int32} {g : Nat → Nat → Int32} {n : Nat → Nat → Int64} {b : Nat → Nat → Int32} {l : Nat → Int64} {t : List jE} {z : Nat × Nat × Nat × (Nat → Int32)} (h9 : f 9 = 0) (h20 : g 1 20 = Int32.ofNat m0) (hm : m0 < 64) : K_m_puts D ms mv cx f g n b l t z = some (.inl none, (jXt cx (jY f (jup (jup (jup g 12 (jup (g 12) (64 + m0) ms)) 13 (jup (g 13) (64 + m0) mv)) 1 (jup (g 1) 20 (Int32.ofNat (m0 + 1)))) n b l t), z)) := by
  have hi : (64 : Int32) + Int32.ofNat m0 = Int32.ofNat (64 + m0) := jofadd (a := 64)
  have hj : ¬ jout (11 + 9 : Int32) 22 := by decide
  have hc : (11 + 9 : Int32).toNatClampNeg = 20 := by decide
  have hfr : ∀ g' : Nat → Nat → Int32, g' 1 20 = Int32.ofNat m0 → K_m_fresher D 9 cx f g' n b l t z = some (.inl (some (.int (Int32.ofNat m0))), (jXt cx (jY f g' n b l t), z)) := by
    intro g' hg
    rw [E_m_fresher, if_neg hj, hc, hg]
  rw [E_m_puts, if_pos h9, hfr g h20, jbO_some, jk_some, E_m_puts_10, hi, E_m_puts_12, if_neg (jout_n (by omega) (by omega)), jclamp (show 64 + m0 < 2147483648 by omega), hfr _ (by rw [jup_ne (by omega)]; exact h20), jbO_some, jk_some, E_m_puts_19, hi, E_m_puts_21, if_neg (jout_n (by omega) (by omega)), jclamp (show 64 + m0 < 2147483648 by omega), hfr _ (by rw [jup_ne (by omega), jup_ne (by omega)]; exact h20), jbO_some, jk_some, E_m_puts_27, E_m_reads, E_m_reads_6, if_neg hj, hc, jbO_some, jk_none, E_m_puts_30, jsucc]
  simp (disch := omega) only [jup_ne]
theorem X_emit {D D' N r a0 op kc nd d d' : Nat} {k v ms mv : Int32} {f : Nat → Int32} {g : Nat → Nat → Int32} {n2 : Nat → Nat → Int64} {p : Nat → Nat → Int32} {pa : Nat → Nat → Nat → Int32} {s : Nat → Nat → Int32} {sa : Nat → Nat → Nat → Int32} {sw : Bool} {t : List jE} {z : Nat × Nat × Nat × (Nat → Int32)} {w : Bool} {cx : jCX} {mf : Nat → Int32} {mg : Nat → Nat → Int32} {mn : Nat → Nat → Int64} {mb : Nat → Nat → Int32} {ml : Nat → Int64} {t1 : List jE} {z1 : Nat × Nat × Nat × (Nat → Int32)} (h : rEx N r a0 op kc nd d g f (p (jq w)) (pa (jq w)) mf mg) (hk : a0 + nd + 1 ≤ kc) (htr : jtr k v ms mv)
    (hd : ∀ kd vl : Nat → Int32, jdp kd vl nd = some d → kd nd = k → vl nd = v → jdp kd vl (nd + 1) = some d') :
    ∃ p' pa' mg', (∀ f1 : Nat → Int32, f1 6 = Int32.ofNat r → K_r_emit D w k v f1 g n2 p pa s sa sw t z = some (.inl (some (.int 1)), (jX f1 g n2 p' pa' s sa sw (.ref (jpl w)) t, z))) ∧ (∀ m1 : Nat → Int32, m1 9 = 0 → K_m_puts D' ms mv cx m1 mg mn mb ml t1 z1 = some (.inl none, (jXt cx (jY m1 mg' mn mb ml t1), z1))) ∧ xF r a0 (jq w) f p pa mf mg f p' pa' mf mg' ∧ rEx N r a0 op kc (nd + 1) d' g f (p' (jq w)) (pa' (jq w)) mf mg' := by
  obtain ⟨h1, h2, h3, ⟨h4, hr⟩, ⟨h5, h5', h5''⟩, ⟨h6, h6', h6''⟩, h7, h8, h9⟩ := h
  have e10 : ∀ x, 8 + 2 * r + x = x + (8 + 2 * r) := fun x => by omega
  refine ⟨jup p (jq w) (jup (p (jq w)) (10 + r) (Int32.ofNat (nd + 1))), jup pa (jq w) (jup (jup (pa (jq w)) (8 + 2 * r) (jup (pa (jq w) (8 + 2 * r)) nd k)) (9 + 2 * r) (jup (pa (jq w) (9 + 2 * r)) nd v)), jup (jup (jup mg 12 (jup (mg 12) (64 + (a0 + nd)) ms)) 13 (jup (mg 13) (64 + (a0 + nd)) mv)) 1 (jup (mg 1) 20 (Int32.ofNat (a0 + nd + 1))), ?_, ?_, ?_, ?_⟩
  · intro f1 h4
    rw [S_emit_r h4 hr, E_w_add hr, if_pos (by rw [h6]; exact jlt_t (b := 64) (by omega) (by omega)), h6, E_w_add_9 hr, if_neg (jout_n (by omega) (by omega)), h6, E_w_add_15 hr, if_neg (jout_n (by omega) (by omega)), h6, jclamp (show nd < 2147483648 by omega), jbO_some, jk_none, S_emit_9 h4 hr, jsucc]
    simp only [jup_same, jup_jup, Nat.add_zero, show 8 + 2 * r + 1 = 9 + 2 * r by omega]
    rw [jup_ne (show 9 + 2 * r ≠ 8 + 2 * r by omega)]
  · intro m1 h3; exact M_puts h3 h6' (by omega)
  · refine ⟨fun k _ => rfl, fun j hj => ⟨jup_ne hj, jup_ne hj⟩, fun k a b => by rw [jup_same, jup_ne b], fun k a b => by rw [jup_same, jup_ne b, jup_ne a], fun k _ => rfl, fun k a b c => by rw [jup_ne a, jup_ne c, jup_ne b], fun i a => by rw [jup_same, jup_ne a], fun i hi => ⟨?_, ?_⟩, Nat.le_refl _, fun q => ⟨q, rfl, rfl, rfl⟩⟩
    · rw [jup_ne (by omega), jup_ne (by omega), jup_same, jup_ne (by omega)]
    · rw [jup_ne (by omega), jup_same, jup_ne (by omega)]
  · have m12 : (jup (jup (jup mg 12 (jup (mg 12) (64 + (a0 + nd)) ms)) 13 (jup (mg 13) (64 + (a0 + nd)) mv)) 1 (jup (mg 1) 20 (Int32.ofNat (a0 + nd + 1)))) 12 = jup (mg 12) (64 + (a0 + nd)) ms := by rw [jup_ne (by omega), jup_ne (by omega), jup_same]
    have m13 : (jup (jup (jup mg 12 (jup (mg 12) (64 + (a0 + nd)) ms)) 13 (jup (mg 13) (64 + (a0 + nd)) mv)) 1 (jup (mg 1) 20 (Int32.ofNat (a0 + nd + 1)))) 13 = jup (mg 13) (64 + (a0 + nd)) mv := by rw [jup_ne (by omega), jup_same]
    have q8 : (jup (jup (pa (jq w)) (8 + 2 * r) (jup (pa (jq w) (8 + 2 * r)) nd k)) (9 + 2 * r) (jup (pa (jq w) (9 + 2 * r)) nd v)) (8 + 2 * r) = jup (pa (jq w) (8 + 2 * r)) nd k := by rw [jup_ne (by omega), jup_same]
    have q9 : (jup (jup (pa (jq w)) (8 + 2 * r) (jup (pa (jq w) (8 + 2 * r)) nd k)) (9 + 2 * r) (jup (pa (jq w) (9 + 2 * r)) nd v)) (9 + 2 * r) = jup (pa (jq w) (9 + 2 * r)) nd v := jup_same
    rw [jup_same, jup_same]
    refine ⟨h1, ⟨h2.1, ?_, h2.2.2⟩, h3, ⟨h4, hr⟩, ⟨?_, h5', h5''⟩, ⟨jup_same, ?_, by omega⟩, ?_, ?_, h9⟩
    · intro i hi; rw [jup_ne (by omega), jup_ne (by omega), jup_ne (by omega)]; exact h2.2.1 i hi
    · rw [jup_ne (by omega)]; exact h5
    · rw [jup_same, jup_same]; rfl
    · intro x hx
      rw [m12, m13, q8, q9]
      by_cases hxn : x = nd
      · subst hxn; rw [jup_same, jup_same, jup_same, jup_same]; exact htr
      · rw [jup_ne hxn, jup_ne hxn, jup_ne (by omega), jup_ne (by omega)]; exact h7 x (by omega)
    · rw [q8, q9]
      refine hd _ _ ?_ jup_same jup_same
      rw [jdp_congr (kd := pa (jq w) (8 + 2 * r)) (vl := pa (jq w) (9 + 2 * r)) (fun x hx => ⟨jup_ne (by omega), jup_ne (by omega)⟩)]
      exact h8
