-- READING LINES: what stands between two of them
def rTold (f mf : Nat → Int32) : Prop := (∀ x ∈ [(0, 0), (4, 4), (5, 5), (6, 7), (7, 8), (9, 16), (10, 17), (11, 18)], bt (f 2) x.1 = bt (mf 2) x.2) ∧ (f 5 = 0 ↔ (bt (mf 2) 1 = false ∧ bt (mf 2) 2 = false))
def rNum (W H Sc fl Wn kn cr : Nat) (f q mf : Nat → Int32) (mg : Nat → Nat → Int32) : Prop :=
  q 0 = mf 3 ∧ (q 1 = Int32.ofNat W ∧ mg 1 11 = Int32.ofNat W ∧ 1 ≤ W ∧ W ≤ 6) ∧ (q 2 = Int32.ofNat H ∧ mg 1 12 = Int32.ofNat H ∧ 1 ≤ H ∧ H ≤ 5) ∧ (q 3 = Int32.ofNat Sc ∧ mg 1 13 = Int32.ofNat Sc ∧ Sc ≤ 6) ∧ (q 4 = Int32.ofNat fl ∧ mg 1 14 = Int32.ofNat fl ∧ fl ≤ 10) ∧
  (∃ m, m ≤ 12 ∧ q 6 = Int32.ofNat m ∧ mg 1 15 = Int32.ofNat m) ∧ (∃ m, m < 100 ∧ q 7 = Int32.ofNat m ∧ mg 1 16 = Int32.ofNat m) ∧ (q 5 = Int32.ofNat Wn ∧ mg 1 17 = Int32.ofNat Wn ∧ Wn ≤ 14) ∧ q 8 = mg 1 18 ∧
  (q 9 = Int32.ofNat kn ∧ mg 1 20 = Int32.ofNat kn ∧ mf 14 = Int32.ofNat kn ∧ kn ≤ 64) ∧ (f 4 = Int32.ofNat cr ∧ mg 1 21 = Int32.ofNat cr ∧ cr ≤ 16)
def rCrop (f : Nat → Int32) (qa mg : Nat → Nat → Int32) : Prop := ∀ c, c < 30 → bt (f 3) c = decide (0 < mg 2 (30 + c)) ∧ (if 0 < mg 2 (30 + c) then mg 2 (30 + c) - 1 else 10) = qa 0 c ∧ ∃ r, r < 100 ∧ qa 0 c = Int32.ofNat r
def rScr (W H Sc : Nat) (f : Nat → Int32) (qa mg : Nat → Nat → Int32) : Prop := (∀ i, i < Sc → mg 3 (6 + i) = qa 1 i ∧ mg 4 (6 + i) = qa 2 i ∧ mg 5 (6 + i) = qa 3 i ∧ mg 6 (6 + i) = qa 4 i ∧ mg 7 (6 + i) = qa 5 i ∧ mg 8 (6 + i) = qa 6 i ∧ (∃ c, c < W * H ∧ qa 2 i = Int32.ofNat c) ∧ ∃ r, r < 10 ∧ qa 5 i = Int32.ofNat r) ∧ (0 < Sc → ¬ f 5 = 0)
def rWin (Wn : Nat) (qa mg : Nat → Nat → Int32) : Prop := ∀ d, d < Wn → mg 9 (14 + d) = qa 7 d
def rLw (kn r : Nat) (f q : Nat → Int32) (qa mg : Nat → Nat → Int32) : Prop := ∃ a n, q (10 + r) = Int32.ofNat n ∧ mg 10 (3 + r) = Int32.ofNat a ∧ mg 11 (3 + r) = Int32.ofNat (a + n) ∧ a + n ≤ kn ∧ jwf n (qa (8 + 2 * r)) (qa (9 + 2 * r)) ∧ (∀ k, k < n → jtr (qa (8 + 2 * r) k) (qa (9 + 2 * r) k) (mg 12 (64 + (a + k))) (mg 13 (64 + (a + k)))) ∧ (bt (f 2) (9 + r) = false → n = 0)
def rLn (N : Nat) (g : Nat → Nat → Int32) (f q : Nat → Int32) (qa : Nat → Nat → Int32) (mf : Nat → Int32) (mg : Nat → Nat → Int32) : Prop :=
  ∃ W H Sc fl Wn kn cr, rTok N f mf ∧ rTp N g mg ∧ mf 9 = 0 ∧ mf 13 = 0 ∧ rTold f mf ∧ rNum W H Sc fl Wn kn cr f q mf mg ∧ rCrop f qa mg ∧ rScr W H Sc f qa mg ∧ rWin Wn qa mg ∧ ∀ r, r < 3 → rLw kn r f q qa mg
/-- the first halves of the reference's arrays stay -/
def lH (mg mg' : Nat → Nat → Int32) : Prop := (∀ k, k = 0 ∨ 13 < k → mg' k = mg k) ∧ (∀ i, i < 11 → mg' 1 i = mg 1 i) ∧ (∀ i, i < 30 → mg' 2 i = mg 2 i) ∧ (∀ k, 3 ≤ k → k ≤ 8 → ∀ i, i < 6 → mg' k i = mg k i) ∧ (∀ i, i < 14 → mg' 9 i = mg 9 i) ∧ (∀ k, k = 10 ∨ k = 11 → ∀ i, i < 3 → mg' k i = mg k i) ∧ ∀ k, k = 12 ∨ k = 13 → ∀ i, i < 64 → mg' k i = mg k i
theorem lH.rf {mg : Nat → Nat → Int32} : lH mg mg := ⟨fun _ _ => rfl, fun _ _ => rfl, fun _ _ => rfl, fun _ _ _ _ _ => rfl, fun _ _ => rfl, fun _ _ _ _ => rfl, fun _ _ _ _ => rfl⟩
theorem lH.tr {a b c : Nat → Nat → Int32} (h : lH a b) (h' : lH b c) : lH a c :=
  ⟨fun k hk => (h'.1 k hk).trans (h.1 k hk), fun i hi => (h'.2.1 i hi).trans (h.2.1 i hi), fun i hi => (h'.2.2.1 i hi).trans (h.2.2.1 i hi), fun k x y i hi => (h'.2.2.2.1 k x y i hi).trans (h.2.2.2.1 k x y i hi), fun i hi => (h'.2.2.2.2.1 i hi).trans (h.2.2.2.2.1 i hi), fun k hk i hi => (h'.2.2.2.2.2.1 k hk i hi).trans (h.2.2.2.2.2.1 k hk i hi), fun k hk i hi => (h'.2.2.2.2.2.2 k hk i hi).trans (h.2.2.2.2.2.2 k hk i hi)⟩
/-- one thing of a second half -/
theorem lH.up {mg : Nat → Nat → Int32} {k i : Nat} {v : Int32} (h : (k = 1 ∧ 11 ≤ i) ∨ (k = 2 ∧ 30 ≤ i) ∨ (3 ≤ k ∧ k ≤ 8 ∧ 6 ≤ i) ∨ (k = 9 ∧ 14 ≤ i) ∨ ((k = 10 ∨ k = 11) ∧ 3 ≤ i) ∨ ((k = 12 ∨ k = 13) ∧ 64 ≤ i)) : lH mg (jup mg k (jup (mg k) i v)) := by
  have hk : ∀ x y, (x ≠ k ∨ y ≠ i) → jup mg k (jup (mg k) i v) x y = mg x y := by
    intro x y hxy
    by_cases hx : x = k
    · subst hx; rw [jup_same, jup_ne (by omega)]
    · rw [jup_ne hx]
  refine ⟨fun x hx => ?_, fun y hy => hk 1 y (by omega), fun y hy => hk 2 y (by omega), fun x a b y hy => hk x y (by omega), fun y hy => hk 9 y (by omega), fun x hx y hy => hk x y (by omega), fun x hx y hy => hk x y (by omega)⟩
  rw [jup_ne (by omega)]
/-- what reading a line leaves as it was -/
def lF (v : Nat) (f : Nat → Int32) (p : Nat → Nat → Int32) (pa : Nat → Nat → Nat → Int32) (mf : Nat → Int32) (mg : Nat → Nat → Int32) (f' : Nat → Int32) (p' : Nat → Nat → Int32) (pa' : Nat → Nat → Nat → Int32) (mf' : Nat → Int32) (mg' : Nat → Nat → Int32) : Prop :=
  (∀ k, k < 2 ∨ 13 < k → f' k = f k) ∧ (∀ j, j ≠ v → p' j = p j ∧ pa' j = pa j) ∧ (∀ k, k < 2 ∨ k = 11 ∨ k = 12 ∨ 14 < k → mf' k = mf k) ∧ lH mg mg' ∧ (f 10).toNatClampNeg ≤ (f' 10).toNatClampNeg ∧ (mf' 9 = 0 → mf 9 = 0 ∧ f' 7 = f 7 ∧ f' 8 = f 8 ∧ mf' 10 = mf 10)
theorem lF.rf {v : Nat} {f : Nat → Int32} {p : Nat → Nat → Int32} {pa : Nat → Nat → Nat → Int32} {mf : Nat → Int32} {mg : Nat → Nat → Int32} : lF v f p pa mf mg f p pa mf mg := ⟨fun _ _ => rfl, fun _ _ => ⟨rfl, rfl⟩, fun _ _ => rfl, lH.rf, Nat.le_refl _, fun q => ⟨q, rfl, rfl, rfl⟩⟩
theorem lF.tr {v : Nat} {f f' f'' : Nat → Int32} {p p' p'' : Nat → Nat → Int32} {pa pa' pa'' : Nat → Nat → Nat → Int32} {mf mf' mf'' : Nat → Int32} {mg mg' mg'' : Nat → Nat → Int32} (h : lF v f p pa mf mg f' p' pa' mf' mg') (h' : lF v f' p' pa' mf' mg' f'' p'' pa'' mf'' mg'') : lF v f p pa mf mg f'' p'' pa'' mf'' mg'' :=
  ⟨fun k hk => (h'.1 k hk).trans (h.1 k hk), fun j hj => ⟨(h'.2.1 j hj).1.trans (h.2.1 j hj).1, (h'.2.1 j hj).2.trans (h.2.1 j hj).2⟩, fun k hk => (h'.2.2.1 k hk).trans (h.2.2.1 k hk), h.2.2.2.1.tr h'.2.2.2.1, Nat.le_trans h.2.2.2.2.1 h'.2.2.2.2.1, fun q => by
    obtain ⟨a, b, c, d⟩ := h'.2.2.2.2.2 q
    obtain ⟨a2, b2, c2, d2⟩ := h.2.2.2.2.2 a
    exact ⟨a2, b.trans b2, c.trans c2, d.trans d2⟩⟩
/-- only the reader's numbers and the plan change -/
theorem lF.up {v : Nat} {f f' : Nat → Int32} {p p' : Nat → Nat → Int32} {pa pa' : Nat → Nat → Nat → Int32} {mf mf' : Nat → Int32} {mg mg' : Nat → Nat → Int32} (h1 : ∀ k, k < 2 ∨ k = 7 ∨ k = 8 ∨ k = 10 ∨ 13 < k → f' k = f k) (h2 : ∀ j, j ≠ v → p' j = p j) (h3 : ∀ j, j ≠ v → pa' j = pa j) (h4 : ∀ k, k < 2 ∨ k = 9 ∨ k = 10 ∨ k = 11 ∨ k = 12 ∨ 14 < k → mf' k = mf k) (h5 : lH mg mg') : lF v f p pa mf mg f' p' pa' mf' mg' :=
  ⟨fun k hk => h1 k (by omega), fun j hj => ⟨h2 j hj, h3 j hj⟩, fun k hk => h4 k (by omega), h5, Nat.le_of_eq (by rw [h1 10 (by omega)]), fun q => ⟨(h4 9 (by omega)).symm.trans q, h1 7 (by omega), h1 8 (by omega), h4 10 (by omega)⟩⟩
theorem lfail {N v : Nat} {k : Int32} {f : Nat → Int32} {p : Nat → Nat → Int32} {pa : Nat → Nat → Nat → Int32} {mf : Nat → Int32} {mg : Nat → Nat → Int32} (h1 : rTok N f mf) (hk : ¬ k = 0) :
    lF v f p pa mf mg (jup (jup f 7 k) 8 (f 13)) p pa (jup (jup mf 10 (mf 6)) 9 k) mg ∧ ¬ (jup (jup mf 10 (mf 6)) 9 k) 9 = 0 ∧ (jup (jup f 7 k) 8 (f 13)) 7 = (jup (jup mf 10 (mf 6)) 9 k) 9 ∧ (jup (jup f 7 k) 8 (f 13)) 8 = (jup (jup mf 10 (mf 6)) 9 k) 10 := by
  refine ⟨⟨fun k hk => by rw [jup_ne (by omega), jup_ne (by omega)], fun j _ => ⟨rfl, rfl⟩, fun k hk => by rw [jup_ne (by omega), jup_ne (by omega)], lH.rf, Nat.le_of_eq (by rw [jup_ne (by omega), jup_ne (by omega)]), fun q => by rw [jup_same] at q; exact absurd q hk⟩, (xfail (r := 0) (a0 := 0) (v := v) (p := p) (pa := pa) (mg := mg) h1 hk).2⟩
-- a step of both within a line
theorem L_step {D D' N : Nat} {f : Nat → Int32} {g : Nat → Nat → Int32} {n2 : Nat → Nat → Int64} {p : Nat → Nat → Int32} {pa : Nat → Nat → Nat → Int32} {s : Nat → Nat → Int32} {sa : Nat → Nat → Nat → Int32} {sw : Bool} {rp : Value} {t : List jE} {z : Nat × Nat × Nat × (Nat → Int32)} {cx : jCX} {mf : Nat → Int32} {mg : Nat → Nat → Int32} {mn : Nat → Nat → Int64} {mb : Nat → Nat → Int32} {ml : Nat → Int64} {t1 : List jE} {z1 : Nat × Nat × Nat × (Nat → Int32)} (h : rTok N f mf) (ht : rTp N g mg) :
    ∃ f' mf', K_k_step D f g n2 p pa s sa sw rp t z = some (.inl none, (jX f' g n2 p pa s sa sw rp t, z)) ∧ K_m_token D' cx mf mg mn mb ml t1 z1 = some (.inl none, (jXt cx (jY mf' mg mn mb ml t1), z1)) ∧ rTok N f' mf' ∧ (∀ k, k < 10 ∨ 13 < k → f' k = f k) ∧ (∀ k, k < 4 ∨ 8 < k → mf' k = mf k) ∧ lF (jq sw) f p pa mf mg f' p pa mf' mg ∧ (∀ v, lF v f p pa mf mg f' p pa mf' mg) ∧ jmu N f' ≤ N - (f 10).toNatClampNeg := by
  obtain ⟨f', mf', e1, e2, e3, e4, e5, e6⟩ := T_step (D := D) (D' := D') (N := N) (f := f) (g := g) (n2 := n2) (p := p) (pa := pa) (s := s) (sa := sa) (sw := sw) (rp := rp) (t := t) (z := z) (cx := cx) (mf := mf) (mg := mg) (mn := mn) (mb := mb) (ml := ml) (t1 := t1) (z1 := z1) h.1 ht
  have hF : ∀ v, lF v f p pa mf mg f' p pa mf' mg := fun v => ⟨fun k hk => e4 k (by omega), fun j _ => ⟨rfl, rfl⟩, fun k hk => e5 k (by omega), lH.rf, jmu_mono h.1 e3.1 e6, fun q => ⟨(e5 9 (by omega)).symm.trans q, e4 7 (by omega), e4 8 (by omega), e5 10 (by omega)⟩⟩
  exact ⟨f', mf', e1, e2, e3, e4, e5, hF _, hF, e6⟩
-- a number
theorem L_isnum {D N a b0 : Nat} {f : Nat → Int32} {g : Nat → Nat → Int32} {n2 : Nat → Nat → Int64} {p : Nat → Nat → Int32} {pa : Nat → Nat → Nat → Int32} {s : Nat → Nat → Int32} {sa : Nat → Nat → Nat → Int32} {sw : Bool} {t : List jE} {z : Nat × Nat × Nat × (Nat → Int32)} {w : Bool} {mf : Nat → Int32} (h : rTok N f mf) (hab : a ≤ b0) (hb : b0 ≤ 99999) :
    (∃ x, a ≤ x ∧ x ≤ b0 ∧ f 11 = 2 ∧ mf 7 = 2 ∧ f 12 = Int32.ofNat x ∧ mf 8 = Int32.ofNat x ∧ ¬ mf 8 < Int32.ofNat a ∧ ¬ Int32.ofNat b0 < mf 8 ∧ K_r_isNumber D w (Int32.ofNat a) (Int32.ofNat b0) f g n2 p pa s sa sw t z = some (.inl (some (.int 1)), (jX f g n2 p pa s sa sw (.ref (jpl w)) t, z))) ∨
    (¬ mf 7 = 2 ∧ K_r_isNumber D w (Int32.ofNat a) (Int32.ofNat b0) f g n2 p pa s sa sw t z = some (.inl (some (.int 0)), (jX (jup (jup f 7 1) 8 (f 13)) g n2 p pa s sa sw (.ref (jpl w)) t, z))) ∨
    (mf 7 = 2 ∧ (mf 8 < Int32.ofNat a ∨ Int32.ofNat b0 < mf 8) ∧ K_r_isNumber D w (Int32.ofNat a) (Int32.ofNat b0) f g n2 p pa s sa sw t z = some (.inl (some (.int 0)), (jX (jup (jup f 7 2) 8 (f 13)) g n2 p pa s sa sw (.ref (jpl w)) t, z))) := by
  have hk := tk_num h.2.2
  by_cases h2 : f 11 = 2
  rotate_left
  · exact Or.inr (Or.inl ⟨fun q => h2 (hk.mpr q), by rw [E_r_isNumber, if_neg h2, E_r_fail, jbO_some, jk_some, E_r_isNumber_8, if_pos (Or.inl rfl)]⟩)
  obtain ⟨x, y, hx, hy, hx6, hy6, hxy⟩ : ∃ x y : Nat, f 12 = Int32.ofNat x ∧ mf 8 = Int32.ofNat y ∧ x ≤ 1000000 ∧ y ≤ 1000000 ∧ ((x = y ∧ x ≤ 99999) ∨ (99999 < x ∧ 99999 < y)) := by
    rcases h.2.2 with ⟨h1, -⟩ | ⟨h1, -⟩ | ⟨-, -, q⟩ | ⟨h1, -⟩ | ⟨h1, -⟩ | ⟨h1, -⟩
    · rw [h1] at h2; exact absurd h2 (by decide)
    · rw [h1] at h2; exact absurd h2 (by decide)
    · exact q
    · rw [h1] at h2; exact absurd h2 (by decide)
    · rw [h1] at h2; exact absurd h2 (by decide)
    · rw [h1] at h2; exact absurd h2 (by decide)
  have hm := hk.mp h2
  have hbad : (x < a ∨ b0 < x) → K_r_isNumber D w (Int32.ofNat a) (Int32.ofNat b0) f g n2 p pa s sa sw t z = some (.inl (some (.int 0)), (jX (jup (jup f 7 2) 8 (f 13)) g n2 p pa s sa sw (.ref (jpl w)) t, z)) := by
    intro q
    have h19 : ∀ d1 d2, K_r_isNumber_19 D w d1 d2 f g n2 p pa s sa sw t z = some (.inl (some (.int 0)), (jX (jup (jup f 7 2) 8 (f 13)) g n2 p pa s sa sw (.ref (jpl w)) t, z)) := by
      intro d1 d2; rw [E_r_isNumber_19, E_r_fail, jbO_some, jk_some, E_r_isNumber_22, if_pos (Or.inl rfl)]
    rw [E_r_isNumber, if_pos h2, hx]
    by_cases q1 : x < a
    · rw [if_pos (jlt_t q1 (by omega))]; exact h19 _ _
    · rw [if_neg (jlt_n (by omega) (by omega)), if_pos (jlt_t (by omega) (by omega))]; exact h19 _ _
  by_cases hlo : x < a
  · exact Or.inr (Or.inr ⟨hm, Or.inl (by rw [hy]; exact jlt_t (by omega) (by omega)), hbad (Or.inl hlo)⟩)
  by_cases hhi : b0 < x
  · exact Or.inr (Or.inr ⟨hm, Or.inr (by rw [hy]; exact jlt_t (by omega) (by omega)), hbad (Or.inr hhi)⟩)
  have hxy' : x = y := by omega
  refine Or.inl ⟨x, by omega, by omega, h2, hm, hx, by rw [hy, hxy'], by rw [hy]; exact jlt_n (by omega) (by omega), by rw [hy]; exact jlt_n (by omega) (by omega), ?_⟩
  rw [E_r_isNumber, if_pos h2, hx, if_neg (jlt_n (by omega) (by omega)), if_neg (jlt_n (by omega) (by omega))]
/-- a number of both, taken -/
theorem L_num {D D' N a b0 : Nat} {f : Nat → Int32} {g : Nat → Nat → Int32} {n2 : Nat → Nat → Int64} {p : Nat → Nat → Int32} {pa : Nat → Nat → Nat → Int32} {s : Nat → Nat → Int32} {sa : Nat → Nat → Nat → Int32} {sw : Bool} {t : List jE} {z : Nat × Nat × Nat × (Nat → Int32)} {w : Bool} {cx : jCX} {mf : Nat → Int32} {mg : Nat → Nat → Int32} {mn : Nat → Nat → Int64} {mb : Nat → Nat → Int32} {ml : Nat → Int64} {t1 : List jE} {z1 : Nat × Nat × Nat × (Nat → Int32)} (h : rTok N f mf) (ht : rTp N g mg) (h9 : mf 9 = 0) (hab : a ≤ b0) (hb : b0 ≤ 99999) :
    (∃ x f' mf', a ≤ x ∧ x ≤ b0 ∧ K_r_isNumber D w (Int32.ofNat a) (Int32.ofNat b0) f g n2 p pa s sa sw t z = some (.inl (some (.int 1)), (jX f g n2 p pa s sa sw (.ref (jpl w)) t, z)) ∧ K_r_take D w f g n2 p pa s sa sw t z = some (.inl (some (.int (Int32.ofNat x))), (jX f' g n2 p pa s sa sw (.ref (jpl w)) t, z)) ∧ K_m_numeral D' (Int32.ofNat a) (Int32.ofNat b0) cx mf mg mn mb ml t1 z1 = some (.inl (some (.int (Int32.ofNat x))), (jXt cx (jY mf' mg mn mb ml t1), z1)) ∧ rTok N f' mf' ∧ (∀ k, k < 10 ∨ 13 < k → f' k = f k) ∧ (∀ k, k < 4 ∨ 8 < k → mf' k = mf k) ∧ (∀ v, lF v f p pa mf mg f' p pa mf' mg)) ∨
    (∃ f' mf', K_r_isNumber D w (Int32.ofNat a) (Int32.ofNat b0) f g n2 p pa s sa sw t z = some (.inl (some (.int 0)), (jX f' g n2 p pa s sa sw (.ref (jpl w)) t, z)) ∧ K_m_numeral D' (Int32.ofNat a) (Int32.ofNat b0) cx mf mg mn mb ml t1 z1 = some (.inl (some (.int (Int32.ofNat a))), (jXt cx (jY mf' mg mn mb ml t1), z1)) ∧ (∀ v, lF v f p pa mf mg f' p pa mf' mg) ∧ ¬ mf' 9 = 0 ∧ f' 7 = mf' 9 ∧ f' 8 = mf' 10) := by
  rcases L_isnum (D := D) (n2 := n2) (p := p) (pa := pa) (s := s) (sa := sa) (sw := sw) (t := t) (z := z) (g := g) (w := w) h hab hb with ⟨x, hx1, hx2, h11, h7, h12, h8, hn1, hn2, hk⟩ | ⟨h7, hk⟩ | ⟨h7, hv, hk⟩
  · left
    obtain ⟨f', mf', e1, e2, e3, e4, e5, -, e7, -⟩ := L_step (D := D) (D' := D') (N := N) (f := f) (g := g) (n2 := n2) (p := p) (pa := pa) (s := s) (sa := sa) (sw := sw) (rp := .ref (jpl w)) (t := t) (z := z) (cx := cx) (mf := mf) (mg := mg) (mn := mn) (mb := mb) (ml := ml) (t1 := t1) (z1 := z1) h ht
    refine ⟨x, f', mf', hx1, hx2, hk, ?_, ?_, e3, e4, e5, e7⟩
    · rw [E_r_take, e1, jbO_some, jk_none, E_r_take_7, h12]
    · rw [E_m_numeral, if_pos h9, if_pos h7, if_neg hn1, if_neg hn2, E_m_numeral_24, if_pos h9, e2, jbO_some, jk_none, E_m_numeral_34, h8]
  · right
    have hb := fun v => lfail (v := v) (k := 1) (p := p) (pa := pa) (mg := mg) h (by decide)
    refine ⟨_, _, hk, ?_, fun v => (hb v).1, (hb 0).2⟩
    rw [E_m_numeral, if_pos h9, if_neg h7, M_wrong h9, jbO_some, jk_none, E_m_numeral_12, E_m_numeral_24, if_neg (by rw [jup_same]; decide)]
  · right
    have hb := fun v => lfail (v := v) (k := 2) (p := p) (pa := pa) (mg := mg) h (by decide)
    refine ⟨_, _, hk, ?_, fun v => (hb v).1, (hb 0).2⟩
    have h21 : ∀ d2 d3, K_m_numeral_21 D' (Int32.ofNat a) d2 d3 cx mf mg mn mb ml t1 z1 = some (.inl (some (.int (Int32.ofNat a))), (jXt cx (jY (jup (jup mf 10 (mf 6)) 9 2) mg mn mb ml t1), z1)) := by
      intro d2 d3
      rw [E_m_numeral_21, M_wrong h9, jbO_some, jk_none, F_m_numeral_24, E_m_numeral_24, if_neg (by rw [jup_same]; decide)]
    rw [E_m_numeral, if_pos h9, if_pos h7]
    by_cases q : mf 8 < Int32.ofNat a
    · rw [if_pos q]; exact h21 _ _
    · rw [if_neg q, if_pos (hv.resolve_left q)]; exact h21 _ _
