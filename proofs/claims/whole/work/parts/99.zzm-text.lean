-- CALL BY CALL: text
theorem jhf_at {n i : Nat} {v : Nat → Int32} (h : i < n) : jhf n v i = v (n + i) := by unfold jhf; rw [if_pos h]
/-- the plan read, once the second halves have become the first -/
theorem rPl_halves {N : Nat} {g : Nat → Nat → Int32} {f q : Nat → Int32} {qa : Nat → Nat → Int32} {mf : Nat → Int32} {mg gH : Nat → Nat → Int32} (h : rLn N g f q qa mf mg) (h1 : gH 1 = jhf 11 (mg 1)) (h2 : gH 2 = jhf 30 (mg 2)) (h38 : ∀ k, 3 ≤ k → k ≤ 8 → gH k = jhf 6 (mg k)) (h9 : gH 9 = jhf 14 (mg 9)) (h10 : gH 10 = jhf 3 (mg 10)) (h11 : gH 11 = jhf 3 (mg 11)) (h12 : gH 12 = jhf 64 (mg 12)) (h13 : gH 13 = jhf 64 (mg 13)) :
    ∃ C Sc, rPl q qa C Sc gH ∧ (∃ r : Nat, r < 100 ∧ q 7 = Int32.ofNat r) ∧ (∃ m : Nat, m < 100 ∧ q 6 = Int32.ofNat m) ∧ (∀ c, c < 30 → ∃ r : Nat, r < 100 ∧ qa 0 c = Int32.ofNat r) ∧ ∀ i, i < Sc → ∃ r : Nat, r < 10 ∧ qa 5 i = Int32.ofNat r := by
  obtain ⟨W, H, Sc, fl, Wn, kn, cr, -, -, -, -, -, hN, hC, hS, hW, hL⟩ := h
  obtain ⟨-, ⟨q1, q1', hW1, hW6⟩, ⟨q2, q2', hH1, hH5⟩, ⟨q3, q3', hS6⟩, ⟨q4, q4', -⟩, ⟨m6, hm6, q6, q6'⟩, ⟨m7, hm7, q7, q7'⟩, ⟨q5, q5', hW14⟩, q8, ⟨q9, q9', -, hk64⟩, -⟩ := hN
  have hWH : W * H ≤ 30 := Nat.mul_le_mul hW6 hH5
  have hWH1 : 1 ≤ W * H := Nat.mul_le_mul hW1 hH1
  have hlaw : ∀ r, r < 3 → ∃ n, q (10 + r) = Int32.ofNat n ∧ jwf n (qa (8 + 2 * r)) (qa (9 + 2 * r)) ∧ rLaw n (qa (8 + 2 * r)) (qa (9 + 2 * r)) gH r := by
    intro r hr
    obtain ⟨a, n, l1, l2, l3, l4, l5, l6, -⟩ := hL r hr
    refine ⟨n, l1, l5, a, ?_, ?_, by omega, fun k hk => ?_⟩
    · rw [h10, jhf_at hr]; exact l2
    · rw [h11, jhf_at hr]; exact l3
    · rw [h12, h13, jhf_at (by omega), jhf_at (by omega)]; exact l6 k hk
  obtain ⟨n0, a0, b0, c0⟩ := hlaw 0 (by omega)
  obtain ⟨n1, a1, b1, c1⟩ := hlaw 1 (by omega)
  obtain ⟨n2, a2, b2, c2⟩ := hlaw 2 (by omega)
  have g1 : ∀ i, i < 11 → gH 1 i = mg 1 (11 + i) := fun i hi => by rw [h1, jhf_at hi]
  have g3 : ∀ k, 3 ≤ k → k ≤ 8 → ∀ i, i < 6 → gH k i = mg k (6 + i) := fun k x y i hi => by rw [h38 k x y, jhf_at hi]
  refine ⟨W * H, Sc, ⟨⟨?_, hWH, hWH1, ?_, q3, hS6, ⟨Wn, q5, hW14⟩, fun i hi => (hS.1 i hi).2.2.2.2.2.2.1, ⟨n0, a0, b0⟩, ⟨n1, a1, b1⟩, ⟨n2, a2, b2⟩⟩, ⟨?_, ?_, ?_, ?_, ?_, ?_, ?_, ?_, ?_⟩, fun c hc => ?_, fun i hi => ?_, fun d hd => ?_, ?_, ?_, ?_⟩, ⟨m7, hm7, q7⟩, ⟨m6, by omega, q6⟩, fun c hc => (hC c hc).2.2, fun i hi => (hS.1 i hi).2.2.2.2.2.2.2⟩
  · rw [q1, q2, jofmul]
  · rw [q1]; exact jlt_n (b := 1) (by omega) (by omega)
  · rw [g1 0 (by omega), q1, q1']
  · rw [g1 1 (by omega), q2, q2']
  · rw [g1 2 (by omega), q3, q3']
  · rw [g1 3 (by omega), q4, q4']
  · rw [g1 4 (by omega), q6, q6']
  · rw [g1 5 (by omega), q7, q7']
  · rw [g1 6 (by omega), q5, q5']
  · rw [g1 7 (by omega), q8]
  · rw [g1 9 (by omega), q9, q9']
  · rw [h2, jhf_at (by omega)]; exact (hC c (by omega)).2.1
  · obtain ⟨b1, b2, b3, b4, b5, b6, -⟩ := hS.1 i hi
    rw [g3 3 (by omega) (by omega) i (by omega), g3 4 (by omega) (by omega) i (by omega), g3 5 (by omega) (by omega) i (by omega), g3 6 (by omega) (by omega) i (by omega), g3 7 (by omega) (by omega) i (by omega), g3 8 (by omega) (by omega) i (by omega)]
    exact ⟨b1, b2, b3, b4, b5, b6⟩
  · rw [q5, jclamp (by omega)] at hd
    rw [h9, jhf_at (by omega)]; exact hW d hd
  · rw [a0, jclamp (by have := b0.1; omega)]; exact c0
  · rw [a1, jclamp (by have := b1.1; omega)]; exact c1
  · rw [a2, jclamp (by have := b2.1; omega)]; exact c2
/-- the plan that stands has nothing of the second halves -/
theorem rPl_lH {q : Nat → Int32} {qa : Nat → Nat → Int32} {C Sc : Nat} {g g' : Nat → Nat → Int32} (h : rPl q qa C Sc g) (hl : lH g g') : rPl q qa C Sc g' := by
  obtain ⟨a1, ⟨b0, b1, b2, b3, b4, b5, b6, b7, b9⟩, c1, d1, e1, l0, l1, l2⟩ := h
  obtain ⟨-, h1, h2, h3, h9, h10, h12⟩ := hl
  have hS6 : Sc ≤ 6 := a1.2.2.2.2.2.1
  have hlw : ∀ n kd vl r, r < 3 → rLaw n kd vl g r → rLaw n kd vl g' r := by
    intro n kd vl r hr ⟨a, x1, x2, x3, x4⟩
    refine ⟨a, by rw [h10 10 (by omega) r hr]; exact x1, by rw [h10 11 (by omega) r hr]; exact x2, x3, fun k hk => ?_⟩
    rw [h12 12 (by omega) _ (by omega), h12 13 (by omega) _ (by omega)]; exact x4 k hk
  refine ⟨a1, ⟨?_, ?_, ?_, ?_, ?_, ?_, ?_, ?_, ?_⟩, fun c hc => ?_, fun i hi => ?_, fun d hd => ?_, hlw _ _ _ 0 (by omega) l0, hlw _ _ _ 1 (by omega) l1, hlw _ _ _ 2 (by omega) l2⟩
  · rw [h1 0 (by omega)]; exact b0
  · rw [h1 1 (by omega)]; exact b1
  · rw [h1 2 (by omega)]; exact b2
  · rw [h1 3 (by omega)]; exact b3
  · rw [h1 4 (by omega)]; exact b4
  · rw [h1 5 (by omega)]; exact b5
  · rw [h1 6 (by omega)]; exact b6
  · rw [h1 7 (by omega)]; exact b7
  · rw [h1 9 (by omega)]; exact b9
  · rw [h2 c (by have := a1.2.1; omega)]; exact c1 c hc
  · rw [h3 3 (by omega) (by omega) i (by omega), h3 4 (by omega) (by omega) i (by omega), h3 5 (by omega) (by omega) i (by omega), h3 6 (by omega) (by omega) i (by omega), h3 7 (by omega) (by omega) i (by omega), h3 8 (by omega) (by omega) i (by omega)]
    exact d1 i hi
  · obtain ⟨Wn, hW, hW14⟩ := a1.2.2.2.2.2.2.1
    rw [hW, jclamp (by omega)] at hd
    rw [h9 d (by omega)]
    exact e1 d (by rw [hW, jclamp (by omega)]; exact hd)
theorem rFr_hi {C Sc F : Nat} {S : jS} {g g' : Nat → Nat → Int32} (h : rFr C Sc S F g) (hg : ∀ k, 14 ≤ k → g' k = g k) : rFr C Sc S F g' := by
  unfold rFr rSt at h ⊢
  rw [hg 14 (by omega), hg 15 (by omega), hg 16 (by omega), hg 17 (by omega), hg 18 (by omega), hg 19 (by omega), hg 20 (by omega), hg 21 (by omega), hg 22 (by omega), hg 23 (by omega), hg 24 (by omega)]
  exact h
theorem rPl_cgr {q q' : Nat → Int32} {qa qa' : Nat → Nat → Int32} {C Sc : Nat} {g : Nat → Nat → Int32} (h : rPl q qa C Sc g) (hq : ∀ k, k < 13 → q' k = q k) (ha : ∀ k, k < 14 → qa' k = qa k) : rPl q' qa' C Sc g := by
  unfold rPl jPl at h ⊢
  rw [hq 1 (by omega), hq 2 (by omega), hq 3 (by omega), hq 4 (by omega), hq 5 (by omega), hq 6 (by omega), hq 7 (by omega), hq 8 (by omega), hq 9 (by omega), hq 10 (by omega), hq 11 (by omega), hq 12 (by omega), ha 0 (by omega), ha 1 (by omega), ha 2 (by omega), ha 3 (by omega), ha 4 (by omega), ha 5 (by omega), ha 6 (by omega), ha 7 (by omega), ha 8 (by omega), ha 9 (by omega), ha 10 (by omega), ha 11 (by omega), ha 12 (by omega), ha 13 (by omega)]
  exact h
theorem RR_cgr {f f' : Nat → Int32} {g : Nat → Nat → Int32} {p p' : Nat → Nat → Int32} {pa pa' : Nat → Nat → Nat → Int32} {s : Nat → Nat → Int32} {sa : Nat → Nat → Nat → Int32} {sw : Bool} {mf : Nat → Int32} {mg mb : Nat → Nat → Int32} (h : RR f g p pa s sa sw mf mg mb) (hf : ∀ k, k < 26 → f' k = f k) (hp : ∀ k, k < 13 → p' (jq sw) k = p (jq sw) k) (ha : ∀ k, k < 14 → pa' (jq sw) k = pa (jq sw) k) : RR f' g p' pa' s sa sw mf mg mb := by
  obtain ⟨C, Sc, h1, h2, h3, h4, h5, h6, h7, h8, h9, h10, h11, h12⟩ := h
  refine ⟨C, Sc, rPl_cgr h1 hp ha, ?_, ?_, h4, h5, ?_, ?_, ?_, ?_, ?_, h11, ?_⟩
  · rw [hp 7 (by omega)]; exact h2
  · unfold jneu at h3 ⊢
    rw [hf 14 (by omega), hf 15 (by omega), hf 16 (by omega), hf 17 (by omega), hf 18 (by omega), hf 19 (by omega), hf 20 (by omega), hf 21 (by omega)]; exact h3
  · unfold rIm at h6 ⊢; rw [hf 1 (by omega)]; exact h6
  · unfold rUn at h7 ⊢; rw [hf 23 (by omega)]; exact h7
  · unfold rNo at h8 ⊢; rw [hf 24 (by omega), hf 25 (by omega)]; exact h8
  · unfold rTa at h9 ⊢; rw [hf 0 (by omega)]; exact h9
  · rw [hf 7 (by omega), hf 8 (by omega)]; exact h10
  · rw [hp 6 (by omega)]; exact h12
def jri (l : List jE) (i j : Nat) : Nat := match jnth l i with
  | some (.inr (_, vs)) => match jnth vs j with
    | some (.ref x) => x
    | _ => 0
  | _ => 0
theorem jX_sw {f f' : Nat → Int32} {g g' : Nat → Nat → Int32} {n2 n2' : Nat → Nat → Int64} {p p' : Nat → Nat → Int32} {pa pa' : Nat → Nat → Nat → Int32} {s s' : Nat → Nat → Int32} {sa sa' : Nat → Nat → Nat → Int32} {sw sw' : Bool} {rp rp' : Value} {t t' : List jE} (h : jX f g n2 p pa s sa sw rp t = jX f' g' n2' p' pa' s' sa' sw' rp' t') : sw = sw' := by
  have e : (bif sw then 24 else 5) = (bif sw' then 24 else 5) := congrArg (fun l => jri l 0 2) h
  cases sw <;> cases sw' <;> first | rfl | (exact absurd e (by decide))
theorem jX_p {f f' : Nat → Int32} {g g' : Nat → Nat → Int32} {n2 n2' : Nat → Nat → Int64} {p p' : Nat → Nat → Int32} {pa pa' : Nat → Nat → Nat → Int32} {s s' : Nat → Nat → Int32} {sa sa' : Nat → Nat → Nat → Int32} {sw sw' : Bool} {rp rp' : Value} {t t' : List jE} (h : jX f g n2 p pa s sa sw rp t = jX f' g' n2' p' pa' s' sa' sw' rp' t') (w : Bool) : (∀ k, k < 13 → p (jq w) k = p' (jq w) k) ∧ ∀ k, k < 14 → pa (jq w) k = pa' (jq w) k := by
  cases w
  · exact ⟨jX_p0 h, jX_a0 h⟩
  · exact ⟨jX_p1 h, jX_a1 h⟩
theorem A_text {D : Nat} {a : Int32} {f : Nat → Int32} {g : Nat → Nat → Int32} {n2 : Nat → Nat → Int64} {p : Nat → Nat → Int32} {pa : Nat → Nat → Nat → Int32} {s : Nat → Nat → Int32} {sa : Nat → Nat → Nat → Int32} {sw : Bool} {rp : Value} {mf : Nat → Int32} {mg : Nat → Nat → Int32} {mn : Nat → Nat → Int64} {mb : Nat → Nat → Int32} {ml : Nat → Int64} (hD : 119 ≤ D) (h : RR f g p pa s sa sw mf mg mb) : ∀ (t : List jE) (z : Nat × Nat × Nat × (Nat → Int32)), ∃ r : Int32, ∃ f' g' n2' p' pa' s' sa' sw' rp', K_c_text D a f g n2 p pa s sa sw rp t z = some (.inl (some (.int r)), (jX f' g' n2' p' pa' s' sa' sw' rp' t, z)) ∧ ∀ (cx : jCX) (t1 : List jE) (z1 : Nat × Nat × Nat × (Nat → Int32)), ∃ mf' mg' mn' mb' ml', K_m_text D a cx mf mg mn mb ml t1 z1 = some (.inl (some (.int r)), (jXt cx (jY mf' mg' mn' mb' ml' t1), z1)) ∧ RR f' g' p' pa' s' sa' sw' mf' mg' mb' := by
  intro t z
  have hr := RR_congr h (by intro k hk; simp (disch := omega) only [jup_ne]) (by intro k hk; simp (disch := omega) only [jup_ne]) rfl rfl (by constructor <;> simp (disch := omega) only [jup_ne]) (by constructor <;> simp (disch := omega) only [jup_ne]) (by intro k hk; simp (disch := omega) only [jup_ne]) (jq1.rf) rfl (f' := f) (g' := g) (s' := s) (sa' := sa) (p' := p) (pa' := pa) (sw' := sw) (mf' := jup mf 0 0) (mg' := mg) (mb' := mb)
  obtain ⟨C, Sc, r1, r2, r3, r4, r5, r6, r7, r8, r9, r10, r11, r12⟩ := id h
  obtain ⟨tl, tl7, tf, tm, tb⟩ := r9
  have hjq : jq sw ≠ jq (!sw) := by cases sw <;> decide
  rcases jcases a with h0 | ⟨N, hNb, rfl⟩
  · refine ⟨-2, f, g, n2, p, pa, s, sa, sw, rp, ?_, fun cx t z => ⟨jup mf 0 0, mg, mn, mb, ml, ?_, hr⟩⟩
    · rw [E_c_text, if_pos h0]
    · rw [E_m_text, if_pos h0]
  have hn0 : ¬ Int32.ofNat N < 0 := jnonneg hNb
  by_cases hbig : tl < N
  · refine ⟨-2, f, g, n2, p, pa, s, sa, sw, rp, ?_, fun cx t z => ⟨jup mf 0 0, mg, mn, mb, ml, ?_, hr⟩⟩
    · rw [E_c_text, if_neg hn0, if_pos (by rw [tf]; exact jlt_t hbig hNb)]
    · rw [E_m_text, if_neg hn0, if_pos (by rw [tm]; exact jlt_t hbig hNb)]
  have hNt : N ≤ tl := by omega
  have c0 : K_c_text D (Int32.ofNat N) f g n2 p pa s sa sw rp t z = jbO (K_r_start D (!sw) (Int32.ofNat N) (jup f 0 0) g n2 p pa s sa sw rp t z) (jk D 102 17 ([some (.ref 0), some (.int (Int32.ofNat N)), none], []) []) := by
    rw [E_c_text, if_neg hn0, if_neg (by rw [tf]; exact jlt_n (by omega) (by omega))]
  -- the class starts
  generalize hp1 : jup p (jq (!sw)) (jclq (p (jq (!sw)))) = p1
  generalize hpa1 : jup pa (jq (!sw)) (jup (pa (jq (!sw))) 0 (jfil 10 30 (pa (jq (!sw)) 0))) = pa1
  generalize hf1 : jup (jup (jup (jup (jup (jup (jup (jup (jup f 0 0) 2 0) 3 0) 4 0) 5 0) 7 0) 8 (-1)) 10 0) 9 (Int32.ofNat N) = f1
  have hf1' : (jup (jup (jup (jup (jup (jup (jup (jup (jup f 0 0) 2 0) 3 0) 4 0) 5 0) 7 0) 8 (-1)) 10 0) 9 (if (700 : Int32) < Int32.ofNat N then 700 else Int32.ofNat N)) = f1 := by
    rw [if_neg (show ¬ (700 : Int32) < Int32.ofNat N from jlt_n (a := 700) (by omega) (by omega))]; exact hf1
  have hq1 : p1 (jq (!sw)) = jclq (p (jq (!sw))) := by rw [← hp1, jup_same]
  have hqa1 : pa1 (jq (!sw)) 0 = jfil 10 30 (pa (jq (!sw)) 0) := by rw [← hpa1, jup_same, jup_same]
  -- for any memory of the reference
  have hmain : ∀ (cx : jCX) (t1 : List jE) (z1 : Nat × Nat × Nat × (Nat → Int32)), ∃ (f2 mf2 : Nat → Int32) (mg2 : Nat → Nat → Int32) (e2 : Option Value), K_c_text D (Int32.ofNat N) f g n2 p pa s sa sw rp t z = K_c_text_19 D (some (.int (Int32.ofNat N))) 0 f2 g n2 p1 pa1 s sa sw (.ref (jpl (!sw))) t z ∧ K_m_text D (Int32.ofNat N) cx mf mg mn mb ml t1 z1 = K_m_text_102 D (some (.int (Int32.ofNat N))) e2 cx mf2 mg2 mn mb ml t1 z1 ∧ rLn N g f2 (p1 (jq (!sw))) (pa1 (jq (!sw))) mf2 mg2 ∧ jmu N f2 ≤ N ∧ lH mg mg2 ∧ (∀ k, k = 1 ∨ 13 < k → f2 k = f k) ∧ f2 0 = 0 ∧ f2 7 = 0 ∧ f2 8 = -1 ∧ (∀ k, k = 11 ∨ k = 12 ∨ 14 < k → mf2 k = mf k) ∧ mf2 1 = 0 ∧ mf2 10 = -1 := by
    intro cx t1 z1
    generalize hm1 : jup (jup (jup (jup (jup (jup (jup (jup (jup (jup mf 0 0) 1 0) 10 (-1)) 4 (Int32.ofNat N)) 5 0) 9 0) 13 0) 14 0) 2 0) 3 0 = mf1
    generalize hg1 : (jup (jup (jup (jup mg 1 (fun i => if 11 ≤ i ∧ i < 22 then jini (i - 11) else mg 1 i)) 2 (fun i => if 30 ≤ i ∧ i < 60 then 0 else mg 2 i)) 10 (jup (jup (jup (mg 10) 3 0) 4 0) 5 0)) 11 (jup (jup (jup (mg 11) 3 0) 4 0) 5 0)) = mg2
    have g21 : mg2 1 = fun i => if 11 ≤ i ∧ i < 22 then jini (i - 11) else mg 1 i := by rw [← hg1]; simp (disch := omega) only [jup_ne, jup_same]
    have g22 : mg2 2 = fun i => if 30 ≤ i ∧ i < 60 then 0 else mg 2 i := by rw [← hg1]; simp (disch := omega) only [jup_ne, jup_same]
    have g210 : mg2 10 = jup (jup (jup (mg 10) 3 0) 4 0) 5 0 := by rw [← hg1]; simp (disch := omega) only [jup_ne, jup_same]
    have g211 : mg2 11 = jup (jup (jup (mg 11) 3 0) 4 0) 5 0 := by rw [← hg1, jup_same]
    have g2k : ∀ k, k ≠ 1 → k ≠ 2 → k ≠ 10 → k ≠ 11 → mg2 k = mg k := fun k a b c d => by rw [← hg1, jup_ne d, jup_ne c, jup_ne b, jup_ne a]
    have hpos : rPos N f1 mf1 := ⟨by omega, by rw [← hf1, jup_same], by rw [← hm1]; simp (disch := omega) only [jup_ne, jup_same], 0, Nat.zero_le _, by rw [← hf1, jup_ne (by omega), jup_same]; rfl, by rw [← hm1]; simp (disch := omega) only [jup_ne, jup_same]; rfl⟩
    have htp : rTp N g mg2 := by
      refine ⟨fun i hi => (tb i (by omega)).2, fun i hi => ?_, r11⟩
      rw [g2k 0 (by omega) (by omega) (by omega) (by omega)]; exact (tb i (by omega)).1
    obtain ⟨f2, mf2, e1, e2, e3, e4, e5, e6⟩ := T_step (D := D) (D' := D) (N := N) (f := f1) (g := g) (n2 := n2) (p := p1) (pa := pa1) (s := s) (sa := sa) (sw := sw) (rp := .ref (jpl (!sw))) (t := t) (z := z) (cx := cx) (mf := mf1) (mg := mg2) (mn := mn) (mb := mb) (ml := ml) (t1 := t1) (z1 := z1) hpos htp
    obtain ⟨d2, hm73⟩ := M_text_73 (D := D) (d1 := some (.int (Int32.ofNat N))) (cx := cx) (f := jup (jup (jup (jup (jup (jup mf 0 0) 1 0) 10 (-1)) 4 (Int32.ofNat N)) 5 0) 9 0) (g := jup (jup mg 1 (fun i => if 11 ≤ i ∧ i < 22 then jini (i - 11) else mg 1 i)) 2 (fun i => if 30 ≤ i ∧ i < 60 then 0 else mg 2 i)) (n := mn) (b := mb) (l := ml) (t := t1) (z := z1)
    rw [jup_ne (show (10 : Nat) ≠ 2 by omega), jup_ne (show (10 : Nat) ≠ 1 by omega), jup_ne (show (11 : Nat) ≠ 2 by omega), jup_ne (show (11 : Nat) ≠ 1 by omega), hm1, hg1] at hm73
    have f2k : ∀ k, k < 10 ∨ 13 < k → f2 k = f1 k := e4
    have f1k : ∀ k, k = 1 ∨ 10 < k → f1 k = f k := fun k hk => by rw [← hf1]; simp (disch := omega) only [jup_ne]
    have m1k : ∀ k, k = 11 ∨ k = 12 ∨ 14 < k → mf1 k = mf k := fun k hk => by rw [← hm1]; simp (disch := omega) only [jup_ne]
    have f10 : (f1 10).toNatClampNeg = 0 := by rw [← hf1, jup_ne (by omega), jup_same]; decide
    have v0 : f1 0 = 0 ∧ f1 2 = 0 ∧ f1 3 = 0 ∧ f1 4 = 0 ∧ f1 5 = 0 ∧ f1 7 = 0 ∧ f1 8 = -1 := by
      rw [← hf1]; simp (disch := omega) only [jup_ne, jup_same]; decide
    have w0 : mf1 1 = 0 ∧ mf1 2 = 0 ∧ mf1 3 = 0 ∧ mf1 9 = 0 ∧ mf1 10 = -1 ∧ mf1 13 = 0 ∧ mf1 14 = 0 := by
      rw [← hm1]; simp (disch := omega) only [jup_ne, jup_same]; decide
    refine ⟨f2, mf2, mg2, d2, ?_, ?_, ?_, ?_, ?_, fun k hk => by rw [f2k k (by omega), f1k k (by omega)], by rw [f2k 0 (by omega)]; exact v0.1, by rw [f2k 7 (by omega)]; exact v0.2.2.2.2.2.1, by rw [f2k 8 (by omega)]; exact v0.2.2.2.2.2.2, fun k hk => by rw [e5 k (by omega), m1k k hk], by rw [e5 1 (by omega)]; exact w0.1, by rw [e5 10 (by omega)]; exact w0.2.2.2.2.1⟩
    · rw [c0, E_r_start, S_p_clear, jbO_some, jk_none, E_r_start_6, E_k_start, hp1, hpa1, hf1', e1, jbO_some, jk_none, E_k_start_10, jbO_some, jk_none, E_r_start_28, jbO_some, jk_none, E_c_text_17]
    · rw [E_m_text, if_neg hn0, if_neg (by rw [tm]; exact jlt_n (by omega) (by omega)), M_text_28, M_text_61, jup_ne (show (2 : Nat) ≠ 1 by omega), hm73, e2, jbO_some, jk_none, F_m_text_102]
    · rw [hq1]
      have gi : ∀ i, i < 11 → mg2 1 (11 + i) = jini i := by
        intro i hi; rw [g21]; dsimp only; rw [if_pos (by omega), show 11 + i - 11 = i by omega]
      refine ⟨5, 4, 0, 0, 0, 0, 0, e3, htp, by rw [e5 9 (by omega)]; exact w0.2.2.2.1, by rw [e5 13 (by omega)]; exact w0.2.2.2.2.2.1, ⟨?_, ?_⟩, ?_, ?_, ⟨fun i hi => absurd hi (Nat.not_lt_zero i), fun q => absurd q (by omega)⟩, fun d hd => absurd hd (Nat.not_lt_zero d), ?_⟩
      · intro x _
        rw [f2k 2 (by omega), v0.2.1, e5 2 (by omega), w0.2.1, b_0, b_0]
      · rw [f2k 5 (by omega), v0.2.2.2.2.1, e5 2 (by omega), w0.2.1, b_0, b_0]
        exact ⟨fun _ => ⟨rfl, rfl⟩, fun _ => rfl⟩
      · unfold rNum
        rw [e5 3 (by omega), e5 14 (by omega), w0.2.2.1, w0.2.2.2.2.2.2, f2k 4 (by omega), v0.2.2.2.1, gi 0 (by omega), gi 1 (by omega), gi 2 (by omega), gi 3 (by omega), gi 4 (by omega), gi 5 (by omega), gi 6 (by omega), gi 7 (by omega), gi 9 (by omega), gi 10 (by omega)]
        unfold jclq
        simp (disch := omega) only [jup_ne, jup_same]
        refine ⟨trivial, ⟨rfl, rfl, by omega, by omega⟩, ⟨rfl, rfl, by omega, by omega⟩, ⟨rfl, rfl, by omega⟩, ⟨rfl, rfl, by omega⟩, ⟨12, by omega, rfl, rfl⟩, ⟨5, by omega, rfl, rfl⟩, ⟨rfl, rfl, by omega⟩, rfl, ⟨rfl, rfl, rfl, by omega⟩, ⟨rfl, rfl, by omega⟩⟩
      · intro c hc
        have h0 : mg2 2 (30 + c) = 0 := by rw [g22]; dsimp only; rw [if_pos (by omega)]
        rw [h0, hqa1, f2k 3 (by omega), v0.2.2.1, b_0]
        refine ⟨by decide, ?_, 10, by omega, ?_⟩
        · rw [if_neg (by decide)]; unfold jfil; rw [if_pos hc]
        · unfold jfil; rw [if_pos hc]; rfl
      · intro r hr
        refine ⟨0, 0, ?_, ?_, ?_, Nat.le_refl _, ⟨by omega, Or.inl rfl⟩, fun k hk => absurd hk (Nat.not_lt_zero k), fun _ => rfl⟩
        · unfold jclq
          rcases jlt3 hr with rfl | rfl | rfl <;> simp (disch := omega) only [jup_ne, jup_same] <;> rfl
        · rw [g210]; rcases jlt3 hr with rfl | rfl | rfl <;> simp (disch := omega) only [jup_ne, jup_same] <;> rfl
        · rw [g211]; rcases jlt3 hr with rfl | rfl | rfl <;> simp (disch := omega) only [jup_ne, jup_same] <;> rfl
    · rw [f10] at e6; omega
    · refine ⟨fun k hk => g2k k (by omega) (by omega) (by omega) (by omega), fun i hi => ?_, fun i hi => ?_, fun k x y i hi => by rw [g2k k (by omega) (by omega) (by omega) (by omega)], fun i hi => by rw [g2k 9 (by omega) (by omega) (by omega) (by omega)], fun k hk i hi => ?_, fun k hk i hi => by rw [g2k k (by omega) (by omega) (by omega) (by omega)]⟩
      · rw [g21]; dsimp only; rw [if_neg (by omega)]
      · rw [g22]; dsimp only; rw [if_neg (by omega)]
      · rcases hk with rfl | rfl
        · rw [g210, jup_ne (by omega), jup_ne (by omega), jup_ne (by omega)]
        · rw [g211, jup_ne (by omega), jup_ne (by omega), jup_ne (by omega)]
  -- for any memory of the reference, what both end in
  have hall : ∀ (cx : jCX) (t1 : List jE) (z1 : Nat × Nat × Nat × (Nat → Int32)), ∃ (r : Int32) (f' : Nat → Int32) (p' : Nat → Nat → Int32) (pa' : Nat → Nat → Nat → Int32) (s' : Nat → Nat → Int32) (sa' : Nat → Nat → Nat → Int32) (sw' : Bool) (mf' : Nat → Int32) (mg' : Nat → Nat → Int32),
      K_c_text D (Int32.ofNat N) f g n2 p pa s sa sw rp t z = some (.inl (some (.int r)), (jX f' g n2 p' pa' s' sa' sw' (.ref (jpl (!sw))) t, z)) ∧ K_m_text D (Int32.ofNat N) cx mf mg mn mb ml t1 z1 = some (.inl (some (.int r)), (jXt cx (jY mf' mg' mn mb ml t1), z1)) ∧ RR f' g p' pa' s' sa' sw' mf' mg' mb ∧
      ((sw' = sw ∧ s' = s ∧ sa' = sa) ∨ (sw' = !sw ∧ ∃ C, C ≤ 30 ∧ p' (jq (!sw)) 1 * p' (jq (!sw)) 2 = Int32.ofNat C ∧ s' = jup s 0 (jbeg (pa' (jq (!sw))) C (s 0, sa 0)).1 ∧ sa' = jup sa 0 (jbeg (pa' (jq (!sw))) C (s 0, sa 0)).2)) := by
    intro cx t1 z1
    obtain ⟨f2, mf2, mg2, e2, a1, a2, a3, a4, a5, a6, a7, a8, a9, a10, a11, a12⟩ := hmain cx t1 z1
    have hLo := L_loop (D := D) (D' := D) (N := N) (d1 := some (.int (Int32.ofNat N))) (e1 := some (.int (Int32.ofNat N))) (e2 := e2) (g := g) (n2 := n2) (s := s) (sa := sa) (sw := sw) (t := t) (z := z) (cx := cx) (mn := mn) (mb := mb) (ml := ml) (t1 := t1) (z1 := z1) (by omega) hD N f2 p1 pa1 mf2 mg2 0 a4 (by omega) a3
    rcases hLo with ⟨f3, p3, pa3, mf3, mg3, d2, c1, c2, c3, c4⟩ | ⟨f3, p3, pa3, mf3, mg3, c1, c2, c3, b1, b2, b3⟩
    · -- all is right
      have c1' : K_c_text_19 D (some (.int (Int32.ofNat N))) 0 f2 g n2 p1 pa1 s sa sw (.ref (jpl (!sw))) t z = _ := c1
      obtain ⟨C3, C4, C5, C6, C7, C8⟩ := id c3
      have m39 : mf3 9 = 0 := by obtain ⟨_, _, _, _, _, _, _, _, _, x, _⟩ := id c4; exact x
      obtain ⟨-, k7, k8, k10⟩ := C8 m39
      obtain ⟨gH, gh, g1, g2, g38, g9, g10, g11, g12, g13, ghi⟩ := M_halves (D := D) (e1 := some (.int (Int32.ofNat N))) (e2 := e2) (cx := cx) (f := mf3) (g := mg3) (n := mn) (b := mb) (l := ml) (t := t1) (z := z1) m39
      obtain ⟨C', Sc', hPl, hq7, hq6, hcr, hgr⟩ := rPl_halves c4 g1 g2 g38 g9 g10 g11 g12 g13
      have hC30 : C' ≤ 30 := hPl.1.2.1
      have hS6 : Sc' ≤ 6 := hPl.1.2.2.2.2.2.1
      have hC : p3 (jq (!sw)) 1 * p3 (jq (!sw)) 2 = Int32.ofNat C' := hPl.1.1
      have q0 : p3 (jq (!sw)) 0 = mf3 3 := by obtain ⟨_, _, _, _, _, _, _, _, _, _, _, _, hN, _⟩ := id c4; exact hN.1
      have m3k : ∀ k, k = 1 ∨ k = 11 ∨ k = 12 ∨ 14 < k → mf3 k = mf2 k := fun k hk => C5 k (by omega)
      obtain ⟨g', hst, hfo, h190, hSt⟩ := M_starts (D := D) (F := 0) (C := C') (Sc := Sc') (q := p3 (jq (!sw))) (qa := pa3 (jq (!sw))) (A := (s 0, sa 0)) (tw := -1) (cx := cx) (f := jup (jup (jup (jup (jup (jup mf3 11 (mf3 9)) 12 (mf3 10)) 17 0) 18 0) 23 0) 24 (-1)) (g := gH) (n := mn) (b := mb) (l := ml) (t := t1) (z := z1) (by omega) hPl (by decide)
      have hst' : K_m_starts D 0 cx (jup (jup (jup (jup (jup (jup mf3 11 (mf3 9)) 12 (mf3 10)) 17 0) 18 0) 23 0) 24 (-1)) gH mn mb ml t1 z1 = _ := hst
      have hbg := S_s_begin (D := D) (j := 0) (C := C') (w := !sw) (f := f3) (g := g) (n2 := n2) (p := p3) (pa := pa3) (s := s) (sa := sa) (sw := !sw) (rp := .ref (jpl (!sw))) (t := t) (z := z) (by omega) hC hC30
      refine ⟨p3 (jq (!sw)) 0, jup (jup (jup (jup f3 24 0) 25 (-1)) 1 0) 23 0, p3, pa3, jup s 0 (jbeg (pa3 (jq (!sw))) C' (s 0, sa 0)).1, jup sa 0 (jbeg (pa3 (jq (!sw))) C' (s 0, sa 0)).2, !sw, jup (jup (jup (jup (jup (jup mf3 11 (mf3 9)) 12 (mf3 10)) 17 0) 18 0) 23 0) 24 (-1), g', ?_, ?_, ?_, Or.inr ⟨rfl, C', hC30, hC, rfl, rfl⟩⟩
      · rw [a1, c1', E_c_text_34, hbg, jbO_some, jk_none, E_c_text_52b, E_n_clear, jbO_some, jk_none, E_c_text_55b]
      · rw [a2, c2, gh, E_m_begins, hst', jbO_some, jk_none, E_m_begins_3, jbO_some, jk_none, E_m_text_178, q0]
        simp (disch := omega) only [jup_ne]
      · have hTm : jtm (jbeg (pa3 (jq (!sw))) C' (s 0, sa 0)) 0 := by
          have := jbeg_tm (qa := pa3 (jq (!sw))) (C := C') (i := 0) (h := 0) (A := (s 0, sa 0))
          unfold jfst at this
          exact this
        have hj12 : (jbeg (pa3 (jq (!sw))) C' (s 0, sa 0)).1 2 = 0 := by unfold jbeg; dsimp only; simp (disch := omega) only [jup_ne, jup_same]
        have hj20 : (jbeg (pa3 (jq (!sw))) C' (s 0, sa 0)).2 0 = jbcr (pa3 (jq (!sw))) C' 30 (sa 0 0) := by unfold jbeg; dsimp only; simp (disch := omega) only [jup_ne, jup_same]
        have hj23 : ∀ i, i < 6 → (jbeg (pa3 (jq (!sw))) C' (s 0, sa 0)).2 3 i = pa3 (jq (!sw)) 5 i := by
          intro i hi; unfold jbeg; dsimp only; simp (disch := omega) only [jup_ne, jup_same, jcpy_at]
        refine ⟨C', Sc', hfo.pl hPl, hq7, ?_, ?_, ?_, ?_, ?_, ?_, ?_, ?_, r11, hq6⟩
        · unfold jneu at r3 ⊢
          simp (disch := omega) only [jup_ne]
          rw [C3 14 (by omega), C3 15 (by omega), C3 16 (by omega), C3 17 (by omega), C3 18 (by omega), C3 19 (by omega), C3 20 (by omega), C3 21 (by omega), a6 14 (by omega), a6 15 (by omega), a6 16 (by omega), a6 17 (by omega), a6 18 (by omega), a6 19 (by omega), a6 20 (by omega), a6 21 (by omega)]
          exact r3
        · unfold mneu at r4 ⊢
          simp (disch := omega) only [jup_ne]
          rw [m3k 16 (by omega), m3k 19 (by omega), m3k 20 (by omega), a10 16 (by omega), a10 19 (by omega), a10 20 (by omega)]
          exact r4
        · rw [jup_same, jup_same]
          refine ⟨hSt, by rw [h190, hj12], ⟨0, hTm, by omega⟩, ⟨fun c hc => ?_, fun c h1 h2 => ?_⟩, ⟨0, by omega, hj12⟩, fun i hi => ?_⟩
          · rw [hj20]; unfold jbcr; rw [if_pos (by omega), if_pos hc]; exact hcr c (by omega)
          · rw [hj20]; unfold jbcr; rw [if_pos (by omega), if_neg (by omega)]
          · rw [hj23 i (by omega)]; exact hgr i hi
        · unfold rIm
          simp (disch := omega) only [jup_ne, jup_same]
          exact ⟨trivial, Or.inl trivial, fun q => absurd trivial q⟩
        · refine ⟨0, by omega, ?_, ?_, fun m hm => absurd hm (Nat.not_lt_zero m), fun k hk => absurd hk (Nat.not_lt_zero k)⟩
          · simp (disch := omega) only [jup_ne, jup_same]; rfl
          · simp (disch := omega) only [jup_ne, jup_same]; rfl
        · refine ⟨0, by omega, ?_, ?_, ?_, ?_, fun i hi => absurd hi (Nat.not_lt_zero i)⟩
          · simp (disch := omega) only [jup_ne, jup_same]; rfl
          · simp (disch := omega) only [jup_ne, jup_same]; rfl
          · simp (disch := omega) only [jup_ne, jup_same]
          · left; simp (disch := omega) only [jup_ne, jup_same]
        · refine ⟨0, by omega, ?_, ?_, fun i hi => absurd hi (Nat.not_lt_zero i)⟩
          · simp (disch := omega) only [jup_ne]; rw [C3 0 (by omega), a7]; rfl
          · simp (disch := omega) only [jup_ne]; rw [m3k 1 (by omega), a11]; rfl
        · simp (disch := omega) only [jup_ne, jup_same]
          rw [k7, k8, k10, a8, a9, a12, m39]
          exact ⟨rfl, rfl⟩
    · -- a fault
      have c1' : K_c_text_19 D (some (.int (Int32.ofNat N))) 0 f2 g n2 p1 pa1 s sa sw (.ref (jpl (!sw))) t z = _ := c1
      obtain ⟨C3, C4, C5, C6, C7, C8⟩ := id c3
      have hlH : lH mg mg3 := a5.tr C6
      have hpe : p3 (jq sw) = p (jq sw) := by rw [(C4 _ hjq).1, ← hp1, jup_ne hjq]
      have hpae : pa3 (jq sw) = pa (jq sw) := by rw [(C4 _ hjq).2, ← hpa1, jup_ne hjq]
      have f3k : ∀ k, k = 1 ∨ 13 < k → f3 k = f k := fun k hk => by rw [C3 k (by omega), a6 k hk]
      have m3k : ∀ k, k = 11 ∨ k = 12 ∨ 14 < k → mf3 k = mf k := fun k hk => by rw [C5 k (by omega), a10 k hk]
      have ghi : ∀ k, 14 ≤ k → mg3 k = mg k := fun k hk => hlH.1 k (by omega)
      refine ⟨-1, f3, p3, pa3, s, sa, sw, jup (jup mf3 11 (mf3 9)) 12 (mf3 10), mg3, ?_, ?_, ?_, Or.inl ⟨rfl, rfl, rfl⟩⟩
      · rw [a1, c1']
      · rw [a2, c2, E_m_text_112, if_neg b1]
      · refine ⟨C, Sc, by rw [hpe, hpae]; exact rPl_lH r1 hlH, by rw [hpe]; exact r2, ?_, ?_, rFr_hi r5 ghi, ?_, ?_, ?_, ?_, ?_, r11, by rw [hpe]; exact r12⟩
        · unfold jneu at r3 ⊢
          rw [f3k 14 (by omega), f3k 15 (by omega), f3k 16 (by omega), f3k 17 (by omega), f3k 18 (by omega), f3k 19 (by omega), f3k 20 (by omega), f3k 21 (by omega)]
          exact r3
        · unfold mneu at r4 ⊢
          simp (disch := omega) only [jup_ne]
          rw [m3k 16 (by omega), m3k 19 (by omega), m3k 20 (by omega)]
          exact r4
        · unfold rIm at r6 ⊢
          simp (disch := omega) only [jup_ne]
          rw [f3k 1 (by omega), m3k 17 (by omega)]
          exact ⟨r6.1, r6.2.1, fun q => rFr_hi (r6.2.2 q) ghi⟩
        · obtain ⟨u, u1, u2, u3, u4, u5⟩ := r7
          refine ⟨u, u1, by rw [f3k 23 (by omega)]; exact u2, ?_, fun m hm => rFr_hi (u4 m hm) ghi, u5⟩
          simp (disch := omega) only [jup_ne]
          rw [m3k 18 (by omega)]; exact u3
        · unfold rNo at r8 ⊢
          simp (disch := omega) only [jup_ne]
          rw [f3k 24 (by omega), f3k 25 (by omega), m3k 23 (by omega), m3k 24 (by omega), ghi 30 (by omega), ghi 31 (by omega), ghi 32 (by omega), ghi 33 (by omega)]
          exact r8
        · refine ⟨0, by omega, ?_, ?_, fun i hi => absurd hi (Nat.not_lt_zero i)⟩
          · rw [C3 0 (by omega), a7]; rfl
          · simp (disch := omega) only [jup_ne]; rw [C5 1 (by omega), a11]; rfl
        · simp (disch := omega) only [jup_ne, jup_same]
          exact ⟨b2, b3⟩
  obtain ⟨r0, f0, p0, pa0, s0, sa0, sw0, mf0, mg0, k1, -, -, k4⟩ := hall (f, g, n2, p, pa, s, sa, sw, rp) [] z
  refine ⟨r0, f0, g, n2, p0, pa0, s0, sa0, sw0, .ref (jpl (!sw)), k1, fun cx t1 z1 => ?_⟩
  obtain ⟨r', f', p', pa', s', sa', sw', mf', mg', l1, l2, l3, l4⟩ := hall cx t1 z1
  have hE := k1.symm.trans l1
  simp only [Option.some.injEq, Prod.mk.injEq, Sum.inl.injEq, Value.int.injEq] at hE
  obtain ⟨hr0, hX, -⟩ := hE
  have hsw := jX_sw hX
  have hfx := jX_f hX
  subst hsw
  have hpx := fun w => jX_p hX w
  have hss : s0 = s' ∧ sa0 = sa' := by
    rcases k4 with ⟨x1, x2, x3⟩ | ⟨x1, C1, x2, x3, x4, x5⟩
    · rcases l4 with ⟨y1, y2, y3⟩ | ⟨y1, -⟩
      · exact ⟨x2.trans y2.symm, x3.trans y3.symm⟩
      · rw [x1] at y1; cases sw <;> exact absurd y1 (by decide)
    · rcases l4 with ⟨y1, -⟩ | ⟨y1, C2, y2, y3, y4, y5⟩
      · rw [y1] at x1; cases sw <;> exact absurd x1 (by decide)
      · have hC12 : C1 = C2 := by
          rw [(hpx (!sw)).1 1 (by omega), (hpx (!sw)).1 2 (by omega), y3] at x3
          exact (jofinj (by omega) (by omega) x3).symm
        have hjb : jbeg (pa0 (jq (!sw))) C1 (s 0, sa 0) = jbeg (pa' (jq (!sw))) C2 (s 0, sa 0) := by
          rw [hC12]
          have b1 : jbcr (pa0 (jq (!sw))) C2 30 (sa 0 0) = jbcr (pa' (jq (!sw))) C2 30 (sa 0 0) := by
            unfold jbcr; rw [(hpx (!sw)).2 0 (by omega)]
          unfold jbeg
          dsimp only
          rw [b1, (hpx (!sw)).2 6 (by omega), (hpx (!sw)).2 5 (by omega)]
        rw [x4, x5, y4, y5, hjb]
        exact ⟨rfl, rfl⟩
  obtain ⟨hs0, hsa0⟩ := hss
  subst hs0 hsa0
  refine ⟨mf', mg', mn, mb, ml, by rw [hr0]; exact l2, RR_cgr l3 hfx (fun k hk => (hpx sw0).1 k hk) (fun k hk => (hpx sw0).2 k hk)⟩
