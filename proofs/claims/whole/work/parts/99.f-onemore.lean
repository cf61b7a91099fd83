-- CALL BY CALL: oneMore, the cells and the call
theorem S_oneMore_47 {D : Nat} {C Sc : Nat} {x1 x2 mask : Int32} {d7 : Option Value} {v : Nat → Int32} {f : Nat → Int32} {g : Nat → Nat → Int32} {n2 : Nat → Nat → Int64} {p : Nat → Nat → Int32} {pa : Nat → Nat → Nat → Int32} {s : Nat → Nat → Int32} {sa : Nat → Nat → Nat → Int32} {sw : Bool} {rp : Value} {t : List jE} {z : Nat × Nat × Nat × (Nat → Int32)} (hPl : jPl (p (jq sw)) (pa (jq sw)) C Sc)
    (hv : ∀ x, x < C → v x = jsum (bt (jset (fun c => bt mask c && csee (p (jq sw)) (pa (jq sw)) x1 (cwnd f (g 2) (p (jq sw)) (pa (jq sw)) (s 0 0)) (s 0 1) 0 (s 0 0) (Int32.ofNat x) (Int32.ofNat c) (sa 0 0 c)) C)) (sa 0 0) 30) :
    ∃ n2', K_c_oneMore_47 D x1 x2 mask 0 (-1) 0 d7 f g n2 p pa s sa sw rp t z = some (.inl (some (.int (if x2 = 0 then (jom v C).1 else (jom v C).2))), (jX f g n2' p pa s sa sw rp t, z)) := by
  have hPl2 := hPl
  obtain ⟨hC, hC30, hC1, h1, hS, hS6, -⟩ := hPl
  have key : ∀ k, k ≤ C → ∃ n2' d7', K_c_oneMore_47 D x1 x2 mask 0 (-1) 0 d7 f g n2 p pa s sa sw rp t z = K_c_oneMore_47 D x1 x2 mask (jom v k).1 (jom v k).2 (Int32.ofNat k) d7' f g n2' p pa s sa sw rp t z := by
    intro k
    induction k with
    | zero => intro _; exact ⟨n2, d7, rfl⟩
    | succ k ih =>
      intro hk
      obtain ⟨n2', d7', he⟩ := ih (by omega)
      obtain ⟨n3, hs⟩ := S_h_seenFrom (D := D) (j := 0) (x := k) (sg := x1) (mask := mask) (f := f) (g := g) (n2 := n2') (p := p) (pa := pa) (s := s) (sa := sa) (sw := sw) (rp := rp) (t := t) (z := z) (by omega) hPl2
      have hlt : Int32.ofNat k < Int32.ofNat C := jlt_t (by omega) (by omega)
      refine ⟨n3, some (.int (v k)), ?_⟩
      rw [he, L_c_oneMore_47]
      simp (disch := omega) only [E_p_cells, jbO_some, jbO_none, jbO_ite, jk_some, jk_none, hC, E_c_oneMore_51, hlt, if_true, hs, E_c_oneMore_62, S_s_cropOf, E_c_oneMore_63, E_c_oneMore_71, jsucc]
      rw [← hv k (by omega), jom]
      split <;> rfl
  obtain ⟨n2', d7', he⟩ := key C (Nat.le_refl C)
  refine ⟨n2', ?_⟩
  rw [he, L_c_oneMore_47]
  simp only [E_p_cells, jbO_some, jbO_none, jbO_ite, jk_some, jk_none, hC, E_c_oneMore_51, show ¬ (Int32.ofNat C < Int32.ofNat C) from jlt_n (by omega) (by omega), if_false]
  split <;> rfl
theorem M_oneMore_60 {D : Nat} {C Sc : Nat} {q : Nat → Int32} {qa : Nat → Nat → Int32} {S : jS} {x1 x2 X : Int32} {d7 d8 : Option Value} {v : Nat → Int32} {cx : jCX} {f : Nat → Int32} {g : Nat → Nat → Int32} {n : Nat → Nat → Int64} {b : Nat → Nat → Int32} {l : Nat → Int64} {t : List jE} {z : Nat × Nat × Nat × (Nat → Int32)} (hA : rAt q qa C Sc S 0 0 0 0 f g)
    (hv : ∀ x, x < C → v x = jsum (fun c => !bt X c && csee q qa x1 (mwnd f g (S.1 0)) (S.1 1) 0 (S.1 0) (Int32.ofNat x) (Int32.ofNat c) (S.2 0 c)) (S.2 0) C) :
    ∃ y n', K_m_oneMore_60 D x1 x2 X (-1) 0 0 d7 d8 cx f g n b l t z = some (.inl (some (.int (if x2 = 0 then (jom' v C).1 else (jom' v C).2))), (jXt cx (jY (jup f 15 y) g n' b l t), z)) := by
  have hP := hA.2.1
  have hC : C ≤ 30 := hP.1.2.1
  have c20 : ∀ c, c < C → g 20 c = S.2 0 c := by
    intro c hc
    have := hA.2.2.1.2.2.2.2.2.2.1 c hc
    rwa [Nat.mul_zero, Nat.zero_add] at this
  generalize hwv : mwnd f g (S.1 0) = wv at hv
  have inner : ∀ (x : Nat) (x4 x5 : Int32) (y : Int32) (n' : Nat → Nat → Int64), x < C → ∀ k, k ≤ C → ∃ y2 n2, K_m_oneMore_68 D x1 x2 X x4 x5 (Int32.ofNat x) 0 0 cx (jup f 15 y) g n' b l t z = K_m_oneMore_68 D x1 x2 X x4 x5 (Int32.ofNat x) (jsum (fun c => !bt X c && csee q qa x1 wv (S.1 1) 0 (S.1 0) (Int32.ofNat x) (Int32.ofNat c) (S.2 0 c)) (S.2 0) k) (Int32.ofNat k) cx (jup f 15 y2) g n2 b l t z := by
    intro x x4 x5 y n' hx k
    induction k with
    | zero => intro _; exact ⟨y, n', rfl⟩
    | succ k ih =>
      intro hk
      obtain ⟨y2, n2, he⟩ := ih (by omega)
      have hlt : Int32.ofNat k < Int32.ofNat C := jlt_t (by omega) (by omega)
      obtain ⟨y3, n3, hs⟩ := M_isSeenBy (D := D) (c := k) (x := Int32.ofNat x) (sg := x1) (gr := 0) (cx := cx) (n := n2) (b := b) (l := l) (t := t) (z := z) (rAt_f (y := y2) hA) (by omega)
      rw [mwnd_f, jup_jup, hwv] at hs
      have hs1 : K_m_isSeenBy D 0 (Int32.ofNat x) x1 0 (Int32.ofNat k) cx (jup f 15 y2) g n2 b l t z = _ := hs
      have e20 := c20 k (by omega)
      rw [he, L_m_oneMore_68, M_cells hP]
      simp (disch := omega) only [jbO_some, jbO_none, jbO_ite, jk_some, jk_none, E_m_oneMore_71, hlt, if_true, jbit0, jsum]
      by_cases hb : bt X k = false
      · simp only [hb, if_true, hs1, jbO_some, jbO_none, jbO_ite, jk_some, jk_none, Bool.not_false, Bool.true_and]
        refine ⟨y3, n3, ?_⟩
        by_cases hc : csee q qa x1 wv (S.1 1) 0 (S.1 0) (Int32.ofNat x) (Int32.ofNat k) (S.2 0 k) = true
        · simp +decide (disch := omega) only [hc, if_true, if_false, E_m_oneMore_86, E_m_oneMore_93, jsucc, jout_f, jclamp, e20]
        · simp +decide (disch := omega) only [hc, if_true, if_false, E_m_oneMore_86, E_m_oneMore_92, E_m_oneMore_93, jsucc, Int32.add_zero]
      · refine ⟨y2, n2, ?_⟩
        have hb' : bt X k = true := by simpa using hb
        simp +decide only [hb', if_false, E_m_oneMore_92, E_m_oneMore_93, jsucc, Bool.not_true, Bool.false_and, Int32.add_zero]
  have key : ∀ k, k ≤ C → ∃ y n' d7' d8', K_m_oneMore_60 D x1 x2 X (-1) 0 0 d7 d8 cx f g n b l t z = K_m_oneMore_60 D x1 x2 X (jom' v k).1 (jom' v k).2 (Int32.ofNat k) d7' d8' cx (jup f 15 y) g n' b l t z := by
    intro k
    induction k with
    | zero => intro _; exact ⟨f 15, n, d7, d8, by rw [jup_self]; rfl⟩
    | succ k ih =>
      intro hk
      obtain ⟨y, n', d7', d8', he⟩ := ih (by omega)
      obtain ⟨y2, n2, hin⟩ := inner k (jom' v k).1 (jom' v k).2 y n' (by omega) C (Nat.le_refl C)
      have hlt : Int32.ofNat k < Int32.ofNat C := jlt_t (by omega) (by omega)
      refine ⟨y2, n2, some (.int (v k)), some (.int (Int32.ofNat C)), ?_⟩
      rw [he, L_m_oneMore_60, M_cells hP]
      simp only [jbO_some, jbO_none, jbO_ite, jk_some, jk_none, E_m_oneMore_63, hlt, if_true]
      rw [hin, ← hv k (by omega), L_m_oneMore_68, M_cells hP]
      simp only [jbO_some, jbO_none, jbO_ite, jk_some, jk_none, E_m_oneMore_71, show ¬ (Int32.ofNat C < Int32.ofNat C) from jlt_n (by omega) (by omega), if_false, E_m_oneMore_104, E_m_oneMore_108, jsucc, jom']
      by_cases hm1 : (jom' v k).1 = -1
      · rw [if_pos hm1, if_pos (Or.inl hm1)]
      · rw [if_neg hm1]
        by_cases hlt2 : (jom' v k).2 < v k
        · rw [if_pos hlt2, if_pos (Or.inr hlt2)]
        · rw [if_neg hlt2, if_neg (fun q => q.elim hm1 hlt2)]
  obtain ⟨y, n', d7', d8', he⟩ := key C (Nat.le_refl C)
  refine ⟨y, n', ?_⟩
  rw [he, L_m_oneMore_60, M_cells hP]
  simp only [jbO_some, jbO_none, jbO_ite, jk_some, jk_none, E_m_oneMore_63, show ¬ (Int32.ofNat C < Int32.ofNat C) from jlt_n (by omega) (by omega), if_false]
  split <;> rfl
theorem A_oneMore {D : Nat} {a w : Int32} {f : Nat → Int32} {g : Nat → Nat → Int32} {n2 : Nat → Nat → Int64} {p : Nat → Nat → Int32} {pa : Nat → Nat → Nat → Int32} {s : Nat → Nat → Int32} {sa : Nat → Nat → Nat → Int32} {sw : Bool} {rp : Value} {mf : Nat → Int32} {mg : Nat → Nat → Int32} {mn : Nat → Nat → Int64} {mb : Nat → Nat → Int32} {ml : Nat → Int64} (h : RR f g p pa s sa sw mf mg mb) : ∀ (t : List jE) (z : Nat × Nat × Nat × (Nat → Int32)), ∃ r : Int32, ∃ f' g' n2' p' pa' s' sa' sw' rp', K_c_oneMore D a w f g n2 p pa s sa sw rp t z = some (.inl (some (.int r)), (jX f' g' n2' p' pa' s' sa' sw' rp' t, z)) ∧ ∀ (cx : jCX) (t1 : List jE) (z1 : Nat × Nat × Nat × (Nat → Int32)), ∃ mf' mg' mn' mb' ml', K_m_oneMore D a w cx mf mg mn mb ml t1 z1 = some (.inl (some (.int r)), (jXt cx (jY mf' mg' mn' mb' ml' t1), z1)) ∧ RR f' g' p' pa' s' sa' sw' mf' mg' mb' := by
  intro t z
  obtain ⟨C, Sc, T, hP, hC, hS6, hT, hT2, hjn, hmn, hfr, hTw, hAt, hW, hw2, hm15⟩ := RR_ex (n2 := n2) (rp := rp) (mn := mn) (ml := ml) h
  have hr := RR_congr h (by intro k hk; simp (disch := omega) only [jup_ne]) (by intro k hk; simp (disch := omega) only [jup_ne]) rfl rfl (by constructor <;> simp (disch := omega) only [jup_ne]) (by constructor <;> simp (disch := omega) only [jup_ne]) (by intro k hk; simp (disch := omega) only [jup_ne]) (jq1.rf) rfl (f' := f) (g' := g) (s' := s) (sa' := sa) (p' := p) (pa' := pa) (sw' := sw) (mf' := jup mf 0 0) (mg' := mg) (mb' := mb)
  by_cases h0 : a < 0
  · refine ⟨-1, f, g, n2, p, pa, s, sa, sw, rp, ?_, fun cx t z => ⟨jup mf 0 0, mg, mn, mb, ml, ?_, hr⟩⟩
    · simp only [E_c_oneMore, h0, if_true]
    · simp only [E_m_oneMore, h0, if_true]
  by_cases h9 : 9 < a
  · refine ⟨-1, f, g, n2, p, pa, s, sa, sw, rp, ?_, fun cx t z => ⟨jup mf 0 0, mg, mn, mb, ml, ?_, hr⟩⟩
    · simp only [E_c_oneMore, h0, h9, if_true, if_false]
    · simp only [E_m_oneMore, h0, h9, if_true, if_false]
  by_cases hw0 : w < 0
  · refine ⟨-1, f, g, n2, p, pa, s, sa, sw, rp, ?_, fun cx t z => ⟨jup mf 0 0, mg, mn, mb, ml, ?_, hr⟩⟩
    · simp only [E_c_oneMore, h0, h9, hw0, if_true, if_false]
    · simp only [E_m_oneMore, h0, h9, hw0, if_true, if_false]
  by_cases hw1 : 1 < w
  · refine ⟨-1, f, g, n2, p, pa, s, sa, sw, rp, ?_, fun cx t z => ⟨jup mf 0 0, mg, mn, mb, ml, ?_, hr⟩⟩
    · simp only [E_c_oneMore, h0, h9, hw0, hw1, if_true, if_false]
    · simp only [E_m_oneMore, h0, h9, hw0, hw1, if_true, if_false]
  obtain ⟨n2a, d7', hc1⟩ := S_oneMore_18 (D := D) (x1 := a) (x2 := w) (d5 := none) (d6 := none) (d7 := none) (f := f) (g := g) (n2 := n2) (p := p) (pa := pa) (s := s) (sa := sa) (sw := sw) (rp := rp) (t := t) (z := z) hP.1 hm15
  generalize hwv : cwnd f (g 2) (p (jq sw)) (pa (jq sw)) (s 0 0) = wv at hc1 hw2
  generalize hmask : jset (fun c => jripe (s 0, sa 0) c && !jhid f (p (jq sw)) (pa (jq sw)) wv (s 0, sa 0) Sc c) C = mask at hc1
  generalize hX : jset (jhid f (p (jq sw)) (pa (jq sw)) wv (s 0, sa 0) Sc) C = X
  let v : Nat → Int32 := fun x => jsum (fun c => !bt X c && csee (p (jq sw)) (pa (jq sw)) a wv (s 0 1) 0 (s 0 0) (Int32.ofNat x) (Int32.ofNat c) (sa 0 0 c)) (sa 0 0) C
  have hcr := hfr.2.2.2.1
  obtain ⟨n2b, hc2⟩ := S_oneMore_47 (D := D) (x1 := a) (x2 := w) (mask := mask) (d7 := d7') (v := v) (f := f) (g := g) (n2 := n2a) (p := p) (pa := pa) (s := s) (sa := sa) (sw := sw) (rp := rp) (t := t) (z := z) hP.1 (by
    intro x hx
    rw [hwv, jsum_cut (n := 30) (C := C) hC (fun c h1 h2 => Or.inr (hcr.2 c h1 h2))]
    apply jsum_congr
    intro c hc
    rw [bt_jset (by omega) (by omega), ← hmask, bt_jset (by omega) (by omega), ← hX, bt_jset (by omega) (by omega)]
    obtain ⟨r, hr, he⟩ := hcr.1 c hc
    dsimp only at he
    by_cases hr0 : r = 0
    · subst hr0; exact Or.inr ⟨he, he⟩
    · refine Or.inl ⟨?_, rfl⟩
      have : jripe (s 0, sa 0) c = true := decide_eq_true (show 0 < sa 0 0 c by rw [he, jlt0 (by omega)]; omega)
      simp [hc, this])
  have hom := jom_eq (v := v) (n := C - 1) (by omega) (fun c hc => by
    obtain ⟨r, hr, he⟩ := jsum_rng (P := fun c' => !bt X c' && csee (p (jq sw)) (pa (jq sw)) a wv (s 0 1) 0 (s 0 0) (Int32.ofNat c) (Int32.ofNat c') (sa 0 0 c')) (v := sa 0 0) (n := C) hcr.1
    exact ⟨r, by omega, he⟩)
  have hC1 : 1 ≤ C := hP.1.2.2.1
  rw [show C - 1 + 1 = C by omega] at hom
  refine ⟨if w = 0 then (jom v C).1 else (jom v C).2, f, g, n2b, p, pa, s, sa, sw, rp, ?_, fun cx t z => ?_⟩
  · simp (disch := omega) only [E_c_oneMore, h0, h9, hw0, hw1, if_false, S_s_ripe, jbO_some, jbO_none, jbO_ite, jk_some, jk_none, E_c_oneMore_15, jripe_cut hC hcr, hc1, hc2]
  · obtain ⟨y, n', e7, e8, hm1⟩ := M_oneMore_19 (D := D) (tf := f) (x1 := a) (x2 := w) (d5 := none) (d6 := none) (d7 := none) (d8 := none) (cx := cx) (n := mn) (b := mb) (l := ml) (t := t) (z := z) hAt hTw
    rw [hw2, hX] at hm1
    obtain ⟨y2, n'', hm2⟩ := M_oneMore_60 (D := D) (x1 := a) (x2 := w) (X := X) (d7 := e7) (d8 := e8) (v := v) (cx := cx) (n := n') (b := mb) (l := ml) (t := t) (z := z) (rAt_f (y := y) hAt) (by
      intro x hx; rw [mwnd_f, hw2])
    rw [jup_jup] at hm2
    refine ⟨jup (jup mf 0 0) 15 y2, mg, n'', mb, ml, ?_, ?_⟩
    · simp only [E_m_oneMore, h0, h9, hw0, hw1, if_false, hm1, hm2, hom.1]
    · exact RR_congr h (by intro k hk; simp (disch := omega) only [jup_ne]) (by intro k hk; simp (disch := omega) only [jup_ne]) rfl rfl (by constructor <;> simp (disch := omega) only [jup_ne]) (by constructor <;> simp (disch := omega) only [jup_ne]) (by intro k hk; simp (disch := omega) only [jup_ne]) (jq1.rf) rfl (f' := f) (g' := g) (s' := s) (sa' := sa) (p' := p) (pa' := pa) (sw' := sw) (mf' := jup (jup mf 0 0) 15 y2) (mg' := mg) (mb' := mb)
