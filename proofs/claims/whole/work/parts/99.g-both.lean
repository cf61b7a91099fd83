-- CALL BY CALL: both
theorem A_both {D : Nat} {a a2 w : Int32} {f : Nat → Int32} {g : Nat → Nat → Int32} {n2 : Nat → Nat → Int64} {p : Nat → Nat → Int32} {pa : Nat → Nat → Nat → Int32} {s : Nat → Nat → Int32} {sa : Nat → Nat → Nat → Int32} {sw : Bool} {rp : Value} {mf : Nat → Int32} {mg : Nat → Nat → Int32} {mn : Nat → Nat → Int64} {mb : Nat → Nat → Int32} {ml : Nat → Int64} (h : RR f g p pa s sa sw mf mg mb) : ∀ (t : List jE) (z : Nat × Nat × Nat × (Nat → Int32)), ∃ r : Int32, ∃ f' g' n2' p' pa' s' sa' sw' rp', K_c_both D a a2 w f g n2 p pa s sa sw rp t z = some (.inl (some (.int r)), (jX f' g' n2' p' pa' s' sa' sw' rp' t, z)) ∧ ∀ (cx : jCX) (t1 : List jE) (z1 : Nat × Nat × Nat × (Nat → Int32)), ∃ mf' mg' mn' mb' ml', K_m_both D a a2 w cx mf mg mn mb ml t1 z1 = some (.inl (some (.int r)), (jXt cx (jY mf' mg' mn' mb' ml' t1), z1)) ∧ RR f' g' p' pa' s' sa' sw' mf' mg' mb' := by
  intro t z
  obtain ⟨C, Sc, T, hP, hC, hS6, hT, hT2, hjn, hmn, hfr, hTw, hAt, hW, hw2, hm15⟩ := RR_ex (n2 := n2) (rp := rp) (mn := mn) (ml := ml) h
  have hr := RR_congr h (by intro k hk; simp (disch := omega) only [jup_ne]) (by intro k hk; simp (disch := omega) only [jup_ne]) rfl rfl (by constructor <;> simp (disch := omega) only [jup_ne]) (by constructor <;> simp (disch := omega) only [jup_ne]) (by intro k hk; simp (disch := omega) only [jup_ne]) (jq1.rf) rfl (f' := f) (g' := g) (s' := s) (sa' := sa) (p' := p) (pa' := pa) (sw' := sw) (mf' := jup mf 0 0) (mg' := mg) (mb' := mb)
  have hS := hP.1.2.2.2.2.1
  have h10' : ¬ (1 : Int32) = 0 := by decide
  have hsc := fun {x} => S_p_hasScare (D := D) (w := sw) (x := x) (f := f) (g := g) (n2 := n2) (p := p) (pa := pa) (s := s) (sa := sa) (sw := sw) (rp := rp) (t := t) (z := z) hS hS6
  have hms := fun {x cx t z} => M_isScare (D := D) (x := x) (cx := cx) (f := jup mf 0 0) (g := mg) (n := mn) (b := mb) (l := ml) (t := t) (z := z) hP
  have ex : ∀ r : Int32, (K_c_both D a a2 w f g n2 p pa s sa sw rp t z = some (.inl (some (.int r)), (jX f g n2 p pa s sa sw rp t, z))) → (∀ cx t z, K_m_both D a a2 w cx mf mg mn mb ml t z = some (.inl (some (.int r)), (jXt cx (jY (jup mf 0 0) mg mn mb ml t), z))) → ∃ r f' g' n2' p' pa' s' sa' sw' rp', K_c_both D a a2 w f g n2 p pa s sa sw rp t z = some (.inl (some (.int r)), (jX f' g' n2' p' pa' s' sa' sw' rp' t, z)) ∧ ∀ cx t1 z1, ∃ mf' mg' mn' mb' ml', K_m_both D a a2 w cx mf mg mn mb ml t1 z1 = some (.inl (some (.int r)), (jXt cx (jY mf' mg' mn' mb' ml' t1), z1)) ∧ RR f' g' p' pa' s' sa' sw' mf' mg' mb' := fun r h1 h2 => ⟨r, f, g, n2, p, pa, s, sa, sw, rp, h1, fun cx t z => ⟨jup mf 0 0, mg, mn, mb, ml, h2 cx t z, hr⟩⟩
  rcases jout_dec a Sc (by omega) with ho | ⟨i, hi, rfl⟩
  · refine ex (-1) ?_ (fun cx t z => ?_)
    · simp only [E_c_both, hsc, if_pos ho, jbO_some, jbO_none, jbO_ite, jk_some, jk_none, E_c_both_4, if_true]
    · simp only [E_m_both, hms, if_pos ho, jbO_some, jbO_none, jbO_ite, jk_some, jk_none, E_m_both_6, if_true]
  have hno : ¬ jout (Int32.ofNat i) Sc := jout_n hi (by omega)
  rcases jout_dec a2 Sc (by omega) with ho | ⟨j, hj, rfl⟩
  · refine ex (-1) ?_ (fun cx t z => ?_)
    · simp only [E_c_both, hsc, if_neg hno, if_pos ho, jbO_some, jbO_none, jbO_ite, jk_some, jk_none, E_c_both_4, E_c_both_9, h10', if_true, if_false]
    · simp only [E_m_both, hms, if_neg hno, if_pos ho, jbO_some, jbO_none, jbO_ite, jk_some, jk_none, E_m_both_6, E_m_both_10, h10', if_true, if_false]
  have hno2 : ¬ jout (Int32.ofNat j) Sc := jout_n hj (by omega)
  by_cases hij : Int32.ofNat i = Int32.ofNat j
  · refine ex (-1) ?_ (fun cx t z => ?_)
    · simp only [E_c_both, hsc, if_neg hno, if_neg hno2, jbO_some, jbO_none, jbO_ite, jk_some, jk_none, E_c_both_4, E_c_both_9, h10', if_pos hij, if_false]
    · simp only [E_m_both, hms, if_neg hno, if_neg hno2, jbO_some, jbO_none, jbO_ite, jk_some, jk_none, E_m_both_6, E_m_both_10, h10', if_pos hij, if_false]
  obtain ⟨-, -, -, -, -, -, c20, -, c6⟩ := fr0 hfr
  dsimp only at c20 c6
  by_cases hw0 : w = 0
  · refine ex (sa 0 2 i &&& sa 0 2 j) ?_ (fun cx t z => ?_)
    · simp (disch := omega) only [E_c_both, hsc, if_neg hno, if_neg hno2, jbO_some, jbO_none, jbO_ite, jk_some, jk_none, E_c_both_4, E_c_both_9, h10', if_neg hij, if_false, hw0, if_true, jout_f, jclamp]
    · simp +decide (disch := omega) only [E_m_both, hms, if_neg hno, if_neg hno2, jbO_some, jbO_none, jbO_ite, jk_some, jk_none, E_m_both_6, E_m_both_10, h10', if_neg hij, if_false, hw0, if_true, jout_f, jclamp, (c6 i hi).1, (c6 j hj).1]
  by_cases hw1 : w = 1
  rotate_left
  · have hwr : w < 0 ∨ 1 < w := by
      rcases jcases w with hneg | ⟨k, hk, rfl⟩
      · exact Or.inl hneg
      · refine Or.inr ?_
        rw [show (1 : Int32) = Int32.ofNat 1 from rfl, jltn (by omega) hk]
        rw [show (0 : Int32) = Int32.ofNat 0 from rfl, jeqn hk (by omega)] at hw0
        rw [show (1 : Int32) = Int32.ofNat 1 from rfl, jeqn hk (by omega)] at hw1
        omega
    refine ex (-1) ?_ (fun cx t z => ?_)
    · simp only [E_c_both, hsc, if_neg hno, if_neg hno2, jbO_some, jbO_none, jbO_ite, jk_some, jk_none, E_c_both_4, E_c_both_9, h10', if_neg hij, if_false, hw0, hw1]
    · simp only [E_m_both, hms, if_neg hno, if_neg hno2, jbO_some, jbO_none, jbO_ite, jk_some, jk_none, E_m_both_6, E_m_both_10, h10', if_neg hij, if_false]
      rcases hwr with hwr | hwr
      · rw [if_pos hwr]
      · rw [if_pos hwr]; split <;> rfl
  subst hw1
  generalize hwv : cwnd f (g 2) (p (jq sw)) (pa (jq sw)) (s 0 0) = wv at hw2
  obtain ⟨nm1, st1, hs1⟩ := S_h_seenBy0 (D := D) (j := 0) (i := i) (f := f) (g := g) (n2 := n2) (p := p) (pa := pa) (s := s) (sa := sa) (sw := sw) (rp := rp) (t := t) (z := z) (by omega) hi hP.1 hm15
  obtain ⟨nm2, st2, hs2⟩ := S_h_seenBy0 (D := D) (j := 0) (i := j) (f := f) (g := g) (n2 := jup (jup n2 0 nm1) 1 st1) (p := p) (pa := pa) (s := s) (sa := sa) (sw := sw) (rp := rp) (t := t) (z := z) (by omega) hj hP.1 hm15
  rw [hwv] at hs1 hs2
  generalize hQ : (fun c => csees f (p (jq sw)) (pa (jq sw)) (s 0) (sa 0) wv i c && csees f (p (jq sw)) (pa (jq sw)) (s 0) (sa 0) wv j c) = Q
  have hQk : ∀ k, Q k = (csees f (p (jq sw)) (pa (jq sw)) (s 0) (sa 0) wv i k && csees f (p (jq sw)) (pa (jq sw)) (s 0) (sa 0) wv j k) := by intro k; rw [← hQ]
  have hcr := hfr.2.2.2.1
  have hsum : jsum (bt (jset Q C)) (sa 0 0) 30 = jsum Q (sa 0 0) C := by
    rw [jsum_cut (C := C) hC (fun c h1 h2 => Or.inr (hcr.2 c h1 h2))]
    apply jsum_congr
    intro c hc
    rw [bt_jset (by omega) (by omega)]
    exact Or.inl ⟨by simp [hc], rfl⟩
  refine ⟨jsum Q (sa 0 0) C, f, g, jup (jup (jup (jup n2 0 nm1) 1 st1) 0 nm2) 1 st2, p, pa, s, sa, sw, rp, ?_, fun cx t z => ?_⟩
  · simp (disch := omega) only [E_c_both, hsc, if_neg hno, if_neg hno2, jbO_some, jbO_none, jbO_ite, jk_some, jk_none, E_c_both_4, E_c_both_9, h10', if_neg hij, if_false, if_true, hs1, E_c_both_37, hs2, E_c_both_43, S_s_cropOf, E_c_both_45, jset_and, hQ, hsum]
  · have key : ∀ k, k ≤ C → ∃ y n', K_m_both_37 D (Int32.ofNat i) (Int32.ofNat j) (some (.int 1)) 0 0 cx (jup mf 0 0) mg mn mb ml t z = K_m_both_37 D (Int32.ofNat i) (Int32.ofNat j) (some (.int 1)) (jsum Q (sa 0 0) k) (Int32.ofNat k) cx (jup (jup mf 0 0) 15 y) mg n' mb ml t z := by
      intro k
      induction k with
      | zero => intro _; exact ⟨(jup mf 0 0) 15, mn, by rw [jup_self]; rfl⟩
      | succ k ih =>
        intro hk
        obtain ⟨y, n', he⟩ := ih (by omega)
        have hlt : Int32.ofNat k < Int32.ofNat C := jlt_t (by omega) (by omega)
        obtain ⟨y1, n1, ha⟩ := M_isSeen (D := D) (c := k) (i := i) (tf := f) (cx := cx) (n := n') (b := mb) (l := ml) (t := t) (z := z) (rAt_f (y := y) hAt) (rTw_f (y := y) hTw) (by omega) hi
        obtain ⟨y2, n2', hb⟩ := M_isSeen (D := D) (c := k) (i := j) (tf := f) (cx := cx) (n := n1) (b := mb) (l := ml) (t := t) (z := z) (rAt_f (y := y1) hAt) (rTw_f (y := y1) hTw) (by omega) hj
        rw [mwnd_f, jup_jup] at ha hb
        dsimp only at ha hb
        rw [hw2] at ha hb
        have ha1 : K_m_isSeen D 0 (Int32.ofNat i) (Int32.ofNat k) cx (jup (jup mf 0 0) 15 y) mg n' mb ml t z = _ := ha
        have hb1 : K_m_isSeen D 0 (Int32.ofNat j) (Int32.ofNat k) cx (jup (jup mf 0 0) 15 y1) mg n1 mb ml t z = _ := hb
        have e20 := c20 k (by omega)
        rw [he, L_m_both_37, M_cells hP]
        simp (disch := omega) only [jbO_some, jbO_none, jbO_ite, jk_some, jk_none, E_m_both_40, hlt, if_true, ha1, jsum, hQk]
        by_cases hA : csees f (p (jq sw)) (pa (jq sw)) (s 0) (sa 0) wv i k = true
        · by_cases hB : csees f (p (jq sw)) (pa (jq sw)) (s 0) (sa 0) wv j k = true
          · refine ⟨y2, n2', ?_⟩
            simp +decide (disch := omega) only [hA, hB, if_true, if_false, jbO_some, jbO_none, jbO_ite, jk_some, jk_none, E_m_both_47, hb1, E_m_both_53, jout_f, jclamp, e20, E_m_both_60, jsucc]
          · refine ⟨y2, n2', ?_⟩
            simp +decide (disch := omega) only [hA, hB, if_true, if_false, jbO_some, jbO_none, jbO_ite, jk_some, jk_none, E_m_both_47, hb1, E_m_both_53, E_m_both_59, E_m_both_60, jsucc, Int32.add_zero]
        · refine ⟨y1, n1, ?_⟩
          have hA' : csees f (p (jq sw)) (pa (jq sw)) (s 0) (sa 0) wv i k = false := by simpa using hA
          simp +decide (disch := omega) only [hA', if_false, if_true, E_m_both_47, E_m_both_59, E_m_both_60, jsucc, Int32.add_zero, Bool.false_and]
    obtain ⟨y, n', he⟩ := key C (Nat.le_refl C)
    refine ⟨jup (jup mf 0 0) 15 y, mg, n', mb, ml, ?_, ?_⟩
    · simp +decide only [E_m_both, hms, if_neg hno, if_neg hno2, jbO_some, jbO_none, jbO_ite, jk_some, jk_none, E_m_both_6, E_m_both_10, h10', if_neg hij, if_false]
      rw [he, L_m_both_37, M_cells hP]
      simp only [jbO_some, jbO_none, jbO_ite, jk_some, jk_none, E_m_both_40, show ¬ (Int32.ofNat C < Int32.ofNat C) from jlt_n (by omega) (by omega), if_false]
    · exact RR_congr h (by intro k hk; simp (disch := omega) only [jup_ne]) (by intro k hk; simp (disch := omega) only [jup_ne]) rfl rfl (by constructor <;> simp (disch := omega) only [jup_ne]) (by constructor <;> simp (disch := omega) only [jup_ne]) (by intro k hk; simp (disch := omega) only [jup_ne]) (jq1.rf) rfl (f' := f) (g' := g) (s' := s) (sa' := sa) (p' := p) (pa' := pa) (sw' := sw) (mf' := jup (jup mf 0 0) 15 y) (mg' := mg) (mb' := mb)
