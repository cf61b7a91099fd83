-- CALL BY CALL: scare, sees, law, expects
theorem fr0 {C Sc : Nat} {S : jS} {mg : Nat → Nat → Int32} (h : rFr C Sc S 0 mg) : mg 14 0 = S.1 0 ∧ mg 15 0 = S.1 1 ∧ mg 16 0 = S.1 3 ∧ mg 17 0 = S.1 4 ∧ mg 18 0 = S.1 5 ∧ mg 19 0 = S.1 2 ∧
    (∀ c, c < C → mg 20 c = S.2 0 c) ∧ (∀ x, x < 12 → mg 21 x = S.2 1 x) ∧ ∀ i, i < Sc → mg 23 i = S.2 2 i ∧ mg 24 i = S.2 3 i ∧ mg 22 i = S.2 4 i := by
  obtain ⟨⟨a1, a2, a3, a4, a5, -, a7, a8, a9⟩, b1, -⟩ := h
  refine ⟨a1, a2, by rw [a3, Int32.zero_add], by rw [a4, Int32.zero_add], by rw [a5, Int32.zero_add], b1, ?_, ?_, ?_⟩
  · intro c hc; have := a7 c hc; rwa [Nat.mul_zero, Nat.zero_add] at this
  · intro c hc; have := a8 c hc; rwa [Nat.mul_zero, Nat.zero_add] at this
  · intro c hc; have := a9 c hc; rwa [Nat.mul_zero, Nat.zero_add] at this
theorem jout_dec (x : Int32) (n : Nat) (hn : n ≤ 2147483648) : jout x n ∨ ∃ k, k < n ∧ x = Int32.ofNat k := by
  by_cases h : jout x n
  · exact Or.inl h
  · exact Or.inr (jout_t h)
theorem A_scare {D : Nat} {a w : Int32} {f : Nat → Int32} {g : Nat → Nat → Int32} {n2 : Nat → Nat → Int64} {p : Nat → Nat → Int32} {pa : Nat → Nat → Nat → Int32} {s : Nat → Nat → Int32} {sa : Nat → Nat → Nat → Int32} {sw : Bool} {rp : Value} {mf : Nat → Int32} {mg : Nat → Nat → Int32} {mn : Nat → Nat → Int64} {mb : Nat → Nat → Int32} {ml : Nat → Int64} (h : RR f g p pa s sa sw mf mg mb) : ∀ (t : List jE) (z : Nat × Nat × Nat × (Nat → Int32)), ∃ r : Int32, ∃ f' g' n2' p' pa' s' sa' sw' rp', K_c_scare D a w f g n2 p pa s sa sw rp t z = some (.inl (some (.int r)), (jX f' g' n2' p' pa' s' sa' sw' rp' t, z)) ∧ ∀ (cx : jCX) (t1 : List jE) (z1 : Nat × Nat × Nat × (Nat → Int32)), ∃ mf' mg' mn' mb' ml', K_m_scare D a w cx mf mg mn mb ml t1 z1 = some (.inl (some (.int r)), (jXt cx (jY mf' mg' mn' mb' ml' t1), z1)) ∧ RR f' g' p' pa' s' sa' sw' mf' mg' mb' := by
  obtain ⟨C, Sc, T, hP, hC, hS6, hT, hT2, hne, hme, hfr, hTw, hAt, hw1, hw2, hm⟩ := RR_ex (n2 := n2) (rp := rp) (mn := mn) (ml := ml) h
  have hS := hP.1.2.2.2.2.1
  have hsc := fun {t z} => S_p_hasScare (D := D) (w := sw) (x := a) (f := f) (g := g) (n2 := n2) (p := p) (pa := pa) (s := s) (sa := sa) (sw := sw) (rp := rp) (t := t) (z := z) hS hS6
  have hms := fun {cx t z} => M_isScare (D := D) (x := a) (cx := cx) (f := jup mf 0 0) (g := mg) (n := mn) (b := mb) (l := ml) (t := t) (z := z) hP
  have hr := RR_congr h (by intro k hk; simp (disch := omega) only [jup_ne]) (by intro k hk; simp (disch := omega) only [jup_ne]) rfl rfl (by constructor <;> simp (disch := omega) only [jup_ne]) (by constructor <;> simp (disch := omega) only [jup_ne]) (by intro k hk; simp (disch := omega) only [jup_ne]) (jq1.rf) rfl (f' := f) (g' := g) (s' := s) (sa' := sa) (p' := p) (pa' := pa) (sw' := sw) (mf' := jup mf 0 0) (mg' := mg) (mb' := mb)
  rcases jout_dec a Sc (by omega) with ho | ⟨i, hi, rfl⟩
  · intro t z; refine ⟨-1, f, g, n2, p, pa, s, sa, sw, rp, ?_, fun cx t z => ⟨jup mf 0 0, mg, mn, mb, ml, ?_, hr⟩⟩
    · simp only [E_c_scare, hsc, if_pos ho, jbO_some, jbO_none, jbO_ite, jk_some, jk_none, E_c_scare_4, if_true]
    · simp only [E_m_scare, hms, if_pos ho, jbO_some, jbO_none, jbO_ite, jk_some, jk_none, E_m_scare_6, if_true]
  · have hno : ¬ jout (Int32.ofNat i) Sc := jout_n hi (by omega)
    have h10 : ¬ (1 : Int32) = 0 := by decide
    obtain ⟨b14, b15, b16, b17, b18, b19, b20, b21, b6⟩ := fr0 hfr
    obtain ⟨c23, c24, c22⟩ := b6 i hi
    obtain ⟨-, e4, e5, e6, -⟩ := hP.2.2.2.1 i hi
    dsimp only at c23 c24 c22 b19
    have hfl := fun {t z} => S_h_flapping (D := D) (j := 0) (i := i) (f := f) (g := g) (n2 := n2) (p := p) (pa := pa) (s := s) (sa := sa) (sw := sw) (rp := rp) (t := t) (z := z) (by omega) (by omega) hP.1
    have hmfl := fun {cx t z} => M_flapsOf (D := D) (i := i) (F := 0) (tf := f) (cx := cx) (n := mn) (b := mb) (l := ml) (t := t) (z := z) hAt hTw hi
    dsimp only at hmfl
    rw [hw2] at hmfl
    have hmfl2 : ∀ {cx t z}, K_m_flapsOf D 0 (Int32.ofNat i) cx (jup mf 0 0) mg mn mb ml t z = _ := hmfl
    have ex : ∀ r : Int32, (∀ t z, K_c_scare D (Int32.ofNat i) w f g n2 p pa s sa sw rp t z = some (.inl (some (.int r)), (jX f g n2 p pa s sa sw rp t, z))) → (∀ cx t z, K_m_scare D (Int32.ofNat i) w cx mf mg mn mb ml t z = some (.inl (some (.int r)), (jXt cx (jY (jup mf 0 0) mg mn mb ml t), z))) → ∀ (t : List jE) (z : Nat × Nat × Nat × (Nat → Int32)), ∃ r : Int32, ∃ f' g' n2' p' pa' s' sa' sw' rp', K_c_scare D (Int32.ofNat i) w f g n2 p pa s sa sw rp t z = some (.inl (some (.int r)), (jX f' g' n2' p' pa' s' sa' sw' rp' t, z)) ∧ ∀ (cx : jCX) (t1 : List jE) (z1 : Nat × Nat × Nat × (Nat → Int32)), ∃ mf' mg' mn' mb' ml', K_m_scare D (Int32.ofNat i) w cx mf mg mn mb ml t1 z1 = some (.inl (some (.int r)), (jXt cx (jY mf' mg' mn' mb' ml' t1), z1)) ∧ RR f' g' p' pa' s' sa' sw' mf' mg' mb' := fun r h1 h2 t z => ⟨r, f, g, n2, p, pa, s, sa, sw, rp, h1 t z, fun cx t z => ⟨jup mf 0 0, mg, mn, mb, ml, h2 cx t z, hr⟩⟩
    by_cases w0 : w = 0
    · subst w0
      refine ex (pa (jq sw) 2 i) (fun t z => ?_) (fun cx t z => ?_)
      · simp (disch := omega) only [E_c_scare, hsc, if_neg hno, jbO_some, jbO_none, jbO_ite, jk_some, jk_none, E_c_scare_4, h10, if_false, if_true, jout_f, jclamp]
      · simp (disch := omega) only [E_m_scare, hms, if_neg hno, jbO_some, jbO_none, jbO_ite, jk_some, jk_none, E_m_scare_6, h10, if_false, if_true, jout_f, jclamp, e4]
    by_cases w1 : w = 1
    · subst w1
      refine ex (pa (jq sw) 3 i) (fun t z => ?_) (fun cx t z => ?_)
      · simp (disch := omega) only [E_c_scare, hsc, if_neg hno, jbO_some, jbO_none, jbO_ite, jk_some, jk_none, E_c_scare_4, h10, if_false, if_true, jout_f, jclamp]
      · simp (disch := omega) only [E_m_scare, hms, if_neg hno, jbO_some, jbO_none, jbO_ite, jk_some, jk_none, E_m_scare_6, h10, if_false, if_true, jout_f, jclamp, e5]
    by_cases w2 : w = 2
    · subst w2
      refine ex (pa (jq sw) 4 i) (fun t z => ?_) (fun cx t z => ?_)
      · simp (disch := omega) only [E_c_scare, hsc, if_neg hno, jbO_some, jbO_none, jbO_ite, jk_some, jk_none, E_c_scare_4, h10, w0, w1, if_false, if_true, jout_f, jclamp]
      · simp (disch := omega) only [E_m_scare, hms, if_neg hno, jbO_some, jbO_none, jbO_ite, jk_some, jk_none, E_m_scare_6, h10, w0, w1, if_false, if_true, jout_f, jclamp, e6]
    by_cases w3 : w = 3
    · subst w3
      refine ex (sa 0 3 i) (fun t z => ?_) (fun cx t z => ?_)
      · simp (disch := omega) only [E_c_scare, hsc, if_neg hno, jbO_some, jbO_none, jbO_ite, jk_some, jk_none, E_c_scare_4, h10, w0, w1, w2, if_false, if_true, jout_f, jclamp]
      · simp (disch := omega) only [E_m_scare, hms, if_neg hno, jbO_some, jbO_none, jbO_ite, jk_some, jk_none, E_m_scare_6, h10, w0, w1, w2, if_false, if_true, jout_f, jclamp, c24]
    by_cases w4 : w = 4
    · subst w4
      refine ex (sa 0 2 i) (fun t z => ?_) (fun cx t z => ?_)
      · simp (disch := omega) only [E_c_scare, hsc, if_neg hno, jbO_some, jbO_none, jbO_ite, jk_some, jk_none, E_c_scare_4, h10, w0, w1, w2, w3, if_false, if_true, jout_f, jclamp]
      · simp (disch := omega) only [E_m_scare, hms, if_neg hno, jbO_some, jbO_none, jbO_ite, jk_some, jk_none, E_m_scare_6, h10, w0, w1, w2, w3, if_false, if_true, jout_f, jclamp, c23]
    by_cases w5 : w = 5
    · subst w5
      refine ex ((s 0 2 >>> (Int32.ofNat i &&& 31)) &&& 1) (fun t z => ?_) (fun cx t z => ?_)
      · simp (disch := omega) only [E_c_scare, hsc, if_neg hno, jbO_some, jbO_none, jbO_ite, jk_some, jk_none, E_c_scare_4, E_s_onStrike, E_c_scare_43, h10, w0, w1, w2, w3, w4, if_false, if_true, jout_f, jclamp]
        rw [jbit1 (by omega)]
        cases bt (s 0 2) i <;> simp
      · simp (disch := omega) only [E_m_scare, hms, if_neg hno, jbO_some, jbO_none, jbO_ite, jk_some, jk_none, E_m_scare_6, h10, w0, w1, w2, w3, w4, if_false, if_true, jout_f, jclamp, b19]
    by_cases w6 : w = 6
    · subst w6
      refine ex (sa 0 4 i) (fun t z => ?_) (fun cx t z => ?_)
      · simp (disch := omega) only [E_c_scare, hsc, if_neg hno, jbO_some, jbO_none, jbO_ite, jk_some, jk_none, E_c_scare_4, h10, w0, w1, w2, w3, w4, w5, if_false, if_true, jout_f, jclamp]
      · simp (disch := omega) only [E_m_scare, hms, if_neg hno, jbO_some, jbO_none, jbO_ite, jk_some, jk_none, E_m_scare_6, h10, w0, w1, w2, w3, w4, w5, if_false, if_true, jout_f, jclamp, c22]
    by_cases w7 : w = 7
    · subst w7
      refine ex (cflap f (p (jq sw)) (s 0) (sa 0) (cwnd f (g 2) (p (jq sw)) (pa (jq sw)) (s 0 0)) i) (fun t z => ?_) (fun cx t z => ?_)
      rotate_left
      · simp (disch := omega) only [E_m_scare, hms, if_neg hno, jbO_some, jbO_none, jbO_ite, jk_some, jk_none, E_m_scare_6, E_m_scare_54, h10, w0, w1, w2, w3, w4, w5, w6, if_false, if_true, jout_f, jclamp, hmfl2]
      · simp (disch := omega) only [E_c_scare, hsc, if_neg hno, jbO_some, jbO_none, jbO_ite, jk_some, jk_none, E_c_scare_4, E_c_scare_60, h10, w0, w1, w2, w3, w4, w5, w6, if_false, if_true, jout_f, jclamp, hfl]
    refine ex (-1) (fun t z => ?_) (fun cx t z => ?_)
    · simp (disch := omega) only [E_c_scare, hsc, if_neg hno, jbO_some, jbO_none, jbO_ite, jk_some, jk_none, E_c_scare_4, h10, w0, w1, w2, w3, w4, w5, w6, w7, if_false]
    · simp (disch := omega) only [E_m_scare, hms, if_neg hno, jbO_some, jbO_none, jbO_ite, jk_some, jk_none, E_m_scare_6, h10, w0, w1, w2, w3, w4, w5, w6, w7, if_false]
theorem A_sees {D : Nat} {a c : Int32} {f : Nat → Int32} {g : Nat → Nat → Int32} {n2 : Nat → Nat → Int64} {p : Nat → Nat → Int32} {pa : Nat → Nat → Nat → Int32} {s : Nat → Nat → Int32} {sa : Nat → Nat → Nat → Int32} {sw : Bool} {rp : Value} {mf : Nat → Int32} {mg : Nat → Nat → Int32} {mn : Nat → Nat → Int64} {mb : Nat → Nat → Int32} {ml : Nat → Int64} (h : RR f g p pa s sa sw mf mg mb) : ∀ (t : List jE) (z : Nat × Nat × Nat × (Nat → Int32)), ∃ r : Int32, ∃ f' g' n2' p' pa' s' sa' sw' rp', K_c_sees D a c f g n2 p pa s sa sw rp t z = some (.inl (some (.int r)), (jX f' g' n2' p' pa' s' sa' sw' rp' t, z)) ∧ ∀ (cx : jCX) (t1 : List jE) (z1 : Nat × Nat × Nat × (Nat → Int32)), ∃ mf' mg' mn' mb' ml', K_m_sees D a c cx mf mg mn mb ml t1 z1 = some (.inl (some (.int r)), (jXt cx (jY mf' mg' mn' mb' ml' t1), z1)) ∧ RR f' g' p' pa' s' sa' sw' mf' mg' mb' := by
  intro t z
  obtain ⟨C, Sc, T, hP, hC, hS6, hT, hT2, hne, hme, hfr, hTw, hAt, hw1, hw2, hm⟩ := RR_ex (n2 := n2) (rp := rp) (mn := mn) (ml := ml) h
  have hS := hP.1.2.2.2.2.1
  have hCC := hP.1.1
  have hsc := S_p_hasScare (D := D) (w := sw) (x := a) (f := f) (g := g) (n2 := n2) (p := p) (pa := pa) (s := s) (sa := sa) (sw := sw) (rp := rp) (t := t) (z := z) hS hS6
  have hce := S_p_hasCell (D := D) (w := sw) (x := c) (f := f) (g := g) (n2 := n2) (p := p) (pa := pa) (s := s) (sa := sa) (sw := sw) (rp := rp) (t := t) (z := z) hCC hC
  have hms := fun {cx t z} => M_isScare (D := D) (x := a) (cx := cx) (f := jup mf 0 0) (g := mg) (n := mn) (b := mb) (l := ml) (t := t) (z := z) hP
  have hmc := fun {cx t z} => M_isCell (D := D) (x := c) (cx := cx) (f := jup mf 0 0) (g := mg) (n := mn) (b := mb) (l := ml) (t := t) (z := z) hP
  have hr := RR_congr h (by intro k hk; simp (disch := omega) only [jup_ne]) (by intro k hk; simp (disch := omega) only [jup_ne]) rfl rfl (by constructor <;> simp (disch := omega) only [jup_ne]) (by constructor <;> simp (disch := omega) only [jup_ne]) (by intro k hk; simp (disch := omega) only [jup_ne]) (jq1.rf) rfl (f' := f) (g' := g) (s' := s) (sa' := sa) (p' := p) (pa' := pa) (sw' := sw) (mf' := jup mf 0 0) (mg' := mg) (mb' := mb)
  have h10 : ¬ (1 : Int32) = 0 := by decide
  rcases jout_dec a Sc (by omega) with ho | ⟨i, hi, rfl⟩
  · refine ⟨-1, f, g, n2, p, pa, s, sa, sw, rp, ?_, fun cx t z => ⟨jup mf 0 0, mg, mn, mb, ml, ?_, hr⟩⟩
    · simp only [E_c_sees, hsc, if_pos ho, jbO_some, jbO_none, jbO_ite, jk_some, jk_none, E_c_sees_4, if_true]
    · simp only [E_m_sees, hms, if_pos ho, jbO_some, jbO_none, jbO_ite, jk_some, jk_none, E_m_sees_6, if_true]
  have hno : ¬ jout (Int32.ofNat i) Sc := jout_n hi (by omega)
  rcases jout_dec c C (by omega) with ho | ⟨c, hc, rfl⟩
  · refine ⟨-1, f, g, n2, p, pa, s, sa, sw, rp, ?_, fun cx t z => ⟨jup mf 0 0, mg, mn, mb, ml, ?_, hr⟩⟩
    · simp only [E_c_sees, hsc, if_neg hno, hce, if_pos ho, jbO_some, jbO_none, jbO_ite, jk_some, jk_none, E_c_sees_4, E_c_sees_9, h10, if_false, if_true]
    · simp only [E_m_sees, hms, if_neg hno, hmc, if_pos ho, jbO_some, jbO_none, jbO_ite, jk_some, jk_none, E_m_sees_6, E_m_sees_10, h10, if_false, if_true]
  have hnc : ¬ jout (Int32.ofNat c) C := jout_n hc (by omega)
  obtain ⟨nm', st', hsb⟩ := S_h_seenBy0 (D := D) (j := 0) (i := i) (f := f) (g := g) (n2 := n2) (p := p) (pa := pa) (s := s) (sa := sa) (sw := sw) (rp := rp) (t := t) (z := z) (by omega) hi hP.1 hm
  refine ⟨if csees f (p (jq sw)) (pa (jq sw)) (s 0) (sa 0) (cwnd f (g 2) (p (jq sw)) (pa (jq sw)) (s 0 0)) i c then 1 else 0, f, g, jup (jup n2 0 nm') 1 st', p, pa, s, sa, sw, rp, ?_, fun cx t1 z1 => ?_⟩
  · simp only [E_c_sees, hsc, if_neg hno, hce, if_neg hnc, jbO_some, jbO_none, jbO_ite, jk_some, jk_none, E_c_sees_4, E_c_sees_9, h10, if_false, hsb, E_c_sees_18]
    rw [jbit1 (by omega), bt_jset (by omega) (by omega)]
    simp only [hc, decide_true, Bool.true_and]
  · obtain ⟨y, n', his⟩ := M_isSeen (D := D) (F := 0) (c := c) (i := i) (tf := f) (cx := cx) (f := jup mf 0 0) (g := mg) (n := mn) (b := mb) (l := ml) (t := t1) (z := z1) hAt hTw hc hi
    dsimp only at his
    rw [hw2] at his
    have his2 : K_m_isSeen D 0 (Int32.ofNat i) (Int32.ofNat c) cx (jup mf 0 0) mg mn mb ml t1 z1 = _ := his
    refine ⟨jup (jup mf 0 0) 15 y, mg, n', mb, ml, ?_, ?_⟩
    · simp only [E_m_sees, hms, if_neg hno, hmc, if_neg hnc, jbO_some, jbO_none, jbO_ite, jk_some, jk_none, E_m_sees_6, E_m_sees_10, h10, if_false, his2, E_m_sees_18, jb10]
      split <;> simp_all
    · exact RR_congr h (by intro k hk; simp (disch := omega) only [jup_ne]) (by intro k hk; simp (disch := omega) only [jup_ne]) rfl rfl (by constructor <;> simp (disch := omega) only [jup_ne]) (by constructor <;> simp (disch := omega) only [jup_ne]) (by intro k hk; simp (disch := omega) only [jup_ne]) (jq1.rf) rfl
