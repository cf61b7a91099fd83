-- CALL BY CALL: note, out, known
theorem jbool01 {v : Int32} (h : v = 0 ∨ v = 1) : jbool v = v := by
  rcases h with rfl | rfl <;> decide
def jnadd (g : Nat → Nat → Int32) (m : Nat) (a b c d : Int32) : Nat → Nat → Int32 := jup (jup (jup (jup g 7 (jup (g 7) m a)) 8 (jup (g 8) m b)) 9 (jup (g 9) m c)) 10 (jup (g 10) m d)
theorem S_n_add {D m : Nat} {a b c d : Int32} {f : Nat → Int32} {g : Nat → Nat → Int32} {n2 : Nat → Nat → Int64} {p : Nat → Nat → Int32} {pa : Nat → Nat → Nat → Int32} {s : Nat → Nat → Int32} {sa : Nat → Nat → Nat → Int32} {sw : Bool} {rp : Value} {t : List jE} {z : Nat × Nat × Nat × (Nat → Int32)} (hm : f 24 = Int32.ofNat m) (h24 : m ≤ 24) : K_n_add D a b c d f g n2 p pa s sa sw rp t z = if m < 24 then some (.inl (some (.int (Int32.ofNat m))), (jX (jup f 24 (Int32.ofNat (m + 1))) (jnadd g m a b c d) n2 p pa s sa sw rp t, z)) else some (.inl (some (.int (-1))), (jX f g n2 p pa s sa sw rp t, z)) := by
  have e1 : Int32.ofNat (m + 1) - 1 = Int32.ofNat m := by rw [← jsucc]; simp
  by_cases hlt : m < 24
  · have : Int32.ofNat m < 24 := jlt_t (b := 24) hlt (by omega)
    rw [if_pos hlt]
    simp (disch := omega) only [E_n_add, E_n_add_17, E_n_add_23, E_n_add_29, this, if_true, hm, jout_f, jclamp, if_false, e1, jsucc, jnadd, jup_ne]
  · have : ¬ f 24 < 24 := by rw [hm]; exact jlt_n (b := 24) (by omega) (by omega)
    rw [if_neg hlt, E_n_add, if_neg this]
theorem A_note {D : Nat} {a x w v : Int32} {f : Nat → Int32} {g : Nat → Nat → Int32} {n2 : Nat → Nat → Int64} {p : Nat → Nat → Int32} {pa : Nat → Nat → Nat → Int32} {s : Nat → Nat → Int32} {sa : Nat → Nat → Nat → Int32} {sw : Bool} {rp : Value} {mf : Nat → Int32} {mg : Nat → Nat → Int32} {mn : Nat → Nat → Int64} {mb : Nat → Nat → Int32} {ml : Nat → Int64} (h : RR f g p pa s sa sw mf mg mb) (hv01 : v = 0 ∨ v = 1) : ∀ (t : List jE) (z : Nat × Nat × Nat × (Nat → Int32)), ∃ r : Int32, ∃ f' g' n2' p' pa' s' sa' sw' rp', K_c_note D a x w v f g n2 p pa s sa sw rp t z = some (.inl (some (.int r)), (jX f' g' n2' p' pa' s' sa' sw' rp' t, z)) ∧ ∀ (cx : jCX) (t1 : List jE) (z1 : Nat × Nat × Nat × (Nat → Int32)), ∃ mf' mg' mn' mb' ml', K_m_note D a x w v cx mf mg mn mb ml t1 z1 = some (.inl (some (.int r)), (jXt cx (jY mf' mg' mn' mb' ml' t1), z1)) ∧ RR f' g' p' pa' s' sa' sw' mf' mg' mb' := by
  intro t z
  obtain ⟨C, Sc, h1, h2, h3, h4, h5, h6, h7, ⟨m, hm24, n1, n2', n3, n4, n5⟩, h9, h10, h11⟩ := id h
  have hC : C ≤ 30 := h1.1.2.1
  have hr := RR_congr h (by intro k hk; simp (disch := omega) only [jup_ne]) (by intro k hk; simp (disch := omega) only [jup_ne]) rfl rfl (by constructor <;> simp (disch := omega) only [jup_ne]) (by constructor <;> simp (disch := omega) only [jup_ne]) (by intro k hk; simp (disch := omega) only [jup_ne]) (jq1.rf) rfl (f' := f) (g' := g) (s' := s) (sa' := sa) (p' := p) (pa' := pa) (sw' := sw) (mf' := jup mf 0 0) (mg' := mg) (mb' := mb)
  have h10' : ¬ (1 : Int32) = 0 := by decide
  by_cases ha1 : a < 1
  · refine ⟨-1, f, g, n2, p, pa, s, sa, sw, rp, ?_, fun cx t z => ⟨jup mf 0 0, mg, mn, mb, ml, ?_, hr⟩⟩
    · simp only [E_c_note, ha1, if_true]
    · simp only [E_m_note, ha1, if_true]
  by_cases ha48 : 48 < a
  · refine ⟨-1, f, g, n2, p, pa, s, sa, sw, rp, ?_, fun cx t z => ⟨jup mf 0 0, mg, mn, mb, ml, ?_, hr⟩⟩
    · simp only [E_c_note, ha1, ha48, if_true, if_false]
    · simp only [E_m_note, ha1, ha48, if_true, if_false]
  have hce := S_p_hasCell (D := D) (w := sw) (x := x) (f := f) (g := g) (n2 := n2) (p := p) (pa := pa) (s := s) (sa := sa) (sw := sw) (rp := rp) (t := t) (z := z) h1.1.1 hC
  have hmc := fun {cx t z} => M_isCell (D := D) (x := x) (cx := cx) (f := jup mf 0 0) (g := mg) (n := mn) (b := mb) (l := ml) (t := t) (z := z) h1
  rcases jout_dec x C (by omega) with ho | ⟨c, hc, rfl⟩
  · refine ⟨-1, f, g, n2, p, pa, s, sa, sw, rp, ?_, fun cx t z => ⟨jup mf 0 0, mg, mn, mb, ml, ?_, hr⟩⟩
    · simp only [E_c_note, ha1, ha48, if_false, hce, if_pos ho, jbO_some, jbO_none, jbO_ite, jk_some, jk_none, E_c_note_10, if_true]
    · simp only [E_m_note, ha1, ha48, if_false, hmc, if_pos ho, jbO_some, jbO_none, jbO_ite, jk_some, jk_none, E_m_note_12, if_true]
  have hnc : ¬ jout (Int32.ofNat c) C := jout_n hc (by omega)
  by_cases hw0 : w < 0
  · refine ⟨-1, f, g, n2, p, pa, s, sa, sw, rp, ?_, fun cx t z => ⟨jup mf 0 0, mg, mn, mb, ml, ?_, hr⟩⟩
    · simp only [E_c_note, ha1, ha48, if_false, hce, if_neg hnc, jbO_some, jbO_none, jbO_ite, jk_some, jk_none, E_c_note_10, h10', hw0, if_true]
    · simp only [E_m_note, ha1, ha48, if_false, hmc, if_neg hnc, jbO_some, jbO_none, jbO_ite, jk_some, jk_none, E_m_note_12, h10', hw0, if_true]
  by_cases hw99 : 99 < w
  · refine ⟨-1, f, g, n2, p, pa, s, sa, sw, rp, ?_, fun cx t z => ⟨jup mf 0 0, mg, mn, mb, ml, ?_, hr⟩⟩
    · simp only [E_c_note, ha1, ha48, if_false, hce, if_neg hnc, jbO_some, jbO_none, jbO_ite, jk_some, jk_none, E_c_note_10, h10', hw0, hw99, if_true]
    · simp only [E_m_note, ha1, ha48, if_false, hmc, if_neg hnc, jbO_some, jbO_none, jbO_ite, jk_some, jk_none, E_m_note_12, h10', hw0, hw99, if_true]
  obtain ⟨ah, hah1, hah48, rfl⟩ : ∃ k, 1 ≤ k ∧ k ≤ 48 ∧ a = Int32.ofNat k := by
    rcases jcases a with hneg | ⟨k, hk, rfl⟩
    · exact absurd (Int32.lt_trans hneg (by decide)) ha1
    · refine ⟨k, ?_, ?_, rfl⟩
      · rw [show (1 : Int32) = Int32.ofNat 1 from rfl, jltn hk (by omega)] at ha1; omega
      · rw [show (48 : Int32) = Int32.ofNat 48 from rfl, jltn (by omega) hk] at ha48; omega
  have hadd := fun {q : Int32} => S_n_add (D := D) (a := q) (b := Int32.ofNat ah) (c := Int32.ofNat c) (d := w) (f := f) (g := g) (n2 := n2) (p := p) (pa := pa) (s := s) (sa := sa) (sw := sw) (rp := rp) (t := t) (z := z) n1 hm24
  by_cases hm : m < 24
  rotate_left
  · have hm2 : m = 24 := by omega
    subst hm2
    have hmf : (jup mf 0 0) 23 = 24 := by rw [jup_ne (by omega)]; exact n2'
    refine ⟨-1, f, g, n2, p, pa, s, sa, sw, rp, ?_, fun cx t z => ⟨jup mf 0 0, mg, mn, mb, ml, ?_, hr⟩⟩
    · simp only [E_c_note, ha1, ha48, if_false, hce, if_neg hnc, jbO_some, jbO_none, jbO_ite, jk_some, jk_none, E_c_note_10, h10', hw0, hw99, E_n_addCrop, E_n_addCrop_6, E_n_addCrop_10, hadd, if_neg hm, E_c_note_25]
      split <;> rfl
    · simp only [E_m_note, ha1, ha48, if_false, hmc, if_neg hnc, jbO_some, jbO_none, jbO_ite, jk_some, jk_none, E_m_note_12, h10', hw0, hw99, hmf, if_true]
  · have hkd : (if v = 0 then (1 : Int32) else 2) = 1 ∨ (if v = 0 then (1 : Int32) else 2) = 2 := by split <;> simp
    generalize hkdd : (if v = 0 then (1 : Int32) else 2) = kd at hkd
    refine ⟨Int32.ofNat m, jup f 24 (Int32.ofNat (m + 1)), jnadd g m kd (Int32.ofNat ah) (Int32.ofNat c) w, n2, p, pa, s, sa, sw, rp, ?_, fun cx t1 z1 => ?_⟩
    · simp only [E_c_note, ha1, ha48, if_false, hce, if_neg hnc, jbO_some, jbO_none, jbO_ite, jk_some, jk_none, E_c_note_10, h10', hw0, hw99, E_n_addCrop, E_n_addCrop_6, E_n_addCrop_10, hadd, if_pos hm, E_c_note_25]
      rw [← hkdd]
      split <;> rfl
    · have e1 : Int32.ofNat (m + 1) - 1 = Int32.ofNat m := by rw [← jsucc]; simp
      have hmf : (jup mf 0 0) 23 = Int32.ofNat m := by rw [jup_ne (by omega)]; exact n2'
      have hne24 : ¬ Int32.ofNat m = 24 := by rw [show (24 : Int32) = Int32.ofNat 24 from rfl, jeqn (by omega) (by omega)]; omega
      refine ⟨jup (jup mf 0 0) 23 (Int32.ofNat (m + 1)), jup (jup (jup (jup mg 30 (jup (mg 30) m (Int32.ofNat ah))) 31 (jup (mg 31) m (Int32.ofNat c))) 32 (jup (mg 32) m w)) 33 (jup (mg 33) m (-1)), mn, jup mb 0 (jup (mb 0) m v), ml, ?_, ?_⟩
      · simp (disch := omega) only [E_m_note, ha1, ha48, if_false, hmc, if_neg hnc, jbO_some, jbO_none, jbO_ite, jk_some, jk_none, E_m_note, E_m_note_12, E_m_note_35, E_m_note_41, E_m_note_47, E_m_note_53, h10', hw0, hw99, hmf, hne24, jout_f, jclamp, e1, jsucc, jup_ne, jbool01 hv01]
      · have hg : ∀ k, k < 7 ∨ 11 ≤ k → jnadd g m kd (Int32.ofNat ah) (Int32.ofNat c) w k = g k := by
          intro k hk; unfold jnadd; simp (disch := omega) only [jup_ne]
        have hmg : jq1 mg mg := jq1.rf
        obtain ⟨u, u1, u2, u3, u4, u5⟩ := h7
        have hfrm : ∀ {S F}, rFr C Sc S F mg → rFr C Sc S F (jup (jup (jup (jup mg 30 (jup (mg 30) m (Int32.ofNat ah))) 31 (jup (mg 31) m (Int32.ofNat c))) 32 (jup (mg 32) m w)) 33 (jup (mg 33) m (-1))) := by
          intro S F hh
          unfold rFr rSt at hh ⊢
          simp (disch := omega) only [jup_ne]
          exact hh
        refine ⟨C, Sc, rPl_congr h1 (fun k hk => by simp (disch := omega) only [jup_ne]), h2, ?_, ?_, hfrm h5, ?_, ?_, ?_, ?_, ?_, ?_⟩
        · unfold jneu at h3 ⊢; simp (disch := omega) only [jup_ne]; exact h3
        · unfold mneu at h4 ⊢; simp (disch := omega) only [jup_ne]; exact h4
        · unfold rIm at h6 ⊢
          simp (disch := omega) only [jup_ne]
          refine ⟨h6.1, h6.2.1, fun hn => ?_⟩
          exact hfrm (h6.2.2 hn)
        · refine ⟨u, u1, by simp (disch := omega) only [jup_ne]; exact u2, by simp (disch := omega) only [jup_ne]; exact u3, ?_, ?_⟩
          · intro k hk
            rw [jun_congr (hg 4 (by omega)) (hg 5 (by omega)) (hg 6 (by omega))]
            exact hfrm (u4 k hk)
          · rw [hg 5 (by omega)]; exact u5
        · refine ⟨m + 1, by omega, jup_same, jup_same, ?_, ?_, ?_⟩
          · simp (disch := omega) only [jup_ne]; exact n3
          · simp (disch := omega) only [jup_ne]
            rcases n4 with n4 | ⟨k, hk, n4⟩
            · exact Or.inl n4
            · exact Or.inr ⟨k, by omega, n4⟩
          · intro i hi
            unfold jnadd
            by_cases him : i = m
            · subst him
              refine Or.inr ?_
              simp (disch := omega) only [jup_ne, jup_same]
              refine ⟨hkd, trivial, trivial, trivial, trivial, ⟨ah, hah1, hah48, rfl⟩, ⟨c, hc, rfl⟩, ?_⟩
              rw [← hkdd]
              rcases hv01 with rfl | rfl <;> decide
            · simp (disch := omega) only [jup_ne, jup_same]
              exact n5 i (by omega)
        · unfold rTa at h9 ⊢
          simp (disch := omega) only [jup_ne]
          rw [hg 0 (by omega)]; exact h9
        · simp (disch := omega) only [jup_ne]; exact h10
        · unfold rWd at h11 ⊢
          rw [hg 1 (by omega)]; exact h11
theorem A_out {D : Nat} {a : Int32} {f : Nat → Int32} {g : Nat → Nat → Int32} {n2 : Nat → Nat → Int64} {p : Nat → Nat → Int32} {pa : Nat → Nat → Nat → Int32} {s : Nat → Nat → Int32} {sa : Nat → Nat → Nat → Int32} {sw : Bool} {rp : Value} {mf : Nat → Int32} {mg : Nat → Nat → Int32} {mn : Nat → Nat → Int64} {mb : Nat → Nat → Int32} {ml : Nat → Int64} (h : RR f g p pa s sa sw mf mg mb) : ∀ (t : List jE) (z : Nat × Nat × Nat × (Nat → Int32)), ∃ r : Int32, ∃ f' g' n2' p' pa' s' sa' sw' rp', K_c_out D a f g n2 p pa s sa sw rp t z = some (.inl (some (.int r)), (jX f' g' n2' p' pa' s' sa' sw' rp' t, z)) ∧ ∀ (cx : jCX) (t1 : List jE) (z1 : Nat × Nat × Nat × (Nat → Int32)), ∃ mf' mg' mn' mb' ml', K_m_out D a cx mf mg mn mb ml t1 z1 = some (.inl (some (.int r)), (jXt cx (jY mf' mg' mn' mb' ml' t1), z1)) ∧ RR f' g' p' pa' s' sa' sw' mf' mg' mb' := by
  intro t z
  obtain ⟨C, Sc, h1, h2, h3, h4, h5, h6, h7, ⟨m, hm24, n1, n2', n3, n4, n5⟩, h9, h10, h11⟩ := id h
  have hr := RR_congr h (by intro k hk; simp (disch := omega) only [jup_ne]) (by intro k hk; simp (disch := omega) only [jup_ne]) rfl rfl (by constructor <;> simp (disch := omega) only [jup_ne]) (by constructor <;> simp (disch := omega) only [jup_ne]) (by intro k hk; simp (disch := omega) only [jup_ne]) (jq1.rf) rfl (f' := f) (g' := g) (s' := s) (sa' := sa) (p' := p) (pa' := pa) (sw' := sw) (mf' := jup mf 0 0) (mg' := mg) (mb' := mb)
  rcases jcases a with ha | ⟨k, hk, rfl⟩
  · refine ⟨-1, f, g, n2, p, pa, s, sa, sw, rp, ?_, fun cx t z => ⟨jup mf 0 0, mg, mn, mb, ml, ?_, hr⟩⟩
    · simp only [E_c_out, E_n_addStrike, ha, if_true, jbO_some, jbO_none, jbO_ite, jk_some, jk_none, E_c_out_4]
    · simp only [E_m_out, ha, if_true]
  by_cases hkm : k < m
  rotate_left
  · have hnl : ¬ Int32.ofNat k < Int32.ofNat m := jlt_n (by omega) hk
    refine ⟨-1, f, g, n2, p, pa, s, sa, sw, rp, ?_, fun cx t z => ⟨jup mf 0 0, mg, mn, mb, ml, ?_, hr⟩⟩
    · simp only [E_c_out, E_n_addStrike, jnonneg hk, n1, hnl, if_false, jbO_some, jbO_none, jbO_ite, jk_some, jk_none, E_c_out_4]
    · simp only [E_m_out, jnonneg hk, n2', hnl, if_false]
  have hl : Int32.ofNat k < Int32.ofNat m := jlt_t hkm (by omega)
  have hadd := S_n_add (D := D) (a := 0) (b := 0) (c := Int32.ofNat k) (d := 0) (f := f) (g := g) (n2 := n2) (p := p) (pa := pa) (s := s) (sa := sa) (sw := sw) (rp := rp) (t := t) (z := z) n1 hm24
  by_cases hm : m < 24
  rotate_left
  · have hm2 : m = 24 := by omega
    subst hm2
    have hmf : mf 23 = 24 := n2'
    refine ⟨-1, f, g, n2, p, pa, s, sa, sw, rp, ?_, fun cx t z => ⟨jup mf 0 0, mg, mn, mb, ml, ?_, hr⟩⟩
    · simp only [E_c_out, E_n_addStrike, jnonneg hk, n1, hl, if_false, if_true, hadd, if_neg hm, jbO_some, jbO_none, jbO_ite, jk_some, jk_none, E_n_addStrike_14, E_c_out_4]
    · have hl' : Int32.ofNat k < 24 := hl
      simp only [E_m_out, jnonneg hk, hmf, hl', if_false, if_true]
  · have e1 : Int32.ofNat (m + 1) - 1 = Int32.ofNat m := by rw [← jsucc]; simp
    have hne24 : ¬ Int32.ofNat m = 24 := by rw [show (24 : Int32) = Int32.ofNat 24 from rfl, jeqn (by omega) (by omega)]; omega
    refine ⟨Int32.ofNat m, jup f 24 (Int32.ofNat (m + 1)), jnadd g m 0 0 (Int32.ofNat k) 0, n2, p, pa, s, sa, sw, rp, ?_, fun cx t1 z1 => ?_⟩
    · simp only [E_c_out, E_n_addStrike, jnonneg hk, n1, hl, if_false, if_true, hadd, if_pos hm, jbO_some, jbO_none, jbO_ite, jk_some, jk_none, E_n_addStrike_14, E_c_out_4]
    · refine ⟨jup (jup mf 0 0) 23 (Int32.ofNat (m + 1)), jup mg 33 (jup (mg 33) m (Int32.ofNat k)), mn, mb, ml, ?_, ?_⟩
      · simp (disch := omega) only [E_m_out, jnonneg hk, n2', hl, hne24, if_false, if_true, jout_f, jclamp, jsucc, e1]
      · have hg : ∀ x, x < 7 ∨ 11 ≤ x → jnadd g m 0 0 (Int32.ofNat k) 0 x = g x := by
          intro x hx; unfold jnadd; simp (disch := omega) only [jup_ne]
        obtain ⟨u, u1, u2, u3, u4, u5⟩ := h7
        have hfrm : ∀ {S F}, rFr C Sc S F mg → rFr C Sc S F (jup mg 33 (jup (mg 33) m (Int32.ofNat k))) := by
          intro S F hh
          unfold rFr rSt at hh ⊢
          simp (disch := omega) only [jup_ne]
          exact hh
        refine ⟨C, Sc, rPl_congr h1 (fun k hk => by simp (disch := omega) only [jup_ne]), h2, ?_, ?_, hfrm h5, ?_, ?_, ?_, ?_, ?_, ?_⟩
        · unfold jneu at h3 ⊢; simp (disch := omega) only [jup_ne]; exact h3
        · unfold mneu at h4 ⊢; simp (disch := omega) only [jup_ne]; exact h4
        · unfold rIm at h6 ⊢
          simp (disch := omega) only [jup_ne]
          refine ⟨h6.1, h6.2.1, fun hn => ?_⟩
          exact hfrm (h6.2.2 hn)
        · refine ⟨u, u1, by simp (disch := omega) only [jup_ne]; exact u2, by simp (disch := omega) only [jup_ne]; exact u3, ?_, ?_⟩
          · intro x hx
            rw [jun_congr (hg 4 (by omega)) (hg 5 (by omega)) (hg 6 (by omega))]
            exact hfrm (u4 x hx)
          · rw [hg 5 (by omega)]; exact u5
        · refine ⟨m + 1, by omega, jup_same, jup_same, ?_, ?_, ?_⟩
          · simp (disch := omega) only [jup_ne]; exact n3
          · simp (disch := omega) only [jup_ne]
            rcases n4 with n4 | ⟨k, hk, n4⟩
            · exact Or.inl n4
            · exact Or.inr ⟨k, by omega, n4⟩
          · intro i hi
            unfold jnadd
            by_cases him : i = m
            · subst him
              refine Or.inl ?_
              simp (disch := omega) only [jup_ne, jup_same]
              exact ⟨trivial, trivial, k, hkm, rfl⟩
            · simp (disch := omega) only [jup_ne, jup_same]
              exact n5 i (by omega)
        · unfold rTa at h9 ⊢
          simp (disch := omega) only [jup_ne]
          rw [hg 0 (by omega)]; exact h9
        · simp (disch := omega) only [jup_ne]; exact h10
        · unfold rWd at h11 ⊢
          rw [hg 1 (by omega)]; exact h11
theorem A_known {D : Nat} {a : Int32} {f : Nat → Int32} {g : Nat → Nat → Int32} {n2 : Nat → Nat → Int64} {p : Nat → Nat → Int32} {pa : Nat → Nat → Nat → Int32} {s : Nat → Nat → Int32} {sa : Nat → Nat → Nat → Int32} {sw : Bool} {rp : Value} {mf : Nat → Int32} {mg : Nat → Nat → Int32} {mn : Nat → Nat → Int64} {mb : Nat → Nat → Int32} {ml : Nat → Int64} (h : RR f g p pa s sa sw mf mg mb) : ∀ (t : List jE) (z : Nat × Nat × Nat × (Nat → Int32)), ∃ r : Int32, ∃ f' g' n2' p' pa' s' sa' sw' rp', K_c_known D a f g n2 p pa s sa sw rp t z = some (.inl (some (.int r)), (jX f' g' n2' p' pa' s' sa' sw' rp' t, z)) ∧ ∀ (cx : jCX) (t1 : List jE) (z1 : Nat × Nat × Nat × (Nat → Int32)), ∃ mf' mg' mn' mb' ml', K_m_known D a cx mf mg mn mb ml t1 z1 = some (.inl (some (.int r)), (jXt cx (jY mf' mg' mn' mb' ml' t1), z1)) ∧ RR f' g' p' pa' s' sa' sw' mf' mg' mb' := by
  intro t z
  obtain ⟨C, Sc, h1, h2, h3, h4, h5, h6, h7, ⟨m, hm24, n1, n2', n3, n4, n5⟩, h9, h10, h11⟩ := id h
  have hr := RR_congr h (by intro k hk; simp (disch := omega) only [jup_ne]) (by intro k hk; simp (disch := omega) only [jup_ne]) rfl rfl (by constructor <;> simp (disch := omega) only [jup_ne]) (by constructor <;> simp (disch := omega) only [jup_ne]) (by intro k hk; simp (disch := omega) only [jup_ne]) (jq1.rf) rfl (f' := f) (g' := g) (s' := s) (sa' := sa) (p' := p) (pa' := pa) (sw' := sw) (mf' := jup mf 0 0) (mg' := mg) (mb' := mb)
  by_cases ha : a < -1
  · refine ⟨0, f, g, n2, p, pa, s, sa, sw, rp, ?_, fun cx t z => ⟨jup mf 0 0, mg, mn, mb, ml, ?_, hr⟩⟩
    · simp +decide only [E_c_known, E_n_know, ha, if_true, jbO_some, jbO_none, jbO_ite, jk_some, jk_none, E_c_known_4]
    · simp only [E_m_known, ha, if_true]
  by_cases hma : Int32.ofNat m < a
  · refine ⟨0, f, g, n2, p, pa, s, sa, sw, rp, ?_, fun cx t z => ⟨jup mf 0 0, mg, mn, mb, ml, ?_, hr⟩⟩
    · simp +decide only [E_c_known, E_n_know, ha, n1, hma, if_false, if_true, jbO_some, jbO_none, jbO_ite, jk_some, jk_none, E_c_known_4]
    · simp only [E_m_known, ha, n2', hma, if_false, if_true]
  · refine ⟨1, jup f 25 a, g, n2, p, pa, s, sa, sw, rp, ?_, fun cx t z => ⟨jup (jup mf 0 0) 24 a, mg, mn, mb, ml, ?_, ?_⟩⟩
    · simp +decide only [E_c_known, E_n_know, ha, n1, hma, if_false, if_true, jbO_some, jbO_none, jbO_ite, jk_some, jk_none, E_c_known_4]
    · simp only [E_m_known, ha, n2', hma, if_false]
    · obtain ⟨u, u1, u2, u3, u4, u5⟩ := h7
      refine ⟨C, Sc, h1, h2, ?_, ?_, h5, ?_, ?_, ?_, ?_, ?_, h11⟩
      · unfold jneu at h3 ⊢; simp (disch := omega) only [jup_ne]; exact h3
      · unfold mneu at h4 ⊢; simp (disch := omega) only [jup_ne]; exact h4
      · unfold rIm at h6 ⊢
        simp (disch := omega) only [jup_ne]
        exact h6
      · exact ⟨u, u1, by simp (disch := omega) only [jup_ne]; exact u2, by simp (disch := omega) only [jup_ne]; exact u3, u4, u5⟩
      · refine ⟨m, hm24, by simp (disch := omega) only [jup_ne]; exact n1, by simp (disch := omega) only [jup_ne]; exact n2', by simp only [jup_same], ?_, n5⟩
        simp only [jup_same]
        rcases jcases a with hneg | ⟨k, hk, rfl⟩
        · left
          have h3 : ¬ a.toInt < (-1 : Int32).toInt := by rw [← Int32.lt_iff_toInt_lt]; exact ha
          have h4 : a.toInt < (0 : Int32).toInt := by rw [← Int32.lt_iff_toInt_lt]; exact hneg
          have e1 : (-1 : Int32).toInt = -1 := by decide
          have e0 : (0 : Int32).toInt = 0 := by decide
          apply Int32.toInt_inj.mp
          omega
        · right
          refine ⟨k, ?_, rfl⟩
          rw [jltn (by omega) hk] at hma; omega
      · unfold rTa at h9 ⊢
        simp (disch := omega) only [jup_ne]
        exact h9
      · simp (disch := omega) only [jup_ne]; exact h10
