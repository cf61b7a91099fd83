-- CALL BY CALL: undo, keep, back
/-- a copy of a state over another -/
def jcpS (A B : jS) : jS := (jup (jup (jup (jup (jup (jup A.1 0 (B.1 0)) 1 (B.1 1)) 2 (B.1 2)) 3 (B.1 3)) 4 (B.1 4)) 5 (B.1 5),
  jup (jup (jup (jup (jup A.2 0 (jcpy (B.2 0) (A.2 0) 0 0 30)) 1 (jcpy (B.2 1) (A.2 1) 0 0 12)) 2 (jcpy (B.2 2) (A.2 2) 0 0 6)) 3 (jcpy (B.2 3) (A.2 3) 0 0 6)) 4 (jcpy (B.2 4) (A.2 4) 0 0 6))
def jEq (A B : jS) : Prop := (∀ k, k < 6 → A.1 k = B.1 k) ∧ (∀ i, i < 30 → A.2 0 i = B.2 0 i) ∧ (∀ i, i < 12 → A.2 1 i = B.2 1 i) ∧ ∀ i, i < 6 → A.2 2 i = B.2 2 i ∧ A.2 3 i = B.2 3 i ∧ A.2 4 i = B.2 4 i
theorem jcpS_eq {A B : jS} : jEq (jcpS A B) B := by
  unfold jcpS
  refine ⟨?_, ?_, ?_, ?_⟩
  · intro k hk
    rcases (show k = 0 ∨ k = 1 ∨ k = 2 ∨ k = 3 ∨ k = 4 ∨ k = 5 by omega) with rfl | rfl | rfl | rfl | rfl | rfl <;> simp [jup]
  · intro i hi; simp (disch := omega) only [jup_ne, jup_same, jcpy_at]
  · intro i hi; simp (disch := omega) only [jup_ne, jup_same, jcpy_at]
  · intro i hi; refine ⟨?_, ?_, ?_⟩ <;> simp (disch := omega) only [jup_ne, jup_same, jcpy_at]
theorem rSt_ext {C Sc F : Nat} {A B : jS} {e0 p0 c0 tw : Int32} {g : Nat → Nat → Int32} (hC : C ≤ 30) (hS6 : Sc ≤ 6) (h : jEq A B) (hs : rSt C Sc B e0 p0 c0 tw F g) : rSt C Sc A e0 p0 c0 tw F g := by
  obtain ⟨h1, h2, h3, h4⟩ := h
  obtain ⟨a1, a2, a3, a4, a5, a6, a7, a8, a9⟩ := hs
  refine ⟨?_, ?_, ?_, ?_, ?_, ?_, ?_, ?_, ?_⟩
  · rw [h1 0 (by omega)]; exact a1
  · rw [h1 1 (by omega)]; exact a2
  · rw [h1 3 (by omega)]; exact a3
  · rw [h1 4 (by omega)]; exact a4
  · rw [h1 5 (by omega)]; exact a5
  · rw [h1 2 (by omega)]; exact a6
  · intro c hc; rw [h2 c (by omega)]; exact a7 c hc
  · intro x hx; rw [h3 x hx]; exact a8 x hx
  · intro i hi
    obtain ⟨b1, b2, b3⟩ := h4 i (by omega)
    rw [b1, b2, b3]; exact a9 i hi
theorem jtm_ext {A B : jS} {T : Nat} (h : jEq A B) (hs : jtm B T) : jtm A T := by
  unfold jtm at hs ⊢
  rw [h.1 0 (by omega), h.1 1 (by omega)]; exact hs
theorem jCr_ext {A B : jS} {C : Nat} (h : jEq A B) (hC : C ≤ 30) (hs : jCr C B) : jCr C A :=
  ⟨fun c hc => by rw [h.2.1 c (by omega)]; exact hs.1 c hc, fun c h1 h2 => by rw [h.2.1 c h2]; exact hs.2 c h1 h2⟩
theorem jOth_ext {A B : jS} {Sc : Nat} (h : jEq A B) (hS6 : Sc ≤ 6) (hs : jOth Sc B) : jOth Sc A :=
  ⟨by rw [h.1 2 (by omega)]; exact hs.1, fun i hi => by rw [(h.2.2.2 i (by omega)).2.1]; exact hs.2 i hi⟩
theorem rFr_ext {C Sc F : Nat} {A B : jS} {g : Nat → Nat → Int32} (hC : C ≤ 30) (hS6 : Sc ≤ 6) (h : jEq A B) (hs : rFr C Sc B F g) : rFr C Sc A F g := by
  obtain ⟨h1, h2, ⟨T, h3, h4⟩, h5, h6⟩ := hs
  exact ⟨rSt_ext hC hS6 h h1, by rw [h.1 2 (by omega)]; exact h2, ⟨T, jtm_ext h h3, h4⟩, jCr_ext h hC h5, jOth_ext h hS6 h6⟩
theorem A_undo {D : Nat} {f : Nat → Int32} {g : Nat → Nat → Int32} {n2 : Nat → Nat → Int64} {p : Nat → Nat → Int32} {pa : Nat → Nat → Nat → Int32} {s : Nat → Nat → Int32} {sa : Nat → Nat → Nat → Int32} {sw : Bool} {rp : Value} {mf : Nat → Int32} {mg : Nat → Nat → Int32} {mn : Nat → Nat → Int64} {mb : Nat → Nat → Int32} {ml : Nat → Int64} (h : RR f g p pa s sa sw mf mg mb) : ∀ (t : List jE) (z : Nat × Nat × Nat × (Nat → Int32)), ∃ r : Int32, ∃ f' g' n2' p' pa' s' sa' sw' rp', K_c_undo D f g n2 p pa s sa sw rp t z = some (.inl (some (.int r)), (jX f' g' n2' p' pa' s' sa' sw' rp' t, z)) ∧ ∀ (cx : jCX) (t1 : List jE) (z1 : Nat × Nat × Nat × (Nat → Int32)), ∃ mf' mg' mn' mb' ml', K_m_undo D cx mf mg mn mb ml t1 z1 = some (.inl (some (.int r)), (jXt cx (jY mf' mg' mn' mb' ml' t1), z1)) ∧ RR f' g' p' pa' s' sa' sw' mf' mg' mb' := by
  intro t z
  obtain ⟨C, Sc, h1, h2, h3, h4, h5, h6, ⟨u, u1, u2, u3, u4, u5⟩, h8, h9, h10, h11⟩ := id h
  have hS6 : Sc ≤ 6 := h1.1.2.2.2.2.2.1
  have hC : C ≤ 30 := h1.1.2.1
  have hr := RR_congr h (by intro k hk; simp (disch := omega) only [jup_ne]) (by intro k hk; simp (disch := omega) only [jup_ne]) rfl rfl (by constructor <;> simp (disch := omega) only [jup_ne]) (by constructor <;> simp (disch := omega) only [jup_ne]) (by intro k hk; simp (disch := omega) only [jup_ne]) (jq1.rf) rfl (f' := f) (g' := g) (s' := s) (sa' := sa) (p' := p) (pa' := pa) (sw' := sw) (mf' := jup mf 0 0) (mg' := mg) (mb' := mb)
  by_cases hu0 : u = 0
  · subst hu0
    have hm18 : mf 18 = 0 := u3
    refine ⟨-1, f, g, n2, p, pa, s, sa, sw, rp, ?_, fun cx t z => ⟨jup mf 0 0, mg, mn, mb, ml, ?_, hr⟩⟩
    · have : f 23 < 1 := by rw [u2]; decide
      simp only [E_c_undo, E_t_revert (show 0 < 3 by omega), this, if_true, jbO_some, jbO_none, jbO_ite, jk_some, jk_none, E_c_undo_5]
    · simp only [E_m_undo, hm18, if_true]
  · have e1 : Int32.ofNat u - 1 = Int32.ofNat (u - 1) := by
      rw [show (1 : Int32) = Int32.ofNat 1 from rfl, ← Int32.ofNat_sub _ _ (by omega)]
    have hlt : ¬ Int32.ofNat u < 1 := jlt_n (b := 1) (by omega) (by omega)
    obtain ⟨i, hi, hi5⟩ := u5 (u - 1) (by omega)
    have hW : jun g u (s 0, sa 0) 1 = jrv (g 4 (u - 1)) (g 5 (u - 1)) (g 6 (u - 1)) (s 0, sa 0) := by
      show jrv (g 4 (u - 1 - 0)) _ _ _ = _
      rfl
    refine ⟨Int32.ofNat (u - 1), jup f 23 (Int32.ofNat (u - 1)), g, n2, p, pa, jup s 0 (jun g u (s 0, sa 0) 1).1, jup sa 0 (jun g u (s 0, sa 0) 1).2, sw, rp, ?_, fun cx t1 z1 => ?_⟩
    · rw [hW, E_c_undo]
      have h10' : ¬ (1 : Int32) = 0 := by decide
      unfold jrv
      by_cases hk0 : g 4 (u - 1) = 0
      · simp (disch := omega) only [E_t_revert, E_t_revert_30 (j := 0), E_t_revert_51 (j := 0), u2, hlt, e1, jout_f, jclamp, if_false, hk0, if_true, hi5, jbO_some, jbO_none, jbO_ite, jk_some, jk_none, E_c_undo_5, h10', jup_same, jup_self]
      · by_cases hk2 : g 4 (u - 1) = 2
        · simp (disch := omega) only [E_t_revert, E_t_revert_30 (j := 0), E_t_revert_51 (j := 0), u2, hlt, e1, jout_f, jclamp, if_false, hk0, hk2, if_true, hi5, jbO_some, jbO_none, jbO_ite, jk_some, jk_none, E_c_undo_5, h10', jup_same, jup_self, show ¬ (2 : Int32) = 0 by decide]
        · simp (disch := omega) only [E_t_revert, E_t_revert_30 (j := 0), E_t_revert_51 (j := 0), u2, hlt, e1, jout_f, jclamp, if_false, hk0, hk2, if_true, hi5, jbO_some, jbO_none, jbO_ite, jk_some, jk_none, E_c_undo_5, h10', jup_same, jup_self]
    · obtain ⟨g', he, hfo, hcp⟩ := M_copies (D := D) (A := 0) (B := 3 + (u - 1)) (cx := cx) (f := jup (jup mf 0 0) 18 (Int32.ofNat (u - 1))) (g := mg) (n := mn) (b := mb) (l := ml) (t := t1) (z := z1) (by omega) (by omega) (by omega)
      have he2 : K_m_copies D 0 (Int32.ofNat (3 + (u - 1))) cx (jup (jup mf 0 0) 18 (Int32.ofNat (u - 1))) mg mn mb ml t1 z1 = _ := he
      have hn0 : ¬ Int32.ofNat u = 0 := by
        rw [show (0 : Int32) = Int32.ofNat 0 from rfl, jeqn (by omega) (by omega)]; exact hu0
      refine ⟨jup (jup mf 0 0) 18 (Int32.ofNat (u - 1)), g', mn, mb, ml, ?_, ?_⟩
      · simp only [E_m_undo, u3, hn0, if_false, e1, e3add, he2, jbO_some, jbO_none, jbO_ite, jk_some, jk_none, E_m_undo_21, jup_same]
      · have hnow := hcp.fr hC hS6 (u4 0 (by omega))
        have hjun : ∀ m, jun g (u - 1) (jun g u (s 0, sa 0) 1) m = jun g u (s 0, sa 0) (m + 1) := by
          intro m
          induction m with
          | zero => rfl
          | succ m ih =>
            show jrv _ _ _ (jun g (u - 1) (jun g u (s 0, sa 0) 1) m) = jrv _ _ _ (jun g u (s 0, sa 0) (m + 1))
            rw [ih, show u - 1 - 1 - m = u - 1 - (m + 1) by omega]
        have hlow : jlow mg g' := hfo.1
        refine ⟨C, Sc, rPl_congr h1 (fun k hk => hlow k (Or.inl hk)), h2, ?_, ?_, ?_, ?_, ?_, ?_, ?_, ?_, h11⟩
        · unfold jneu at h3 ⊢; simp (disch := omega) only [jup_ne]; exact h3
        · unfold mneu at h4 ⊢; simp (disch := omega) only [jup_ne]; exact h4
        · simp only [jup_same]; exact hnow
        · unfold rIm at h6 ⊢
          simp (disch := omega) only [jup_ne]
          exact ⟨h6.1, h6.2.1, fun hn => (hfo.cop (by omega)).fr hC hS6 (h6.2.2 hn)⟩
        · refine ⟨u - 1, by omega, jup_same, jup_same, ?_, fun k hk => u5 k (by omega)⟩
          intro m hm
          simp only [jup_same]
          rw [show ((jun g u (s 0, sa 0) 1).1, (jun g u (s 0, sa 0) 1).2) = jun g u (s 0, sa 0) 1 from rfl, hjun]
          have := u4 (m + 1) (by omega)
          rw [show 3 + (u - 1 - 1 - m) = 3 + (u - 1 - (m + 1)) by omega]
          exact (hfo.cop (by omega)).fr hC hS6 this
        · unfold rNo at h8 ⊢
          simp (disch := omega) only [jup_ne]
          rw [hlow 30 (by omega), hlow 31 (by omega), hlow 32 (by omega), hlow 33 (by omega)]; exact h8
        · unfold rTa at h9 ⊢
          simp (disch := omega) only [jup_ne]
          rw [hlow 0 (by omega)]; exact h9
        · simp (disch := omega) only [jup_ne]; exact h10
theorem A_keep {D : Nat} {f : Nat → Int32} {g : Nat → Nat → Int32} {n2 : Nat → Nat → Int64} {p : Nat → Nat → Int32} {pa : Nat → Nat → Nat → Int32} {s : Nat → Nat → Int32} {sa : Nat → Nat → Nat → Int32} {sw : Bool} {rp : Value} {mf : Nat → Int32} {mg : Nat → Nat → Int32} {mn : Nat → Nat → Int64} {mb : Nat → Nat → Int32} {ml : Nat → Int64} (h : RR f g p pa s sa sw mf mg mb) : ∀ (t : List jE) (z : Nat × Nat × Nat × (Nat → Int32)), ∃ r : Int32, ∃ f' g' n2' p' pa' s' sa' sw' rp', K_c_keep D f g n2 p pa s sa sw rp t z = some (.inl (some (.int r)), (jX f' g' n2' p' pa' s' sa' sw' rp' t, z)) ∧ ∀ (cx : jCX) (t1 : List jE) (z1 : Nat × Nat × Nat × (Nat → Int32)), ∃ mf' mg' mn' mb' ml', K_m_keep D cx mf mg mn mb ml t1 z1 = some (.inl (some (.int r)), (jXt cx (jY mf' mg' mn' mb' ml' t1), z1)) ∧ RR f' g' p' pa' s' sa' sw' mf' mg' mb' := by
  intro t z
  obtain ⟨C, Sc, h1, h2, h3, h4, h5, h6, ⟨u, u1, u2, u3, u4, u5⟩, h8, h9, h10, h11⟩ := id h
  have hS6 : Sc ≤ 6 := h1.1.2.2.2.2.2.1
  have hC : C ≤ 30 := h1.1.2.1
  refine ⟨s 0 0, jup f 1 1, g, n2, p, pa, jup s 1 (jcpS (s 1, sa 1) (s 0, sa 0)).1, jup sa 1 (jcpS (s 1, sa 1) (s 0, sa 0)).2, sw, rp, ?_, fun cx t1 z1 => ?_⟩
  · simp (disch := omega) only [E_c_keep, E_s_copy10, jbO_some, jbO_none, jbO_ite, jk_some, jk_none, E_c_keep_5, jcpS, jup_ne]
  · obtain ⟨g', he, hfo, hcp⟩ := M_copies (D := D) (A := 2) (B := 0) (cx := cx) (f := jup mf 0 0) (g := mg) (n := mn) (b := mb) (l := ml) (t := t1) (z := z1) (by omega) (by omega) (by omega)
    have he2 : K_m_copies D 2 0 cx (jup mf 0 0) mg mn mb ml t1 z1 = _ := he
    have hday : g' 14 0 = s 0 0 := ((hfo.cop (F := 0) (by omega)).1 14 (by omega) (by omega)).trans (fr0 h5).1
    refine ⟨jup (jup mf 0 0) 17 1, g', mn, mb, ml, ?_, ?_⟩
    · simp only [E_m_keep, he2, jbO_some, jbO_none, jbO_ite, jk_some, jk_none, E_m_keep_7, hday]
    · have hlow : jlow mg g' := hfo.1
      refine ⟨C, Sc, rPl_congr h1 (fun k hk => hlow k (Or.inl hk)), h2, ?_, ?_, ?_, ?_, ?_, ?_, ?_, ?_, h11⟩
      · unfold jneu at h3 ⊢; simp (disch := omega) only [jup_ne]; exact h3
      · unfold mneu at h4 ⊢; simp (disch := omega) only [jup_ne]; exact h4
      · simp (disch := omega) only [jup_ne]; exact (hfo.cop (by omega)).fr hC hS6 h5
      · unfold rIm
        simp only [jup_same]
        exact ⟨trivial, Or.inr trivial, fun _ => rFr_ext hC hS6 jcpS_eq (hcp.fr hC hS6 h5)⟩
      · refine ⟨u, u1, by rw [jup_ne (by omega)]; exact u2, by rw [jup_ne (by omega), jup_ne (by omega)]; exact u3, ?_, u5⟩
        intro m hm
        simp (disch := omega) only [jup_ne]
        exact (hfo.cop (by omega)).fr hC hS6 (u4 m hm)
      · unfold rNo at h8 ⊢
        simp (disch := omega) only [jup_ne]
        rw [hlow 30 (by omega), hlow 31 (by omega), hlow 32 (by omega), hlow 33 (by omega)]; exact h8
      · unfold rTa at h9 ⊢
        simp (disch := omega) only [jup_ne]
        rw [hlow 0 (by omega)]; exact h9
      · simp (disch := omega) only [jup_ne]; exact h10
theorem A_back {D : Nat} {f : Nat → Int32} {g : Nat → Nat → Int32} {n2 : Nat → Nat → Int64} {p : Nat → Nat → Int32} {pa : Nat → Nat → Nat → Int32} {s : Nat → Nat → Int32} {sa : Nat → Nat → Nat → Int32} {sw : Bool} {rp : Value} {mf : Nat → Int32} {mg : Nat → Nat → Int32} {mn : Nat → Nat → Int64} {mb : Nat → Nat → Int32} {ml : Nat → Int64} (h : RR f g p pa s sa sw mf mg mb) : ∀ (t : List jE) (z : Nat × Nat × Nat × (Nat → Int32)), ∃ r : Int32, ∃ f' g' n2' p' pa' s' sa' sw' rp', K_c_back D f g n2 p pa s sa sw rp t z = some (.inl (some (.int r)), (jX f' g' n2' p' pa' s' sa' sw' rp' t, z)) ∧ ∀ (cx : jCX) (t1 : List jE) (z1 : Nat × Nat × Nat × (Nat → Int32)), ∃ mf' mg' mn' mb' ml', K_m_back D cx mf mg mn mb ml t1 z1 = some (.inl (some (.int r)), (jXt cx (jY mf' mg' mn' mb' ml' t1), z1)) ∧ RR f' g' p' pa' s' sa' sw' mf' mg' mb' := by
  intro t z
  obtain ⟨C, Sc, h1, h2, h3, h4, h5, h6, ⟨u, u1, u2, u3, u4, u5⟩, h8, h9, h10, h11⟩ := id h
  have hS6 : Sc ≤ 6 := h1.1.2.2.2.2.2.1
  have hC : C ≤ 30 := h1.1.2.1
  have hr := RR_congr h (by intro k hk; simp (disch := omega) only [jup_ne]) (by intro k hk; simp (disch := omega) only [jup_ne]) rfl rfl (by constructor <;> simp (disch := omega) only [jup_ne]) (by constructor <;> simp (disch := omega) only [jup_ne]) (by intro k hk; simp (disch := omega) only [jup_ne]) (jq1.rf) rfl (f' := f) (g' := g) (s' := s) (sa' := sa) (p' := p) (pa' := pa) (sw' := sw) (mf' := jup mf 0 0) (mg' := mg) (mb' := mb)
  by_cases hi : f 1 = 0
  · have hm17 : mf 17 = 0 := h6.1.symm.trans hi
    refine ⟨-1, f, g, n2, p, pa, s, sa, sw, rp, ?_, fun cx t z => ⟨jup mf 0 0, mg, mn, mb, ml, ?_, hr⟩⟩
    · simp only [E_c_back, hi, if_true]
    · simp only [E_m_back, hm17, if_true]
  · have hm17 : ¬ mf 17 = 0 := by rw [← h6.1]; exact hi
    have him := h6.2.2 hi
    refine ⟨s 1 0, jup f 23 0, g, n2, p, pa, jup s 0 (jcpS (s 0, sa 0) (s 1, sa 1)).1, jup sa 0 (jcpS (s 0, sa 0) (s 1, sa 1)).2, sw, rp, ?_, fun cx t1 z1 => ?_⟩
    · simp (disch := omega) only [E_c_back, hi, if_false, E_s_copy01, jbO_some, jbO_none, jbO_ite, jk_some, jk_none, E_c_back_10, jcpS, jup_ne, jup_same]
    · obtain ⟨g', he, hfo, hcp⟩ := M_copies (D := D) (A := 0) (B := 2) (cx := cx) (f := jup mf 0 0) (g := mg) (n := mn) (b := mb) (l := ml) (t := t1) (z := z1) (by omega) (by omega) (by omega)
      have he2 : K_m_copies D 0 2 cx (jup mf 0 0) mg mn mb ml t1 z1 = _ := he
      have hday : g' 14 0 = s 1 0 := (hcp.1 14 (by omega) (by omega)).trans him.1.1
      refine ⟨jup (jup mf 0 0) 18 0, g', mn, mb, ml, ?_, ?_⟩
      · simp only [E_m_back, hm17, if_false, he2, jbO_some, jbO_none, jbO_ite, jk_some, jk_none, E_m_back_12, hday]
      · have hlow : jlow mg g' := hfo.1
        refine ⟨C, Sc, rPl_congr h1 (fun k hk => hlow k (Or.inl hk)), h2, ?_, ?_, ?_, ?_, ?_, ?_, ?_, ?_, h11⟩
        · unfold jneu at h3 ⊢; simp (disch := omega) only [jup_ne]; exact h3
        · unfold mneu at h4 ⊢; simp (disch := omega) only [jup_ne]; exact h4
        · simp only [jup_same]; exact rFr_ext hC hS6 jcpS_eq (hcp.fr hC hS6 him)
        · unfold rIm at h6 ⊢
          simp (disch := omega) only [jup_ne]
          exact ⟨h6.1, h6.2.1, fun hn => (hfo.cop (by omega)).fr hC hS6 (h6.2.2 hn)⟩
        · exact ⟨0, by omega, jup_same, jup_same, fun m hm => absurd hm (by omega), fun k hk => absurd hk (by omega)⟩
        · unfold rNo at h8 ⊢
          simp (disch := omega) only [jup_ne]
          rw [hlow 30 (by omega), hlow 31 (by omega), hlow 32 (by omega), hlow 33 (by omega)]; exact h8
        · unfold rTa at h9 ⊢
          simp (disch := omega) only [jup_ne]
          rw [hlow 0 (by omega)]; exact h9
        · simp (disch := omega) only [jup_ne]; exact h10
