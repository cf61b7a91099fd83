-- CALL BY CALL: ahead; a trial state, on both sides
def jtry (A B : jS) : jS := (jup (jup (jup (jcpS A B).1 3 0) 4 0) 5 0, (jcpS A B).2)
theorem S_s_follow20 {D : Nat} {f : Nat → Int32} {g : Nat → Nat → Int32} {n2 : Nat → Nat → Int64} {p : Nat → Nat → Int32} {pa : Nat → Nat → Nat → Int32} {s : Nat → Nat → Int32} {sa : Nat → Nat → Nat → Int32} {sw : Bool} {rp : Value} {t : List jE} {z : Nat × Nat × Nat × (Nat → Int32)} : K_s_follow20 D f g n2 p pa s sa sw rp t z = some (.inl none, (jX f g n2 p pa (jup s 2 (jtry (s 2, sa 2) (s 0, sa 0)).1) (jup sa 2 (jtry (s 2, sa 2) (s 0, sa 0)).2) sw rp t, z)) := by
  simp only [E_s_follow20, E_s_copy20, jbO_some, jbO_none, jbO_ite, jk_some, jk_none, E_s_follow20_3, jup_same, jup_jup]
  rfl
theorem jtry_st {C Sc F : Nat} {A B : jS} {tw : Int32} {g : Nat → Nat → Int32} (hC : C ≤ 30) (hS6 : Sc ≤ 6) (h : rSt C Sc B 0 0 0 tw F g) : rSt C Sc (jtry A B) (B.1 3) (B.1 4) (B.1 5) tw F g := by
  obtain ⟨a1, a2, a3, a4, a5, a6, a7, a8, a9⟩ := rSt_ext (A := jcpS A B) hC hS6 jcpS_eq h
  have e := (jcpS_eq (A := A) (B := B)).1
  refine ⟨?_, ?_, ?_, ?_, ?_, ?_, a7, a8, a9⟩
  · unfold jtry; dsimp only; simp (disch := omega) only [jup_ne]; exact a1
  · unfold jtry; dsimp only; simp (disch := omega) only [jup_ne]; exact a2
  · unfold jtry; dsimp only; simp (disch := omega) only [jup_ne, jup_same]; rw [a3, e 3 (by omega)]; simp
  · unfold jtry; dsimp only; simp (disch := omega) only [jup_ne, jup_same]; rw [a4, e 4 (by omega)]; simp
  · unfold jtry; dsimp only; simp (disch := omega) only [jup_ne, jup_same]; rw [a5, e 5 (by omega)]; simp
  · unfold jtry; dsimp only; simp (disch := omega) only [jup_ne]; exact a6
theorem jtry_tm {A B : jS} {T : Nat} (h : jtm B T) : jtm (jtry A B) T := by
  have h2 := jtm_ext (jcpS_eq (A := A) (B := B)) h
  unfold jtm jtry at *
  dsimp only
  simp (disch := omega) only [jup_ne]
  exact h2
theorem jsubc {a b : Int32} : (a + b) - (0 + a) = b := by
  rw [Int32.zero_add, Int32.add_comm, Int32.add_sub_cancel]
theorem A_ahead {D : Nat} {a w : Int32} {f : Nat → Int32} {g : Nat → Nat → Int32} {n2 : Nat → Nat → Int64} {p : Nat → Nat → Int32} {pa : Nat → Nat → Nat → Int32} {s : Nat → Nat → Int32} {sa : Nat → Nat → Nat → Int32} {sw : Bool} {rp : Value} {mf : Nat → Int32} {mg : Nat → Nat → Int32} {mn : Nat → Nat → Int64} {mb : Nat → Nat → Int32} {ml : Nat → Int64} (h : RR f g p pa s sa sw mf mg mb) : ∀ (t : List jE) (z : Nat × Nat × Nat × (Nat → Int32)), ∃ r : Int32, ∃ f' g' n2' p' pa' s' sa' sw' rp', K_c_ahead D a w f g n2 p pa s sa sw rp t z = some (.inl (some (.int r)), (jX f' g' n2' p' pa' s' sa' sw' rp' t, z)) ∧ ∀ (cx : jCX) (t1 : List jE) (z1 : Nat × Nat × Nat × (Nat → Int32)), ∃ mf' mg' mn' mb' ml', K_m_ahead D a w cx mf mg mn mb ml t1 z1 = some (.inl (some (.int r)), (jXt cx (jY mf' mg' mn' mb' ml' t1), z1)) ∧ RR f' g' p' pa' s' sa' sw' mf' mg' mb' := by
  intro t z
  obtain ⟨C, Sc, T, hP, hC, hS6, hT, hT2, hjn, hmn, hfr, hTw, hAt, hW, -, hm15⟩ := RR_ex (n2 := n2) (rp := rp) (mn := mn) (ml := ml) h
  have hr := RR_congr h (by intro k hk; simp (disch := omega) only [jup_ne]) (by intro k hk; simp (disch := omega) only [jup_ne]) rfl rfl (by constructor <;> simp (disch := omega) only [jup_ne]) (by constructor <;> simp (disch := omega) only [jup_ne]) (by intro k hk; simp (disch := omega) only [jup_ne]) (jq1.rf) rfl (f' := f) (g' := g) (s' := s) (sa' := sa) (p' := p) (pa' := pa) (sw' := sw) (mf' := jup mf 0 0) (mg' := mg) (mb' := mb)
  have h10' : ¬ (1 : Int32) = 0 := by decide
  by_cases h0 : a < 1
  · refine ⟨-1, f, g, n2, p, pa, s, sa, sw, rp, ?_, fun cx t z => ⟨jup mf 0 0, mg, mn, mb, ml, ?_, hr⟩⟩
    · simp only [E_c_ahead, h0, if_true]
    · simp only [E_m_ahead, E_m_isDays, h0, if_true, jbO_some, jbO_none, jbO_ite, jk_some, jk_none, E_m_ahead_5]
  by_cases h9 : 9 < a
  · refine ⟨-1, f, g, n2, p, pa, s, sa, sw, rp, ?_, fun cx t z => ⟨jup mf 0 0, mg, mn, mb, ml, ?_, hr⟩⟩
    · simp only [E_c_ahead, h0, h9, if_true, if_false]
    · simp only [E_m_ahead, E_m_isDays, h0, h9, if_true, if_false, jbO_some, jbO_none, jbO_ite, jk_some, jk_none, E_m_ahead_5]
  by_cases hw0 : w < 0
  · refine ⟨-1, f, g, n2, p, pa, s, sa, sw, rp, ?_, fun cx t z => ⟨jup mf 0 0, mg, mn, mb, ml, ?_, hr⟩⟩
    · simp only [E_c_ahead, h0, h9, hw0, if_true, if_false]
    · simp only [E_m_ahead, E_m_isDays, h0, h9, hw0, h10', if_true, if_false, jbO_some, jbO_none, jbO_ite, jk_some, jk_none, E_m_ahead_5]
  by_cases hw2 : 2 < w
  · refine ⟨-1, f, g, n2, p, pa, s, sa, sw, rp, ?_, fun cx t z => ⟨jup mf 0 0, mg, mn, mb, ml, ?_, hr⟩⟩
    · simp only [E_c_ahead, h0, h9, hw0, hw2, if_true, if_false]
    · simp only [E_m_ahead, E_m_isDays, h0, h9, hw0, hw2, h10', if_true, if_false, jbO_some, jbO_none, jbO_ite, jk_some, jk_none, E_m_ahead_5]
  obtain ⟨n, hn1, hn, rfl⟩ : ∃ n, 1 ≤ n ∧ n ≤ 9 ∧ a = Int32.ofNat n := by
    rcases jcases a with hneg | ⟨k, hk, rfl⟩
    · exact absurd (Int32.lt_trans hneg (by decide)) h0
    · refine ⟨k, ?_, ?_, rfl⟩
      · rw [show (1 : Int32) = Int32.ofNat 1 from rfl, jltn (by omega) (by omega)] at h0; omega
      · rw [show (9 : Int32) = Int32.ofNat 9 from rfl, jltn (by omega) hk] at h9; omega
  generalize hTS : jtry (s 2, sa 2) (s 0, sa 0) = TS
  have hT' : jtm TS T := by rw [← hTS]; exact jtry_tm hT
  obtain ⟨n2', hcl⟩ := S_h_passDays (D := D) (j := 2) (T := T) (nd := n) (f := f) (g := g) (n2 := n2) (p := p) (pa := pa) (s := jup s 2 TS.1) (sa := jup sa 2 TS.2) (sw := sw) (rp := rp) (t := t) (z := z) (by omega) (by rw [jup_same, jup_same]; exact hT') hP.1 hm15 (by omega) hn1
  rw [jup_same, jup_same, jup_jup, jup_jup] at hcl
  generalize hres : cN f (g 2) (p (jq sw)) (pa (jq sw)) C Sc (TS.1, TS.2) (n * 12 - T % 12) = res at hcl
  refine ⟨if w = 0 then res.1 3 else if w = 1 then res.1 4 else res.1 5, f, g, n2', p, pa, jup s 2 res.1, jup sa 2 res.2, sw, rp, ?_, fun cx t1 z1 => ?_⟩
  · simp only [E_c_ahead, h0, h9, hw0, hw2, if_false, S_s_follow20, hTS, jbO_some, jbO_none, jbO_ite, jk_some, jk_none, E_c_ahead_18, hcl, E_c_ahead_24, jup_same]
    split
    · rfl
    · split <;> rfl
  · obtain ⟨g1, hcp, hfo1, hc10⟩ := M_copies (D := D) (A := 1) (B := 0) (cx := cx) (f := jup mf 0 0) (g := mg) (n := mn) (b := mb) (l := ml) (t := t1) (z := z1) (by omega) (by omega) (by omega)
    have hcp1 : K_m_copies D 1 0 cx (jup mf 0 0) mg mn mb ml t1 z1 = _ := hcp
    have hst1 : rSt C Sc TS (s 0 3) (s 0 4) (s 0 5) ((jup mf 0 0) 19) 1 g1 := by
      rw [← hTS]
      exact jtry_st hC hS6 (hc10.st hC hS6 hAt.2.2.1)
    obtain ⟨y, n', g2, hru, hfo2, h192, hst2⟩ := M_runs (D := D) (T := T) (nd := n) (tf := f) (w9 := g 2) (cx := cx) (f := jup mf 0 0) (g := g1) (n := mn) (b := mb) (l := ml) (t := t1) (z := z1) (hfo1.pl hP) hst1 hAt.2.2.2.2.2 hTw hT' (by omega) (by omega) hn1 (by rw [hfo1.2.1 14 (by omega) (by omega) 0 (by omega)]; exact hfr.1.1.trans hT.1) (fun d hd1 hd2 => by rw [mwnd_g hfo1]; have := hW (g 2) 0 d (by omega); rw [mwnd_f] at this; exact this)
    rw [show TS = (TS.1, TS.2) from rfl, hres] at hst2
    have hfo := hfo1.tr hfo2
    have e16 : g2 16 1 - g2 16 0 = res.1 3 := by
      rw [hst2.2.2.1, hfo.2.1 16 (by omega) (by omega) 0 (by omega), hfr.1.2.2.1]; exact jsubc
    have e17 : g2 17 1 - g2 17 0 = res.1 4 := by
      rw [hst2.2.2.2.1, hfo.2.1 17 (by omega) (by omega) 0 (by omega), hfr.1.2.2.2.1]; exact jsubc
    have e18 : g2 18 1 - g2 18 0 = res.1 5 := by
      rw [hst2.2.2.2.2.1, hfo.2.1 18 (by omega) (by omega) 0 (by omega), hfr.1.2.2.2.2.1]; exact jsubc
    refine ⟨jup (jup mf 0 0) 15 y, g2, n', mb, ml, ?_, ?_⟩
    · simp only [E_m_ahead, E_m_isDays, h0, h9, hw0, hw2, h10', if_false, jbO_some, jbO_none, jbO_ite, jk_some, jk_none, E_m_ahead_5, hcp1, E_m_ahead_17, hru, E_m_ahead_20, e16, e17, e18]
      split
      · rfl
      · split <;> rfl
    · exact RR_congr h (by intro k hk; simp (disch := omega) only [jup_ne]) (by intro k hk; simp (disch := omega) only [jup_ne]) rfl rfl (by constructor <;> simp (disch := omega) only [jup_ne]) (by constructor <;> simp (disch := omega) only [jup_ne]) (by intro k hk; simp (disch := omega) only [jup_ne]) (jq1.of hfo) rfl (f' := f) (g' := g) (s' := jup s 2 res.1) (sa' := jup sa 2 res.2) (p' := p) (pa' := pa) (sw' := sw) (mf' := jup (jup mf 0 0) 15 y) (mg' := g2) (mb' := mb)
