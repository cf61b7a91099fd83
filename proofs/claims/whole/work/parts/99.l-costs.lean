-- CALL BY CALL: costs
theorem rSt_bits {C Sc F : Nat} {S : jS} {e0 p0 c0 tw : Int32} {g : Nat → Nat → Int32} (h : rSt C Sc S e0 p0 c0 tw F g) (htw : ¬ tw = 1) (hS6 : Sc ≤ 6) : ∀ i, i < Sc → bt (g 19 F) i = bt (S.1 2) i := by
  intro i hi
  have := h.2.2.2.2.2.1 i hi
  rw [jbit10 (by omega), jbit0 (by omega)] at this
  cases h1 : bt (g 19 F) i <;> cases h2 : bt (S.1 2) i <;> simp_all
theorem rSt_set {C Sc F : Nat} {S : jS} {e0 p0 c0 tw x y : Int32} {g : Nat → Nat → Int32} (h : rSt C Sc S e0 p0 c0 tw F g) (htw : ¬ tw = 1) (hS6 : Sc ≤ 6) (hxy : ∀ i, i < Sc → bt y i = bt x i) : rSt C Sc (jup S.1 2 x, S.2) e0 p0 c0 tw F (jup g 19 (jup (g 19) F y)) := by
  obtain ⟨a1, a2, a3, a4, a5, a6, a7, a8, a9⟩ := h
  refine ⟨?_, ?_, ?_, ?_, ?_, ?_, ?_, ?_, ?_⟩ <;> dsimp only <;> simp (disch := omega) only [jup_ne, jup_same]
  · exact a1
  · exact a2
  · exact a3
  · exact a4
  · exact a5
  · intro i hi
    rw [jbit10 (by omega), jbit0 (by omega), hxy i hi]
    simp [htw]
  · exact a7
  · exact a8
  · exact a9
theorem jfo_19 {F : Nat} {y : Int32} {g : Nat → Nat → Int32} : jfo F g (jup g 19 (jup (g 19) F y)) := by
  refine ⟨fun k hk => jup_ne (by omega), fun k h1 h2 i hi => ?_, fun i _ => by rw [jup_ne (by omega)], fun i _ => by rw [jup_ne (by omega)], fun k h1 h2 i _ => by rw [jup_ne (by omega)]⟩
  by_cases hk : k = 19
  · subst hk; rw [jup_same, jup_ne hi]
  · rw [jup_ne hk]
theorem jtm_2 {S : jS} {T : Nat} {x : Int32} (h : jtm S T) : jtm (jup S.1 2 x, S.2) T := by
  unfold jtm at *
  dsimp only
  simp (disch := omega) only [jup_ne]
  exact h
theorem M_runs_set {D T nd : Nat} {C Sc : Nat} {tf w9 q : Nat → Int32} {qa mg : Nat → Nat → Int32} {A S : jS} {x y : Int32} {cx : jCX} {f : Nat → Int32} {g : Nat → Nat → Int32} {n : Nat → Nat → Int64} {b : Nat → Nat → Int32} {l : Nat → Int64} {t : List jE} {z : Nat × Nat × Nat × (Nat → Int32)} (hP : rPl q qa C Sc mg) (hS : rSt C Sc S 0 0 0 (f 19) 0 mg) (h19 : ¬ f 19 = 1) (hfr : f 16 = -1 ∨ ∃ m, m < 2147483648 ∧ f 16 = Int32.ofNat m) (hTw : rTw tf f Sc) (hT : jtm S T) (hT2 : T < 100000) (hn : nd < 1000) (hn1 : 1 ≤ nd)
    (hfo : jfo 1 mg g) (hcp : jcop 1 0 mg g) (hxy : ∀ i, i < Sc → bt y i = bt x i) (hW : ∀ d, d < 2147483648 → mwnd f mg (Int32.ofNat d) = cwnd tf w9 q qa (Int32.ofNat d)) :
    ∃ yy n' g', K_m_runs D (Int32.ofNat nd) cx f (jup g 19 (jup (g 19) 1 y)) n b l t z = some (.inl none, (jXt cx (jY (jup f 15 yy) g' n' b l t), z)) ∧ jfo 1 mg g' ∧ rSt C Sc (cN tf w9 q qa C Sc (jup (jtry A S).1 2 x, (jtry A S).2) (nd * 12 - T % 12)) (S.1 3) (S.1 4) (S.1 5) (f 19) 1 g' := by
  have hC : C ≤ 30 := hP.1.2.1
  have hS6 : Sc ≤ 6 := hP.1.2.2.2.2.2.1
  have hst : rSt C Sc (jup (jtry A S).1 2 x, (jtry A S).2) (S.1 3) (S.1 4) (S.1 5) (f 19) 1 (jup g 19 (jup (g 19) 1 y)) := rSt_set (jtry_st hC hS6 (hcp.st hC hS6 hS)) h19 hS6 hxy
  have hfo2 : jfo 1 mg (jup g 19 (jup (g 19) 1 y)) := hfo.tr jfo_19
  obtain ⟨yy, n', g', hru, hfo3, -, hst3⟩ := M_runs (D := D) (T := T) (nd := nd) (tf := tf) (w9 := w9) (cx := cx) (f := f) (n := n) (b := b) (l := l) (t := t) (z := z) (hfo2.pl hP) hst hfr hTw (jtm_2 (jtry_tm hT)) hT2 hn hn1 (by rw [hfo2.2.1 14 (by omega) (by omega) 0 (by omega)]; exact hS.1.trans hT.1) (fun d hd1 hd2 => by rw [mwnd_g hfo2]; exact hW d (by omega))
  exact ⟨yy, n', g', hru, hfo2.tr hfo3, hst3⟩
theorem jsub_cancel {e a b : Int32} : (e + a) - (e + b) = a - b := by
  apply Int32.toBitVec_inj.mp
  rw [Int32.toBitVec_sub, Int32.toBitVec_sub, Int32.toBitVec_add, Int32.toBitVec_add]
  bv_omega
theorem A_costs {D : Nat} {a x w : Int32} {f : Nat → Int32} {g : Nat → Nat → Int32} {n2 : Nat → Nat → Int64} {p : Nat → Nat → Int32} {pa : Nat → Nat → Nat → Int32} {s : Nat → Nat → Int32} {sa : Nat → Nat → Nat → Int32} {sw : Bool} {rp : Value} {mf : Nat → Int32} {mg : Nat → Nat → Int32} {mn : Nat → Nat → Int64} {mb : Nat → Nat → Int32} {ml : Nat → Int64} (h : RR f g p pa s sa sw mf mg mb) : ∀ (t : List jE) (z : Nat × Nat × Nat × (Nat → Int32)), ∃ r : Int32, ∃ f' g' n2' p' pa' s' sa' sw' rp', K_c_costs D a x w f g n2 p pa s sa sw rp t z = some (.inl (some (.int r)), (jX f' g' n2' p' pa' s' sa' sw' rp' t, z)) ∧ ∀ (cx : jCX) (t1 : List jE) (z1 : Nat × Nat × Nat × (Nat → Int32)), ∃ mf' mg' mn' mb' ml', K_m_costs D a x w cx mf mg mn mb ml t1 z1 = some (.inl (some (.int r)), (jXt cx (jY mf' mg' mn' mb' ml' t1), z1)) ∧ RR f' g' p' pa' s' sa' sw' mf' mg' mb' := by
  intro t z
  obtain ⟨C, Sc, T, hP, hC, hS6, hT, hT2, hjn, hmn, hfr, hTw, hAt, hW, -, hm15⟩ := RR_ex (n2 := n2) (rp := rp) (mn := mn) (ml := ml) h
  have hr := RR_congr h (by intro k hk; simp (disch := omega) only [jup_ne]) (by intro k hk; simp (disch := omega) only [jup_ne]) rfl rfl (by constructor <;> simp (disch := omega) only [jup_ne]) (by constructor <;> simp (disch := omega) only [jup_ne]) (by intro k hk; simp (disch := omega) only [jup_ne]) (jq1.rf) rfl (f' := f) (g' := g) (s' := s) (sa' := sa) (p' := p) (pa' := pa) (sw' := sw) (mf' := jup mf 0 0) (mg' := mg) (mb' := mb)
  have hS := hP.1.2.2.2.2.1
  have h10' : ¬ (1 : Int32) = 0 := by decide
  have hsc := fun {x} => S_p_hasScare (D := D) (w := sw) (x := x) (f := f) (g := g) (n2 := n2) (p := p) (pa := pa) (s := s) (sa := sa) (sw := sw) (rp := rp) (t := t) (z := z) hS hS6
  have hms := fun {x cx t z} => M_isScare (D := D) (x := x) (cx := cx) (f := jup mf 0 0) (g := mg) (n := mn) (b := mb) (l := ml) (t := t) (z := z) hP
  rcases jout_dec a Sc (by omega) with ho | ⟨i, hi, rfl⟩
  · refine ⟨-1, f, g, n2, p, pa, s, sa, sw, rp, ?_, fun cx t z => ⟨jup mf 0 0, mg, mn, mb, ml, ?_, hr⟩⟩
    · simp only [E_c_costs, hsc, if_pos ho, jbO_some, jbO_none, jbO_ite, jk_some, jk_none, E_c_costs_4, if_true]
    · simp only [E_m_costs, hms, if_pos ho, jbO_some, jbO_none, jbO_ite, jk_some, jk_none, E_m_costs_6, if_true]
  have hno : ¬ jout (Int32.ofNat i) Sc := jout_n hi (by omega)
  by_cases h0 : x < 1
  · refine ⟨-1, f, g, n2, p, pa, s, sa, sw, rp, ?_, fun cx t z => ⟨jup mf 0 0, mg, mn, mb, ml, ?_, hr⟩⟩
    · simp only [E_c_costs, hsc, if_neg hno, jbO_some, jbO_none, jbO_ite, jk_some, jk_none, E_c_costs_4, h10', h0, if_true, if_false]
    · simp only [E_m_costs, hms, if_neg hno, jbO_some, jbO_none, jbO_ite, jk_some, jk_none, E_m_costs_6, E_m_isDays, h10', h0, if_true, if_false, E_m_costs_9]
  by_cases h9 : 9 < x
  · refine ⟨-1, f, g, n2, p, pa, s, sa, sw, rp, ?_, fun cx t z => ⟨jup mf 0 0, mg, mn, mb, ml, ?_, hr⟩⟩
    · simp only [E_c_costs, hsc, if_neg hno, jbO_some, jbO_none, jbO_ite, jk_some, jk_none, E_c_costs_4, h10', h0, h9, if_true, if_false]
    · simp only [E_m_costs, hms, if_neg hno, jbO_some, jbO_none, jbO_ite, jk_some, jk_none, E_m_costs_6, E_m_isDays, h10', h0, h9, if_true, if_false, E_m_costs_9]
  by_cases hw0 : w < 0
  · refine ⟨-1, f, g, n2, p, pa, s, sa, sw, rp, ?_, fun cx t z => ⟨jup mf 0 0, mg, mn, mb, ml, ?_, hr⟩⟩
    · simp only [E_c_costs, hsc, if_neg hno, jbO_some, jbO_none, jbO_ite, jk_some, jk_none, E_c_costs_4, h10', h0, h9, hw0, if_true, if_false]
    · simp only [E_m_costs, hms, if_neg hno, jbO_some, jbO_none, jbO_ite, jk_some, jk_none, E_m_costs_6, E_m_isDays, h10', h0, h9, hw0, if_true, if_false, E_m_costs_9]
  by_cases hw1 : 1 < w
  · refine ⟨-1, f, g, n2, p, pa, s, sa, sw, rp, ?_, fun cx t z => ⟨jup mf 0 0, mg, mn, mb, ml, ?_, hr⟩⟩
    · simp only [E_c_costs, hsc, if_neg hno, jbO_some, jbO_none, jbO_ite, jk_some, jk_none, E_c_costs_4, h10', h0, h9, hw0, hw1, if_true, if_false]
    · simp only [E_m_costs, hms, if_neg hno, jbO_some, jbO_none, jbO_ite, jk_some, jk_none, E_m_costs_6, E_m_isDays, h10', h0, h9, hw0, hw1, if_true, if_false, E_m_costs_9]
  obtain ⟨n, hn1, hn, rfl⟩ : ∃ n, 1 ≤ n ∧ n ≤ 9 ∧ x = Int32.ofNat n := by
    rcases jcases x with hneg | ⟨k, hk, rfl⟩
    · exact absurd (Int32.lt_trans hneg (by decide)) h0
    · refine ⟨k, ?_, ?_, rfl⟩
      · rw [show (1 : Int32) = Int32.ofNat 1 from rfl, jltn (by omega) (by omega)] at h0; omega
      · rw [show (9 : Int32) = Int32.ofNat 9 from rfl, jltn (by omega) hk] at h9; omega
  have hold := rSt_bits hfr.1 (by decide) hS6
  dsimp only at hold
  -- the class: struck, then not
  generalize hTS : jtry (s 2, sa 2) (s 0, sa 0) = TS
  have ht2 : TS.1 2 = s 0 2 := by
    rw [← hTS]; unfold jtry; dsimp only; simp (disch := omega) only [jup_ne]
    exact (jcpS_eq (A := (s 2, sa 2)) (B := (s 0, sa 0))).1 2 (by omega)
  have hT1 : jtm (jup TS.1 2 (TS.1 2 ||| (1 <<< (Int32.ofNat i &&& 31))), TS.2) T := by rw [← hTS]; exact jtm_2 (jtry_tm hT)
  obtain ⟨n2a, hcl1⟩ := S_h_passDays (D := D) (j := 2) (T := T) (nd := n) (f := f) (g := g) (n2 := n2) (p := p) (pa := pa) (s := jup s 2 (jup TS.1 2 (TS.1 2 ||| (1 <<< (Int32.ofNat i &&& 31))))) (sa := jup sa 2 TS.2) (sw := sw) (rp := rp) (t := t) (z := z) (by omega) (by rw [jup_same, jup_same]; exact hT1) hP.1 hm15 (by omega) hn1
  rw [jup_same, jup_same, jup_jup, jup_jup] at hcl1
  generalize hr1 : cN f (g 2) (p (jq sw)) (pa (jq sw)) C Sc (jup TS.1 2 (TS.1 2 ||| (1 <<< (Int32.ofNat i &&& 31))), TS.2) (n * 12 - T % 12) = r1 at hcl1
  generalize hTS2 : jtry r1 (s 0, sa 0) = TS2
  have ht22 : TS2.1 2 = s 0 2 := by
    rw [← hTS2]; unfold jtry; dsimp only; simp (disch := omega) only [jup_ne]
    exact (jcpS_eq (A := r1) (B := (s 0, sa 0))).1 2 (by omega)
  have hT2' : jtm (jup TS2.1 2 (TS2.1 2 &&& ((1 <<< (Int32.ofNat i &&& 31)) ^^^ (-1))), TS2.2) T := by rw [← hTS2]; exact jtm_2 (jtry_tm hT)
  obtain ⟨n2b, hcl2⟩ := S_h_passDays (D := D) (j := 2) (T := T) (nd := n) (f := f) (g := g) (n2 := n2a) (p := p) (pa := pa) (s := jup s 2 (jup TS2.1 2 (TS2.1 2 &&& ((1 <<< (Int32.ofNat i &&& 31)) ^^^ (-1))))) (sa := jup sa 2 TS2.2) (sw := sw) (rp := rp) (t := t) (z := z) (by omega) (by rw [jup_same, jup_same]; exact hT2') hP.1 hm15 (by omega) hn1
  rw [jup_same, jup_same, jup_jup, jup_jup] at hcl2
  generalize hr2 : cN f (g 2) (p (jq sw)) (pa (jq sw)) C Sc (jup TS2.1 2 (TS2.1 2 &&& ((1 <<< (Int32.ofNat i &&& 31)) ^^^ (-1))), TS2.2) (n * 12 - T % 12) = r2 at hcl2
  have hf1 : K_s_follow20 D f g n2 p pa s sa sw rp t z = some (.inl none, (jX f g n2 p pa (jup s 2 TS.1) (jup sa 2 TS.2) sw rp t, z)) := by rw [S_s_follow20, hTS]
  have hf2 : K_s_follow20 D f g n2a p pa (jup s 2 r1.1) (jup sa 2 r1.2) sw rp t z = some (.inl none, (jX f g n2a p pa (jup s 2 TS2.1) (jup sa 2 TS2.2) sw rp t, z)) := by
    rw [S_s_follow20]
    simp (disch := omega) only [jup_same, jup_jup, jup_ne]
    rw [show ((r1.1, r1.2) : jS) = r1 from rfl, hTS2]
  refine ⟨if 0 < (if w = 0 then r1.1 3 - r2.1 3 else r2.1 4 - r1.1 4) then (if w = 0 then r1.1 3 - r2.1 3 else r2.1 4 - r1.1 4) else 0, f, g, n2b, p, pa, jup s 2 r2.1, jup sa 2 r2.2, sw, rp, ?_, fun cx t1 z1 => ?_⟩
  · simp only [E_c_costs, hsc, if_neg hno, jbO_some, jbO_none, jbO_ite, jk_some, jk_none, E_c_costs_4, h10', h0, h9, hw0, hw1, if_false, hf1, E_c_costs_23, jup_same, jup_jup, hcl1, E_c_costs_38, hf2, E_c_costs_51, hcl2, E_c_costs_68]
    split <;> rw [E_c_costs_82]
  · obtain ⟨g1, hcp, hfo1, hc10⟩ := M_copies (D := D) (A := 1) (B := 0) (cx := cx) (f := jup mf 0 0) (g := mg) (n := mn) (b := mb) (l := ml) (t := t1) (z := z1) (by omega) (by omega) (by omega)
    have hcp1 : K_m_copies D 1 0 cx (jup mf 0 0) mg mn mb ml t1 z1 = _ := hcp
    have h19 : ¬ (jup mf 0 0) 19 = 1 := by rw [jup_ne (by omega), hmn.2.1]; decide
    have hg19 : g1 19 1 = mg 19 0 := hc10.1 19 (by omega) (by omega)
    have hWm : ∀ d, d < 2147483648 → mwnd (jup mf 0 0) mg (Int32.ofNat d) = cwnd f (g 2) (p (jq sw)) (pa (jq sw)) (Int32.ofNat d) := fun d hd => by have := hW (g 2) 0 d hd; rw [mwnd_f] at this; exact this
    obtain ⟨y1, n1, g2, hru1, hfo2, hst1⟩ := M_runs_set (D := D) (T := T) (nd := n) (tf := f) (w9 := g 2) (A := r1) (x := TS2.1 2 &&& ((1 <<< (Int32.ofNat i &&& 31)) ^^^ (-1))) (y := g1 19 1 &&& ((1 <<< (Int32.ofNat i &&& 31)) ^^^ (-1))) (cx := cx) (f := jup mf 0 0) (g := g1) (n := mn) (b := mb) (l := ml) (t := t1) (z := z1) hP hAt.2.2.1 h19 hAt.2.2.2.2.2 hTw hT (by omega) (by omega) hn1 hfo1 hc10 (fun j hj => by rw [b_and, b_and, ht22, hg19, hold j hj]) hWm
    rw [hTS2, hr2] at hst1
    obtain ⟨g3, hcq, hfo3, hc103⟩ := M_copies (D := D) (A := 1) (B := 0) (cx := cx) (f := jup (jup mf 0 0) 15 y1) (g := g2) (n := n1) (b := mb) (l := ml) (t := t1) (z := z1) (by omega) (by omega) (by omega)
    have hcq1 : K_m_copies D 1 0 cx (jup (jup mf 0 0) 15 y1) g2 n1 mb ml t1 z1 = _ := hcq
    have hc3 : jcop 1 0 mg g3 := (hfo2.cop (show 0 ≠ 1 by omega)).tr hc103
    have hg193 : g3 19 1 = mg 19 0 := hc3.1 19 (by omega) (by omega)
    obtain ⟨y2, n2', g4, hru2, hfo4, hst2⟩ := M_runs_set (D := D) (T := T) (nd := n) (tf := f) (w9 := g 2) (A := (s 2, sa 2)) (x := TS.1 2 ||| (1 <<< (Int32.ofNat i &&& 31))) (y := g3 19 1 ||| (1 <<< (Int32.ofNat i &&& 31))) (cx := cx) (f := jup (jup mf 0 0) 15 y1) (g := g3) (n := n1) (b := mb) (l := ml) (t := t1) (z := z1) hP (by rw [jup_ne (by omega)]; exact hAt.2.2.1) (by rw [jup_ne (by omega)]; exact h19) (by rw [jup_ne (by omega)]; exact hAt.2.2.2.2.2) (rTw_f hTw) hT (by omega) (by omega) hn1 (hfo2.tr hfo3) hc3 (fun j hj => by rw [b_or, b_or, ht2, hg193, hold j hj]) (fun d hd => by rw [mwnd_f]; exact hWm d hd)
    rw [hTS, hr1] at hst2
    rw [jup_jup] at hru2
    have e16 : g4 16 1 - g2 16 1 = r1.1 3 - r2.1 3 := by
      rw [hst2.2.2.1, hst1.2.2.1]; exact jsub_cancel
    have e17 : g2 17 1 - g4 17 1 = r2.1 4 - r1.1 4 := by
      rw [hst2.2.2.2.1, hst1.2.2.2.1]; exact jsub_cancel
    refine ⟨jup (jup mf 0 0) 15 y2, g4, n2', mb, ml, ?_, ?_⟩
    · simp only [E_m_costs, hms, if_neg hno, jbO_some, jbO_none, jbO_ite, jk_some, jk_none, E_m_costs_6, E_m_isDays, h10', h0, h9, hw0, hw1, if_false, E_m_costs_9, hcp1, E_m_costs_21, hru1, E_m_costs_36, hcq1, E_m_costs_50, hru2, E_m_costs_63, e16, e17]
      split <;> rw [E_m_costs_79]
    · exact RR_congr h (by intro k hk; simp (disch := omega) only [jup_ne]) (by intro k hk; simp (disch := omega) only [jup_ne]) rfl rfl (by constructor <;> simp (disch := omega) only [jup_ne]) (by constructor <;> simp (disch := omega) only [jup_ne]) (by intro k hk; simp (disch := omega) only [jup_ne]) (jq1.of hfo4) rfl (f' := f) (g' := g) (s' := jup s 2 r2.1) (sa' := jup sa 2 r2.2) (p' := p) (pa' := pa) (sw' := sw) (mf' := jup (jup mf 0 0) 15 y2) (mg' := g4) (mb' := mb)
