-- CALL BY CALL: law, the call
theorem M_law_82 {D r n0 : Nat} {kd vl : Nat → Int32} {nm : Nat → Int64} {d2 d3 : Option Value} {cx : jCX} {f : Nat → Int32} {g : Nat → Nat → Int32} {n : Nat → Nat → Int64} {b : Nat → Nat → Int32} {l : Nat → Int64} {t : List jE} {z : Nat × Nat × Nat × (Nat → Int32)} (hr : r < 3) (hL : rLaw n0 kd vl g r) (hwf : jwf n0 kd vl) (h0 : ¬ n0 = 0) (hnm : ∀ i, i < 7 → n 0 i = nm i) :
    ∃ y n', K_m_law_82 D (Int32.ofNat r) d2 d3 cx f g n b l t z = some (.inl (some (.long ((jlaw n0 kd vl nm).getD jerr))), (jXt cx (jY (jup f 15 y) g n' b l t), z)) := by
  obtain ⟨y, n1, hg, hv⟩ := M_lawr (D := D) (cx := cx) (f := f) (g := g) (n := n) (b := b) (l := l) (t := t) (z := z) hr hL hwf h0
  rw [jlaw_congr hwf hnm] at hg hv
  refine ⟨y, jup n 1 n1, ?_⟩
  rw [E_m_law_82, hg]
  simp only [jbO_some, jbO_none, jbO_ite, jk_some, jk_none, E_m_law_85, jb10]
  cases hj : jlaw n0 kd vl nm with
  | none => simp [jerr]
  | some v => simp [hv v hj, jup]
theorem A_law {D : Nat} {a x y : Int32} {f : Nat → Int32} {g : Nat → Nat → Int32} {n2 : Nat → Nat → Int64} {p : Nat → Nat → Int32} {pa : Nat → Nat → Nat → Int32} {s : Nat → Nat → Int32} {sa : Nat → Nat → Nat → Int32} {sw : Bool} {rp : Value} {mf : Nat → Int32} {mg : Nat → Nat → Int32} {mn : Nat → Nat → Int64} {mb : Nat → Nat → Int32} {ml : Nat → Int64} (h : RR f g p pa s sa sw mf mg mb) : ∀ (t : List jE) (z : Nat × Nat × Nat × (Nat → Int32)), ∃ r : Int64, ∃ f' g' n2' p' pa' s' sa' sw' rp', K_c_law D a x y f g n2 p pa s sa sw rp t z = some (.inl (some (.long r)), (jX f' g' n2' p' pa' s' sa' sw' rp' t, z)) ∧ ∀ (cx : jCX) (t1 : List jE) (z1 : Nat × Nat × Nat × (Nat → Int32)), ∃ mf' mg' mn' mb' ml', K_m_law D a x y cx mf mg mn mb ml t1 z1 = some (.inl (some (.long r)), (jXt cx (jY mf' mg' mn' mb' ml' t1), z1)) ∧ RR f' g' p' pa' s' sa' sw' mf' mg' mb' := by
  intro t z
  obtain ⟨C, Sc, T, hP, hC, hS6, hT, hT2, hjn, hmn, hfr, hTw, hAt, hW, hw2, hm15⟩ := RR_ex (n2 := n2) (rp := rp) (mn := mn) (ml := ml) h
  have hr := RR_congr h (by intro k hk; simp (disch := omega) only [jup_ne]) (by intro k hk; simp (disch := omega) only [jup_ne]) rfl rfl (by constructor <;> simp (disch := omega) only [jup_ne]) (by constructor <;> simp (disch := omega) only [jup_ne]) (by intro k hk; simp (disch := omega) only [jup_ne]) (jq1.rf) rfl (f' := f) (g' := g) (s' := s) (sa' := sa) (p' := p) (pa' := pa) (sw' := sw) (mf' := jup mf 0 0) (mg' := mg) (mb' := mb)
  have hS := hP.1.2.2.2.2.1
  have hCC := hP.1.1
  have h10' : ¬ (1 : Int32) = 0 := by decide
  have h01' : ¬ (0 : Int32) = 1 := by decide
  have hPl := hP.1
  have hf18 : f 18 = 0 := hjn.2.2.2.2.1
  obtain ⟨-, -, -, -, -, -, ⟨Wn, hWn1, hWn⟩, -, ⟨n0, hn0, hwf0⟩, ⟨n1, hn1, hwf1⟩, ⟨n2', hn2, hwf2⟩⟩ := hPl
  obtain ⟨hL0, hL1, hL2⟩ := hP.2.2.2.2.2
  rw [hn0, jclamp (by have := hwf0.1; omega)] at hL0
  rw [hn1, jclamp (by have := hwf1.1; omega)] at hL1
  rw [hn2, jclamp (by have := hwf2.1; omega)] at hL2
  obtain ⟨b14, b15, -, -, -, -, c20, -, c6⟩ := fr0 hfr
  dsimp only at b14 b15 c20 c6
  obtain ⟨dn, hdn, hdnb⟩ : ∃ dn, mg 14 0 = Int32.ofNat dn ∧ dn < 2147483648 := ⟨T / 12, b14.trans hT.1, by omega⟩
  have hsc := fun {x} => S_p_hasScare (D := D) (w := sw) (x := x) (f := f) (g := g) (n2 := n2) (p := p) (pa := pa) (s := s) (sa := sa) (sw := sw) (rp := rp) (t := t) (z := z) hS hS6
  have hce := fun {x} => S_p_hasCell (D := D) (w := sw) (x := x) (f := f) (g := g) (n2 := n2) (p := p) (pa := pa) (s := s) (sa := sa) (sw := sw) (rp := rp) (t := t) (z := z) hCC hC
  have hms := fun {x cx t z} => M_isScare (D := D) (x := x) (cx := cx) (f := jup mf 0 0) (g := mg) (n := mn) (b := mb) (l := ml) (t := t) (z := z) hP
  have hmc := fun {x cx t z} => M_isCell (D := D) (x := x) (cx := cx) (f := jup mf 0 0) (g := mg) (n := mn) (b := mb) (l := ml) (t := t) (z := z) hP
  have hh0 := fun {cx t z} => M_hasLaw (D := D) (r := 0) (cx := cx) (f := jup mf 0 0) (g := mg) (n := mn) (b := mb) (l := ml) (t := t) (z := z) (by omega) hL0
  have hh1 := fun {cx t z} => M_hasLaw (D := D) (r := 1) (cx := cx) (f := jup mf 0 0) (g := mg) (n := mn) (b := mb) (l := ml) (t := t) (z := z) (by omega) hL1
  have hh2 := fun {cx t z} => M_hasLaw (D := D) (r := 2) (cx := cx) (f := jup mf 0 0) (g := mg) (n := mn) (b := mb) (l := ml) (t := t) (z := z) (by omega) hL2
  have hh0' : ∀ {cx t z}, K_m_hasLaw D 0 cx (jup mf 0 0) mg mn mb ml t z = _ := hh0
  have hh1' : ∀ {cx t z}, K_m_hasLaw D 1 cx (jup mf 0 0) mg mn mb ml t z = _ := hh1
  have hh2' : ∀ {cx t z}, K_m_hasLaw D 2 cx (jup mf 0 0) mg mn mb ml t z = _ := hh2
  have ej : (-9223372036854775808 : Int64) = jerr := rfl
  have ex : (K_c_law D a x y f g n2 p pa s sa sw rp t z = some (.inl (some (.long jerr)), (jX f g n2 p pa s sa sw rp t, z))) → (∀ cx t z, K_m_law D a x y cx mf mg mn mb ml t z = some (.inl (some (.long jerr)), (jXt cx (jY (jup mf 0 0) mg mn mb ml t), z))) → ∃ r f' g' n2' p' pa' s' sa' sw' rp', K_c_law D a x y f g n2 p pa s sa sw rp t z = some (.inl (some (.long r)), (jX f' g' n2' p' pa' s' sa' sw' rp' t, z)) ∧ ∀ cx t1 z1, ∃ mf' mg' mn' mb' ml', K_m_law D a x y cx mf mg mn mb ml t1 z1 = some (.inl (some (.long r)), (jXt cx (jY mf' mg' mn' mb' ml' t1), z1)) ∧ RR f' g' p' pa' s' sa' sw' mf' mg' mb' := fun h1 h2 => ⟨jerr, f, g, n2, p, pa, s, sa, sw, rp, h1, fun cx t z => ⟨jup mf 0 0, mg, mn, mb, ml, h2 cx t z, hr⟩⟩
  by_cases a0 : a = 0
  · subst a0
    rcases jout_dec x Sc (by omega) with ho | ⟨i, hi, rfl⟩
    · refine ex ?_ (fun cx t z => ?_)
      · simp +decide only [E_c_law, hsc, if_pos ho, jbO_some, jbO_none, jbO_ite, jk_some, jk_none, E_c_law_6, E_c_law_20, E_c_law_35, if_true, if_false, ej]
      · simp +decide only [E_m_law, hh0', jbO_some, jbO_none, jbO_ite, jk_some, jk_none, E_m_law_11, hms, if_pos ho, E_m_law_20, if_true, if_false, ej]
        split <;> rfl
    have hno : ¬ jout (Int32.ofNat i) Sc := jout_n hi (by omega)
    rcases jout_dec y C (by omega) with ho | ⟨c, hc, rfl⟩
    · refine ex ?_ (fun cx t z => ?_)
      · simp +decide only [E_c_law, hsc, hce, if_neg hno, if_pos ho, jbO_some, jbO_none, jbO_ite, jk_some, jk_none, E_c_law_6, E_c_law_11, E_c_law_20, E_c_law_35, if_true, if_false, ej]
      · simp +decide only [E_m_law, hh0', jbO_some, jbO_none, jbO_ite, jk_some, jk_none, E_m_law_11, hms, hmc, if_neg hno, if_pos ho, E_m_law_20, E_m_law_21, E_m_law_27, if_true, if_false, ej]
        split <;> rfl
    have hnc : ¬ jout (Int32.ofNat c) C := jout_n hc (by omega)
    obtain ⟨nm', st', hsw⟩ := S_h_seeWorth (D := D) (j := 0) (i := i) (c := c) (f := f) (g := g) (n2 := n2) (p := p) (pa := pa) (s := s) (sa := sa) (sw := sw) (rp := rp) (t := t) (z := z) (by omega) hi (by omega) hP.1
    have hcl : cseel f (p (jq sw)) (pa (jq sw)) (s 0) (sa 0) (cwnd f (g 2) (p (jq sw)) (pa (jq sw)) (s 0 0)) i c = jlaw n0 (pa (jq sw) 8) (pa (jq sw) 9) (jnm (pa (jq sw) 3 i) (jdist (p (jq sw) 1) (pa (jq sw) 2 i) (Int32.ofNat c)) (cwnd f (g 2) (p (jq sw)) (pa (jq sw)) (s 0 0)) (s 0 1) (sa 0 3 i) (sa 0 0 c) (s 0 0)) := by
      unfold cseel; rw [hn0, jclamp (by have := hwf0.1; omega), hf18, Int32.add_zero]
    rw [hcl] at hsw
    obtain ⟨res, hres⟩ : ∃ res : Int64, res = (jlaw n0 (pa (jq sw) 8) (pa (jq sw) 9) (jnm (pa (jq sw) 3 i) (jdist (p (jq sw) 1) (pa (jq sw) 2 i) (Int32.ofNat c)) (cwnd f (g 2) (p (jq sw)) (pa (jq sw)) (s 0 0)) (s 0 1) (sa 0 3 i) (sa 0 0 c) (s 0 0))).getD jerr := ⟨_, rfl⟩
    rw [← hres] at hsw
    refine ⟨res, f, g, jup (jup n2 0 nm') 1 st', p, pa, s, sa, sw, rp, ?_, fun cx t z => ?_⟩
    · simp +decide only [E_c_law, hsc, hce, if_neg hno, if_neg hnc, jbO_some, jbO_none, jbO_ite, jk_some, jk_none, E_c_law_6, E_c_law_11, E_c_law_19, if_true, if_false, hsw]
    · by_cases hz : n0 = 0
      · subst hz
        refine ⟨jup mf 0 0, mg, mn, mb, ml, ?_, hr⟩
        simp +decide only [E_m_law, hh0', jbO_some, jbO_none, jbO_ite, jk_some, jk_none, E_m_law_11, if_true, if_false]
        rw [hres]; rfl
      · obtain ⟨-, e4, e5, -⟩ := hP.2.2.2.1 i hi
        obtain ⟨nm1, hca, hnm⟩ := M_calls (D := D) (F := 0) (a1 := mg 5 i) (a2 := jdist (mg 1 0) (mg 4 i) (Int32.ofNat c)) (a3 := mg 24 i) (a4 := mg 20 c) (cx := cx) (f := jup mf 0 0) (g := mg) (n := mn) (b := mb) (l := ml) (t := t) (z := z) (by omega) (hP.2.1.2.2.2.2.2.2.1.trans hWn1) hWn hdn hdnb hAt.2.2.2.2.2
        have hca1 : K_m_calls D 0 _ _ _ _ _ _ _ _ _ _ _ _ = _ := hca
        have hnz : ¬ mg 1 0 = 0 := by rw [hP.2.1.1]; exact hP.1.nz
        obtain ⟨yy, nn, hlw⟩ := M_law_82 (D := D) (r := 0) (nm := jnm (pa (jq sw) 3 i) (jdist (p (jq sw) 1) (pa (jq sw) 2 i) (Int32.ofNat c)) (cwnd f (g 2) (p (jq sw)) (pa (jq sw)) (s 0 0)) (s 0 1) (sa 0 3 i) (sa 0 0 c) (s 0 0)) (d2 := some (.int (Int32.ofNat i))) (d3 := some (.int (Int32.ofNat c))) (cx := cx) (f := jup mf 0 0) (g := mg) (n := jup mn 0 nm1) (b := mb) (l := ml) (t := t) (z := z) (by omega) hL0 hwf0 hz (by
          intro k hk; rw [jup_same, hnm k hk, b14, b15, hw2, e4, e5, (c6 i hi).2.1, c20 c hc, hP.2.1.1])
        have hlw1 : K_m_law_82 D 0 _ _ _ _ _ _ _ _ _ _ = _ := hlw
        rw [← hres] at hlw1
        refine ⟨jup (jup mf 0 0) 15 yy, mg, nn, mb, ml, ?_, RR_congr h (by intro k hk; simp (disch := omega) only [jup_ne]) (by intro k hk; simp (disch := omega) only [jup_ne]) rfl rfl (by constructor <;> simp (disch := omega) only [jup_ne]) (by constructor <;> simp (disch := omega) only [jup_ne]) (by intro k hk; simp (disch := omega) only [jup_ne]) (jq1.rf) rfl (f' := f) (g' := g) (s' := s) (sa' := sa) (p' := p) (pa' := pa) (sw' := sw) (mf' := jup (jup mf 0 0) 15 yy) (mg' := mg) (mb' := mb)⟩
        simp +decide (disch := omega) only [E_m_law, hh0', jbO_some, jbO_none, jbO_ite, jk_some, jk_none, E_m_law_11, hms, hmc, if_neg hno, if_neg hnc, if_neg hz, E_m_law_20, E_m_law_21, E_m_law_27, E_m_law_30, if_true, if_false, jout_f, jclamp, M_farOf hnz, E_m_law_45, hca1, E_m_law_54, hlw1]
  by_cases a1 : a = 1
  · subst a1
    rcases jout_dec y C (by omega) with ho | ⟨c, hc, rfl⟩
    · refine ex ?_ (fun cx t z => ?_)
      · simp +decide only [E_c_law, hce, if_pos ho, jbO_some, jbO_none, jbO_ite, jk_some, jk_none, E_c_law_27, E_c_law_20, E_c_law_35, if_true, if_false, ej]
      · simp +decide only [E_m_law, hh1', jbO_some, jbO_none, jbO_ite, jk_some, jk_none, E_m_law_11, hmc, if_pos ho, E_m_law_20, E_m_law_21, E_m_law_27, if_true, if_false, ej]
        split <;> rfl
    have hnc : ¬ jout (Int32.ofNat c) C := jout_n hc (by omega)
    obtain ⟨nm', st', hsw⟩ := S_h_eatWorth (D := D) (j := 0) (c := c) (f := f) (g := g) (n2 := n2) (p := p) (pa := pa) (s := s) (sa := sa) (sw := sw) (rp := rp) (t := t) (z := z) (by omega) (by omega) hP.1
    have hcl : ceatl (p (jq sw)) (pa (jq sw)) (s 0) (sa 0) (cwnd f (g 2) (p (jq sw)) (pa (jq sw)) (s 0 0)) c = jlaw n1 (pa (jq sw) 10) (pa (jq sw) 11) (jnm 0 0 (cwnd f (g 2) (p (jq sw)) (pa (jq sw)) (s 0 0)) (s 0 1) 0 (sa 0 0 c) (s 0 0)) := by
      unfold ceatl; rw [hn1, jclamp (by have := hwf1.1; omega)]
    rw [hcl] at hsw
    obtain ⟨res, hres⟩ : ∃ res : Int64, res = (jlaw n1 (pa (jq sw) 10) (pa (jq sw) 11) (jnm 0 0 (cwnd f (g 2) (p (jq sw)) (pa (jq sw)) (s 0 0)) (s 0 1) 0 (sa 0 0 c) (s 0 0))).getD jerr := ⟨_, rfl⟩
    rw [← hres] at hsw
    refine ⟨res, f, g, jup (jup n2 0 nm') 1 st', p, pa, s, sa, sw, rp, ?_, fun cx t z => ?_⟩
    · simp +decide only [E_c_law, hce, if_neg hnc, jbO_some, jbO_none, jbO_ite, jk_some, jk_none, E_c_law_20, E_c_law_27, E_c_law_34, if_true, if_false, hsw]
    · by_cases hz : n1 = 0
      · subst hz
        refine ⟨jup mf 0 0, mg, mn, mb, ml, ?_, hr⟩
        simp +decide only [E_m_law, hh1', jbO_some, jbO_none, jbO_ite, jk_some, jk_none, E_m_law_11, if_true, if_false]
        rw [hres]; rfl
      · obtain ⟨nm1, hca, hnm⟩ := M_calls (D := D) (F := 0) (a1 := 0) (a2 := 0) (a3 := 0) (a4 := mg 20 c) (cx := cx) (f := jup mf 0 0) (g := mg) (n := mn) (b := mb) (l := ml) (t := t) (z := z) (by omega) (hP.2.1.2.2.2.2.2.2.1.trans hWn1) hWn hdn hdnb hAt.2.2.2.2.2
        have hca1 : K_m_calls D 0 _ _ _ _ _ _ _ _ _ _ _ _ = _ := hca
        obtain ⟨yy, nn, hlw⟩ := M_law_82 (D := D) (r := 1) (nm := jnm 0 0 (cwnd f (g 2) (p (jq sw)) (pa (jq sw)) (s 0 0)) (s 0 1) 0 (sa 0 0 c) (s 0 0)) (d2 := some (.int x)) (d3 := some (.int (Int32.ofNat c))) (cx := cx) (f := jup mf 0 0) (g := mg) (n := jup mn 0 nm1) (b := mb) (l := ml) (t := t) (z := z) (by omega) hL1 hwf1 hz (by
          intro k hk; rw [jup_same, hnm k hk, b14, b15, hw2, c20 c hc])
        have hlw1 : K_m_law_82 D 1 _ _ _ _ _ _ _ _ _ _ = _ := hlw
        rw [← hres] at hlw1
        refine ⟨jup (jup mf 0 0) 15 yy, mg, nn, mb, ml, ?_, RR_congr h (by intro k hk; simp (disch := omega) only [jup_ne]) (by intro k hk; simp (disch := omega) only [jup_ne]) rfl rfl (by constructor <;> simp (disch := omega) only [jup_ne]) (by constructor <;> simp (disch := omega) only [jup_ne]) (by intro k hk; simp (disch := omega) only [jup_ne]) (jq1.rf) rfl (f' := f) (g' := g) (s' := s) (sa' := sa) (p' := p) (pa' := pa) (sw' := sw) (mf' := jup (jup mf 0 0) 15 yy) (mg' := mg) (mb' := mb)⟩
        simp +decide (disch := omega) only [E_m_law, hh1', jbO_some, jbO_none, jbO_ite, jk_some, jk_none, E_m_law_11, hmc, if_neg hnc, if_neg hz, E_m_law_20, E_m_law_21, E_m_law_27, E_m_law_30, if_true, if_false, jout_f, jclamp, E_m_law_68, hca1, hlw1]
  by_cases a2 : a = 2
  · subst a2
    rcases jout_dec x Sc (by omega) with ho | ⟨i, hi, rfl⟩
    · refine ex ?_ (fun cx t z => ?_)
      · simp +decide only [E_c_law, hsc, if_pos ho, jbO_some, jbO_none, jbO_ite, jk_some, jk_none, E_c_law_20, E_c_law_35, E_c_law_42, if_true, if_false, ej]
      · simp +decide only [E_m_law, hh2', jbO_some, jbO_none, jbO_ite, jk_some, jk_none, E_m_law_11, hms, if_pos ho, E_m_law_20, if_true, if_false, ej]
        split <;> rfl
    have hno : ¬ jout (Int32.ofNat i) Sc := jout_n hi (by omega)
    obtain ⟨nm', st', hsw⟩ := S_h_payWorth (D := D) (j := 0) (i := i) (f := f) (g := g) (n2 := n2) (p := p) (pa := pa) (s := s) (sa := sa) (sw := sw) (rp := rp) (t := t) (z := z) (by omega) hi hP.1
    have hcl : cpayl f (p (jq sw)) (pa (jq sw)) (s 0) (sa 0) (cwnd f (g 2) (p (jq sw)) (pa (jq sw)) (s 0 0)) i = jlaw n2' (pa (jq sw) 12) (pa (jq sw) 13) (jnm (pa (jq sw) 3 i) 0 (cwnd f (g 2) (p (jq sw)) (pa (jq sw)) (s 0 0)) (s 0 1) (sa 0 3 i) 0 (s 0 0)) := by
      unfold cpayl; rw [hn2, jclamp (by have := hwf2.1; omega), hf18, Int32.add_zero]
    rw [hcl] at hsw
    obtain ⟨res, hres⟩ : ∃ res : Int64, res = (jlaw n2' (pa (jq sw) 12) (pa (jq sw) 13) (jnm (pa (jq sw) 3 i) 0 (cwnd f (g 2) (p (jq sw)) (pa (jq sw)) (s 0 0)) (s 0 1) (sa 0 3 i) 0 (s 0 0))).getD jerr := ⟨_, rfl⟩
    rw [← hres] at hsw
    refine ⟨res, f, g, jup (jup n2 0 nm') 1 st', p, pa, s, sa, sw, rp, ?_, fun cx t z => ?_⟩
    · simp +decide only [E_c_law, hsc, if_neg hno, jbO_some, jbO_none, jbO_ite, jk_some, jk_none, E_c_law_20, E_c_law_35, E_c_law_42, E_c_law_49, if_true, if_false, hsw]
    · by_cases hz : n2' = 0
      · subst hz
        refine ⟨jup mf 0 0, mg, mn, mb, ml, ?_, hr⟩
        simp +decide only [E_m_law, hh2', jbO_some, jbO_none, jbO_ite, jk_some, jk_none, E_m_law_11, if_true, if_false]
        rw [hres]; rfl
      · obtain ⟨-, e4, e5, -⟩ := hP.2.2.2.1 i hi
        obtain ⟨nm1, hca, hnm⟩ := M_calls (D := D) (F := 0) (a1 := mg 5 i) (a2 := 0) (a3 := mg 24 i) (a4 := 0) (cx := cx) (f := jup mf 0 0) (g := mg) (n := mn) (b := mb) (l := ml) (t := t) (z := z) (by omega) (hP.2.1.2.2.2.2.2.2.1.trans hWn1) hWn hdn hdnb hAt.2.2.2.2.2
        have hca1 : K_m_calls D 0 _ _ _ _ _ _ _ _ _ _ _ _ = _ := hca
        obtain ⟨yy, nn, hlw⟩ := M_law_82 (D := D) (r := 2) (nm := jnm (pa (jq sw) 3 i) 0 (cwnd f (g 2) (p (jq sw)) (pa (jq sw)) (s 0 0)) (s 0 1) (sa 0 3 i) 0 (s 0 0)) (d2 := some (.int (Int32.ofNat i))) (d3 := some (.int y)) (cx := cx) (f := jup mf 0 0) (g := mg) (n := jup mn 0 nm1) (b := mb) (l := ml) (t := t) (z := z) (by omega) hL2 hwf2 hz (by
          intro k hk; rw [jup_same, hnm k hk, b14, b15, hw2, e5, (c6 i hi).2.1])
        have hlw1 : K_m_law_82 D 2 _ _ _ _ _ _ _ _ _ _ = _ := hlw
        rw [← hres] at hlw1
        refine ⟨jup (jup mf 0 0) 15 yy, mg, nn, mb, ml, ?_, RR_congr h (by intro k hk; simp (disch := omega) only [jup_ne]) (by intro k hk; simp (disch := omega) only [jup_ne]) rfl rfl (by constructor <;> simp (disch := omega) only [jup_ne]) (by constructor <;> simp (disch := omega) only [jup_ne]) (by intro k hk; simp (disch := omega) only [jup_ne]) (jq1.rf) rfl (f' := f) (g' := g) (s' := s) (sa' := sa) (p' := p) (pa' := pa) (sw' := sw) (mf' := jup (jup mf 0 0) 15 yy) (mg' := mg) (mb' := mb)⟩
        simp +decide (disch := omega) only [E_m_law, hh2', jbO_some, jbO_none, jbO_ite, jk_some, jk_none, E_m_law_11, hms, if_neg hno, if_neg hz, E_m_law_20, E_m_law_21, E_m_law_27, E_m_law_30, if_true, if_false, jout_f, jclamp, hca1, F_m_law_82, hlw1]
  · have hwr : a < 0 ∨ 2 < a := by
      rcases jcases a with hneg | ⟨k, hk, rfl⟩
      · exact Or.inl hneg
      · refine Or.inr ?_
        rw [show (2 : Int32) = Int32.ofNat 2 from rfl, jltn (by omega) hk]
        rw [show (0 : Int32) = Int32.ofNat 0 from rfl, jeqn hk (by omega)] at a0
        rw [show (1 : Int32) = Int32.ofNat 1 from rfl, jeqn hk (by omega)] at a1
        rw [show (2 : Int32) = Int32.ofNat 2 from rfl, jeqn hk (by omega)] at a2
        omega
    refine ex ?_ (fun cx t z => ?_)
    · simp only [E_c_law, a0, a1, a2, if_false, E_c_law_20, E_c_law_35, ej]
    · simp only [E_m_law]
      rcases hwr with hwr | hwr
      · rw [if_pos hwr]; rfl
      · rw [if_pos hwr]; split <;> rfl
