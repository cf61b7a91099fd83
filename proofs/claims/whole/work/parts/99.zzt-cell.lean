-- CALL BY CALL: cell
set_option maxHeartbeats 4000000 in
theorem S_c_seenNow {D : Nat} {C Sc : Nat} {f : Nat → Int32} {g : Nat → Nat → Int32} {n2 : Nat → Nat → Int64} {p : Nat → Nat → Int32} {pa : Nat → Nat → Nat → Int32} {s : Nat → Nat → Int32} {sa : Nat → Nat → Nat → Int32} {sw : Bool} {rp : Value} {t : List jE} {z : Nat × Nat × Nat × (Nat → Int32)} (hPl : jPl (p (jq sw)) (pa (jq sw)) C Sc) (hm : f 15 < 0) :
    ∃ n2', K_c_seenNow D f g n2 p pa s sa sw rp t z = some (.inl (some (.int (cse f (p (jq sw)) (pa (jq sw)) (cwnd f (g 2) (p (jq sw)) (pa (jq sw)) (s 0 0)) C (s 0, sa 0) Sc))), (jX f g n2' p pa s sa sw rp t, z)) := by
  have hS := hPl.2.2.2.2.1
  have hS6 : Sc ≤ 6 := hPl.2.2.2.2.2.1
  generalize hwv : cwnd f (g 2) (p (jq sw)) (pa (jq sw)) (s 0 0) = wv
  have key : ∀ k, k ≤ Sc → ∃ n2', K_c_seenNow_4 D 0 0 f g n2 p pa s sa sw rp t z = K_c_seenNow_4 D (cse f (p (jq sw)) (pa (jq sw)) wv C (s 0, sa 0) k) (Int32.ofNat k) f g n2' p pa s sa sw rp t z := by
    intro k
    induction k with
    | zero => intro _; exact ⟨n2, rfl⟩
    | succ k ih =>
      intro hk
      obtain ⟨n2', he⟩ := ih (by omega)
      have hlt : Int32.ofNat k < Int32.ofNat Sc := jlt_t (by omega) (by omega)
      have hfl := S_h_flapping (D := D) (j := 0) (i := k) (f := f) (g := g) (n2 := n2') (p := p) (pa := pa) (s := s) (sa := sa) (sw := sw) (rp := rp) (t := t) (z := z) (by omega) (by omega) hPl
      obtain ⟨nm, st, hs⟩ := S_h_seenBy0 (D := D) (j := 0) (i := k) (f := f) (g := g) (n2 := n2') (p := p) (pa := pa) (s := s) (sa := sa) (sw := sw) (rp := rp) (t := t) (z := z) (by omega) (by omega) hPl hm
      rw [hwv] at hs hfl
      have hsek : cse f (p (jq sw)) (pa (jq sw)) wv C (s 0, sa 0) (k + 1) = if cflap f (p (jq sw)) (s 0) (sa 0) wv k = 0 then cse f (p (jq sw)) (pa (jq sw)) wv C (s 0, sa 0) k else cse f (p (jq sw)) (pa (jq sw)) wv C (s 0, sa 0) k ||| jset (csees f (p (jq sw)) (pa (jq sw)) (s 0) (sa 0) wv k) C := rfl
      rw [he, L_c_seenNow_4, hS, if_pos hlt, hfl]
      simp only [jbO_some, jbO_none, jbO_ite, jk_some, jk_none, E_c_seenNow_15]
      by_cases h0 : cflap f (p (jq sw)) (s 0) (sa 0) wv k = 0
      · rw [if_pos h0] at hsek
        rw [if_pos h0, E_c_seenNow_25, jsucc, hsek]
        exact ⟨n2', rfl⟩
      · rw [if_neg h0] at hsek
        rw [if_neg h0, hs]
        simp only [jbO_some, jbO_none, jbO_ite, jk_some, jk_none, E_c_seenNow_23, E_c_seenNow_25, jsucc, hsek]
        exact ⟨_, rfl⟩
  obtain ⟨n2', he⟩ := key Sc (Nat.le_refl Sc)
  refine ⟨n2', ?_⟩
  have hlt : ¬ Int32.ofNat Sc < Int32.ofNat Sc := jlt_n (by omega) (by omega)
  rw [E_c_seenNow, he, L_c_seenNow_4, hS, if_neg hlt]
set_option maxHeartbeats 4000000 in
theorem M_flaps0 {D F : Nat} {C Sc : Nat} {tf q : Nat → Int32} {qa : Nat → Nat → Int32} {S : jS} {e0 p0 c0 : Int32} {cx : jCX} {f : Nat → Int32} {g : Nat → Nat → Int32} {n : Nat → Nat → Int64} {b : Nat → Nat → Int32} {l : Nat → Int64} {t : List jE} {z : Nat × Nat × Nat × (Nat → Int32)} (hA : rAt q qa C Sc S e0 p0 c0 F f g) (hT : rTw tf f Sc) :
    ∃ y n', K_m_flaps D (Int32.ofNat F) 0 cx f g n b l t z = some (.inl (some (.int (cse tf q qa (mwnd f g (S.1 0)) C S Sc))), (jXt cx (jY (jup f 15 y) g n' b l t), z)) := by
  have hA2 := hA
  obtain ⟨hF, hP, hS, hday, hhour, hfr⟩ := hA
  have hS6 : Sc ≤ 6 := hP.1.2.2.2.2.2.1
  generalize hwv : mwnd f g (S.1 0) = wv
  rw [E_m_flaps]
  have key : ∀ k, k ≤ Sc → ∃ y n' d5 d6, K_m_flaps_4 D (Int32.ofNat F) 0 0 0 none none cx f g n b l t z = K_m_flaps_4 D (Int32.ofNat F) 0 (cse tf q qa wv C S k) (Int32.ofNat k) d5 d6 cx (jup f 15 y) g n' b l t z := by
    intro k
    induction k with
    | zero =>
      intro _
      refine ⟨f 15, n, none, none, ?_⟩
      rw [jup_self]; rfl
    | succ k ih =>
      intro hk
      obtain ⟨y, n', d5, d6, he⟩ := ih (by omega)
      have hsek : cse tf q qa wv C S (k + 1) = if cflap tf q S.1 S.2 wv k = 0 then cse tf q qa wv C S k else cse tf q qa wv C S k ||| jset (csees tf q qa S.1 S.2 wv k) C := rfl
      have hfl := M_flapsOf (D := D) (i := k) (tf := tf) (cx := cx) (f := jup f 15 y) (g := g) (n := n') (b := b) (l := l) (t := t) (z := z) (rAt_f hA2) (rTw_f hT) (by omega)
      rw [mwnd_f, hwv] at hfl
      have hlt : Int32.ofNat k < g 1 2 := by
        rw [hP.2.1.2.2.1, hP.1.2.2.2.2.1]; exact jlt_t (by omega) (by omega)
      rw [he, L_m_flaps_4, if_pos hlt, hfl]
      simp only [jbO_some, jbO_none, jbO_ite, jk_some, jk_none, E_m_flaps_14]
      by_cases hf0 : cflap tf q S.1 S.2 wv k = 0
      · rw [if_pos hf0] at hsek
        simp only [hf0, if_true, E_m_flaps_68, jsucc, hsek]
        exact ⟨y, n', _, _, rfl⟩
      · rw [if_neg hf0] at hsek
        obtain ⟨y3, n3, d5', d6', hin⟩ := M_flaps_in (D := D) (i := k) (tf := tf) (x2 := 0) (set := cse tf q qa wv C S k) (d5 := some (.int (cflap tf q S.1 S.2 wv k))) (d6 := d6) (cx := cx) (f := jup f 15 y) (g := g) (n := n') (b := b) (l := l) (t := t) (z := z) (rAt_f hA2) (rTw_f hT) (by omega)
        rw [mwnd_f, hwv, jup_jup, ← hsek] at hin
        simp only [hf0, if_false, if_true, ite_self, hin]
        exact ⟨y3, n3, _, _, rfl⟩
  obtain ⟨y, n', d5, d6, he⟩ := key Sc (Nat.le_refl Sc)
  refine ⟨y, n', ?_⟩
  have hlt : ¬ Int32.ofNat Sc < g 1 2 := by
    rw [hP.2.1.2.2.1, hP.1.2.2.2.2.1]; exact jlt_n (by omega) (by omega)
  rw [he, L_m_flaps_4, if_neg hlt]
set_option maxHeartbeats 4000000 in
/-- what it throws (1, 2), or nothing (0) and what it answers -/
theorem A_cell {D : Nat} {a0 a1 : Int32} {f : Nat → Int32} {g : Nat → Nat → Int32} {n2 : Nat → Nat → Int64} {p : Nat → Nat → Int32} {pa : Nat → Nat → Nat → Int32} {s : Nat → Nat → Int32} {sa : Nat → Nat → Nat → Int32} {sw : Bool} {rp : Value} {mf : Nat → Int32} {mg : Nat → Nat → Int32} {mn : Nat → Nat → Int64} {mb : Nat → Nat → Int32} {ml : Nat → Int64} (h : RR f g p pa s sa sw mf mg mb) : ∀ t z, ∃ (ex : Nat) (x : Int32) (n2' : Nat → Nat → Int64) (z' : Nat × Nat × Nat × (Nat → Int32)), K_c_cell D a0 a1 f g n2 p pa s sa sw rp t z = some (if ex = 0 then .inl (some (.int x)) else .inr ex, (jX f g n2' p pa s sa sw rp t, z')) ∧ z'.1 ≤ z.1 + 1 ∧ z'.2.1 ≤ z.2.1 + 6 ∧ z'.2.2 = z.2.2 ∧ ex ≤ 2 ∧
    ∀ cx t1 z1, ∃ (mf' : Nat → Int32) (mn' : Nat → Nat → Int64), K_m_cell D a0 a1 cx mf mg mn mb ml t1 z1 = some (.inl (some (.int (if ex = 0 then x else 0))), (jXt cx (jY mf' mg mn' mb ml t1), z1)) ∧ mf' 0 = Int32.ofNat ex ∧ RR f g p pa s sa sw mf' mg mb := by
  intro t z
  obtain ⟨C, Sc, T, hP, hC, hS6, hT, hT2, hne, hme, hfr, hTw, hAt, hw1, hw2, hm⟩ := RR_ex (n2 := n2) (rp := rp) (mn := mn) (ml := ml) h
  have hCC := hP.1.1
  have hce := fun {n2 t z} => S_p_hasCell (D := D) (w := sw) (x := a0) (f := f) (g := g) (n2 := n2) (p := p) (pa := pa) (s := s) (sa := sa) (sw := sw) (rp := rp) (t := t) (z := z) hCC hC
  have hmc := fun {cx t z} => M_isCell (D := D) (x := a0) (cx := cx) (f := mf) (g := mg) (n := mn) (b := mb) (l := ml) (t := t) (z := z) hP
  have hr : ∀ e, RR f g p pa s sa sw (jup mf 0 e) mg mb := fun e => RR_congr h (by intro k hk; simp (disch := omega) only [jup_ne]) (by intro k hk; simp (disch := omega) only [jup_ne]) rfl rfl (by constructor <;> simp (disch := omega) only [jup_ne]) (by constructor <;> simp (disch := omega) only [jup_ne]) (by intro k hk; simp (disch := omega) only [jup_ne]) (jq1.rf) rfl (f' := f) (g' := g) (s' := s) (sa' := sa) (p' := p) (pa' := pa) (sw' := sw) (mf' := jup mf 0 e) (mg' := mg) (mb' := mb)
  have h10 : ¬ (1 : Int32) = 0 := by decide
  have h20 : ¬ (2 : Int32) = 0 := by decide
  have h21 : ¬ (2 : Int32) = 1 := by decide
  rcases jout_dec a0 C (by omega) with ho | ⟨c, hc, rfl⟩
  · refine ⟨1, 0, n2, (z.1 + 1, z.2.1 + 6, z.2.2), ?_, Nat.le_refl _, Nat.le_refl _, rfl, by omega, fun cx t1 z1 => ⟨jup mf 0 1, mn, ?_, rfl, hr 1⟩⟩
    · rw [E_c_cell, hce, if_pos ho]
      simp only [jbO_some, jbO_none, jbO_ite, jk_some, jk_none, E_c_cell_4, if_true]
      rfl
    · rw [E_m_cell, hmc, if_pos ho]
      simp only [jbO_some, jbO_none, jbO_ite, jk_some, jk_none, E_m_cell_4, if_true, E_m_cell_15, h10, if_false]
      rfl
  have hno : ¬ jout (Int32.ofNat c) C := jout_n hc (by omega)
  by_cases hb : a1 < 0 ∨ 2 < a1
  · have n0 : ¬ a1 = 0 := by rintro rfl; revert hb; decide
    have n1 : ¬ a1 = 1 := by rintro rfl; revert hb; decide
    have n22 : ¬ a1 = 2 := by rintro rfl; revert hb; decide
    refine ⟨2, 0, n2, (z.1 + 1, z.2.1 + 6, z.2.2), ?_, Nat.le_refl _, Nat.le_refl _, rfl, by omega, fun cx t1 z1 => ⟨jup mf 0 2, mn, ?_, rfl, hr 2⟩⟩
    · rw [E_c_cell, hce, if_neg hno]
      simp only [jbO_some, jbO_none, jbO_ite, jk_some, jk_none, E_c_cell_4, h10, n0, n1, n22, if_false]
      rfl
    · rw [E_m_cell, hmc, if_neg hno]
      simp only [jbO_some, jbO_none, jbO_ite, jk_some, jk_none, E_m_cell_4, h10, if_false, E_m_cell_12, E_m_cell_15, h20]
      by_cases hb2 : a1 < 0
      · rw [if_pos hb2]; rfl
      · rw [if_neg hb2, if_pos (hb.resolve_left hb2)]; rfl
  have hb1 : ¬ a1 < 0 := fun e => hb (Or.inl e)
  have hb2 : ¬ 2 < a1 := fun e => hb (Or.inr e)
  have hjc : jout (Int32.ofNat c) 30 = False := jout_f (by omega) (by omega)
  have hjm : jout (Int32.ofNat c) 690 = False := jout_f (by omega) (by omega)
  obtain ⟨hh, hh1, hh2⟩ := hAt.2.2.2.2.1
  dsimp only at hh1
  have hst := hfr.1
  rcases jcases a1 with e | ⟨k, hk, rfl⟩
  · exact absurd e hb1
  have hk2 : k ≤ 2 := Nat.le_of_not_lt (fun e => hb2 (jlt_t (a := 2) e hk))
  have hk3 : k = 0 ∨ k = 1 ∨ k = 2 := by omega
  rcases hk3 with rfl | rfl | rfl
  · have e0 : Int32.ofNat 0 = 0 := rfl
    rw [e0] at hb1 hb2
    have hs20 := hst.2.2.2.2.2.2.1 c hc
    rw [Nat.mul_zero, Nat.zero_add] at hs20
    rw [e0]
    refine ⟨0, sa 0 0 c, n2, z, ?_, by omega, by omega, rfl, by omega, fun cx t1 z1 => ⟨jup mf 0 0, mn, ?_, rfl, hr 0⟩⟩
    · rw [E_c_cell, hce, if_neg hno]
      simp (disch := omega) only [jbO_some, jbO_none, jbO_ite, jk_some, jk_none, E_c_cell_4, h10, if_true, if_false, hjc, jclamp]
    · rw [E_m_cell, hmc, if_neg hno]
      simp (disch := omega) only [jbO_some, jbO_none, jbO_ite, jk_some, jk_none, E_m_cell_4, h10, hb1, hb2, if_true, if_false, E_m_cell_15, hjm, jclamp, hs20]
  · have e1 : Int32.ofNat 1 = 1 := rfl
    rw [e1] at hb1 hb2
    rw [e1]
    have hs21 := hst.2.2.2.2.2.2.2.1 hh hh2
    rw [Nat.mul_zero, Nat.zero_add] at hs21
    have hs15 : mg 15 0 = Int32.ofNat hh := hst.2.1.trans hh1
    refine ⟨0, (sa 0 1 hh >>> (Int32.ofNat c &&& 31)) &&& 1, n2, z, ?_, by omega, by omega, rfl, by omega, fun cx t1 z1 => ⟨jup mf 0 0, mn, ?_, rfl, hr 0⟩⟩
    · rw [E_c_cell, hce, if_neg hno]
      simp (disch := omega) only [jbO_some, jbO_none, jbO_ite, jk_some, jk_none, E_c_cell_4, h10, if_true, if_false, hh1, jout_f, jclamp]
    · rw [E_m_cell, hmc, if_neg hno]
      simp (disch := omega) only [jbO_some, jbO_none, jbO_ite, jk_some, jk_none, E_m_cell_4, h10, hb1, hb2, if_true, if_false, E_m_cell_15, hs15, jout_f, jclamp, hs21]
  · have e2 : Int32.ofNat 2 = 2 := rfl
    rw [e2] at hb1 hb2
    rw [e2]
    obtain ⟨n2', hsn⟩ := S_c_seenNow (D := D) (f := f) (g := g) (n2 := n2) (p := p) (pa := pa) (s := s) (sa := sa) (sw := sw) (rp := rp) (t := t) (z := z) hP.1 hm
    refine ⟨0, ((cse f (p (jq sw)) (pa (jq sw)) (cwnd f (g 2) (p (jq sw)) (pa (jq sw)) (s 0 0)) C (s 0, sa 0) Sc) >>> (Int32.ofNat c &&& 31)) &&& 1, n2', z, ?_, by omega, by omega, rfl, by omega, fun cx t1 z1 => ?_⟩
    · rw [E_c_cell, hce, if_neg hno]
      simp only [jbO_some, jbO_none, jbO_ite, jk_some, jk_none, E_c_cell_4, h10, h20, h21, if_true, if_false, hsn, E_c_cell_32]
    · obtain ⟨y, n', hfl⟩ := M_flaps0 (D := D) (F := 0) (tf := f) (cx := cx) (n := mn) (b := mb) (l := ml) (t := t1) (z := z1) hAt hTw
      dsimp only at hfl
      rw [hw2] at hfl
      have hfl2 : K_m_flaps D 0 0 cx (jup mf 0 0) mg mn mb ml t1 z1 = _ := hfl
      refine ⟨jup (jup mf 0 0) 15 y, n', ?_, rfl, ?_⟩
      · rw [E_m_cell, hmc, if_neg hno]
        simp only [jbO_some, jbO_none, jbO_ite, jk_some, jk_none, E_m_cell_4, h10, h20, h21, hb1, hb2, if_true, if_false, E_m_cell_15, hfl2, E_m_cell_47]
      · exact RR_congr h (by intro k hk; simp (disch := omega) only [jup_ne]) (by intro k hk; simp (disch := omega) only [jup_ne]) rfl rfl (by constructor <;> simp (disch := omega) only [jup_ne]) (by constructor <;> simp (disch := omega) only [jup_ne]) (by intro k hk; simp (disch := omega) only [jup_ne]) (jq1.rf) rfl (f' := f) (g' := g) (s' := s) (sa' := sa) (p' := p) (pa' := pa) (sw' := sw) (mf' := jup (jup mf 0 0) 15 y) (mg' := mg) (mb' := mb)
