-- THE CLASS's HOUR: meals, wages, the crows' aim, an hour, hours, days
def jpt99 (v : Int64) : Int32 := (if (if v < 99 then v else 99) < 0 then 0 else (if v < 99 then v else 99)).toInt32
def ceatl (q : Nat → Int32) (qa : Nat → Nat → Int32) (a : Nat → Int32) (aa : Nat → Nat → Int32) (wv : Int32) (c : Nat) : Option Int64 :=
  jlaw (q 11).toNatClampNeg (qa 10) (qa 11) (jnm 0 0 wv (a 1) 0 (aa 0 c) (a 0))
def cpayl (tf q : Nat → Int32) (qa : Nat → Nat → Int32) (a : Nat → Int32) (aa : Nat → Nat → Int32) (wv : Int32) (i : Nat) : Option Int64 :=
  jlaw (q 12).toNatClampNeg (qa 12) (qa 13) (jnm (qa 3 i + tf 18) 0 wv (a 1) (aa 3 i) 0 (a 0))
def cseel (tf q : Nat → Int32) (qa : Nat → Nat → Int32) (a : Nat → Int32) (aa : Nat → Nat → Int32) (wv : Int32) (i c : Nat) : Option Int64 :=
  jlaw (q 10).toNatClampNeg (qa 8) (qa 9) (jnm (qa 3 i + tf 18) (jdist (q 1) (qa 2 i) (Int32.ofNat c)) wv (a 1) (aa 3 i) (aa 0 c) (a 0))
def cmeal (q : Nat → Int32) (qa : Nat → Nat → Int32) (a : Nat → Int32) (aa : Nat → Nat → Int32) (wv : Int32) (c : Nat) : Int32 :=
  let x := match ceatl q qa a aa wv c with
    | some v => jpt99 v
    | none => q 7
  if x < aa 0 c then x else aa 0 c
def cwage (tf q : Nat → Int32) (qa : Nat → Nat → Int32) (a : Nat → Int32) (aa : Nat → Nat → Int32) (wv : Int32) (i : Nat) : Int32 :=
  match cpayl tf q qa a aa wv i with
  | some v => jpt99 v
  | none => qa 4 i
theorem S_h_eatWorth {D j c : Nat} {C Sc : Nat} {f : Nat → Int32} {g : Nat → Nat → Int32} {n2 : Nat → Nat → Int64} {p : Nat → Nat → Int32} {pa : Nat → Nat → Nat → Int32} {s : Nat → Nat → Int32} {sa : Nat → Nat → Nat → Int32} {sw : Bool} {rp : Value} {t : List jE} {z : Nat × Nat × Nat × (Nat → Int32)} (hj : j < 3) (hc : c < 30) (hPl : jPl (p (jq sw)) (pa (jq sw)) C Sc) :
    ∃ nm' st', K_h_eatWorth D j (Int32.ofNat c) f g n2 p pa s sa sw rp t z = some (.inl (some (.long ((ceatl (p (jq sw)) (pa (jq sw)) (s j) (sa j) (cwnd f (g 2) (p (jq sw)) (pa (jq sw)) (s j 0)) c).getD jerr))), (jX f g (jup (jup n2 0 nm') 1 st') p pa s sa sw rp t, z)) := by
  obtain ⟨nm0, hst, hnm0⟩ := S_h_stand (D := D) (u := 0) (v := 0) (f := f) (g := g) (n2 := n2) (p := p) (pa := pa) (s := s) (sa := sa) (sw := sw) (rp := rp) (t := t) (z := z) hj hPl
  obtain ⟨-, -, -, -, -, -, -, -, -, ⟨n, hn, hwf⟩, -⟩ := hPl
  have hnlt : n < 2147483648 := by have := hwf.1; omega
  have hnm' : ∀ i, i < 7 → jup nm0 5 (sa j 0 c).toInt64 i = jnm 0 0 (cwnd f (g 2) (p (jq sw)) (pa (jq sw)) (s j 0)) (s j 1) 0 (sa j 0 c) (s j 0) i := by
    refine jnm_of ?_ ?_ ?_ ?_ ?_ ?_ ?_
    · rw [jup_ne (by omega)]; exact hnm0 0 (by omega)
    · rw [jup_ne (by omega)]; exact hnm0 1 (by omega)
    · rw [jup_ne (by omega)]; exact hnm0 2 (by omega)
    · rw [jup_ne (by omega)]; exact hnm0 3 (by omega)
    · rw [jup_ne (by omega)]; exact hnm0 4 (by omega)
    · rw [jup_same]
    · rw [jup_ne (by omega)]; exact hnm0 6 (by omega)
  obtain ⟨s', hw⟩ := S_w_worth1 (D := D) (w := sw) (n := n) (f := f) (g := g) (n2 := jup n2 0 (jup nm0 5 (sa j 0 c).toInt64)) (p := p) (pa := pa) (s := s) (sa := sa) (sw := sw) (rp := rp) (t := t) (z := z) hn hwf
  rw [jup_same, jlaw_congr hwf hnm'] at hw
  refine ⟨jup nm0 5 (sa j 0 c).toInt64, s', ?_⟩
  · simp (disch := omega) only [E_h_eatWorth, E_h_eatWorth_5, E_h_eatWorth_24, jbO_some, jbO_none, jbO_ite, jk_some, jk_none, hst, jup_same, jup_jup, jout_f, jclamp, if_false, hw, ceatl, hn]
theorem S_h_payWorth {D j i : Nat} {C Sc : Nat} {f : Nat → Int32} {g : Nat → Nat → Int32} {n2 : Nat → Nat → Int64} {p : Nat → Nat → Int32} {pa : Nat → Nat → Nat → Int32} {s : Nat → Nat → Int32} {sa : Nat → Nat → Nat → Int32} {sw : Bool} {rp : Value} {t : List jE} {z : Nat × Nat × Nat × (Nat → Int32)} (hj : j < 3) (hi : i < Sc) (hPl : jPl (p (jq sw)) (pa (jq sw)) C Sc) :
    ∃ nm' st', K_h_payWorth D j (Int32.ofNat i) f g n2 p pa s sa sw rp t z = some (.inl (some (.long ((cpayl f (p (jq sw)) (pa (jq sw)) (s j) (sa j) (cwnd f (g 2) (p (jq sw)) (pa (jq sw)) (s j 0)) i).getD jerr))), (jX f g (jup (jup n2 0 nm') 1 st') p pa s sa sw rp t, z)) := by
  obtain ⟨nm0, hst, hnm0⟩ := S_h_stand (D := D) (u := pa (jq sw) 3 i + f 18) (v := sa j 3 i) (f := f) (g := g) (n2 := n2) (p := p) (pa := pa) (s := s) (sa := sa) (sw := sw) (rp := rp) (t := t) (z := z) hj hPl
  obtain ⟨-, -, -, -, -, hS6, -, -, -, -, ⟨n, hn, hwf⟩⟩ := hPl
  have hi6 : i < 6 := by omega
  have hnlt : n < 2147483648 := by have := hwf.1; omega
  obtain ⟨s', hw⟩ := S_w_worth2 (D := D) (w := sw) (n := n) (f := f) (g := g) (n2 := jup n2 0 nm0) (p := p) (pa := pa) (s := s) (sa := sa) (sw := sw) (rp := rp) (t := t) (z := z) hn hwf
  rw [jup_same, jlaw_congr hwf hnm0] at hw
  refine ⟨nm0, s', ?_⟩
  simp (disch := omega) only [E_h_payWorth, E_h_payWorth_5, E_h_payWorth_10, E_h_payWorth_20, E_h_sightOf, jbO_some, jbO_none, jbO_ite, jk_some, jk_none, hst, jout_f, jclamp, if_false, hw, cpayl, hn]
theorem S_h_putBetween {D : Nat} {v : Int64} {f : Nat → Int32} {g : Nat → Nat → Int32} {n2 : Nat → Nat → Int64} {p : Nat → Nat → Int32} {pa : Nat → Nat → Nat → Int32} {s : Nat → Nat → Int32} {sa : Nat → Nat → Nat → Int32} {sw : Bool} {rp : Value} {t : List jE} {z : Nat × Nat × Nat × (Nat → Int32)} : K_h_putBetween D v f g n2 p pa s sa sw rp t z = some (.inl (some (.int (jpt99 v))), (jX f g n2 p pa s sa sw rp t, z)) := by
  rw [E_h_putBetween]; rfl
theorem S_h_mealIn {D j c : Nat} {C Sc : Nat} {f : Nat → Int32} {g : Nat → Nat → Int32} {n2 : Nat → Nat → Int64} {p : Nat → Nat → Int32} {pa : Nat → Nat → Nat → Int32} {s : Nat → Nat → Int32} {sa : Nat → Nat → Nat → Int32} {sw : Bool} {rp : Value} {t : List jE} {z : Nat × Nat × Nat × (Nat → Int32)} (hj : j < 3) (hc : c < 30) (hPl : jPl (p (jq sw)) (pa (jq sw)) C Sc) :
    ∃ nm' st', K_h_mealIn D j (Int32.ofNat c) f g n2 p pa s sa sw rp t z = some (.inl (some (.int (cmeal (p (jq sw)) (pa (jq sw)) (s j) (sa j) (cwnd f (g 2) (p (jq sw)) (pa (jq sw)) (s j 0)) c))), (jX f g (jup (jup n2 0 nm') 1 st') p pa s sa sw rp t, z)) := by
  obtain ⟨nm', st', he⟩ := S_h_eatWorth (D := D) (c := c) (f := f) (g := g) (n2 := n2) (p := p) (pa := pa) (s := s) (sa := sa) (sw := sw) (rp := rp) (t := t) (z := z) hj hc hPl
  obtain ⟨-, -, -, -, -, -, -, -, -, ⟨n, hn, hwf⟩, -⟩ := hPl
  refine ⟨nm', st', ?_⟩
  simp (disch := omega) only [E_h_mealIn, E_h_mealIn_4, E_h_mealIn_19, F_h_mealIn_19, jbO_some, jbO_none, jbO_ite, jk_some, jk_none, he, jout_f, jclamp, if_false, S_h_putBetween, lg_cmp_eq, cmeal]
  cases hl : ceatl (p (jq sw)) (pa (jq sw)) (s j) (sa j) (cwnd f (g 2) (p (jq sw)) (pa (jq sw)) (s j 0)) c with
  | none => simp only [Option.getD_none]; rw [if_pos (show jerr = -9223372036854775808 from rfl)]
  | some v =>
    have hv : ¬ v = -9223372036854775808 := jlaw_ne (n := (p (jq sw) 11).toNatClampNeg) (by rw [hn, jclamp (by have := hwf.1; omega)]; exact hwf) jnm_ne hl
    simp only [Option.getD_some]
    rw [if_neg hv]
theorem S_h_wage {D j i : Nat} {C Sc : Nat} {f : Nat → Int32} {g : Nat → Nat → Int32} {n2 : Nat → Nat → Int64} {p : Nat → Nat → Int32} {pa : Nat → Nat → Nat → Int32} {s : Nat → Nat → Int32} {sa : Nat → Nat → Nat → Int32} {sw : Bool} {rp : Value} {t : List jE} {z : Nat × Nat × Nat × (Nat → Int32)} (hj : j < 3) (hi : i < Sc) (hPl : jPl (p (jq sw)) (pa (jq sw)) C Sc) :
    ∃ nm' st', K_h_wage D j (Int32.ofNat i) f g n2 p pa s sa sw rp t z = some (.inl (some (.int (cwage f (p (jq sw)) (pa (jq sw)) (s j) (sa j) (cwnd f (g 2) (p (jq sw)) (pa (jq sw)) (s j 0)) i))), (jX f g (jup (jup n2 0 nm') 1 st') p pa s sa sw rp t, z)) := by
  obtain ⟨nm', st', he⟩ := S_h_payWorth (D := D) (i := i) (f := f) (g := g) (n2 := n2) (p := p) (pa := pa) (s := s) (sa := sa) (sw := sw) (rp := rp) (t := t) (z := z) hj hi hPl
  obtain ⟨-, -, -, -, -, hS6, -, -, -, -, ⟨n, hn, hwf⟩⟩ := hPl
  have hi6 : i < 6 := by omega
  refine ⟨nm', st', ?_⟩
  simp (disch := omega) only [E_h_wage, E_h_wage_4, E_h_wage_17, jbO_some, jbO_none, jbO_ite, jk_some, jk_none, he, jout_f, jclamp, if_false, S_h_putBetween, lg_cmp_eq, cwage]
  cases hl : cpayl f (p (jq sw)) (pa (jq sw)) (s j) (sa j) (cwnd f (g 2) (p (jq sw)) (pa (jq sw)) (s j 0)) i with
  | none => simp only [Option.getD_none]; rw [if_pos (show jerr = -9223372036854775808 from rfl)]
  | some v =>
    have hv : ¬ v = -9223372036854775808 := jlaw_ne (n := (p (jq sw) 12).toNatClampNeg) (by rw [hn, jclamp (by have := hwf.1; omega)]; exact hwf) jnm_ne hl
    simp only [Option.getD_some]
    rw [if_neg hv]
/-- the first cell with most crop of those that aren't feared -/
def caimk (fe : Int32) (cr : Nat → Int32) : Nat → Option Nat × Int32
  | 0 => (none, 0)
  | k + 1 => if ((fe >>> (Int32.ofNat k &&& 31)) &&& 1) = 0 then (if (caimk fe cr k).2 < cr k then (some k, cr k) else caimk fe cr k) else caimk fe cr k
def jopt : Option Nat → Int32
  | none => -1
  | some k => Int32.ofNat k
def caim (tf a : Nat → Int32) (aa : Nat → Nat → Int32) (C : Nat) : Option Nat := (caimk (if tf 16 = 0 then aa 1 (a 1).toNatClampNeg else 0) (aa 0) C).1
theorem caimk_lt {fe : Int32} {cr : Nat → Int32} : ∀ {k c : Nat}, (caimk fe cr k).1 = some c → c < k
  | 0, c, h => by simp [caimk] at h
  | k + 1, c, h => by
    unfold caimk at h
    split at h
    · split at h
      · simp only [Option.some.injEq] at h; omega
      · have := caimk_lt h; omega
    · have := caimk_lt h; omega
theorem S_h_aim {D j : Nat} {C Sc : Nat} {f : Nat → Int32} {g : Nat → Nat → Int32} {n2 : Nat → Nat → Int64} {p : Nat → Nat → Int32} {pa : Nat → Nat → Nat → Int32} {s : Nat → Nat → Int32} {sa : Nat → Nat → Nat → Int32} {sw : Bool} {rp : Value} {t : List jE} {z : Nat × Nat × Nat × (Nat → Int32)} (hj : j < 3) (hh : ¬ jout (s j 1) 12) (hPl : jPl (p (jq sw)) (pa (jq sw)) C Sc) :
    K_h_aim D j f g n2 p pa s sa sw rp t z = some (.inl (some (.int (jopt (caim f (s j) (sa j) C)))), (jX f g n2 p pa s sa sw rp t, z)) := by
  obtain ⟨hC, hC30, hC1, -⟩ := hPl
  have key : ∀ fe k, k ≤ C → K_h_aim_18 D j fe (-1) 0 0 f g n2 p pa s sa sw rp t z = K_h_aim_18 D j fe (jopt (caimk fe (sa j 0) k).1) (caimk fe (sa j 0) k).2 (Int32.ofNat k) f g n2 p pa s sa sw rp t z := by
    intro fe k
    induction k with
    | zero => intro _; rfl
    | succ k ih =>
      intro hk
      rw [ih (by omega), L_h_aim_18 hj]
      have hlt : Int32.ofNat k < Int32.ofNat C := by rw [jltn (by omega) (by omega)]; omega
      simp (disch := omega) only [E_p_cells, jbO_some, jbO_none, jbO_ite, jk_some, jk_none, hC, E_h_aim_22, E_h_aim_42, hlt, if_true, jout_f, jclamp, if_false, jsucc]
      rw [show caimk fe (sa j 0) (k + 1) = if ((fe >>> (Int32.ofNat k &&& 31)) &&& 1) = 0 then (if (caimk fe (sa j 0) k).2 < sa j 0 k then (some k, sa j 0 k) else caimk fe (sa j 0) k) else caimk fe (sa j 0) k from rfl]
      split
      · split <;> rfl
      · rfl
  have hend : ∀ fe, K_h_aim_18 D j fe (-1) 0 0 f g n2 p pa s sa sw rp t z = some (.inl (some (.int (jopt (caimk fe (sa j 0) C).1))), (jX f g n2 p pa s sa sw rp t, z)) := by
    intro fe
    rw [key fe C (Nat.le_refl C), L_h_aim_18 hj]
    have hlt : ¬ Int32.ofNat C < Int32.ofNat C := by rw [jltn (by omega) (by omega)]; omega
    simp (disch := omega) only [E_p_cells, jbO_some, jbO_none, jbO_ite, jk_some, jk_none, hC, E_h_aim_22, hlt, if_false]
  unfold caim
  rw [E_h_aim hj]
  by_cases h16 : f 16 = 0
  · rw [if_pos h16, if_pos h16, if_neg hh, E_h_aim_11 hj, hend]
  · rw [if_neg h16, if_neg h16, E_h_aim_11 hj, hend]
