-- THE CLASS's HOURS: winds, who flaps, what is seen, eaten, paid
theorem S_w_worth0 {D : Nat} {w : Bool} {n : Nat} {f : Nat → Int32} {g : Nat → Nat → Int32} {n2 : Nat → Nat → Int64} {p : Nat → Nat → Int32} {pa : Nat → Nat → Nat → Int32} {s : Nat → Nat → Int32} {sa : Nat → Nat → Nat → Int32} {sw : Bool} {rp : Value} {t : List jE} {z : Nat × Nat × Nat × (Nat → Int32)} (hsz : p (jq w) 10 = Int32.ofNat n) (hwf : jwf n (pa (jq w) 8) (pa (jq w) 9)) :
    ∃ s', K_w_worth D w 0 f g n2 p pa s sa sw rp t z = some (.inl (some (.long ((jlaw n (pa (jq w) 8) (pa (jq w) 9) (n2 0)).getD jerr))), (jX f g (jup n2 1 s') p pa s sa sw rp t, z)) := S_w_worth (r := 0) (by omega) hsz hwf
theorem S_w_worth1 {D : Nat} {w : Bool} {n : Nat} {f : Nat → Int32} {g : Nat → Nat → Int32} {n2 : Nat → Nat → Int64} {p : Nat → Nat → Int32} {pa : Nat → Nat → Nat → Int32} {s : Nat → Nat → Int32} {sa : Nat → Nat → Nat → Int32} {sw : Bool} {rp : Value} {t : List jE} {z : Nat × Nat × Nat × (Nat → Int32)} (hsz : p (jq w) 11 = Int32.ofNat n) (hwf : jwf n (pa (jq w) 10) (pa (jq w) 11)) :
    ∃ s', K_w_worth D w 1 f g n2 p pa s sa sw rp t z = some (.inl (some (.long ((jlaw n (pa (jq w) 10) (pa (jq w) 11) (n2 0)).getD jerr))), (jX f g (jup n2 1 s') p pa s sa sw rp t, z)) := S_w_worth (r := 1) (by omega) hsz hwf
theorem S_w_worth2 {D : Nat} {w : Bool} {n : Nat} {f : Nat → Int32} {g : Nat → Nat → Int32} {n2 : Nat → Nat → Int64} {p : Nat → Nat → Int32} {pa : Nat → Nat → Nat → Int32} {s : Nat → Nat → Int32} {sa : Nat → Nat → Nat → Int32} {sw : Bool} {rp : Value} {t : List jE} {z : Nat × Nat × Nat × (Nat → Int32)} (hsz : p (jq w) 12 = Int32.ofNat n) (hwf : jwf n (pa (jq w) 12) (pa (jq w) 13)) :
    ∃ s', K_w_worth D w 2 f g n2 p pa s sa sw rp t z = some (.inl (some (.long ((jlaw n (pa (jq w) 12) (pa (jq w) 13) (n2 0)).getD jerr))), (jX f g (jup n2 1 s') p pa s sa sw rp t, z)) := S_w_worth (r := 2) (by omega) hsz hwf
/-- WIND of a day, with what is drawn by chance -/
def cwnd (tf w9 q : Nat → Int32) (qa : Nat → Nat → Int32) (d : Int32) : Int32 :=
  if tf 21 = 0 then jwnd q qa d else if d - tf 22 - 1 < 0 then jwnd q qa d else if d - tf 22 - 1 < 9 then w9 (d - tf 22 - 1).toNatClampNeg else jwnd q qa d
theorem S_h_windOn {D : Nat} {d : Int32} {C Sc : Nat} {f : Nat → Int32} {g : Nat → Nat → Int32} {n2 : Nat → Nat → Int64} {p : Nat → Nat → Int32} {pa : Nat → Nat → Nat → Int32} {s : Nat → Nat → Int32} {sa : Nat → Nat → Nat → Int32} {sw : Bool} {rp : Value} {t : List jE} {z : Nat × Nat × Nat × (Nat → Int32)} (hPl : jPl (p (jq sw)) (pa (jq sw)) C Sc) : K_h_windOn D d f g n2 p pa s sa sw rp t z = some (.inl (some (.int (cwnd f (g 2) (p (jq sw)) (pa (jq sw)) d))), (jX f g n2 p pa s sa sw rp t, z)) := by
  obtain ⟨-, -, -, -, -, -, ⟨Wn, hW, hn⟩, -⟩ := hPl
  simp only [E_h_windOn, E_h_windOn_23, E_h_windOn_27, jbO_some, jbO_none, jbO_ite, jk_some, jk_none, S_p_windOf hW hn, cwnd]
  by_cases h1 : f 21 = 0
  · rw [if_pos h1, if_pos h1]
  · rw [if_neg h1, if_neg h1]
    rcases jcases (d - f 22 - 1) with h | ⟨k, hk, h⟩
    · rw [if_pos h, if_pos h]
    · rw [h, if_neg (jnonneg hk), if_neg (jnonneg hk)]
      by_cases h9 : Int32.ofNat k < 9
      · rw [if_pos h9, if_pos h9]
        have : k < 9 := by rwa [jltl hk (by decide)] at h9
        rw [if_neg (jout_n this (by omega))]
      · rw [if_neg h9, if_neg h9]
/-- how a scare flaps -/
def cflap (tf q a : Nat → Int32) (aa : Nat → Nat → Int32) (wv : Int32) (i : Nat) : Int32 :=
  if ((tf 17 >>> (Int32.ofNat i &&& 31)) &&& 1) = 0 then
    if tf 19 = 0 then
      if ((aa 2 i >>> (a 1 &&& 31)) &&& 1) = 0 then (if wv < q 8 then 0 else 2)
      else if ((a 2 >>> (Int32.ofNat i &&& 31)) &&& 1) = 0 then (if aa 4 i < (if tf 20 = 0 then q 6 else 12) then 1 else if wv < q 8 then 0 else 2)
      else (if wv < q 8 then 0 else 2)
    else 2
  else 0
theorem S_h_flapping {D j i : Nat} {C Sc : Nat} {f : Nat → Int32} {g : Nat → Nat → Int32} {n2 : Nat → Nat → Int64} {p : Nat → Nat → Int32} {pa : Nat → Nat → Nat → Int32} {s : Nat → Nat → Int32} {sa : Nat → Nat → Nat → Int32} {sw : Bool} {rp : Value} {t : List jE} {z : Nat × Nat × Nat × (Nat → Int32)} (hj : j < 3) (hi : i < 6) (hPl : jPl (p (jq sw)) (pa (jq sw)) C Sc) :
    K_h_flapping D j (Int32.ofNat i) f g n2 p pa s sa sw rp t z = some (.inl (some (.int (cflap f (p (jq sw)) (s j) (sa j) (cwnd f (g 2) (p (jq sw)) (pa (jq sw)) (s j 0)) i))), (jX f g n2 p pa s sa sw rp t, z)) := by
  simp +decide (disch := omega) only [E_h_flapping, E_h_flapping_25, E_h_flapping_29, E_h_flapping_42, E_h_flapping_33, E_h_flapping_46, E_s_onRota, E_s_onStrike, jbO_some, jbO_none, jbO_ite, jk_some, jk_none, S_h_windOn hPl, jout_f, jclamp, if_false, if_true, cflap]
  repeat' split
  all_goals first | rfl | (exfalso; simp_all; done) | simp_all
theorem S_h_stand {D j : Nat} {C Sc : Nat} {u v : Int32} {f : Nat → Int32} {g : Nat → Nat → Int32} {n2 : Nat → Nat → Int64} {p : Nat → Nat → Int32} {pa : Nat → Nat → Nat → Int32} {s : Nat → Nat → Int32} {sa : Nat → Nat → Nat → Int32} {sw : Bool} {rp : Value} {t : List jE} {z : Nat × Nat × Nat × (Nat → Int32)} (hj : j < 3) (hPl : jPl (p (jq sw)) (pa (jq sw)) C Sc) :
    ∃ nm', K_h_stand D j u v f g n2 p pa s sa sw rp t z = some (.inl none, (jX f g (jup n2 0 nm') p pa s sa sw rp t, z)) ∧ ∀ i, i < 7 → nm' i = jnm u 0 (cwnd f (g 2) (p (jq sw)) (pa (jq sw)) (s j 0)) (s j 1) v 0 (s j 0) i := by
  have h2 : jout (2 : Int32) 7 = False := jout_f (k := 2) (by omega) (by omega)
  refine ⟨jup (jup (jup (jup (jup (jup (jup (n2 0) 0 u.toInt64) 1 0) 2 (cwnd f (g 2) (p (jq sw)) (pa (jq sw)) (s j 0)).toInt64) 3 (s j 1).toInt64) 4 v.toInt64) 5 0) 6 (s j 0).toInt64, ?_, ?_⟩
  · simp (disch := omega) only [E_h_stand, E_h_stand_18, E_h_stand_26, E_h_stand_32, E_h_stand_37, E_h_stand_44, jbO_some, jbO_none, jbO_ite, jk_some, jk_none, S_h_windOn hPl, h2, if_false, jup_same, jup_jup]
    rfl
  · refine jnm_of ?_ ?_ ?_ ?_ ?_ ?_ ?_ <;> first | rfl | (simp [jup]; done) | simp [jup]
/-- whether a cell is seen from another -/
def csee (q : Nat → Int32) (qa : Nat → Nat → Int32) (sg wv hr gr dt x y ripe : Int32) : Bool :=
  match jlaw (q 10).toNatClampNeg (qa 8) (qa 9) (jnm sg (jdist (q 1) x y) wv hr gr ripe dt) with
  | some v => !decide (v = 0)
  | none => !decide (sg < jdist (q 1) x y)
theorem jlt64 {x y : Int32} : (x.toInt64 < y.toInt64) = (x < y) := by
  rw [Int64.lt_iff_toInt_lt, Int32.lt_iff_toInt_lt, Int32.toInt_toInt64, Int32.toInt_toInt64]
theorem S_h_looks {D : Nat} {C Sc : Nat} {sg ff wv hr gr rr dt x y ripe : Int32} {f : Nat → Int32} {g : Nat → Nat → Int32} {n2 : Nat → Nat → Int64} {p : Nat → Nat → Int32} {pa : Nat → Nat → Nat → Int32} {s : Nat → Nat → Int32} {sa : Nat → Nat → Nat → Int32} {sw : Bool} {rp : Value} {t : List jE} {z : Nat × Nat × Nat × (Nat → Int32)} (hPl : jPl (p (jq sw)) (pa (jq sw)) C Sc) (hnm : ∀ i, i < 7 → n2 0 i = jnm sg ff wv hr gr rr dt i) :
    ∃ nm' st', K_h_looks D x y ripe f g n2 p pa s sa sw rp t z = some (.inl (some (.int (if csee (p (jq sw)) (pa (jq sw)) sg wv hr gr dt x y ripe then 1 else 0))), (jX f g (jup (jup n2 0 nm') 1 st') p pa s sa sw rp t, z)) ∧
      ∀ i, i < 7 → nm' i = jnm sg (jdist (p (jq sw) 1) x y) wv hr gr ripe dt i := by
  have hnz := hPl.nz
  obtain ⟨-, -, -, h1, -, -, -, -, ⟨n, hn, hwf⟩, -, -⟩ := hPl
  have hnlt : n < 2147483648 := by have := hwf.1; omega
  have hnm' : ∀ i, i < 7 → jup (jup (n2 0) 1 (jdist (p (jq sw) 1) x y).toInt64) 5 ripe.toInt64 i = jnm sg (jdist (p (jq sw) 1) x y) wv hr gr ripe dt i := by
    refine jnm_of ?_ ?_ ?_ ?_ ?_ ?_ ?_
    · simp [jup]; exact hnm 0 (by omega)
    · simp [jup]
    · simp [jup]; exact hnm 2 (by omega)
    · simp [jup]; exact hnm 3 (by omega)
    · simp [jup]; exact hnm 4 (by omega)
    · simp [jup]
    · simp [jup]; exact hnm 6 (by omega)
  obtain ⟨s', hw⟩ := S_w_worth0 (D := D) (w := sw) (n := n) (f := f) (g := g) (n2 := jup n2 0 (jup (jup (n2 0) 1 (jdist (p (jq sw) 1) x y).toInt64) 5 ripe.toInt64)) (p := p) (pa := pa) (s := s) (sa := sa) (sw := sw) (rp := rp) (t := t) (z := z) hn hwf
  rw [jup_same, jlaw_congr hwf hnm'] at hw
  refine ⟨jup (jup (n2 0) 1 (jdist (p (jq sw) 1) x y).toInt64) 5 ripe.toInt64, s', ?_, hnm'⟩
  have h0 : (jup (jup n2 0 (jup (jup (n2 0) 1 (jdist (p (jq sw) 1) x y).toInt64) 5 ripe.toInt64)) 1 s') 0 0 = sg.toInt64 := by
    simp [jup]; exact hnm 0 (by omega)
  simp only [E_h_looks, E_h_looks_5, E_h_looks_28, jbO_some, jbO_none, jbO_ite, jk_some, jk_none, S_p_distance h1 hnz, hw, h0, lg_cmp_eq, lg_cmp_gt, jlt64]
  unfold csee
  rw [hn, jclamp hnlt]
  cases hl : jlaw n (pa (jq sw) 8) (pa (jq sw) 9) (jnm sg (jdist (p (jq sw) 1) x y) wv hr gr ripe dt) with
  | some v =>
    have hv : ¬ v = -9223372036854775808 := jlaw_ne hwf jnm_ne hl
    simp only [Option.getD_some]
    rw [if_neg hv]
    by_cases hv0 : v = 0 <;> simp [hv0]
  | none =>
    simp only [Option.getD_none]
    rw [if_pos (show jerr = -9223372036854775808 from rfl)]
    by_cases hd : sg < jdist (p (jq sw) 1) x y <;> simp [hd]
/-- the cells that a scare sees -/
def csees (tf q : Nat → Int32) (qa : Nat → Nat → Int32) (a : Nat → Int32) (aa : Nat → Nat → Int32) (wv : Int32) (i : Nat) (c : Nat) : Bool :=
  csee q qa (qa 3 i + tf 18) wv (a 1) (aa 3 i) (a 0) (qa 2 i) (Int32.ofNat c) (aa 0 c)
theorem jup0101 {α : Type} {f : Nat → α} {a b c d : α} : jup (jup (jup (jup f 0 a) 1 b) 0 c) 1 d = jup (jup f 0 c) 1 d := by
  funext k
  by_cases h1 : k = 1
  · subst h1; simp [jup]
  · by_cases h0 : k = 0
    · subst h0; simp [jup]
    · simp [jup, h0, h1]
theorem jup010 {α : Type} {f : Nat → α} {a b c : α} : jup (jup (jup f 0 a) 1 b) 0 c = jup (jup f 0 c) 1 b := by
  funext k
  by_cases h1 : k = 1
  · subst h1; simp [jup]
  · by_cases h0 : k = 0
    · subst h0; simp [jup]
    · simp [jup, h0, h1]
set_option maxHeartbeats 4000000 in
theorem S_h_seenBy0 {D j i : Nat} {C Sc : Nat} {f : Nat → Int32} {g : Nat → Nat → Int32} {n2 : Nat → Nat → Int64} {p : Nat → Nat → Int32} {pa : Nat → Nat → Nat → Int32} {s : Nat → Nat → Int32} {sa : Nat → Nat → Nat → Int32} {sw : Bool} {rp : Value} {t : List jE} {z : Nat × Nat × Nat × (Nat → Int32)} (hj : j < 3) (hi : i < Sc) (hPl : jPl (p (jq sw)) (pa (jq sw)) C Sc) (hm : f 15 < 0) :
    ∃ nm' st', K_h_seenBy D j (Int32.ofNat i) f g n2 p pa s sa sw rp t z = some (.inl (some (.int (jset (csees f (p (jq sw)) (pa (jq sw)) (s j) (sa j) (cwnd f (g 2) (p (jq sw)) (pa (jq sw)) (s j 0)) i) C))), (jX f g (jup (jup n2 0 nm') 1 st') p pa s sa sw rp t, z)) := by
  have hPl2 := hPl
  obtain ⟨hC, hC30, hC1, h1, hS, hS6, -, hat, ⟨n, hn, hwf⟩, -, -⟩ := hPl
  obtain ⟨nm0, hst, hnm0⟩ := S_h_stand (D := D) (u := pa (jq sw) 3 i + f 18) (v := sa j 3 i) (f := f) (g := g) (n2 := n2) (p := p) (pa := pa) (s := s) (sa := sa) (sw := sw) (rp := rp) (t := t) (z := z) hj hPl2
  have hi6 : i < 6 := by omega
  simp (disch := omega) only [E_h_seenBy, E_h_seenBy_5, E_h_seenBy_10, E_h_seenBy_23, E_h_sightOf, jbO_some, jbO_none, jbO_ite, jk_some, jk_none, jout_f, jclamp, if_false, hst]
  rw [if_pos hm]
  generalize hP : csees f (p (jq sw)) (pa (jq sw)) (s j) (sa j) (cwnd f (g 2) (p (jq sw)) (pa (jq sw)) (s j 0)) i = P
  have key : ∀ k, k ≤ C → ∃ nm st ff rr d6 d7 d8, K_h_seenBy_28 D j (Int32.ofNat i) (-1) 0 0 none none none f g (jup n2 0 nm0) p pa s sa sw rp t z = K_h_seenBy_28 D j (Int32.ofNat i) (-1) (jset P k) (Int32.ofNat k) d6 d7 d8 f g (jup (jup n2 0 nm) 1 st) p pa s sa sw rp t z ∧
      ∀ x, x < 7 → nm x = jnm (pa (jq sw) 3 i + f 18) ff (cwnd f (g 2) (p (jq sw)) (pa (jq sw)) (s j 0)) (s j 1) (sa j 3 i) rr (s j 0) x := by
    intro k
    induction k with
    | zero =>
      intro _
      refine ⟨nm0, (jup n2 0 nm0) 1, _, _, none, none, none, ?_, hnm0⟩
      rw [jup_self]; rfl
    | succ k ih =>
      intro hk
      obtain ⟨nm, st, ff, rr, d6, d7, d8, he, hnm⟩ := ih (by omega)
      obtain ⟨nm', st', hl, hnm'⟩ := S_h_looks (D := D) (x := pa (jq sw) 2 i) (y := Int32.ofNat k) (ripe := sa j 0 k) (f := f) (g := g) (n2 := jup (jup n2 0 nm) 1 st) (p := p) (pa := pa) (s := s) (sa := sa) (sw := sw) (rp := rp) (t := t) (z := z) hPl2 (by intro x hx; rw [jup_ne (by omega), jup_same]; exact hnm x hx)
      have hPk : P k = csee (p (jq sw)) (pa (jq sw)) (pa (jq sw) 3 i + f 18) (cwnd f (g 2) (p (jq sw)) (pa (jq sw)) (s j 0)) (s j 1) (sa j 3 i) (s j 0) (pa (jq sw) 2 i) (Int32.ofNat k) (sa j 0 k) := by rw [← hP]; rfl
      rw [he, L_h_seenBy_28 hj]
      have hlt : Int32.ofNat k < Int32.ofNat C := by rw [jltn (by omega) (by omega)]; omega
      simp +decide (disch := omega) only [E_p_cells, jbO_some, jbO_none, jbO_ite, jk_some, jk_none, hC, E_h_seenBy_32, E_h_seenBy_47, E_h_seenBy_48, E_h_seenBy_75, E_h_seenBy_84, E_h_seenBy_102, E_h_seenBy_110, hlt, if_true, jout_f, jclamp, if_false, hl, jup0101, jsucc, jb10]
      rw [← hPk]
      by_cases hp : P k = true
      · have hj1 : jset P (k + 1) = jset P k ||| (1 <<< (Int32.ofNat k &&& 31)) := by rw [jset, if_pos hp]
        rw [if_neg (by simp [hp]), hj1]
        exact ⟨_, _, _, _, _, _, _, rfl, hnm'⟩
      · have hj1 : jset P (k + 1) = jset P k := by rw [jset, if_neg hp]
        rw [if_pos hp, hj1]
        exact ⟨_, _, _, _, _, _, _, rfl, hnm'⟩
  obtain ⟨nm, st, ff, rr, d6, d7, d8, he, hnm⟩ := key C (Nat.le_refl C)
  refine ⟨nm, st, ?_⟩
  rw [he, L_h_seenBy_28 hj]
  have hlt : ¬ Int32.ofNat C < Int32.ofNat C := by rw [jltn (by omega) (by omega)]; omega
  simp (disch := omega) only [E_p_cells, jbO_some, jbO_none, jbO_ite, jk_some, jk_none, hC, E_h_seenBy_32, hlt, if_false]
/-- a kept entry: of an hour's row, a scare, a cell, a crop -/
def jent (tf q : Nat → Int32) (qa : Nat → Nat → Int32) (a : Nat → Int32) (aa : Nat → Nat → Int32) (wv : Int32) (C Sc row : Nat) (idx : Nat) (v : Int32) : Prop :=
  ∃ i c r, i < Sc ∧ c < C ∧ r < 100 ∧ idx = (row * 6 + i) * 30 + c ∧ v = Int32.ofNat (r * 2 + (if csee q qa (qa 3 i + tf 18) wv (a 1) (aa 3 i) (a 0) (qa 2 i) (Int32.ofNat c) (Int32.ofNat r) then 1 else 0))
/-- what is kept is right -/
def jmemO (tf q : Nat → Int32) (qa : Nat → Nat → Int32) (a : Nat → Int32) (aa : Nat → Nat → Int32) (wv : Int32) (C Sc : Nat) (m : Nat → Int32) : Prop :=
  tf 15 < 0 ∨ ∃ row, row < 36 ∧ tf 15 = Int32.ofNat row ∧ (∀ c, c < C → ∃ r, r < 100 ∧ aa 0 c = Int32.ofNat r) ∧ ∀ i, i < Sc → ∀ c, c < C → m ((row * 6 + i) * 30 + c) = -1 ∨ jent tf q qa a aa wv C Sc row ((row * 6 + i) * 30 + c) (m ((row * 6 + i) * 30 + c))
def jmemR (tf q : Nat → Int32) (qa : Nat → Nat → Int32) (a : Nat → Int32) (aa : Nat → Nat → Int32) (wv : Int32) (C Sc : Nat) (m m' : Nat → Int32) : Prop :=
  ∀ idx, m' idx = m idx ∨ ∃ row, row < 36 ∧ tf 15 = Int32.ofNat row ∧ jent tf q qa a aa wv C Sc row idx (m' idx)
theorem jmemR.rf {tf q a : Nat → Int32} {qa aa : Nat → Nat → Int32} {wv : Int32} {C Sc : Nat} {m : Nat → Int32} : jmemR tf q qa a aa wv C Sc m m := fun _ => Or.inl rfl
theorem jmemR.tr {tf q a : Nat → Int32} {qa aa : Nat → Nat → Int32} {wv : Int32} {C Sc : Nat} {m m' m'' : Nat → Int32} (h1 : jmemR tf q qa a aa wv C Sc m m') (h2 : jmemR tf q qa a aa wv C Sc m' m'') : jmemR tf q qa a aa wv C Sc m m'' := by
  intro idx
  rcases h2 idx with h | h
  · rw [h]; exact h1 idx
  · exact Or.inr h
theorem jmemO.step {tf q a : Nat → Int32} {qa aa : Nat → Nat → Int32} {wv : Int32} {C Sc : Nat} {m m' : Nat → Int32} (h1 : jmemO tf q qa a aa wv C Sc m) (h2 : jmemR tf q qa a aa wv C Sc m m') : jmemO tf q qa a aa wv C Sc m' := by
  rcases h1 with h | ⟨row, hr, hf, hc, hm⟩
  · exact Or.inl h
  · refine Or.inr ⟨row, hr, hf, hc, fun i hi c hcc => ?_⟩
    rcases h2 ((row * 6 + i) * 30 + c) with h | ⟨row2, hr2, hf2, h⟩
    · rw [h]; exact hm i hi c hcc
    · have : row = row2 := by
        have e := hf.symm.trans hf2
        rwa [jeqn (by omega) (by omega)] at e
      subst this
      exact Or.inr h
theorem jhalf : ∀ r, r < 100 → ∀ b : Bool, (Int32.ofNat (r * 2 + (if b then 1 else 0)) >>> ((1 : Int32) &&& 31) = Int32.ofNat r) ∧ (Int32.ofNat (r * 2 + (if b then 1 else 0)) &&& 1) = (if b then 1 else 0) := by decide +kernel
theorem jm1half : ((-1 : Int32) >>> ((1 : Int32) &&& 31)) = -1 := by decide +kernel
set_option maxHeartbeats 8000000 in
theorem S_h_seenBy {D j i : Nat} {C Sc : Nat} {f : Nat → Int32} {g : Nat → Nat → Int32} {n2 : Nat → Nat → Int64} {p : Nat → Nat → Int32} {pa : Nat → Nat → Nat → Int32} {s : Nat → Nat → Int32} {sa : Nat → Nat → Nat → Int32} {sw : Bool} {rp : Value} {t : List jE} {z : Nat × Nat × Nat × (Nat → Int32)} (hj : j < 3) (hi : i < Sc) (hPl : jPl (p (jq sw)) (pa (jq sw)) C Sc) (hM : jmemO f (p (jq sw)) (pa (jq sw)) (s j) (sa j) (cwnd f (g 2) (p (jq sw)) (pa (jq sw)) (s j 0)) C Sc (g 3)) :
    ∃ nm' st' m', K_h_seenBy D j (Int32.ofNat i) f g n2 p pa s sa sw rp t z = some (.inl (some (.int (jset (csees f (p (jq sw)) (pa (jq sw)) (s j) (sa j) (cwnd f (g 2) (p (jq sw)) (pa (jq sw)) (s j 0)) i) C))), (jX f (jup g 3 m') (jup (jup n2 0 nm') 1 st') p pa s sa sw rp t, z)) ∧
      jmemR f (p (jq sw)) (pa (jq sw)) (s j) (sa j) (cwnd f (g 2) (p (jq sw)) (pa (jq sw)) (s j 0)) C Sc (g 3) m' := by
  rcases hM with hm | ⟨row, hrow, hf15, hcr, hmm⟩
  · obtain ⟨nm', st', h⟩ := S_h_seenBy0 (D := D) (i := i) (f := f) (g := g) (n2 := n2) (p := p) (pa := pa) (s := s) (sa := sa) (sw := sw) (rp := rp) (t := t) (z := z) hj hi hPl hm
    refine ⟨nm', st', g 3, ?_, jmemR.rf⟩
    rw [jup_self]; exact h
  have hPl2 := hPl
  obtain ⟨hC, hC30, hC1, h1, hS, hS6, -, hat, ⟨n, hn, hwf⟩, -, -⟩ := hPl
  obtain ⟨nm0, hst, hnm0⟩ := S_h_stand (D := D) (u := pa (jq sw) 3 i + f 18) (v := sa j 3 i) (f := f) (g := g) (n2 := n2) (p := p) (pa := pa) (s := s) (sa := sa) (sw := sw) (rp := rp) (t := t) (z := z) hj hPl2
  have hi6 : i < 6 := by omega
  have hR : ((Int32.ofNat row * 6) + Int32.ofNat i) * 30 = Int32.ofNat ((row * 6 + i) * 30) := by
    rw [jofmull, jofadd, jofmull]
  simp (disch := omega) only [E_h_seenBy, E_h_seenBy_5, E_h_seenBy_10, E_h_seenBy_23, E_h_sightOf, jbO_some, jbO_none, jbO_ite, jk_some, jk_none, jout_f, jclamp, if_false, hst, hf15, jneg_f, hR]
  generalize hP : csees f (p (jq sw)) (pa (jq sw)) (s j) (sa j) (cwnd f (g 2) (p (jq sw)) (pa (jq sw)) (s j 0)) i = P
  generalize hW : cwnd f (g 2) (p (jq sw)) (pa (jq sw)) (s j 0) = wv at hmm hnm0 hP ⊢
  have key : ∀ k, k ≤ C → ∃ nm st m' ff rr d6 d7 d8, K_h_seenBy_28 D j (Int32.ofNat i) (Int32.ofNat ((row * 6 + i) * 30)) 0 0 none none none f g (jup n2 0 nm0) p pa s sa sw rp t z = K_h_seenBy_28 D j (Int32.ofNat i) (Int32.ofNat ((row * 6 + i) * 30)) (jset P k) (Int32.ofNat k) d6 d7 d8 f (jup g 3 m') (jup (jup n2 0 nm) 1 st) p pa s sa sw rp t z ∧
      (∀ x, x < 7 → nm x = jnm (pa (jq sw) 3 i + f 18) ff wv (s j 1) (sa j 3 i) rr (s j 0) x) ∧ jmemR f (p (jq sw)) (pa (jq sw)) (s j) (sa j) wv C Sc (g 3) m' := by
    intro k
    induction k with
    | zero =>
      intro _
      refine ⟨nm0, (jup n2 0 nm0) 1, g 3, _, _, none, none, none, ?_, hnm0, jmemR.rf⟩
      rw [jup_self, jup_self]; rfl
    | succ k ih =>
      intro hk
      obtain ⟨nm, st, m', ff, rr, d6, d7, d8, he, hnm, hmr⟩ := ih (by omega)
      obtain ⟨nm', st', hl, hnm'⟩ := S_h_looks (D := D) (x := pa (jq sw) 2 i) (y := Int32.ofNat k) (ripe := sa j 0 k) (f := f) (g := jup g 3 m') (n2 := jup (jup n2 0 nm) 1 st) (p := p) (pa := pa) (s := s) (sa := sa) (sw := sw) (rp := rp) (t := t) (z := z) hPl2 (by intro x hx; rw [jup_ne (by omega), jup_same]; exact hnm x hx)
      have hPk : P k = csee (p (jq sw)) (pa (jq sw)) (pa (jq sw) 3 i + f 18) wv (s j 1) (sa j 3 i) (s j 0) (pa (jq sw) 2 i) (Int32.ofNat k) (sa j 0 k) := by rw [← hP]; rfl
      have hidx : (row * 6 + i) * 30 + k < 6480 := by omega
      obtain ⟨r0, hr0, hcr0⟩ := hcr k (by omega)
      have hent : m' ((row * 6 + i) * 30 + k) = -1 ∨ jent f (p (jq sw)) (pa (jq sw)) (s j) (sa j) wv C Sc row ((row * 6 + i) * 30 + k) (m' ((row * 6 + i) * 30 + k)) := by
        rcases hmr ((row * 6 + i) * 30 + k) with h | ⟨row2, hr2, hf2, h⟩
        · rw [h]; exact hmm i hi k (by omega)
        · have : row = row2 := by
            have e := hf15.symm.trans hf2
            rwa [jeqn (by omega) (by omega)] at e
          subst this
          exact Or.inr h
      have hlt : Int32.ofNat k < Int32.ofNat C := by rw [jltn (by omega) (by omega)]; omega
      have hlt2 : Int32.ofNat ((row * 6 + i) * 30 + k) < 6480 := by rw [jltl (by omega) (by decide)]; omega
      rw [← hPk] at hl
      have hjs : jset P (k + 1) = if P k then jset P k ||| (1 <<< (Int32.ofNat k &&& 31)) else jset P k := rfl
      have h75 : ∀ d8, ∃ d6' d7' d8', K_h_seenBy_75 D j (Int32.ofNat i) (Int32.ofNat ((row * 6 + i) * 30)) (jset P k) (Int32.ofNat k) (Int32.ofNat r0) 1 d8 f (jup g 3 m') (jup (jup n2 0 nm) 1 st) p pa s sa sw rp t z = K_h_seenBy_28 D j (Int32.ofNat i) (Int32.ofNat ((row * 6 + i) * 30)) (jset P (k + 1)) (Int32.ofNat (k + 1)) d6' d7' d8' f (jup g 3 (jup m' ((row * 6 + i) * 30 + k) (Int32.ofNat (r0 * 2 + if P k then 1 else 0)))) (jup (jup n2 0 nm') 1 st') p pa s sa sw rp t z := by
        intro d8
        rw [hcr0] at hl
        by_cases hp : P k = true
        · simp only [hp, if_true] at hl hjs ⊢
          simp +decide (disch := omega) only [E_h_seenBy_75, hl, jbO_some, jbO_none, jbO_ite, jk_some, jk_none, E_h_seenBy_84, E_h_seenBy_100, E_h_seenBy_102, E_h_seenBy_110, if_true, if_false, jout_f, jclamp, jofmull, jofadd, jsucc, jup_same, jup_jup, jup0101, hjs]
          exact ⟨_, _, _, rfl⟩
        · simp only [hp, if_false] at hl hjs ⊢
          simp +decide (disch := omega) only [E_h_seenBy_75, hl, jbO_some, jbO_none, jbO_ite, jk_some, jk_none, E_h_seenBy_84, E_h_seenBy_100, E_h_seenBy_102, E_h_seenBy_110, if_true, if_false, jout_f, jclamp, jofmull, jofadd, jofaddl, jsucc, jup_same, jup_jup, jup0101, hjs]
          exact ⟨_, _, _, rfl⟩
      have hmr' : jmemR f (p (jq sw)) (pa (jq sw)) (s j) (sa j) wv C Sc (g 3) (jup m' ((row * 6 + i) * 30 + k) (Int32.ofNat (r0 * 2 + if P k then 1 else 0))) := by
        refine hmr.tr fun idx => ?_
        by_cases hx : idx = (row * 6 + i) * 30 + k
        · subst hx
          refine Or.inr ⟨row, hrow, hf15, i, k, r0, hi, by omega, hr0, rfl, ?_⟩
          rw [jup_same, hPk, hcr0]
        · rw [jup_ne hx]; exact Or.inl rfl
      rw [he, L_h_seenBy_28 hj]
      have h10 : ¬ (1 : Int32) = 0 := by decide
      rcases hent with hm1 | ⟨i2, c2, r, hi2, hc2, hr, hix, hv⟩
      · have hne : ¬ (-1 : Int32) = Int32.ofNat r0 := fun e => by
          have := jnot_one (a := r0) (by omega)
          exact this.mp e.symm
        obtain ⟨d6', d7', d8', h75⟩ := h75 d8
        simp (disch := omega) only [E_p_cells, jbO_some, jbO_none, jbO_ite, jk_some, jk_none, hC, E_h_seenBy_32, E_h_seenBy_48, hlt, hlt2, if_true, jout_f, jclamp, if_false, jofadd, jneg_f, hcr0, h10, jup_same, hm1, jm1half, hne, h75]
        exact ⟨_, _, _, _, _, _, _, _, rfl, hnm', hmr'⟩
      · have e1 : i2 = i := by omega
        have e2 : c2 = k := by omega
        subst e1; subst e2
        generalize hb : csee (p (jq sw)) (pa (jq sw)) (pa (jq sw) 3 i2 + f 18) wv (s j 1) (sa j 3 i2) (s j 0) (pa (jq sw) 2 i2) (Int32.ofNat c2) (Int32.ofNat r) = bb at hv
        obtain ⟨hh1, hh2⟩ := jhalf r hr bb
        by_cases hrr : r = r0
        · subst hrr
          have hPb : P c2 = bb := by rw [hPk, hcr0]; exact hb
          simp (disch := omega) only [E_p_cells, jbO_some, jbO_none, jbO_ite, jk_some, jk_none, hC, E_h_seenBy_32, E_h_seenBy_48, hlt, hlt2, if_true, jout_f, jclamp, if_false, jofadd, jneg_f, hcr0, h10, jup_same, hv, hh1, hh2]
          rw [hPb] at hjs
          cases bb with
          | true =>
            simp only [if_true] at hjs
            simp +decide only [if_true, if_false, E_h_seenBy_73 hj, E_h_seenBy_102 hj, E_h_seenBy_110 hj, jsucc, hjs]
            exact ⟨_, _, _, _, _, _, _, _, rfl, hnm, hmr⟩
          | false =>
            simp +decide only [if_true, if_false, E_h_seenBy_73 hj, E_h_seenBy_102 hj, E_h_seenBy_110 hj, jsucc, hjs]
            exact ⟨_, _, _, _, _, _, _, _, rfl, hnm, hmr⟩
        · have hne : ¬ Int32.ofNat r = Int32.ofNat r0 := by rw [jeqn (by omega) (by omega)]; exact hrr
          obtain ⟨d6', d7', d8', h75⟩ := h75 d8
          simp (disch := omega) only [E_p_cells, jbO_some, jbO_none, jbO_ite, jk_some, jk_none, hC, E_h_seenBy_32, E_h_seenBy_48, hlt, hlt2, if_true, jout_f, jclamp, if_false, jofadd, jneg_f, hcr0, h10, jup_same, hv, hh1, hne, h75]
          exact ⟨_, _, _, _, _, _, _, _, rfl, hnm', hmr'⟩
  obtain ⟨nm, st, m', ff, rr, d6, d7, d8, he, hnm, hmr⟩ := key C (Nat.le_refl C)
  refine ⟨nm, st, m', ?_, hmr⟩
  rw [he, L_h_seenBy_28 hj]
  have hlt : ¬ Int32.ofNat C < Int32.ofNat C := by rw [jltn (by omega) (by omega)]; omega
  simp (disch := omega) only [E_p_cells, jbO_some, jbO_none, jbO_ite, jk_some, jk_none, hC, E_h_seenBy_32, hlt, if_false]
