-- CALL BY CALL: law
theorem S_h_seeWorth {D j i c : Nat} {C Sc : Nat} {f : Nat → Int32} {g : Nat → Nat → Int32} {n2 : Nat → Nat → Int64} {p : Nat → Nat → Int32} {pa : Nat → Nat → Nat → Int32} {s : Nat → Nat → Int32} {sa : Nat → Nat → Nat → Int32} {sw : Bool} {rp : Value} {t : List jE} {z : Nat × Nat × Nat × (Nat → Int32)} (hj : j < 3) (hi : i < Sc) (hc : c < 30) (hPl : jPl (p (jq sw)) (pa (jq sw)) C Sc) :
    ∃ nm' st', K_h_seeWorth D j (Int32.ofNat i) (Int32.ofNat c) f g n2 p pa s sa sw rp t z = some (.inl (some (.long ((cseel f (p (jq sw)) (pa (jq sw)) (s j) (sa j) (cwnd f (g 2) (p (jq sw)) (pa (jq sw)) (s j 0)) i c).getD jerr))), (jX f g (jup (jup n2 0 nm') 1 st') p pa s sa sw rp t, z)) := by
  obtain ⟨nm0, hst, hnm0⟩ := S_h_stand (D := D) (u := pa (jq sw) 3 i + f 18) (v := sa j 3 i) (f := f) (g := g) (n2 := n2) (p := p) (pa := pa) (s := s) (sa := sa) (sw := sw) (rp := rp) (t := t) (z := z) hj hPl
  have hnz := hPl.nz
  obtain ⟨-, -, -, h1, -, hS6, -, -, ⟨n, hn, hwf⟩, -, -⟩ := hPl
  have hi6 : i < 6 := by omega
  have hnlt : n < 2147483648 := by have := hwf.1; omega
  have hnm' : ∀ x, x < 7 → jup (jup nm0 1 (jdist (p (jq sw) 1) (pa (jq sw) 2 i) (Int32.ofNat c)).toInt64) 5 (sa j 0 c).toInt64 x = jnm (pa (jq sw) 3 i + f 18) (jdist (p (jq sw) 1) (pa (jq sw) 2 i) (Int32.ofNat c)) (cwnd f (g 2) (p (jq sw)) (pa (jq sw)) (s j 0)) (s j 1) (sa j 3 i) (sa j 0 c) (s j 0) x := by
    refine jnm_of ?_ ?_ ?_ ?_ ?_ ?_ ?_
    · rw [jup_ne (by omega), jup_ne (by omega)]; exact hnm0 0 (by omega)
    · rw [jup_ne (by omega), jup_same]
    · rw [jup_ne (by omega), jup_ne (by omega)]; exact hnm0 2 (by omega)
    · rw [jup_ne (by omega), jup_ne (by omega)]; exact hnm0 3 (by omega)
    · rw [jup_ne (by omega), jup_ne (by omega)]; exact hnm0 4 (by omega)
    · rw [jup_same]
    · rw [jup_ne (by omega), jup_ne (by omega)]; exact hnm0 6 (by omega)
  obtain ⟨s', hw⟩ := S_w_worth0 (D := D) (w := sw) (n := n) (f := f) (g := g) (n2 := jup n2 0 (jup (jup nm0 1 (jdist (p (jq sw) 1) (pa (jq sw) 2 i) (Int32.ofNat c)).toInt64) 5 (sa j 0 c).toInt64)) (p := p) (pa := pa) (s := s) (sa := sa) (sw := sw) (rp := rp) (t := t) (z := z) hn hwf
  rw [jup_same, jlaw_congr hwf hnm'] at hw
  refine ⟨jup (jup nm0 1 (jdist (p (jq sw) 1) (pa (jq sw) 2 i) (Int32.ofNat c)).toInt64) 5 (sa j 0 c).toInt64, s', ?_⟩
  have h1' : jout (1 : Int32) 7 = False := jout_f (k := 1) (by omega) (by omega)
  have h5' : jout (5 : Int32) 7 = False := jout_f (k := 5) (by omega) (by omega)
  simp (disch := omega) only [E_h_seeWorth, E_h_seeWorth_5, E_h_seeWorth_10, E_h_seeWorth_22, E_h_seeWorth_32, E_h_seeWorth_43, E_h_sightOf, jbO_some, jbO_none, jbO_ite, jk_some, jk_none, hst, S_p_distance h1 hnz, jup_same, jup_jup, jout_f, h1', h5', jclamp, if_false, cseel, hn]
  rw [show (1 : Int32).toNatClampNeg = 1 from rfl, show (5 : Int32).toNatClampNeg = 5 from rfl, hw]
  simp (disch := omega) only [jbO_some, jbO_none, jbO_ite, jk_some, jk_none, E_h_seeWorth_43, jclamp]
theorem M_hasLaw {D r n0 : Nat} {kd vl : Nat → Int32} {cx : jCX} {f : Nat → Int32} {g : Nat → Nat → Int32} {n : Nat → Nat → Int64} {b : Nat → Nat → Int32} {l : Nat → Int64} {t : List jE} {z : Nat × Nat × Nat × (Nat → Int32)} (hr : r < 3) (hL : rLaw n0 kd vl g r) : K_m_hasLaw D (Int32.ofNat r) cx f g n b l t z = some (.inl (some (.int (if n0 = 0 then 0 else 1))), (jXt cx (jY f g n b l t), z)) := by
  obtain ⟨a, ha, hb, ham, htr⟩ := hL
  rw [E_m_hasLaw]
  simp (disch := omega) only [jout_f, jclamp, if_false, ha, hb]
  by_cases h0 : n0 = 0
  · rw [if_pos h0, if_neg (jlt_n (by omega) (by omega))]
  · rw [if_neg h0, if_pos (jlt_t (by omega) (by omega))]
theorem M_lawr {D r n0 : Nat} {kd vl : Nat → Int32} {cx : jCX} {f : Nat → Int32} {g : Nat → Nat → Int32} {n : Nat → Nat → Int64} {b : Nat → Nat → Int32} {l : Nat → Int64} {t : List jE} {z : Nat × Nat × Nat × (Nat → Int32)} (hr : r < 3) (hL : rLaw n0 kd vl g r) (hwf : jwf n0 kd vl) (h0 : ¬ n0 = 0) :
    ∃ x n1, K_m_goes D (Int32.ofNat r) cx f g n b l t z = some (.inl (some (.int (if (jlaw n0 kd vl (n 0)).isSome then 1 else 0))), (jXt cx (jY (jup f 15 x) g (jup n 1 n1) b l t), z)) ∧ ∀ v, jlaw n0 kd vl (n 0) = some v → n1 0 = v := by
  obtain ⟨b0, hh, -, hb1⟩ := M_lawgo (D := D) (cx := cx) (f := f) (g := g) (n := n) (b := b) (l := l) (t := t) (z := z) hr hL hwf
  have h2 := M_hasLaw (D := D) (cx := cx) (f := f) (g := g) (n := n) (b := b) (l := l) (t := t) (z := z) hr hL
  rw [hh, if_neg h0] at h2
  have : b0 = 1 := by injection h2 with h2; injection h2 with h2; injection h2 with h2; injection h2 with h2; injection h2
  exact hb1 (by rw [this]; decide)
