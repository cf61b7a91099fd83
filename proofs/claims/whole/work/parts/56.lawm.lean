-- THE REFERENCE's LAW: works, goes, hasLaw
/-- the reference's name of a sign with two sides -/
def jtb (kd mv : Int32) : Prop := (kd = 3 ∧ mv = 262) ∨ (kd = 4 ∧ mv = 261) ∨ (kd = 5 ∧ mv = 60) ∨ (kd = 6 ∧ mv = 256) ∨ (kd = 7 ∧ mv = 61) ∨ (kd = 8 ∧ mv = 257) ∨ (kd = 9 ∧ mv = 62) ∨ (kd = 10 ∧ mv = 258) ∨ (kd = 11 ∧ mv = 43) ∨ (kd = 12 ∧ mv = 45) ∨ (kd = 13 ∧ mv = 42) ∨ (kd = 14 ∧ mv = 47)
/-- the reference's name of a thing of a law -/
def jtr (kd vl ms mv : Int32) : Prop := (kd = 0 ∧ ms = 0 ∧ mv = vl) ∨ (kd = 1 ∧ ms = 1 ∧ mv = vl) ∨ (kd = 2 ∧ ms = 2 ∧ mv = 260) ∨ (ms = 2 ∧ jtb kd mv)
theorem jtb_ne {kd mv : Int32} (h : jtb kd mv) : ¬ kd = 0 ∧ ¬ kd = 1 ∧ ¬ kd = 2 := by
  rcases h with ⟨rfl, rfl⟩ | ⟨rfl, rfl⟩ | ⟨rfl, rfl⟩ | ⟨rfl, rfl⟩ | ⟨rfl, rfl⟩ | ⟨rfl, rfl⟩ | ⟨rfl, rfl⟩ | ⟨rfl, rfl⟩ | ⟨rfl, rfl⟩ | ⟨rfl, rfl⟩ | ⟨rfl, rfl⟩ | ⟨rfl, rfl⟩ <;> decide
theorem jlab_i {x : Int64} : (if 0 < x then x else -x) = jlab x := rfl
theorem jerr_lt : jerr < -1000000000000 := by decide
theorem jerr_nlt : ¬ 1000000000000 < jerr := by decide
set_option maxHeartbeats 8000000 in
theorem S_m_works2 {D : Nat} {kd mv : Int32} {x y : Int64} {q : List Int64} {cx : jCX} {f : Nat → Int32} {g : Nat → Nat → Int32} {n : Nat → Nat → Int64} {b : Nat → Nat → Int32} {l : Nat → Int64} {t : List jE} {z : Nat × Nat × Nat × (Nat → Int32)} (hk : jtb kd mv)
    (hf : f 15 = Int32.ofNat (q.length + 2)) (hq : q.length + 2 ≤ 64) (h1 : n 1 (q.length + 1) = y) (h2 : n 1 q.length = x) :
    ∃ n1, K_m_works D mv cx f g n b l t z = some (.inl (some (.int (if 1000000000000 < jjoin kd x y then 0 else if jjoin kd x y < -1000000000000 then 0 else 1))), (jXt cx (jY (jup f 15 (Int32.ofNat (q.length + 1))) g (jup n 1 n1) b l t), z)) ∧
      (¬ 1000000000000 < jjoin kd x y → ¬ jjoin kd x y < -1000000000000 → n1 = jup (n 1) q.length (jjoin kd x y)) := by
  have e1 : Int32.ofNat (q.length + 2) - 1 = Int32.ofNat (q.length + 1) := by rw [show q.length + 2 = (q.length + 1) + 1 from rfl, ← jsucc (k := q.length + 1)]; simp
  have e4 : Int32.ofNat (q.length + 1) - 1 = Int32.ofNat q.length := by rw [← jsucc (k := q.length)]; simp
  have e5 : Int32.ofNat (q.length + 2) - 2 = Int32.ofNat q.length := by
    rw [Int32.ofNat_add, show (2 : Int32) = Int32.ofNat 2 from rfl]; simp
  rcases hk with ⟨rfl, rfl⟩ | ⟨rfl, rfl⟩ | ⟨rfl, rfl⟩ | ⟨rfl, rfl⟩ | ⟨rfl, rfl⟩ | ⟨rfl, rfl⟩ | ⟨rfl, rfl⟩ | ⟨rfl, rfl⟩ | ⟨rfl, rfl⟩ | ⟨rfl, rfl⟩ | ⟨rfl, rfl⟩ | ⟨rfl, rfl⟩
  case inr.inr.inr.inr.inr.inr.inr.inr.inr.inr.inl =>
    by_cases hx : x = 0
    · refine ⟨jup (n 1) q.length (jjoin 13 x y), ?_, fun _ _ => rfl⟩
      simp +decide (disch := omega) only [E_m_works, E_m_works_24, E_m_works_68, E_m_works_171, E_m_works_91, E_m_works_111, E_m_works_101, E_m_works_121, E_m_works_141, E_m_works_131, E_m_works_154, E_m_works_155, E_m_works_169, E_m_works_166, E_m_works_25, E_m_works_178, E_m_works_92, E_m_works_112, E_m_works_102, E_m_works_122, E_m_works_142, E_m_works_132, E_m_works_156, E_m_works_170, E_m_is, jbO_some, jbO_none, jbO_ite, jk_some, jk_none, hf, e1, e4, e5, h1, h2, jjoin, lg_cmp_eq, lg_cmp_gt, lg_cmp_lt, jout_f, jclamp, jup_same, jup_jup, jlab_i, hx, if_true, if_false]
      repeat' split
      all_goals first | rfl | simp_all
    · have hx2 := jlab_0 hx
      by_cases hb : 1000000000000 / jlab x < jlab y
      · refine ⟨n 1, ?_, fun g1 g2 => ?_⟩
        · rw [jup_self]
          simp +decide (disch := omega) only [E_m_works, E_m_works_24, E_m_works_68, E_m_works_171, E_m_works_91, E_m_works_111, E_m_works_101, E_m_works_121, E_m_works_141, E_m_works_131, E_m_works_154, E_m_works_155, E_m_works_169, E_m_works_166, E_m_works_25, E_m_works_178, E_m_works_92, E_m_works_112, E_m_works_102, E_m_works_122, E_m_works_142, E_m_works_132, E_m_works_156, E_m_works_170, E_m_is, jbO_some, jbO_none, jbO_ite, jk_some, jk_none, hf, e1, e4, e5, h1, h2, jjoin, lg_cmp_eq, lg_cmp_gt, lg_cmp_lt, jout_f, jclamp, jup_same, jup_jup, jlab_i, hx, hx2, hb, if_true, if_false, jerr_lt, jerr_nlt]
        · simp +decide only [jjoin, hx, hb, if_true, if_false] at g2
      · refine ⟨jup (n 1) q.length (jjoin 13 x y), ?_, fun _ _ => rfl⟩
        simp +decide (disch := omega) only [E_m_works, E_m_works_24, E_m_works_68, E_m_works_171, E_m_works_91, E_m_works_111, E_m_works_101, E_m_works_121, E_m_works_141, E_m_works_131, E_m_works_154, E_m_works_155, E_m_works_169, E_m_works_166, E_m_works_25, E_m_works_178, E_m_works_92, E_m_works_112, E_m_works_102, E_m_works_122, E_m_works_142, E_m_works_132, E_m_works_156, E_m_works_170, E_m_is, jbO_some, jbO_none, jbO_ite, jk_some, jk_none, hf, e1, e4, e5, h1, h2, jjoin, lg_cmp_eq, lg_cmp_gt, lg_cmp_lt, jout_f, jclamp, jup_same, jup_jup, jlab_i, hx, hx2, hb, if_true, if_false]
        repeat' split
        all_goals first | rfl | simp_all
  case inr.inr.inr.inr.inr.inr.inr.inr.inr.inr.inr =>
    by_cases hy : y = 0
    · refine ⟨n 1, ?_, fun g1 g2 => ?_⟩
      · rw [jup_self]
        simp +decide (disch := omega) only [E_m_works, E_m_works_24, E_m_works_68, E_m_works_171, E_m_works_91, E_m_works_111, E_m_works_101, E_m_works_121, E_m_works_141, E_m_works_131, E_m_works_154, E_m_works_155, E_m_works_169, E_m_works_166, E_m_works_25, E_m_works_178, E_m_works_92, E_m_works_112, E_m_works_102, E_m_works_122, E_m_works_142, E_m_works_132, E_m_works_156, E_m_works_170, E_m_is, jbO_some, jbO_none, jbO_ite, jk_some, jk_none, hf, e1, e4, e5, h1, h2, jjoin, lg_cmp_eq, lg_cmp_gt, lg_cmp_lt, jout_f, jclamp, jup_same, jup_jup, hy, if_true, if_false, jerr_lt, jerr_nlt]
      · simp +decide only [jjoin, hy, if_true, if_false] at g2
    · refine ⟨jup (n 1) q.length (jjoin 14 x y), ?_, fun _ _ => rfl⟩
      simp +decide (disch := omega) only [E_m_works, E_m_works_24, E_m_works_68, E_m_works_171, E_m_works_91, E_m_works_111, E_m_works_101, E_m_works_121, E_m_works_141, E_m_works_131, E_m_works_154, E_m_works_155, E_m_works_169, E_m_works_166, E_m_works_25, E_m_works_178, E_m_works_92, E_m_works_112, E_m_works_102, E_m_works_122, E_m_works_142, E_m_works_132, E_m_works_156, E_m_works_170, E_m_is, jbO_some, jbO_none, jbO_ite, jk_some, jk_none, hf, e1, e4, e5, h1, h2, jjoin, lg_cmp_eq, lg_cmp_gt, lg_cmp_lt, jout_f, jclamp, jup_same, jup_jup, hy, if_true, if_false]
      repeat' split
      all_goals first | rfl | simp_all
  all_goals
    refine ⟨jup (n 1) q.length (jjoin _ x y), ?_, fun _ _ => rfl⟩
    simp +decide (disch := omega) only [E_m_works, E_m_works_24, E_m_works_68, E_m_works_171, E_m_works_91, E_m_works_111, E_m_works_101, E_m_works_121, E_m_works_141, E_m_works_131, E_m_works_154, E_m_works_155, E_m_works_169, E_m_works_166, E_m_works_25, E_m_works_178, E_m_works_92, E_m_works_112, E_m_works_102, E_m_works_122, E_m_works_142, E_m_works_132, E_m_works_156, E_m_works_170, E_m_is, jbO_some, jbO_none, jbO_ite, jk_some, jk_none, hf, e1, e4, e5, h1, h2, jjoin, lg_cmp_eq, lg_cmp_gt, lg_cmp_lt, jout_f, jclamp, jup_same, jup_jup, if_true, if_false]
    repeat' split
    all_goals first | rfl | simp_all
theorem S_m_works1 {D : Nat} {y : Int64} {l0 : Nat} {cx : jCX} {f : Nat → Int32} {g : Nat → Nat → Int32} {n : Nat → Nat → Int64} {b : Nat → Nat → Int32} {l : Nat → Int64} {t : List jE} {z : Nat × Nat × Nat × (Nat → Int32)} (hf : f 15 = Int32.ofNat (l0 + 1)) (hq : l0 + 1 ≤ 64) (h1 : n 1 l0 = y) :
    K_m_works D 260 cx f g n b l t z = some (.inl (some (.int 1)), (jXt cx (jY f g (jup n 1 (jup (n 1) l0 (if y = 0 then 1 else 0))) b l t), z)) := by
  have e4 : Int32.ofNat (l0 + 1) - 1 = Int32.ofNat l0 := by rw [← jsucc (k := l0)]; simp
  simp +decide (disch := omega) only [E_m_works, E_m_works_24, E_m_works_68, E_m_works_171, E_m_works_91, E_m_works_111, E_m_works_101, E_m_works_121, E_m_works_141, E_m_works_131, E_m_works_154, E_m_works_155, E_m_works_169, E_m_works_166, E_m_works_25, E_m_works_178, E_m_works_92, E_m_works_112, E_m_works_102, E_m_works_122, E_m_works_142, E_m_works_132, E_m_works_156, E_m_works_170, E_m_is, jbO_some, jbO_none, jbO_ite, jk_some, jk_none, hf, e4, h1, lg_cmp_eq, jout_f, jclamp, if_true, if_false]
  split <;> simp
theorem jstk_none {kd vl : Nat → Int32} {nm : Nat → Int64} {k n : Nat} (hk : k ≤ n) (h : jstk kd vl nm k = none) : jstk kd vl nm n = none := by
  induction n with
  | zero =>
    have : k = 0 := by omega
    subst this; exact h
  | succ n ih =>
    by_cases hkn : k = n + 1
    · rw [← hkn]; exact h
    · unfold jstk; rw [ih (by omega)]
theorem jstk_succ {kd vl : Nat → Int32} {nm : Nat → Int64} {k : Nat} {st : List Int64} (h : jstk kd vl nm k = some st) : jstk kd vl nm (k + 1) = jop (kd k) (vl k) nm st := by
  rw [show jstk kd vl nm (k + 1) = (match jstk kd vl nm k with | none => none | some st => jop (kd k) (vl k) nm st) from rfl, h]
set_option maxHeartbeats 4000000 in
theorem S_m_goes {D r a m : Nat} {kd vl : Nat → Int32} {cx : jCX} {f : Nat → Int32} {g : Nat → Nat → Int32} {n : Nat → Nat → Int64} {b : Nat → Nat → Int32} {l : Nat → Int64} {t : List jE} {z : Nat × Nat × Nat × (Nat → Int32)} (hr : r < 3) (ha : g 10 r = Int32.ofNat a) (hb : g 11 r = Int32.ofNat (a + m)) (ham : a + m ≤ 64) (hwf : jdp kd vl m = some 1)
    (htr : ∀ k, k < m → jtr (kd k) (vl k) (g 12 (a + k)) (g 13 (a + k))) :
    ∃ x n1, K_m_goes D (Int32.ofNat r) cx f g n b l t z = some (.inl (some (.int (if (jlaw m kd vl (n 0)).isSome then 1 else 0))), (jXt cx (jY (jup f 15 x) g (jup n 1 n1) b l t), z)) ∧ ∀ v, jlaw m kd vl (n 0) = some v → n1 0 = v := by
  have hm : m ≤ 64 := by omega
  rw [E_m_goes]
  simp (disch := omega) only [jout_f, jclamp, if_false, ha]
  have key : ∀ k, k ≤ m → (∃ st n1, jstk kd vl (n 0) k = some st ∧ jhold n1 st ∧ K_m_goes_8 D (Int32.ofNat r) (Int32.ofNat a) cx (jup f 15 0) g n b l t z = K_m_goes_8 D (Int32.ofNat r) (Int32.ofNat (a + k)) cx (jup f 15 (Int32.ofNat st.length)) g (jup n 1 n1) b l t z) ∨
      (jstk kd vl (n 0) m = none ∧ ∃ x n1, K_m_goes_8 D (Int32.ofNat r) (Int32.ofNat a) cx (jup f 15 0) g n b l t z = some (.inl (some (.int 0)), (jXt cx (jY (jup f 15 x) g (jup n 1 n1) b l t), z))) := by
    intro k
    induction k with
    | zero =>
      intro _
      refine Or.inl ⟨[], n 1, rfl, trivial, ?_⟩
      rw [jup_self]; rfl
    | succ k ih =>
      intro hk
      rcases ih (by omega) with ⟨st, n1, h1, hh, he⟩ | hbad
      · obtain ⟨d, hd⟩ := jdp_pre hwf (k := k) (by omega)
        obtain ⟨d', hd'⟩ := jdp_pre hwf (k := k + 1) (by omega)
        have hlen := jstk_len hd h1
        have hdk := jdp_le hd
        subst hlen
        have ht := htr k (by omega)
        have hs := jstk_succ h1
        unfold jdp at hd'
        rw [hd] at hd'
        dsimp only at hd'
        rw [he, L_m_goes_8]
        simp (disch := omega) only [jltn, jout_f, jclamp, if_false, hb]
        rw [if_pos (show a + k < a + m by omega)]
        rcases ht with ⟨k0, t1, t2⟩ | ⟨k0, t1, t2⟩ | ⟨k0, t1, t2⟩ | ⟨t1, ht⟩
        · refine Or.inl ⟨(vl k).toInt64 :: st, jup n1 st.length (vl k).toInt64, ?_, jhold_push hh, ?_⟩
          rotate_left
          · simp +decide (disch := omega) only [t1, t2, E_m_goes_51, E_m_goes_58, if_true, if_false, jout_f, jclamp, jup_same, jup_jup, jsucc, List.length_cons]
            rfl
          · rw [hs]; unfold jop; rw [if_pos k0]
        · rw [if_neg (by rw [k0]; decide), if_pos k0] at hd'
          split at hd'
          · cases hd'
          · rename_i hj
            obtain ⟨c, hc, hvc⟩ := jout_t hj
            refine Or.inl ⟨n 0 c :: st, jup n1 st.length (n 0 c), ?_, jhold_push hh, ?_⟩
            rotate_left
            · simp +decide (disch := omega) only [t1, t2, hvc, E_m_goes_51, E_m_goes_58, if_true, if_false, jout_f, jclamp, jup_same, jup_ne, jup_jup, jsucc, List.length_cons]
              rfl
            · rw [hs]; unfold jop; rw [if_neg (by rw [k0]; decide), if_pos k0, hvc, jclamp (by omega)]
        · rw [if_neg (by rw [k0]; decide), if_neg (by rw [k0]; decide), if_pos k0] at hd'
          split at hd'
          · cases hd'
          · rename_i hq
            match st, h1, hh, hs, hdk, hq with
            | [], _, _, _, _, hq => exact absurd rfl hq
            | y :: q, h1, hh, hs, hdk, _ =>
              simp only [List.length_cons] at hdk
              refine Or.inl ⟨(if y = 0 then 1 else 0) :: q, jup n1 q.length (if y = 0 then 1 else 0), ?_, ⟨jup_same, jhold_up hh.2 (Nat.le_refl _)⟩, ?_⟩
              rotate_left
              · have hw := S_m_works1 (D := D) (y := y) (l0 := q.length) (cx := cx) (f := jup f 15 (Int32.ofNat (q.length + 1))) (g := g) (n := jup n 1 n1) (b := b) (l := l) (t := t) (z := z) jup_same (by omega) (by rw [jup_same]; exact hh.1)
                simp +decide (disch := omega) only [t1, t2, hw, jbO_some, jbO_none, jbO_ite, jk_some, jk_none, E_m_goes_26, E_m_goes_58, if_true, if_false, jout_f, jclamp, jup_same, jup_jup, jsucc, List.length_cons]
                rfl
              · rw [hs]; unfold jop; rw [if_neg (by rw [k0]; decide), if_neg (by rw [k0]; decide), if_pos k0]
        · obtain ⟨k0, k1, k2⟩ := jtb_ne ht
          rw [if_neg k0, if_neg k1, if_neg k2] at hd'
          split at hd'
          · cases hd'
          · rename_i hq
            match st, h1, hh, hs, hdk, hq with
            | [], _, _, _, _, hq => exact absurd (by decide) hq
            | [_], _, _, _, _, hq => exact absurd (by simp) hq
            | y :: x :: q, h1, hh, hs, hdk, _ =>
              simp only [List.length_cons] at hdk
              have hop : jop (kd k) (vl k) (n 0) (y :: x :: q) = if 1000000000000 < jjoin (kd k) x y then none else if jjoin (kd k) x y < -1000000000000 then none else some (jjoin (kd k) x y :: q) := by
                unfold jop; rw [if_neg k0, if_neg k1, if_neg k2]
              obtain ⟨n2, hw, hn2⟩ := S_m_works2 (D := D) (y := y) (x := x) (q := q) (cx := cx) (f := jup f 15 (Int32.ofNat (q.length + 1 + 1))) (g := g) (n := jup n 1 n1) (b := b) (l := l) (t := t) (z := z) ht jup_same (by omega) (by rw [jup_same]; exact hh.1) (by rw [jup_same]; exact hh.2.1)
              simp +decide (disch := omega) only [t1, hw, jbO_some, jbO_none, jbO_ite, jk_some, jk_none, E_m_goes_26, E_m_goes_58, if_true, if_false, jout_f, jclamp, jup_same, jup_jup, jsucc, List.length_cons]
              by_cases g1 : 1000000000000 < jjoin (kd k) x y
              · refine Or.inr ⟨jstk_none hk (by rw [hs, hop, if_pos g1]), ?_⟩
                simp +decide only [g1, if_true]; exact ⟨_, _, rfl⟩
              · by_cases g2 : jjoin (kd k) x y < -1000000000000
                · refine Or.inr ⟨jstk_none hk (by rw [hs, hop, if_neg g1, if_pos g2]), ?_⟩
                  simp +decide only [g1, g2, if_true, if_false]; exact ⟨_, _, rfl⟩
                · refine Or.inl ⟨jjoin (kd k) x y :: q, jup n1 q.length (jjoin (kd k) x y), ?_, ⟨jup_same, jhold_up hh.2.2 (Nat.le_refl _)⟩, ?_⟩
                  rotate_left
                  · have := hn2 g1 g2
                    rw [jup_same] at this
                    subst this
                    simp +decide only [g1, g2, if_false]
                    rfl
                  · rw [hs, hop, if_neg g1, if_neg g2]
      · exact Or.inr hbad
  rcases key m (Nat.le_refl m) with ⟨st, n1, h1, hh, he⟩ | ⟨hb, x, n1, he⟩
  · have hlen := jstk_len hwf h1
    match st, h1, hh, hlen with
    | [y], h1, hh, _ =>
      refine ⟨Int32.ofNat 1, n1, ?_, ?_⟩
      · rw [he, L_m_goes_8]
        simp (disch := omega) only [jltn, jout_f, jclamp, if_false, hb]
        rw [if_neg (by omega)]
        simp [jlaw, h1]
      · intro v hv
        simp only [jlaw, h1, Option.some.injEq] at hv
        rw [← hv]
        exact hh.1
  · refine ⟨x, n1, ?_, ?_⟩
    · rw [he]
      simp [jlaw, hb]
    · intro v hv
      simp [jlaw, hb] at hv
