-- THE CLASS's LAW: join, holds, worth
theorem jlab_0 {x : Int64} (h : ¬ x = 0) : ¬ jlab x = 0 := by
  unfold jlab
  split
  · exact h
  · intro q
    apply h
    have := congrArg (fun y => -y) q
    simpa using this
theorem S_w_holds {D : Nat} {k : Int32} {x y : Int64} {f : Nat → Int32} {g : Nat → Nat → Int32} {n2 : Nat → Nat → Int64} {p : Nat → Nat → Int32} {pa : Nat → Nat → Nat → Int32} {s : Nat → Nat → Int32} {sa : Nat → Nat → Nat → Int32} {sw : Bool} {rp : Value} {t : List jE} {z : Nat × Nat × Nat × (Nat → Int32)} (h11 : ¬ k = 11) (h12 : ¬ k = 12) (h13 : ¬ k = 13) (h14 : ¬ k = 14) :
    K_w_holds D k x y f g n2 p pa s sa sw rp t z = some (.inl (some (.int (if jjoin k x y = 0 then 0 else 1))), (jX f g n2 p pa s sa sw rp t, z)) := by
  simp only [E_w_holds, lg_cmp_eq, lg_cmp_gt, lg_cmp_lt, jjoin, h11, h12, h13, h14, if_false]
  repeat' split
  all_goals first | rfl | (exfalso; simp_all; done) | simp_all
theorem S_w_join {D : Nat} {k : Int32} {x y : Int64} {f : Nat → Int32} {g : Nat → Nat → Int32} {n2 : Nat → Nat → Int64} {p : Nat → Nat → Int32} {pa : Nat → Nat → Nat → Int32} {s : Nat → Nat → Int32} {sa : Nat → Nat → Nat → Int32} {sw : Bool} {rp : Value} {t : List jE} {z : Nat × Nat × Nat × (Nat → Int32)} : K_w_join D k x y f g n2 p pa s sa sw rp t z = some (.inl (some (.long (jjoin k x y))), (jX f g n2 p pa s sa sw rp t, z)) := by
  by_cases h11 : k = 11
  · subst h11; simp only [E_w_join, jjoin, if_true]
  by_cases h12 : k = 12
  · subst h12; simp +decide only [E_w_join, jjoin, if_true, if_false]
  by_cases h13 : k = 13
  · subst h13
    simp +decide only [E_w_join, E_w_join_24, jjoin, if_true, if_false, lg_cmp_eq, lg_cmp_gt]
    by_cases hx : x = 0
    · simp only [hx, if_true]
    · rw [if_neg hx, if_neg hx]
      have := jlab_0 hx
      unfold jlab at this ⊢
      rw [if_neg this]
      by_cases hb : (1000000000000 / if 0 < x then x else -x) < if 0 < y then y else -y
      · rw [if_pos hb, if_pos hb]; rfl
      · rw [if_neg hb, if_neg hb]
  by_cases h14 : k = 14
  · subst h14
    simp +decide only [E_w_join, jjoin, if_true, if_false, lg_cmp_eq]
    by_cases hy : y = 0
    · rw [if_pos hy, if_pos hy]; rfl
    · rw [if_neg hy, if_neg hy, if_neg hy]
  have hz : jjoin k x y = 0 ∨ jjoin k x y = 1 := by
    simp only [jjoin, h11, h12, h13, h14, if_false]
    repeat' split
    all_goals first | exact Or.inl rfl | exact Or.inr rfl
  rcases hz with h | h <;> simp +decide only [E_w_join, E_w_join_42, h11, h12, h13, h14, if_false, S_w_holds h11 h12 h13 h14, jbO_some, jbO_none, jbO_ite, jk_some, jk_none, h, if_true]
set_option maxHeartbeats 4000000 in
theorem S_w_worth {D : Nat} {w : Bool} {r n : Nat} {f : Nat → Int32} {g : Nat → Nat → Int32} {n2 : Nat → Nat → Int64} {p : Nat → Nat → Int32} {pa : Nat → Nat → Nat → Int32} {s : Nat → Nat → Int32} {sa : Nat → Nat → Nat → Int32} {sw : Bool} {rp : Value} {t : List jE} {z : Nat × Nat × Nat × (Nat → Int32)} (hr : r < 3) (hsz : p (jq w) (10 + r) = Int32.ofNat n) (hwf : jwf n (pa (jq w) (8 + 2 * r + 0)) (pa (jq w) (8 + 2 * r + 1))) :
    ∃ s', K_w_worth D w r f g n2 p pa s sa sw rp t z = some (.inl (some (.long ((jlaw n (pa (jq w) (8 + 2 * r + 0)) (pa (jq w) (8 + 2 * r + 1)) (n2 0)).getD jerr))), (jX f g (jup n2 1 s') p pa s sa sw rp t, z)) := by
  generalize hkd : pa (jq w) (8 + 2 * r + 0) = kd at hwf ⊢
  generalize hvl : pa (jq w) (8 + 2 * r + 1) = vl at hwf ⊢
  obtain ⟨hn, hwf⟩ := hwf
  rw [E_w_worth hr]
  have key : ∀ k, k ≤ n → (∃ st s', jstk kd vl (n2 0) k = some st ∧ jhold s' st ∧ ∃ d5 d6 e6 d7, K_w_worth_4 D w r 0 0 none none none none f g n2 p pa s sa sw rp t z = K_w_worth_4 D w r (Int32.ofNat st.length) (Int32.ofNat k) d5 d6 e6 d7 f g (jup n2 1 s') p pa s sa sw rp t z) ∨
      (jstk kd vl (n2 0) n = none ∧ ∃ s', K_w_worth_4 D w r 0 0 none none none none f g n2 p pa s sa sw rp t z = some (.inl (some (.long jerr)), (jX f g (jup n2 1 s') p pa s sa sw rp t, z))) := by
    intro k
    induction k with
    | zero =>
      intro _
      refine Or.inl ⟨[], n2 1, rfl, trivial, none, none, none, none, ?_⟩
      rw [jup_self]; rfl
    | succ k ih =>
      intro hk
      rcases ih (by omega) with ⟨st, s', h1, hh, d5, d6, e6, d7, he⟩ | hbad
      · have hwf : jdp kd vl n = some 1 := by rcases hwf with h | h; · omega
                                              · exact h
        obtain ⟨d, hd⟩ := jdp_pre hwf (k := k) (by omega)
        obtain ⟨d', hd'⟩ := jdp_pre hwf (k := k + 1) (by omega)
        have hlen := jstk_len hd h1
        have hdk := jdp_le hd
        subst hlen
        have hbadn : jstk kd vl (n2 0) (k + 1) = none → jstk kd vl (n2 0) n = none := by
          intro hb
          have : ∀ j, k + 1 ≤ j → jstk kd vl (n2 0) j = none := by
            intro j
            induction j with
            | zero => intro h; omega
            | succ j ihj =>
              intro hj
              by_cases hjk : k + 1 = j + 1
              · rw [← hjk]; exact hb
              · unfold jstk; rw [ihj (by omega)]
          exact this n hk
        unfold jdp at hd'
        rw [hd] at hd'
        dsimp only at hd'
        rw [he, L_w_worth_4 hr, hsz, hkd]
        rw [if_pos (show Int32.ofNat k < Int32.ofNat n by rw [jltn (by omega) (by omega)]; omega), if_neg (show ¬ jout (Int32.ofNat k) 64 by rw [jout_f (by omega) (by omega)]; exact fun h => h)]
        have hck : (Int32.ofNat k).toNatClampNeg = k := jclamp (by omega)
        simp only [hck]
        by_cases k0 : kd k = 0
        · refine Or.inl ⟨(vl k).toInt64 :: st, jup s' st.length (vl k).toInt64, ?_, jhold_push hh, ?_⟩
          rotate_left
          · have h10 : ¬ kd k = 1 := by rw [k0]; decide
            simp (disch := omega) only [k0, if_true, E_w_worth_18 hr, E_w_worth_38 hr, E_w_worth_48 hr, E_w_worth_111 hr, hvl, jltn, jout_f, jclamp, if_false, show ¬ ((0 : Int32) = 1) by decide, jup_same, jup_jup, jsucc, List.length_cons]
            rw [if_pos (show st.length < 64 by omega)]
            exact ⟨_, _, _, _, rfl⟩
          · unfold jstk; rw [h1]; dsimp only; unfold jop; rw [if_pos k0]
        · by_cases k1 : kd k = 1
          · have h10 : ¬ (1 : Int32) = 0 := by decide
            rw [if_neg k0, if_pos k1] at hd'
            split at hd'
            · cases hd'
            · rename_i hj
              obtain ⟨a, ha, hva⟩ := jout_t hj
              refine Or.inl ⟨n2 0 a :: st, jup s' st.length (n2 0 a), ?_, jhold_push hh, ?_⟩
              rotate_left
              · simp (disch := omega) only [k1, h10, if_true, E_w_worth_18 hr, E_w_worth_38 hr, E_w_worth_48 hr, E_w_worth_111 hr, hvl, hva, jltn, jneg_f, jout_f, jclamp, if_false, jup_same, jup_ne, jup_jup, jsucc, List.length_cons]
                rw [if_pos (show st.length < 64 by omega), if_pos (show a < 7 by omega)]
                exact ⟨_, _, _, _, rfl⟩
              · unfold jstk; rw [h1]; dsimp only; unfold jop; rw [if_neg k0, if_pos k1, hva, jclamp (by omega)]
          · by_cases k2 : kd k = 2
            · rw [if_neg k0, if_neg k1, if_pos k2] at hd'
              split at hd'
              · cases hd'
              · rename_i hnq
                match st, h1, hh, hd, hdk, hnq with
                | [], _, _, _, _, hnq => exact absurd rfl hnq
                | y :: q, h1, hh, hd, hdk, _ =>
                  simp only [List.length_cons] at hdk
                  refine Or.inl ⟨(if y = 0 then 1 else 0) :: q, jup s' q.length (if y = 0 then 1 else 0), ?_, ⟨jup_same, jhold_up hh.2 (Nat.le_refl _)⟩, ?_⟩
                  rotate_left
                  · have e1 : Int32.ofNat (q.length + 1) - 1 = Int32.ofNat q.length := by rw [← jsucc]; simp
                    have e2 : ¬ Int32.ofNat (q.length + 1) < 1 := by
                      rw [show (1 : Int32) = Int32.ofNat 1 from rfl, jltn (by omega) (by omega)]; omega
                    simp (disch := omega) only [k2, show ¬ ((2 : Int32) = 0) by decide, show ¬ ((2 : Int32) = 1) by decide, if_true, if_false, List.length_cons, e1, e2, E_w_worth_74 hr, E_w_worth_111 hr, lg_cmp_eq, jout_f, jclamp, jup_same, jup_jup, jsucc, hh.1]
                    split <;> exact ⟨_, _, _, _, rfl⟩
                  · unfold jstk; rw [h1]; dsimp only; unfold jop; rw [if_neg k0, if_neg k1, if_pos k2]
            · rw [if_neg k0, if_neg k1, if_neg k2] at hd'
              split at hd'
              · cases hd'
              · rename_i hnq
                match st, h1, hh, hd, hdk, hnq with
                | [], _, _, _, _, hnq => exact absurd (show [].length < 2 by decide) hnq
                | [_], _, _, _, _, hnq => exact absurd (show 1 < 2 by decide) hnq
                | y :: x :: q, h1, hh, hd, hdk, _ =>
                  simp only [List.length_cons] at hdk
                  have e1 : Int32.ofNat (q.length + 1 + 1) - 1 = Int32.ofNat (q.length + 1) := by rw [← jsucc (k := q.length + 1)]; simp
                  have e3 : Int32.ofNat (q.length + 1 + 1) + -1 = Int32.ofNat (q.length + 1) := by rw [← e1, Int32.sub_eq_add_neg]
                  have e4 : Int32.ofNat (q.length + 1) - 1 = Int32.ofNat q.length := by rw [← jsucc (k := q.length)]; simp
                  have e5 : Int32.ofNat (q.length + 1 + 1) - 2 = Int32.ofNat q.length := by
                    rw [show q.length + 1 + 1 = q.length + 2 from rfl, Int32.ofNat_add, show (2 : Int32) = Int32.ofNat 2 from rfl]; simp
                  have e2 : ¬ Int32.ofNat (q.length + 1 + 1) < 2 := by
                    rw [show (2 : Int32) = Int32.ofNat 2 from rfl, jltn (by omega) (by omega)]; omega
                  have hh2 : s' q.length = x := hh.2.1
                  have hh1 : s' (q.length + 1) = y := hh.1
                  have hop : jop (kd k) (vl k) (n2 0) (y :: x :: q) = if 1000000000000 < jjoin (kd k) x y then none else if jjoin (kd k) x y < -1000000000000 then none else some (jjoin (kd k) x y :: q) := by
                    unfold jop; rw [if_neg k0, if_neg k1, if_neg k2]
                  have hst : jstk kd vl (n2 0) (k + 1) = jop (kd k) (vl k) (n2 0) (y :: x :: q) := by
                    rw [show jstk kd vl (n2 0) (k + 1) = (match jstk kd vl (n2 0) k with | none => none | some st => jop (kd k) (vl k) (n2 0) st) from rfl, h1]
                  simp (disch := omega) only [k0, k1, k2, if_false, List.length_cons, e1, e2, e3, e4, e5, S_w_join, jbO_some, jbO_none, jbO_ite, jk_some, jk_none, E_w_worth_93 hr, E_w_worth_110 hr, E_w_worth_111 hr, lg_cmp_gt, lg_cmp_lt, jout_f, jclamp, jup_same, jup_jup, jsucc, hh1, hh2]
                  by_cases g1 : 1000000000000 < jjoin (kd k) x y
                  · refine Or.inr ⟨hbadn (by rw [hst, hop, if_pos g1]), ?_⟩
                    rw [if_pos g1]; exact ⟨_, rfl⟩
                  · by_cases g2 : jjoin (kd k) x y < -1000000000000
                    · refine Or.inr ⟨hbadn (by rw [hst, hop, if_neg g1, if_pos g2]), ?_⟩
                      rw [if_neg g1, if_pos g2]; exact ⟨_, rfl⟩
                    · refine Or.inl ⟨jjoin (kd k) x y :: q, jup s' q.length (jjoin (kd k) x y), ?_, ⟨jup_same, jhold_up hh.2.2 (Nat.le_refl _)⟩, ?_⟩
                      rotate_left
                      · rw [if_neg g1, if_neg g2]
                        exact ⟨_, _, _, _, rfl⟩
                      · rw [hst, hop, if_neg g1, if_neg g2]
      · exact Or.inr hbad
  rcases key n (Nat.le_refl n) with ⟨st, s', h1, hh, d5, d6, e6, d7, he⟩ | ⟨hb, s', he⟩
  · refine ⟨s', ?_⟩
    rw [he, L_w_worth_4 hr, hsz, if_neg (by rw [jltn (by omega) (by omega)]; omega)]
    rcases hwf with h | h
    · subst h
      simp only [jstk, Option.some.injEq] at h1
      subst h1
      rfl
    · have hlen := jstk_len h h1
      match st, h1, hh, hlen with
      | [y], h1, hh, _ =>
        have hh1 : s' 0 = y := hh.1
        simp only [jlaw, h1, List.length_singleton, show (Int32.ofNat 1 = 1) from rfl, if_true, jup_same, hh1, Option.getD]
  · refine ⟨s', ?_⟩
    rw [he]
    simp only [jlaw, hb, Option.getD]
