-- THE LIMIT OF THE SMALL MACHINE
theorem jinv_mono {r1 r2 : Nat → Nat → Nat → jL → List Value → jH → Option (jO × jH)} (hm : ∀ D mid pc L S h x, r1 D mid pc L S h = some x → r2 D mid pc L S h = some x)
    {D rk a : Nat} {args : List Value} {h : jH} {y : Option Value × jH} (hy : jinv r1 D rk a args h = some y) : jinv r2 D rk a args h = some y := by
  have hcatch : ∀ (out : Value) (a b : Option (jO × jH)) (y : Option Value × jH), (∀ z, a = some z → b = some z) → jcatch out a = some y → jcatch out b = some y := by
    intro out a b y hab hy
    cases a with
    | none => simp [jcatch] at hy
    | some z => rw [hab z rfl]; exact hy
  unfold jinv at hy ⊢
  cases hb : Nat.blt a 1000 with
  | true =>
    simp only [hb, cond_true] at hy ⊢
    split at hy
    · cases hy
    · rename_i M2 hM2
      cases hc : (Nat.beq M2.2.2.2.1 args.length && jrecv M2 args h && Nat.ble (jlay args).1.length M2.2.1) with
      | false => simp [hc] at hy
      | true =>
        simp only [hc, cond_true] at hy ⊢
        split at hy
        · cases hy
        · rename_i D2 hD2
          split at hy
          · rename_i r h' hr
            rw [hm _ _ _ _ _ _ _ hr]
            exact hy
          · cases hy
  | false =>
    simp only [hb, cond_false] at hy ⊢
    cases hb4 : Nat.beq a 1004 with
    | true =>
      simp only [hb4, cond_true] at hy ⊢
      split at hy
      · rename_i x p0 p1 out
        split at hy
        · cases hy
        · rename_i M2 hM2
          cases hc : (jrecv M2 [x, .int p0, .int p1] h && Nat.blt (M2.2.2.2.2.1 + 1) rk && Nat.ble (jlay [x, .int p0, .int p1]).1.length M2.2.1) with
          | false => simp [hc] at hy
          | true =>
            simp only [hc, cond_true] at hy ⊢
            exact hcatch _ _ _ _ (fun z hz => hm _ _ _ _ _ _ _ hz) hy
      · cases hy
    | false =>
      simp only [hb4, cond_false] at hy ⊢
      exact hy
theorem jgo_mono {r1 r2 : Nat → Nat → Nat → jL → List Value → jH → Option (jO × jH)} (hm : ∀ D mid pc L S h x, r1 D mid pc L S h = some x → r2 D mid pc L S h = some x)
    {D mid pc : Nat} {L : jL} {S : List Value} {h : jH} {x : jO × jH} (hx : jgo r1 D mid pc L S h = some x) : jgo r2 D mid pc L S h = some x := by
  unfold jgo at hx ⊢
  split at hx
  · cases hx
  · split at hx
    · cases hx
    · rename_i e he
      split at hx
      · split at hx
        · cases hx
        · exact hm _ _ _ _ _ _ _ hx
      · exact hx
      · rename_i k h0 h1
        cases hc : (Nat.ble e.2.2.2.1 S.length && Nat.ble (jcats (S.drop e.2.2.2.1)) 8) with
        | false => simp [hc] at hx
        | true =>
          simp only [hc, cond_true] at hx ⊢
          split at hx
          · cases hx
          · rename_i r h' hr
            rw [jinv_mono hm hr]
            exact hm _ _ _ _ _ _ _ hx
theorem jrun_mono {n : Nat} : ∀ {k : Nat}, n ≤ k → ∀ {D mid pc : Nat} {L : jL} {S : List Value} {h : jH} {x : jO × jH}, jrun n D mid pc L S h = some x → jrun k D mid pc L S h = some x := by
  induction n with
  | zero => intro k _ D mid pc L S h x hx; simp [jrun] at hx
  | succ n ih =>
    intro k hk D mid pc L S h x hx
    cases k with
    | zero => omega
    | succ k => exact jgo_mono (fun _ _ _ _ _ _ _ hz => ih (by omega) hz) hx
noncomputable def jev (D mid pc : Nat) (L : jL) (S : List Value) (h : jH) : Option (jO × jH) :=
  @dite _ (∃ x n, jrun n D mid pc L S h = some x) (Classical.propDecidable _) (fun hx => some (Classical.choose hx)) (fun _ => none)
theorem jev_iff {D mid pc : Nat} {L : jL} {S : List Value} {h : jH} {x : jO × jH} : jev D mid pc L S h = some x ↔ ∃ n, jrun n D mid pc L S h = some x := by
  unfold jev
  by_cases hx : ∃ x n, jrun n D mid pc L S h = some x
  · rw [dif_pos hx]
    obtain ⟨n, hn⟩ := Classical.choose_spec hx
    constructor
    · intro e
      cases e
      exact ⟨n, hn⟩
    · intro ⟨k, hk⟩
      have h1 := jrun_mono (Nat.le_max_left n k) hn
      have h2 := jrun_mono (Nat.le_max_right n k) hk
      exact h1.symm.trans h2
  · rw [dif_neg hx]
    constructor
    · intro e; cases e
    · intro ⟨k, hk⟩; exact absurd ⟨x, k, hk⟩ hx
theorem jev_go (D mid pc : Nat) (L : jL) (S : List Value) (h : jH) : jev D mid pc L S h = jgo jev D mid pc L S h := by
  have h1 : ∀ x, jev D mid pc L S h = some x → jgo jev D mid pc L S h = some x := by
    intro x hx
    obtain ⟨n, hn⟩ := jev_iff.mp hx
    cases n with
    | zero => simp [jrun] at hn
    | succ n => exact jgo_mono (fun _ _ _ _ _ _ _ hz => jev_iff.mpr ⟨n, hz⟩) hn
  have hcatch : ∀ (out : Value) (a : Option (jO × jH)) (y : Option Value × jH), jcatch out a = some y → ∃ z, a = some z := by
    intro out a y hy
    cases a with
    | none => simp [jcatch] at hy
    | some z => exact ⟨z, rfl⟩
  have hinv : ∀ (rk a : Nat) (args : List Value) (y : Option Value × jH), jinv jev D rk a args h = some y → ∃ n, jinv (jrun n) D rk a args h = some y := by
    intro rk a args y hy
    unfold jinv at hy
    cases hb : Nat.blt a 1000 with
    | true =>
      simp only [hb, cond_true] at hy
      split at hy
      · cases hy
      · rename_i M2 hM2
        cases hc : (Nat.beq M2.2.2.2.1 args.length && jrecv M2 args h && Nat.ble (jlay args).1.length M2.2.1) with
        | false => simp [hc] at hy
        | true =>
          simp only [hc, cond_true] at hy
          split at hy
          · cases hy
          · rename_i D2 hD2
            split at hy
            · rename_i r h' hr
              obtain ⟨n, hn⟩ := jev_iff.mp hr
              refine ⟨n, ?_⟩
              unfold jinv
              simp only [hb, hM2, hc, cond_true, hD2, hn]
              exact hy
            · cases hy
    | false =>
      simp only [hb, cond_false] at hy
      cases hb4 : Nat.beq a 1004 with
      | true =>
        simp only [hb4, cond_true] at hy
        split at hy
        · rename_i x p0 p1 out
          split at hy
          · cases hy
          · rename_i M2 hM2
            cases hc : (jrecv M2 [x, .int p0, .int p1] h && Nat.blt (M2.2.2.2.2.1 + 1) rk && Nat.ble (jlay [x, .int p0, .int p1]).1.length M2.2.1) with
            | false => simp [hc] at hy
            | true =>
              simp only [hc, cond_true] at hy
              obtain ⟨z, hz⟩ := hcatch _ _ _ hy
              obtain ⟨n, hn⟩ := jev_iff.mp hz
              refine ⟨n, ?_⟩
              unfold jinv
              simp only [hb, hb4, hM2, hc, cond_true, cond_false, hn]
              rw [← hz]
              exact hy
        · cases hy
      | false =>
        refine ⟨0, ?_⟩
        unfold jinv
        simp only [hb, hb4, cond_false] at hy ⊢
        exact hy
  have h2 : ∀ x, jgo jev D mid pc L S h = some x → jev D mid pc L S h = some x := by
    intro x hx
    apply jev_iff.mpr
    suffices hs : ∃ n, jgo (jrun n) D mid pc L S h = some x by
      obtain ⟨n, hn⟩ := hs
      exact ⟨n + 1, hn⟩
    unfold jgo at hx
    split at hx
    · cases hx
    · rename_i M hM
      split at hx
      · cases hx
      · rename_i e he
        split at hx
        · rename_i hk
          split at hx
          · cases hx
          · rename_i pc' L' S' h' hst
            obtain ⟨n, hn⟩ := jev_iff.mp hx
            refine ⟨n, ?_⟩
            unfold jgo
            simp only [hM, he, hk, hst]
            exact hn
        · rename_i hk
          refine ⟨0, ?_⟩
          unfold jgo
          simp only [hM, he, hk]
          exact hx
        · rename_i k hk0 hk1
          cases hc : (Nat.ble e.2.2.2.1 S.length && Nat.ble (jcats (S.drop e.2.2.2.1)) 8) with
          | false => simp [hc] at hx
          | true =>
            simp only [hc, cond_true] at hx
            split at hx
            · cases hx
            · rename_i r h' hr
              obtain ⟨n, hn⟩ := hinv _ _ _ _ hr
              obtain ⟨k, hk⟩ := jev_iff.mp hx
              refine ⟨max n k, ?_⟩
              have hn2 : jinv (jrun (max n k)) D M.2.2.2.2.1 e.2.2.1 (S.take e.2.2.2.1).reverse h = some (r, h') := by
                exact jinv_mono (fun _ _ _ _ _ _ _ hz => jrun_mono (Nat.le_max_left n k) hz) hn
              unfold jgo
              simp only [hM, he]
              cases hj : jkind e with
              | zero => exact absurd hj hk0
              | succ k1 =>
                cases k1 with
                | zero => exact absurd hj hk1
                | succ k2 =>
                  simp only [hc, cond_true, hn2]
                  exact jrun_mono (Nat.le_max_right n k) hk
  cases he : jev D mid pc L S h with
  | some x => exact (h1 x he).symm
  | none =>
    cases hg : jgo jev D mid pc L S h with
    | none => rfl
    | some x => rw [h2 x hg] at he; cases he
