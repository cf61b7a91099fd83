-- A LAW's VALUE: the list of what is worked out, last one first
/-- what stands in an array up to a place, last one first -/
def jhold (f : Nat → Int64) : List Int64 → Prop
  | [] => True
  | x :: r => f r.length = x ∧ jhold f r
theorem jhold_up {f : Nat → Int64} : ∀ {st : List Int64} {k : Nat} {x : Int64}, jhold f st → st.length ≤ k → jhold (jup f k x) st
  | [], _, _, _, _ => trivial
  | y :: r, k, x, h, hk => by
    refine ⟨?_, jhold_up h.2 (by simp at hk; omega)⟩
    rw [jup_ne (by simp at hk; omega)]
    exact h.1
theorem jhold_push {f : Nat → Int64} {st : List Int64} {x : Int64} (h : jhold f st) : jhold (jup f st.length x) (x :: st) := ⟨jup_same, jhold_up h (Nat.le_refl _)⟩
def jerr : Int64 := -9223372036854775808
def jlab (x : Int64) : Int64 := if 0 < x then x else -x
def jone01 (q : Prop) (_ : Decidable q) : Int64 := if q then 1 else 0
/-- a sign with its two sides -/
def jjoin (k : Int32) (x y : Int64) : Int64 :=
  if k = 11 then x + y else if k = 12 then x - y else if k = 13 then (if x = 0 then x * y else if (1000000000000 : Int64) / jlab x < jlab y then jerr else x * y)
  else if k = 14 then (if y = 0 then jerr else x / y)
  else if k = 3 then (if x = 0 then (if y = 0 then 0 else 1) else 1) else if k = 4 then (if x = 0 then 0 else if y = 0 then 0 else 1)
  else if k = 5 then (if x < y then 1 else 0) else if k = 6 then (if y < x then 0 else 1) else if k = 7 then (if x = y then 1 else 0)
  else if k = 8 then (if x = y then 0 else 1) else if k = 9 then (if y < x then 1 else 0) else (if x < y then 0 else 1)
def jop (k v : Int32) (nm : Nat → Int64) (st : List Int64) : Option (List Int64) :=
  if k = 0 then some (v.toInt64 :: st) else if k = 1 then some (nm v.toNatClampNeg :: st)
  else if k = 2 then (match st with
    | y :: r => some ((if y = 0 then 1 else 0) :: r)
    | [] => none)
  else match st with
    | y :: x :: r => if 1000000000000 < jjoin k x y then none else if jjoin k x y < -1000000000000 then none else some (jjoin k x y :: r)
    | _ => none
def jstk (kd vl : Nat → Int32) (nm : Nat → Int64) : Nat → Option (List Int64)
  | 0 => some []
  | k + 1 => match jstk kd vl nm k with
    | none => none
    | some st => jop (kd k) (vl k) nm st
/-- how many stand there behind k of them; none where too few stood there -/
def jdp (kd vl : Nat → Int32) : Nat → Option Nat
  | 0 => some 0
  | k + 1 => match jdp kd vl k with
    | none => none
    | some d => if kd k = 0 then some (d + 1) else if kd k = 1 then (if jout (vl k) 7 then none else some (d + 1)) else if kd k = 2 then (if d = 0 then none else some d) else (if d < 2 then none else some (d - 1))
/-- a law as the reader tells it, or none -/
def jwf (n : Nat) (kd vl : Nat → Int32) : Prop := n ≤ 64 ∧ (n = 0 ∨ jdp kd vl n = some 1)
theorem jdp_le {kd vl : Nat → Int32} : ∀ {k d : Nat}, jdp kd vl k = some d → d ≤ k
  | 0, d, h => by simp only [jdp, Option.some.injEq] at h; omega
  | k + 1, d, h => by
    unfold jdp at h
    split at h
    · cases h
    · rename_i e he
      have := jdp_le he
      split at h
      · simp only [Option.some.injEq] at h; omega
      · split at h
        · split at h
          · cases h
          · simp only [Option.some.injEq] at h; omega
        · split at h
          · split at h
            · cases h
            · simp only [Option.some.injEq] at h; omega
          · split at h
            · cases h
            · simp only [Option.some.injEq] at h; omega
theorem jdp_pre {kd vl : Nat → Int32} {n d : Nat} (h : jdp kd vl n = some d) : ∀ {k : Nat}, k ≤ n → ∃ e, jdp kd vl k = some e := by
  induction n generalizing d with
  | zero =>
    intro k hk
    have : k = 0 := by omega
    subst this
    exact ⟨d, h⟩
  | succ n ih =>
    intro k hk
    by_cases hkn : k = n + 1
    · subst hkn; exact ⟨d, h⟩
    · have h2 : ∃ e, jdp kd vl n = some e := by
        unfold jdp at h
        split at h
        · cases h
        · rename_i e he; exact ⟨e, he⟩
      obtain ⟨e, he⟩ := h2
      exact ih he (by omega)
theorem jstk_len {kd vl : Nat → Int32} {nm : Nat → Int64} : ∀ {k d : Nat} {st : List Int64}, jdp kd vl k = some d → jstk kd vl nm k = some st → st.length = d
  | 0, d, st, h1, h2 => by
    simp only [jdp, Option.some.injEq] at h1
    simp only [jstk, Option.some.injEq] at h2
    subst h1; subst h2; rfl
  | k + 1, d, st, h1, h2 => by
    unfold jdp at h1
    unfold jstk at h2
    split at h1
    · cases h1
    · rename_i e he
      split at h2
      · cases h2
      · rename_i q hq
        have ih := jstk_len he hq
        unfold jop at h2
        by_cases k0 : kd k = 0
        · simp only [k0, if_true, Option.some.injEq] at h1 h2
          subst h1; subst h2; simp [ih]
        · by_cases k1 : kd k = 1
          · rw [if_neg k0, if_pos k1] at h1 h2
            split at h1
            · cases h1
            · simp only [Option.some.injEq] at h1 h2
              subst h1; subst h2; simp [ih]
          · by_cases k2 : kd k = 2
            · rw [if_neg k0, if_neg k1, if_pos k2] at h1 h2
              split at h1
              · cases h1
              · split at h2
                · simp only [Option.some.injEq] at h1 h2
                  subst h1; subst h2; simpa using ih
                · cases h2
            · rw [if_neg k0, if_neg k1, if_neg k2] at h1 h2
              split at h1
              · cases h1
              · split at h2
                · split at h2
                  · cases h2
                  · split at h2
                    · cases h2
                    · simp only [Option.some.injEq] at h1 h2
                      subst h1; subst h2
                      simp at ih ⊢
                      omega
                · cases h2
/-- a value is never the error's -/
theorem jstk_ne {kd vl : Nat → Int32} {nm : Nat → Int64} (hnm : ∀ i, i < 7 → nm i ≠ jerr) : ∀ {k d : Nat} {st : List Int64}, jdp kd vl k = some d → jstk kd vl nm k = some st → ∀ y ∈ st, y ≠ jerr
  | 0, _, st, _, h => by
    simp only [jstk, Option.some.injEq] at h
    subst h
    intro y hy; cases hy
  | k + 1, d, st, hd, h => by
    unfold jdp at hd
    unfold jstk at h
    split at hd
    · cases hd
    · rename_i e he
      split at h
      · cases h
      · rename_i q hq
        have ih := jstk_ne hnm he hq
        unfold jop at h
        by_cases k0 : kd k = 0
        · rw [if_pos k0] at h
          simp only [Option.some.injEq] at h
          subst h
          intro y hy
          rcases List.mem_cons.mp hy with rfl | hy
          · intro e
            have h2 := congrArg Int64.toInt e
            rw [Int32.toInt_toInt64] at h2
            have h3 := Int32.minValue_le_toInt (vl k)
            have h4 : jerr.toInt = -9223372036854775808 := by decide
            have h5 : Int32.minValue.toInt = -2147483648 := by decide
            omega
          · exact ih y hy
        · rw [if_neg k0] at h hd
          by_cases k1 : kd k = 1
          · rw [if_pos k1] at h hd
            simp only [Option.some.injEq] at h
            split at hd
            · cases hd
            · rename_i hj
              obtain ⟨a, ha, hva⟩ := jout_t hj
              subst h
              intro y hy
              rcases List.mem_cons.mp hy with rfl | hy
              · rw [hva, jclamp (by omega)]; exact hnm a ha
              · exact ih y hy
          · rw [if_neg k1] at h hd
            split at h
            · split at h
              · rename_i a r
                simp only [Option.some.injEq] at h
                subst h
                intro y hy
                rcases List.mem_cons.mp hy with rfl | hy
                · split <;> decide
                · exact ih y (List.mem_cons_of_mem _ hy)
              · cases h
            · split at h
              · rename_i a b r
                split at h
                · cases h
                · split at h
                  · cases h
                  · rename_i h1 h2
                    simp only [Option.some.injEq] at h
                    subst h
                    intro y hy
                    rcases List.mem_cons.mp hy with rfl | hy
                    · intro e
                      rw [e] at h2
                      exact h2 (by decide)
                    · exact ih y (List.mem_cons_of_mem _ (List.mem_cons_of_mem _ hy))
              · cases h
/-- only the seven names count -/
theorem jstk_congr {kd vl : Nat → Int32} {nm nm' : Nat → Int64} (hnm : ∀ i, i < 7 → nm i = nm' i) : ∀ {k d : Nat}, jdp kd vl k = some d → jstk kd vl nm k = jstk kd vl nm' k
  | 0, _, _ => rfl
  | k + 1, d, hd => by
    unfold jdp at hd
    split at hd
    · cases hd
    · rename_i e he
      have ih := jstk_congr hnm he
      unfold jstk
      rw [ih]
      cases jstk kd vl nm' k with
      | none => rfl
      | some st =>
        dsimp only
        unfold jop
        by_cases k0 : kd k = 0
        · rw [if_pos k0, if_pos k0]
        · by_cases k1 : kd k = 1
          · rw [if_neg k0, if_pos k1] at hd
            split at hd
            · cases hd
            · rename_i hj
              obtain ⟨a, ha, hva⟩ := jout_t hj
              rw [if_neg k0, if_pos k1, if_neg k0, if_pos k1, hva, jclamp (by omega), hnm a ha]
          · rw [if_neg k0, if_neg k1, if_neg k0, if_neg k1]
/-- a law's value; none: an error, or it isn't told -/
def jlaw (n : Nat) (kd vl : Nat → Int32) (nm : Nat → Int64) : Option Int64 := match jstk kd vl nm n with
  | some (v :: _) => some v
  | _ => none
theorem jlaw_ne {n : Nat} {kd vl : Nat → Int32} {nm : Nat → Int64} {v : Int64} (hwf : jwf n kd vl) (hnm : ∀ i, i < 7 → nm i ≠ jerr) (h : jlaw n kd vl nm = some v) : v ≠ jerr := by
  unfold jlaw at h
  split at h
  · rename_i w r hw
    simp only [Option.some.injEq] at h
    subst h
    rcases hwf.2 with h0 | h1
    · subst h0
      simp [jstk] at hw
    · exact jstk_ne hnm h1 hw w (List.mem_cons_self)
  · cases h
theorem jlaw_congr {n : Nat} {kd vl : Nat → Int32} {nm nm' : Nat → Int64} (hwf : jwf n kd vl) (hnm : ∀ i, i < 7 → nm i = nm' i) : jlaw n kd vl nm = jlaw n kd vl nm' := by
  unfold jlaw
  rcases hwf.2 with h0 | h1
  · subst h0; rfl
  · rw [jstk_congr hnm h1]
/-- the seven names -/
def jnm (s f w h g r d : Int32) (i : Nat) : Int64 := match i with
  | 0 => s.toInt64
  | 1 => f.toInt64
  | 2 => w.toInt64
  | 3 => h.toInt64
  | 4 => g.toInt64
  | 5 => r.toInt64
  | 6 => d.toInt64
  | _ => 0
theorem jlong_ne (x : Int32) : x.toInt64 ≠ jerr := by
  intro e
  have h2 := congrArg Int64.toInt e
  rw [Int32.toInt_toInt64] at h2
  have h3 := Int32.minValue_le_toInt x
  have h4 : jerr.toInt = -9223372036854775808 := by decide
  have h5 : Int32.minValue.toInt = -2147483648 := by decide
  omega
theorem jnm_ne {s f w h g r d : Int32} : ∀ i, i < 7 → jnm s f w h g r d i ≠ jerr := by
  intro i hi
  match i, hi with
  | 0, _ => exact jlong_ne _
  | 1, _ => exact jlong_ne _
  | 2, _ => exact jlong_ne _
  | 3, _ => exact jlong_ne _
  | 4, _ => exact jlong_ne _
  | 5, _ => exact jlong_ne _
  | 6, _ => exact jlong_ne _
theorem jnm_of {nm : Nat → Int64} {s f w h g r d : Int32} (h0 : nm 0 = s.toInt64) (h1 : nm 1 = f.toInt64) (h2 : nm 2 = w.toInt64) (h3 : nm 3 = h.toInt64) (h4 : nm 4 = g.toInt64) (h5 : nm 5 = r.toInt64) (h6 : nm 6 = d.toInt64) :
    ∀ i, i < 7 → nm i = jnm s f w h g r d i := by
  intro i hi
  match i, hi with
  | 0, _ => exact h0
  | 1, _ => exact h1
  | 2, _ => exact h2
  | 3, _ => exact h3
  | 4, _ => exact h4
  | 5, _ => exact h5
  | 6, _ => exact h6
