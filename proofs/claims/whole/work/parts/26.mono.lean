-- what a run makes only grows; the script stays
def jle (h h' : jH) : Prop := h.2.1 ≤ h'.2.1 ∧ h.2.2.1 ≤ h'.2.2.1 ∧ h'.2.2.2 = h.2.2.2
theorem jle.rf {h : jH} : jle h h := ⟨Nat.le_refl _, Nat.le_refl _, rfl⟩
theorem jle.tr {a b c : jH} (h1 : jle a b) (h2 : jle b c) : jle a c := ⟨Nat.le_trans h1.1 h2.1, Nat.le_trans h1.2.1 h2.2.1, h2.2.2.trans h1.2.2⟩
theorem jle.put {h : jH} {r : Nat} {c : jE} : jle h (jput h r c) := ⟨Nat.le_refl _, Nat.le_refl _, rfl⟩
theorem jnone {α : Type} {x : α} {P : Prop} (h : (none : Option α) = some x) : P := by cases h
theorem jdo {α : Type} {q : Prop} {_ : Decidable q} {x : Option α} {y : α} (h : (if q then none else x) = some y) : ¬ q ∧ x = some y := by
  by_cases hq : q
  · rw [if_pos hq] at h; cases h
  · rw [if_neg hq] at h; exact ⟨hq, h⟩
theorem jbo {α : Type} {b : Bool} {x : Option α} {y : α} (h : cond b x none = some y) : b = true ∧ x = some y := by
  cases b
  · cases h
  · exact ⟨rfl, h⟩
set_option maxHeartbeats 4000000 in
theorem jstep_mono {e : jI} {L L' : jL} {S S' : List Value} {h h' : jH} {pc' : Nat} (hst : jstep e L S h = some (pc', L', S', h')) : jle h h' := by
  obtain ⟨ins, nx, a, b, v, sw⟩ := e
  unfold jstep at hst
  cases ins <;> dsimp only at hst <;> (try simp only [jcond_ite] at hst) <;>
    (repeat' (first | contradiction | split at hst)) <;>
    first
      | contradiction
      | (obtain ⟨rfl, rfl, rfl, rfl⟩ := jsome4 hst; exact jle.rf)
      | (obtain ⟨rfl, rfl, rfl, rfl⟩ := jsome4 hst; exact jle.put)
      | (obtain ⟨rfl, rfl, rfl, rfl⟩ := jsome4 hst; exact ⟨Nat.le_succ _, Nat.le_add_right _ _, rfl⟩)
theorem jprim_mono {id : Nat} {args : List Value} {h h' : jH} {r : Option Value} (hp : jprim id args h = some (r, h')) : jle h h' := by
  unfold jprim at hp
  split at hp <;> (repeat' (first | contradiction | split at hp)) <;> first | contradiction | (cases hp; exact jle.rf) | (cases hp; exact jle.put)
theorem jret_mono {rk : Nat} {e : jI} {S : List Value} {h : jH} {x : jO × jH} (hp : jret rk e S h = some x) : jle h x.2 := by
  unfold jret at hp
  split at hp <;> (repeat' (first | contradiction | split at hp)) <;> first | contradiction | (cases hp; exact jle.rf) | (cases hp; exact ⟨Nat.le_succ _, Nat.le_add_right _ _, rfl⟩)
theorem jcatch_mono {out : Value} {y : Option (jO × jH)} {x : Option Value × jH} (hp : jcatch out y = some x) : ∃ z, y = some z ∧ jle z.2 x.2 := by
  unfold jcatch at hp
  split at hp
  · cases hp; exact ⟨_, rfl, jle.rf⟩
  · (repeat' (first | contradiction | split at hp)) <;> first | contradiction | (cases hp; exact ⟨_, rfl, jle.put⟩)
  · cases hp
theorem jinv_mono2 {rec : Nat → Nat → Nat → jL → List Value → jH → Option (jO × jH)} (hr : ∀ D mid pc L S h x, rec D mid pc L S h = some x → jle h x.2) {D rk a : Nat} {args : List Value} {h : jH} {y : Option Value × jH} (hy : jinv rec D rk a args h = some y) : jle h y.2 := by
  unfold jinv at hy
  cases hb : Nat.blt a 1000 with
  | true =>
    simp only [hb, cond_true] at hy
    split at hy
    · cases hy
    · obtain ⟨-, hy⟩ := jbo hy
      split at hy
      · cases hy
      · split at hy
        · rename_i hz
          cases hy
          exact hr _ _ _ _ _ _ _ hz
        · cases hy
  | false =>
    simp only [hb, cond_false] at hy
    cases hb4 : Nat.beq a 1004 with
    | true =>
      simp only [hb4, cond_true] at hy
      split at hy
      · split at hy
        · cases hy
        · obtain ⟨-, hy⟩ := jbo hy
          obtain ⟨z, hz, h1⟩ := jcatch_mono hy
          exact (hr _ _ _ _ _ _ _ hz).tr h1
      · cases hy
    | false =>
      simp only [hb4, cond_false] at hy
      exact jprim_mono (r := y.1) hy
theorem jrun_le {n : Nat} : ∀ {D mid pc : Nat} {L : jL} {S : List Value} {h : jH} {x : jO × jH}, jrun n D mid pc L S h = some x → jle h x.2 := by
  induction n with
  | zero => intro D mid pc L S h x hx; simp [jrun] at hx
  | succ n ih =>
    intro D mid pc L S h x hx
    have hx : jgo (jrun n) D mid pc L S h = some x := hx
    unfold jgo at hx
    split at hx
    · cases hx
    · split at hx
      · cases hx
      · split at hx
        · split at hx
          · cases hx
          · rename_i hst
            exact (jstep_mono hst).tr (ih hx)
        · exact jret_mono hx
        · obtain ⟨-, hx⟩ := jbo hx
          split at hx
          · cases hx
          · rename_i hi
            exact (jinv_mono2 (fun _ _ _ _ _ _ _ hz => ih hz) hi).tr (ih hx)
theorem jokl_at {own : Nat} {isI : Bool} {bytes : ByteArray} {pcs : List (Nat × Nat)} : ∀ {l : List jI} {k j : Nat} {e : jI}, jokl own isI bytes pcs k l = true → jnth l j = some e → jokb own isI bytes pcs (k + j) e = true
  | [], _, _, _, _, h => by simp [jnth] at h
  | a :: l, k, 0, e, h, he => by
    simp only [jnth, Option.some.injEq] at he
    subst he
    unfold jokl at h
    rw [Bool.and_eq_true] at h
    exact h.1
  | a :: l, k, j + 1, e, h, he => by
    unfold jokl at h
    rw [Bool.and_eq_true] at h
    have := jokl_at (k := k + 1) (j := j) h.2 he
    rwa [show k + 1 + j = k + (j + 1) by omega] at this
theorem jokc_at {own : Nat} {isI : Bool} {bytes : ByteArray} {pcs : List (Nat × Nat)} : ∀ {l : List (List jI)} {k j : Nat} {c : List jI}, jokc own isI bytes pcs k l = true → jnth l j = some c → jokl own isI bytes pcs (16 * (k + j)) c = true
  | [], _, _, _, _, h => by simp [jnth] at h
  | a :: l, k, 0, e, h, he => by
    simp only [jnth, Option.some.injEq] at he
    subst he
    unfold jokc at h
    rw [Bool.and_eq_true] at h
    exact h.1
  | a :: l, k, j + 1, e, h, he => by
    unfold jokc at h
    rw [Bool.and_eq_true] at h
    have := jokc_at (k := k + 1) (j := j) h.2 he
    rwa [show k + 1 + j = k + (j + 1) by omega] at this
theorem jok_at {own : Nat} {isI : Bool} {bytes : ByteArray} {pcs : List (Nat × Nat)} {M : jM} {i : Nat} {e : jI} (h : jokc own isI bytes pcs 0 M.1 = true) (he : jfet M i = some e) : jokb own isI bytes pcs i e = true := by
  unfold jfet at he
  split at he
  · rename_i c hc
    have h1 := jokl_at (jokc_at h hc) he
    rwa [show 16 * (0 + i / 16) + i % 16 = i by omega] at h1
  · cases he
