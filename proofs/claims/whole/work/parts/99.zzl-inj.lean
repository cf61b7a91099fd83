-- MEMORY: what two equal ones have in common
def jfi (l : List jE) (i j : Nat) : Int32 := match jnth l i with
  | some (.inr (_, vs)) => match jnth vs j with
    | some (.int x) => x
    | _ => 0
  | _ => 0
def jai (l : List jE) (i : Nat) : Nat → Int32 := match jnth l i with
  | some (.inl (_, _, .inl v)) => v
  | _ => fun _ => 0
theorem jX_f {f f' : Nat → Int32} {g g' : Nat → Nat → Int32} {n2 n2' : Nat → Nat → Int64} {p p' : Nat → Nat → Int32} {pa pa' : Nat → Nat → Nat → Int32} {s s' : Nat → Nat → Int32} {sa sa' : Nat → Nat → Nat → Int32} {sw sw' : Bool} {rp rp' : Value} {t t' : List jE} (h : jX f g n2 p pa s sa sw rp t = jX f' g' n2' p' pa' s' sa' sw' rp' t') : ∀ k, k < 26 → f k = f' k := by
  intro k hk
  rcases (show k = 0 ∨ k = 1 ∨ k = 2 ∨ k = 3 ∨ k = 4 ∨ k = 5 ∨ k = 6 ∨ k = 7 ∨ k = 8 ∨ k = 9 ∨ k = 10 ∨ k = 11 ∨ k = 12 ∨ k = 13 ∨ k = 14 ∨ k = 15 ∨ k = 16 ∨ k = 17 ∨ k = 18 ∨ k = 19 ∨ k = 20 ∨ k = 21 ∨ k = 22 ∨ k = 23 ∨ k = 24 ∨ k = 25 by omega) with rfl | rfl | rfl | rfl | rfl | rfl | rfl | rfl | rfl | rfl | rfl | rfl | rfl | rfl | rfl | rfl | rfl | rfl | rfl | rfl | rfl | rfl | rfl | rfl | rfl | rfl
  · exact congrArg (fun l => jfi l 0 1) h
  · exact congrArg (fun l => jfi l 0 8) h
  · exact congrArg (fun l => jfi l 1 2) h
  · exact congrArg (fun l => jfi l 1 3) h
  · exact congrArg (fun l => jfi l 1 4) h
  · exact congrArg (fun l => jfi l 1 5) h
  · exact congrArg (fun l => jfi l 1 6) h
  · exact congrArg (fun l => jfi l 1 7) h
  · exact congrArg (fun l => jfi l 1 8) h
  · exact congrArg (fun l => jfi l 2 2) h
  · exact congrArg (fun l => jfi l 2 3) h
  · exact congrArg (fun l => jfi l 2 4) h
  · exact congrArg (fun l => jfi l 2 5) h
  · exact congrArg (fun l => jfi l 2 6) h
  · exact congrArg (fun l => jfi l 43 5) h
  · exact congrArg (fun l => jfi l 43 6) h
  · exact congrArg (fun l => jfi l 44 0) h
  · exact congrArg (fun l => jfi l 44 1) h
  · exact congrArg (fun l => jfi l 44 2) h
  · exact congrArg (fun l => jfi l 44 3) h
  · exact congrArg (fun l => jfi l 44 4) h
  · exact congrArg (fun l => jfi l 44 5) h
  · exact congrArg (fun l => jfi l 44 6) h
  · exact congrArg (fun l => jfi l 67 0) h
  · exact congrArg (fun l => jfi l 71 0) h
  · exact congrArg (fun l => jfi l 71 1) h
theorem jX_p0 {f f' : Nat → Int32} {g g' : Nat → Nat → Int32} {n2 n2' : Nat → Nat → Int64} {p p' : Nat → Nat → Int32} {pa pa' : Nat → Nat → Nat → Int32} {s s' : Nat → Nat → Int32} {sa sa' : Nat → Nat → Nat → Int32} {sw sw' : Bool} {rp rp' : Value} {t t' : List jE} (h : jX f g n2 p pa s sa sw rp t = jX f' g' n2' p' pa' s' sa' sw' rp' t') : ∀ k, k < 13 → p 0 k = p' 0 k := by
  intro k hk
  rcases (show k = 0 ∨ k = 1 ∨ k = 2 ∨ k = 3 ∨ k = 4 ∨ k = 5 ∨ k = 6 ∨ k = 7 ∨ k = 8 ∨ k = 9 ∨ k = 10 ∨ k = 11 ∨ k = 12 by omega) with rfl | rfl | rfl | rfl | rfl | rfl | rfl | rfl | rfl | rfl | rfl | rfl | rfl
  · exact congrArg (fun l => jfi l 5 0) h
  · exact congrArg (fun l => jfi l 5 1) h
  · exact congrArg (fun l => jfi l 5 2) h
  · exact congrArg (fun l => jfi l 5 4) h
  · exact congrArg (fun l => jfi l 5 11) h
  · exact congrArg (fun l => jfi l 5 12) h
  · exact congrArg (fun l => jfi l 5 14) h
  · exact congrArg (fun l => jfi l 5 15) h
  · exact congrArg (fun l => jfi l 5 16) h
  · exact congrArg (fun l => jfi l 5 17) h
  · exact congrArg (fun l => jfi l 15 0) h
  · exact congrArg (fun l => jfi l 18 0) h
  · exact congrArg (fun l => jfi l 21 0) h
theorem jX_p1 {f f' : Nat → Int32} {g g' : Nat → Nat → Int32} {n2 n2' : Nat → Nat → Int64} {p p' : Nat → Nat → Int32} {pa pa' : Nat → Nat → Nat → Int32} {s s' : Nat → Nat → Int32} {sa sa' : Nat → Nat → Nat → Int32} {sw sw' : Bool} {rp rp' : Value} {t t' : List jE} (h : jX f g n2 p pa s sa sw rp t = jX f' g' n2' p' pa' s' sa' sw' rp' t') : ∀ k, k < 13 → p 1 k = p' 1 k := by
  intro k hk
  rcases (show k = 0 ∨ k = 1 ∨ k = 2 ∨ k = 3 ∨ k = 4 ∨ k = 5 ∨ k = 6 ∨ k = 7 ∨ k = 8 ∨ k = 9 ∨ k = 10 ∨ k = 11 ∨ k = 12 by omega) with rfl | rfl | rfl | rfl | rfl | rfl | rfl | rfl | rfl | rfl | rfl | rfl | rfl
  · exact congrArg (fun l => jfi l 24 0) h
  · exact congrArg (fun l => jfi l 24 1) h
  · exact congrArg (fun l => jfi l 24 2) h
  · exact congrArg (fun l => jfi l 24 4) h
  · exact congrArg (fun l => jfi l 24 11) h
  · exact congrArg (fun l => jfi l 24 12) h
  · exact congrArg (fun l => jfi l 24 14) h
  · exact congrArg (fun l => jfi l 24 15) h
  · exact congrArg (fun l => jfi l 24 16) h
  · exact congrArg (fun l => jfi l 24 17) h
  · exact congrArg (fun l => jfi l 34 0) h
  · exact congrArg (fun l => jfi l 37 0) h
  · exact congrArg (fun l => jfi l 40 0) h
theorem jX_a0 {f f' : Nat → Int32} {g g' : Nat → Nat → Int32} {n2 n2' : Nat → Nat → Int64} {p p' : Nat → Nat → Int32} {pa pa' : Nat → Nat → Nat → Int32} {s s' : Nat → Nat → Int32} {sa sa' : Nat → Nat → Nat → Int32} {sw sw' : Bool} {rp rp' : Value} {t t' : List jE} (h : jX f g n2 p pa s sa sw rp t = jX f' g' n2' p' pa' s' sa' sw' rp' t') : ∀ k, k < 14 → pa 0 k = pa' 0 k := by
  intro k hk
  rcases (show k = 0 ∨ k = 1 ∨ k = 2 ∨ k = 3 ∨ k = 4 ∨ k = 5 ∨ k = 6 ∨ k = 7 ∨ k = 8 ∨ k = 9 ∨ k = 10 ∨ k = 11 ∨ k = 12 ∨ k = 13 by omega) with rfl | rfl | rfl | rfl | rfl | rfl | rfl | rfl | rfl | rfl | rfl | rfl | rfl | rfl
  · exact congrArg (fun l => jai l 6) h
  · exact congrArg (fun l => jai l 7) h
  · exact congrArg (fun l => jai l 8) h
  · exact congrArg (fun l => jai l 9) h
  · exact congrArg (fun l => jai l 10) h
  · exact congrArg (fun l => jai l 11) h
  · exact congrArg (fun l => jai l 12) h
  · exact congrArg (fun l => jai l 13) h
  · exact congrArg (fun l => jai l 16) h
  · exact congrArg (fun l => jai l 17) h
  · exact congrArg (fun l => jai l 19) h
  · exact congrArg (fun l => jai l 20) h
  · exact congrArg (fun l => jai l 22) h
  · exact congrArg (fun l => jai l 23) h
theorem jX_a1 {f f' : Nat → Int32} {g g' : Nat → Nat → Int32} {n2 n2' : Nat → Nat → Int64} {p p' : Nat → Nat → Int32} {pa pa' : Nat → Nat → Nat → Int32} {s s' : Nat → Nat → Int32} {sa sa' : Nat → Nat → Nat → Int32} {sw sw' : Bool} {rp rp' : Value} {t t' : List jE} (h : jX f g n2 p pa s sa sw rp t = jX f' g' n2' p' pa' s' sa' sw' rp' t') : ∀ k, k < 14 → pa 1 k = pa' 1 k := by
  intro k hk
  rcases (show k = 0 ∨ k = 1 ∨ k = 2 ∨ k = 3 ∨ k = 4 ∨ k = 5 ∨ k = 6 ∨ k = 7 ∨ k = 8 ∨ k = 9 ∨ k = 10 ∨ k = 11 ∨ k = 12 ∨ k = 13 by omega) with rfl | rfl | rfl | rfl | rfl | rfl | rfl | rfl | rfl | rfl | rfl | rfl | rfl | rfl
  · exact congrArg (fun l => jai l 25) h
  · exact congrArg (fun l => jai l 26) h
  · exact congrArg (fun l => jai l 27) h
  · exact congrArg (fun l => jai l 28) h
  · exact congrArg (fun l => jai l 29) h
  · exact congrArg (fun l => jai l 30) h
  · exact congrArg (fun l => jai l 31) h
  · exact congrArg (fun l => jai l 32) h
  · exact congrArg (fun l => jai l 35) h
  · exact congrArg (fun l => jai l 36) h
  · exact congrArg (fun l => jai l 38) h
  · exact congrArg (fun l => jai l 39) h
  · exact congrArg (fun l => jai l 41) h
  · exact congrArg (fun l => jai l 42) h
