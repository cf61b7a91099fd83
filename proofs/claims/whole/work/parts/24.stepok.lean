theorem jdecl : ∀ b, b < 12 → ∀ a, a < (jclsn b).2.2 → ((jclsn b).2.1 a).1 = (jclsn b).1 := by decide +kernel
section JSO
variable {p : Program} {l : Launch} {en : Env} {R : Room} {s : State} {m : MethodId} {args : Array Value} {below : List Frame} {meth : Method} {c : Code} {Q : State → Prop}
variable {cc : ByteArray} {nL own : Nat} {isI : Bool} {D : va_G} {cA : Nat → ClassId} {B : Nat} {EX adV : Nat → Nat} {Ln : Nat} {xs : Nat → Int32} {nc0 ns0 : Nat}
set_option maxHeartbeats 4000000 in
/-- ONE STEP of the small machine is one step of the machine -/
theorem jstep_ok {pcs : List (Nat × Nat)} {i : Nat} {e : jI} {L L' : jL} {S S' : List Value} {h h' : jH} {pc' : Nat} (C0 : jC p s args m meth c cc nL own isI D cA B EX adV Ln xs nc0) (hok : jokb own isI cc pcs i e = true)
    {H : Heap} {locs : List Loc} {ls : Array Slot} {cells slots : Nat} (hP : va_P D jcls (jws cA B EX h.1) H) (hS : va_S (fun q => B ≤ q) s.heap H locs) (hL : jLok B EX nL L ls) (hc : cells + nc0 = h.2.1) (hs : slots + ns0 = h.2.2.1) (hz : h.2.2.2 = (Ln, xs))
    (hR : h'.2.1 ≤ nc0 + R.cells ∧ h'.2.2.1 ≤ ns0 + R.slots) (hst : jstep e L S h = some (pc', L', S', h'))
    (kk : ∀ (H' : Heap) (locs' : List Loc) (ls' : Array Slot) (cells' slots' : Nat), va_P D jcls (jws cA B EX h'.1) H' → va_S (fun q => B ≤ q) s.heap H' locs' → jLok B EX nL L' ls' → cells' + nc0 = h'.2.1 → slots' + ns0 = h'.2.2.1 → h'.2.2.2 = (Ln, xs) → W p l en R s m args below meth c H' locs' cells' slots' Q (F0 m (jpc pcs pc') ls' (S'.map (jcv B EX)))) :
    W p l en R s m args below meth c H locs cells slots Q (F0 m (jpc pcs i) ls (S.map (jcv B EX))) := by
  obtain ⟨ins, nx, a, b, v, sw⟩ := e
  unfold jokb at hok
  cases hp : jnth pcs i with
  | none => rw [hp] at hok; cases hok
  | some q =>
  obtain ⟨pc, len⟩ := q
  rw [hp] at hok
  dsimp only at hok
  rw [Bool.and_eq_true] at hok
  obtain ⟨hd, hr⟩ := hok
  replace hd := of_decide_eq_true hd
  cases ins
  case iadd =>
    exact jS_iadd C0 hp hP hS hL hc hs hz hR kk hd hr hst
  case isub =>
    exact jS_isub C0 hp hP hS hL hc hs hz hR kk hd hr hst
  case imul =>
    exact jS_imul C0 hp hP hS hL hc hs hz hR kk hd hr hst
  case iand =>
    exact jS_iand C0 hp hP hS hL hc hs hz hR kk hd hr hst
  case ior =>
    exact jS_ior C0 hp hP hS hL hc hs hz hR kk hd hr hst
  case ixor =>
    exact jS_ixor C0 hp hP hS hL hc hs hz hR kk hd hr hst
  case ishl =>
    exact jS_ishl C0 hp hP hS hL hc hs hz hR kk hd hr hst
  case ishr =>
    exact jS_ishr C0 hp hP hS hL hc hs hz hR kk hd hr hst
  case iushr =>
    exact jS_iushr C0 hp hP hS hL hc hs hz hR kk hd hr hst
  case idiv =>
    exact jS_idiv C0 hp hP hS hL hc hs hz hR kk hd hr hst
  case irem =>
    exact jS_irem C0 hp hP hS hL hc hs hz hR kk hd hr hst
  case ineg =>
    exact jS_ineg C0 hp hP hS hL hc hs hz hR kk hd hr hst
  case ladd =>
    exact jS_ladd C0 hp hP hS hL hc hs hz hR kk hd hr hst
  case lsub =>
    exact jS_lsub C0 hp hP hS hL hc hs hz hR kk hd hr hst
  case lmul =>
    exact jS_lmul C0 hp hP hS hL hc hs hz hR kk hd hr hst
  case land =>
    exact jS_land C0 hp hP hS hL hc hs hz hR kk hd hr hst
  case ldiv =>
    exact jS_ldiv C0 hp hP hS hL hc hs hz hR kk hd hr hst
  case lrem =>
    exact jS_lrem C0 hp hP hS hL hc hs hz hR kk hd hr hst
  case lneg =>
    exact jS_lneg C0 hp hP hS hL hc hs hz hR kk hd hr hst
  case lcmp =>
    exact jS_lcmp C0 hp hP hS hL hc hs hz hR kk hd hr hst
  case i2l =>
    exact jS_i2l C0 hp hP hS hL hc hs hz hR kk hd hr hst
  case l2i =>
    exact jS_l2i C0 hp hP hS hL hc hs hz hR kk hd hr hst
  case dup =>
    exact jS_dup C0 hp hP hS hL hc hs hz hR kk hd hr hst
  case pop =>
    exact jS_pop C0 hp hP hS hL hc hs hz hR kk hd hr hst
  case dup2 =>
    exact jS_dup2 C0 hp hP hS hL hc hs hz hR kk hd hr hst
  case iaload =>
    exact jS_iaload C0 hp hP hS hL hc hs hz hR kk hd hr hst
  case baload =>
    exact jS_baload C0 hp hP hS hL hc hs hz hR kk hd hr hst
  case laload =>
    exact jS_laload C0 hp hP hS hL hc hs hz hR kk hd hr hst
  case iastore =>
    exact jS_iastore C0 hp hP hS hL hc hs hz hR kk hd hr hst
  case bastore =>
    exact jS_bastore C0 hp hP hS hL hc hs hz hR kk hd hr hst
  case lastore =>
    exact jS_lastore C0 hp hP hS hL hc hs hz hR kk hd hr hst
  case aaload =>
    exact jS_aaload C0 hp hP hS hL hc hs hz hR kk hd hr hst
  case aastore =>
    exact jS_aastore C0 hp hP hS hL hc hs hz hR kk hd hr hst
  case arraylength =>
    exact jS_arraylength C0 hp hP hS hL hc hs hz hR kk hd hr hst
  case iconst k =>
    rw [Bool.and_eq_true] at hr
    exact jS_iconst C0 hp hP hS hL hc hs hz hR kk hd (of_decide_eq_true hr.1) hr.2 hst
  case bipush k =>
    rw [Bool.and_eq_true] at hr
    exact jS_bipush C0 hp hP hS hL hc hs hz hR kk hd (of_decide_eq_true hr.1) hr.2 hst
  case sipush k =>
    rw [Bool.and_eq_true] at hr
    exact jS_sipush C0 hp hP hS hL hc hs hz hR kk hd (of_decide_eq_true hr.1) hr.2 hst
  case lconst k =>
    rw [Bool.and_eq_true] at hr
    exact jS_lconst C0 hp hP hS hL hc hs hz hR kk hd (of_decide_eq_true hr.1) hr.2 hst
  case ldc k =>
    rw [Bool.and_eq_true] at hr
    obtain ⟨hr, hn⟩ := hr
    cases v with
    | int w => exact jS_ldci C0 hp hP hS hL hc hs hz hR kk hd rfl (of_decide_eq_true hr) hn hst
    | retAddr q =>
      dsimp only at hr
      rw [Bool.or_eq_true] at hr
      rcases hr with hr | hr
      · simp only [Bool.and_eq_true] at hr
        obtain ⟨⟨h1, h2⟩, h3⟩ := hr
        cases Nat.eq_of_beq_eq_true h1
        cases Nat.eq_of_beq_eq_true h2
        cases Nat.eq_of_beq_eq_true h3
        exact jS_ldcs1 C0 hp hP hS hL hc hs hz hR kk hd rfl rfl hn hst
      · simp only [Bool.and_eq_true] at hr
        obtain ⟨⟨h1, h2⟩, h3⟩ := hr
        cases Nat.eq_of_beq_eq_true h1
        cases Nat.eq_of_beq_eq_true h2
        cases Nat.eq_of_beq_eq_true h3
        exact jS_ldcs2 C0 hp hP hS hL hc hs hz hR kk hd rfl rfl hn hst
    | _ => cases hr
  case ldc_w k =>
    rw [Bool.and_eq_true] at hr
    obtain ⟨hr, hn⟩ := hr
    cases v with
    | int w => exact jS_ldcw C0 hp hP hS hL hc hs hz hR kk hd rfl (of_decide_eq_true hr) hn hst
    | _ => cases hr
  case ldc2_w k =>
    rw [Bool.and_eq_true] at hr
    obtain ⟨hr, hn⟩ := hr
    cases v with
    | long w => exact jS_ldc2 C0 hp hP hS hL hc hs hz hR kk hd rfl (of_decide_eq_true hr) hn hst
    | _ => cases hr
  case aload k =>
    rw [Bool.and_eq_true] at hr
    exact jS_aload C0 hp hP hS hL hc hs hz hR kk hd (Nat.eq_of_beq_eq_true hr.1) hr.2 hst
  case aload_n k =>
    rw [Bool.and_eq_true] at hr
    exact jS_aload_n C0 hp hP hS hL hc hs hz hR kk hd (Nat.eq_of_beq_eq_true hr.1) hr.2 hst
  case iload k =>
    rw [Bool.and_eq_true] at hr
    exact jS_iload C0 hp hP hS hL hc hs hz hR kk hd (Nat.eq_of_beq_eq_true hr.1) hr.2 hst
  case iload_n k =>
    rw [Bool.and_eq_true] at hr
    exact jS_iload_n C0 hp hP hS hL hc hs hz hR kk hd (Nat.eq_of_beq_eq_true hr.1) hr.2 hst
  case lload k =>
    rw [Bool.and_eq_true] at hr
    exact jS_lload C0 hp hP hS hL hc hs hz hR kk hd (Nat.eq_of_beq_eq_true hr.1) hr.2 hst
  case lload_n k =>
    rw [Bool.and_eq_true] at hr
    exact jS_lload_n C0 hp hP hS hL hc hs hz hR kk hd (Nat.eq_of_beq_eq_true hr.1) hr.2 hst
  case istore k =>
    rw [Bool.and_eq_true] at hr
    exact jS_istore C0 hp hP hS hL hc hs hz hR kk hd (Nat.eq_of_beq_eq_true hr.1) hr.2 hst
  case istore_n k =>
    rw [Bool.and_eq_true] at hr
    exact jS_istore_n C0 hp hP hS hL hc hs hz hR kk hd (Nat.eq_of_beq_eq_true hr.1) hr.2 hst
  case astore k =>
    rw [Bool.and_eq_true] at hr
    exact jS_astore C0 hp hP hS hL hc hs hz hR kk hd (Nat.eq_of_beq_eq_true hr.1) hr.2 hst
  case astore_n k =>
    rw [Bool.and_eq_true] at hr
    exact jS_astore_n C0 hp hP hS hL hc hs hz hR kk hd (Nat.eq_of_beq_eq_true hr.1) hr.2 hst
  case lstore k =>
    rw [Bool.and_eq_true] at hr
    exact jS_lstore C0 hp hP hS hL hc hs hz hR kk hd (Nat.eq_of_beq_eq_true hr.1) hr.2 hst
  case lstore_n k =>
    rw [Bool.and_eq_true] at hr
    exact jS_lstore_n C0 hp hP hS hL hc hs hz hR kk hd (Nat.eq_of_beq_eq_true hr.1) hr.2 hst
  case iinc k n =>
    simp only [Bool.and_eq_true] at hr
    exact jS_iinc C0 hp hP hS hL hc hs hz hR kk hd (Nat.eq_of_beq_eq_true hr.1.1) (of_decide_eq_true hr.1.2) hr.2 hst
  case goto off =>
    rw [Bool.and_eq_true] at hr
    exact jS_goto C0 hp hP hS hL hc hs hz hR kk hd (Nat.eq_of_beq_eq_true hr.2) hr.1 hst
  case ifCond cd off =>
    rw [Bool.and_eq_true] at hr
    cases cd
    case eq => exact jS_if_eq C0 hp hP hS hL hc hs hz hR kk hd hr.2 hr.1 hst
    case ne => exact jS_if_ne C0 hp hP hS hL hc hs hz hR kk hd hr.2 hr.1 hst
    case lt => exact jS_if_lt C0 hp hP hS hL hc hs hz hR kk hd hr.2 hr.1 hst
    case ge => exact jS_if_ge C0 hp hP hS hL hc hs hz hR kk hd hr.2 hr.1 hst
    case gt => exact jS_if_gt C0 hp hP hS hL hc hs hz hR kk hd hr.2 hr.1 hst
    case le => exact jS_if_le C0 hp hP hS hL hc hs hz hR kk hd hr.2 hr.1 hst
  case if_icmp cd off =>
    rw [Bool.and_eq_true] at hr
    cases cd
    case eq => exact jS_icmp_eq C0 hp hP hS hL hc hs hz hR kk hd hr.2 hr.1 hst
    case ne => exact jS_icmp_ne C0 hp hP hS hL hc hs hz hR kk hd hr.2 hr.1 hst
    case lt => exact jS_icmp_lt C0 hp hP hS hL hc hs hz hR kk hd hr.2 hr.1 hst
    case ge => exact jS_icmp_ge C0 hp hP hS hL hc hs hz hR kk hd hr.2 hr.1 hst
    case gt => exact jS_icmp_gt C0 hp hP hS hL hc hs hz hR kk hd hr.2 hr.1 hst
    case le => exact jS_icmp_le C0 hp hP hS hL hc hs hz hR kk hd hr.2 hr.1 hst
  case getfield k =>
    simp only [Bool.and_eq_true] at hr
    obtain ⟨⟨⟨h1, h2⟩, h3⟩, hn⟩ := hr
    have h2 : a < (jclsn b).2.2 := Nat.le_of_ble_eq_true h2
    have h3 : b < 12 := Nat.le_of_ble_eq_true h3
    exact jS_getfield C0 hp hP hS hL hc hs hz hR kk hd (of_decide_eq_true h1) h2 h3 (jdecl b h3 a h2) hn hst
  case putfield k =>
    simp only [Bool.and_eq_true] at hr
    obtain ⟨⟨⟨⟨⟨h1, h2⟩, h3⟩, hn⟩, h4⟩, h5⟩ := hr
    have h2 : a < (jclsn b).2.2 := Nat.le_of_ble_eq_true h2
    have h3 : b < 12 := Nat.le_of_ble_eq_true h3
    have hff : ((jclsn b).2.1 a).2.2.2 = true → isI = true ∧ ((jclsn b).2.1 a).1 = jown.getD own "" := by
      intro hf
      rw [hf] at h4
      simpa using h4
    have hmm : (own, k, b, a) ∈ jlf := of_decide_eq_true h1
    split at h5
    · exact jS_puti C0 hp hP hS hL hc hs hz hR kk hd hmm h2 h3 (jdecl b h3 a h2) hff rfl (of_decide_eq_true h5) hn hst
    · exact jS_putz C0 hp hP hS hL hc hs hz hR kk hd hmm h2 h3 (jdecl b h3 a h2) hff rfl (of_decide_eq_true h5) hn hst
    · exact jS_putl C0 hp hP hS hL hc hs hz hR kk hd hmm h2 h3 (jdecl b h3 a h2) hff rfl (of_decide_eq_true h5) hn hst
    · split at h5
      · rename_i n hty
        exact jS_putr C0 hp hP hS hL hc hs hz hR kk hd hmm h2 h3 (jdecl b h3 a h2) hff rfl hty (Or.inl ⟨_, rfl⟩) hn hst
      · rename_i n hty
        exact jS_putr C0 hp hP hS hL hc hs hz hR kk hd hmm h2 h3 (jdecl b h3 a h2) hff rfl hty (Or.inr ⟨_, rfl⟩) hn hst
      · cases h5
    · cases h5
  case new k =>
    simp only [Bool.and_eq_true] at hr
    obtain ⟨⟨⟨h1, h2⟩, h3⟩, hn⟩ := hr
    exact jS_new C0 hp hP hS hL hc hs hz hR kk hd (of_decide_eq_true h1) (Nat.eq_of_beq_eq_true h2) (Nat.le_of_ble_eq_true h3) hn hst
  case newarray t =>
    rw [Bool.and_eq_true] at hr
    cases t
    case int => exact jS_newa_int C0 hp hP hS hL hc hs hz hR kk hd hr.1 hst
    case long => exact jS_newa_long C0 hp hP hS hL hc hs hz hR kk hd hr.1 hst
    case boolean => exact jS_newa_boolean C0 hp hP hS hL hc hs hz hR kk hd hr.1 hst
    all_goals (exfalso; exact absurd (of_decide_eq_true hr.2) (by decide +kernel))
  case anewarray k =>
    rw [Bool.and_eq_true] at hr
    exact jS_anewarray C0 hp hP hS hL hc hs hz hR kk hd (of_decide_eq_true hr.1) hr.2 hst
  case tableswitch d lo hi offs =>
    simp only [Bool.and_eq_true] at hr
    exact jS_table C0 hp hP hS hL hc hs hz hR kk hd hr.1.1 hr.1.2 (of_decide_eq_true hr.2) hst
  case lookupswitch d ps =>
    simp only [Bool.and_eq_true] at hr
    exact jS_lookup C0 hp hP hS hL hc hs hz hR kk hd hr.1.1 hr.1.2 hr.2 hst
  case ireturn =>
    unfold jstep at hst
    cases hst
  case lreturn =>
    unfold jstep at hst
    cases hst
  case return_ =>
    unfold jstep at hst
    cases hst
  case invokevirtual k =>
    unfold jstep at hst
    cases hst
  case invokestatic k =>
    unfold jstep at hst
    cases hst
  case invokespecial k =>
    unfold jstep at hst
    cases hst
  all_goals (exfalso; cases hr)
end JSO
