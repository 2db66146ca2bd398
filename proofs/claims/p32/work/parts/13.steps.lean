section ZDI
variable {p : Program} {l : Launch} {e : Env} {R : Room} {s : State} {m : MethodId} {args : Array Value} {below : List Frame} {meth : Method} {c : Code} {Q : State → Prop} {dC : Nat → ClassId} {dI : Nat → Nat → Nat} {cI cO : ClassId} {b base : Nat} {own : String} {cc : ByteArray} {nL : Nat} {isI : Bool} {ret : Option FieldType} {fr lo : Nat} {sc : Sc}
set_option maxHeartbeats 4000000 in
theorem zst_ok {i : Instr} (hC : ZCx p s m args meth c own cc nL isI dC dI cI cO base) (hX : zSc sc b base s) (hR : fr ≤ R.frames ∧ lo ≤ R.locals) {nx a bb d w len pc pc' : Nat} {cv : Int} {L st L' st' : List ZV} {S S' : Sh} {M M' : Me} {h h' : Ml} {cells slots : Nat} (hd : decode cc pc = .ok (i, len)) (hnx : pc + len = nx) (hk : zchk own nL isI ret fr lo pc len i a bb d cv w = true) (hst : zst sc (i, nx, a, bb, d, cv, w) L st S M h = some (pc', L', st', S', M', h')) (hrm : cells + (S'.length - S.length) ≤ R.cells ∧ slots + (zsz S' - zsz S) ≤ R.slots) (kk : ZN p l e R s m args below meth c Q dC dI cI cO b base nL pc' L' st' S' M' h' (cells + (S'.length - S.length)) (slots + (zsz S' - zsz S))) : ZN p l e R s m args below meth c Q dC dI cI cO b base nL pc L st S M h cells slots := by
  cases i
  case iconst => exact zs_iconst hC hX hR hd hnx hk hst hrm kk
  case bipush => exact zs_bipush hC hX hR hd hnx hk hst hrm kk
  case sipush => exact zs_sipush hC hX hR hd hnx hk hst hrm kk
  case ldc => exact zs_ldc hC hX hR hd hnx hk hst hrm kk
  case ldc_w => exact zs_ldc_w hC hX hR hd hnx hk hst hrm kk
  case ldc2_w => exact zs_ldc2_w hC hX hR hd hnx hk hst hrm kk
  case iload => exact zs_iload hC hX hR hd hnx hk hst hrm kk
  case iload_n => exact zs_iload_n hC hX hR hd hnx hk hst hrm kk
  case lload => exact zs_lload hC hX hR hd hnx hk hst hrm kk
  case lload_n => exact zs_lload_n hC hX hR hd hnx hk hst hrm kk
  case aload => exact zs_aload hC hX hR hd hnx hk hst hrm kk
  case aload_n => exact zs_aload_n hC hX hR hd hnx hk hst hrm kk
  case istore => exact zs_istore hC hX hR hd hnx hk hst hrm kk
  case istore_n => exact zs_istore_n hC hX hR hd hnx hk hst hrm kk
  case lstore => exact zs_lstore hC hX hR hd hnx hk hst hrm kk
  case lstore_n => exact zs_lstore_n hC hX hR hd hnx hk hst hrm kk
  case astore => exact zs_astore hC hX hR hd hnx hk hst hrm kk
  case astore_n => exact zs_astore_n hC hX hR hd hnx hk hst hrm kk
  case iinc => exact zs_iinc hC hX hR hd hnx hk hst hrm kk
  case iadd => exact zs_iadd hC hX hR hd hnx hk hst hrm kk
  case isub => exact zs_isub hC hX hR hd hnx hk hst hrm kk
  case imul => exact zs_imul hC hX hR hd hnx hk hst hrm kk
  case ineg => exact zs_ineg hC hX hR hd hnx hk hst hrm kk
  case iand => exact zs_iand hC hX hR hd hnx hk hst hrm kk
  case ior => exact zs_ior hC hX hR hd hnx hk hst hrm kk
  case ixor => exact zs_ixor hC hX hR hd hnx hk hst hrm kk
  case ishl => exact zs_ishl hC hX hR hd hnx hk hst hrm kk
  case ishr => exact zs_ishr hC hX hR hd hnx hk hst hrm kk
  case iushr => exact zs_iushr hC hX hR hd hnx hk hst hrm kk
  case i2l => exact zs_i2l hC hX hR hd hnx hk hst hrm kk
  case lmul => exact zs_lmul hC hX hR hd hnx hk hst hrm kk
  case ladd => exact zs_ladd hC hX hR hd hnx hk hst hrm kk
  case lcmp => exact zs_lcmp hC hX hR hd hnx hk hst hrm kk
  case dup => exact zs_dup hC hX hR hd hnx hk hst hrm kk
  case dup2 => exact zs_dup2 hC hX hR hd hnx hk hst hrm kk
  case pop => exact zs_pop hC hX hR hd hnx hk hst hrm kk
  case goto => exact zs_goto hC hX hR hd hnx hk hst hrm kk
  case ifnonnull => exact zs_ifnonnull hC hX hR hd hnx hk hst hrm kk
  case arraylength => exact zs_arraylength hC hX hR hd hnx hk hst hrm kk
  case getfield => exact zs_getfield hC hX hR hd hnx hk hst hrm kk
  case putfield => exact zs_putfield hC hX hR hd hnx hk hst hrm kk
  case new => exact zs_new hC hX hR hd hnx hk hst hrm kk
  case invokespecial => exact zs_objinit hC hX hR hd hnx hk hst hrm kk
  case invokestatic => exact zs_math hC hX hR hd hnx hk hst hrm kk
  all_goals (exact absurd hst (by unfold zst; exact fun q => nomatch q))
set_option maxHeartbeats 4000000 in
theorem zbr_ok {i : Instr} (hC : ZCx p s m args meth c own cc nL isI dC dI cI cO base) (hX : zSc sc b base s) (hR : fr ≤ R.frames ∧ lo ≤ R.locals) {nx a bb d w len pc pc' : Nat} {cv : Int} {L st L' st' : List ZV} {S S' : Sh} {M M' : Me} {h h' : Ml} {cells slots : Nat} (hd : decode cc pc = .ok (i, len)) (hnx : pc + len = nx) (hk : zchk own nL isI ret fr lo pc len i a bb d cv w = true) (hst : zbr sc (i, nx, a, bb, d, cv, w) L st S M h = some (pc', L', st', S', M', h')) (hrm : cells + (S'.length - S.length) ≤ R.cells ∧ slots + (zsz S' - zsz S) ≤ R.slots) (kk : ZN p l e R s m args below meth c Q dC dI cI cO b base nL pc' L' st' S' M' h' (cells + (S'.length - S.length)) (slots + (zsz S' - zsz S))) : ZN p l e R s m args below meth c Q dC dI cI cO b base nL pc L st S M h cells slots := by
  cases i
  case if_icmp => exact zs_if_icmp hC hX hR hd hnx hk hst hrm kk
  case ifCond => exact zs_ifCond hC hX hR hd hnx hk hst hrm kk
  case idiv => exact zs_idiv hC hX hR hd hnx hk hst hrm kk
  case irem => exact zs_irem hC hX hR hd hnx hk hst hrm kk
  case iaload => exact zs_iaload hC hX hR hd hnx hk hst hrm kk
  case iastore => exact zs_iastore hC hX hR hd hnx hk hst hrm kk
  case aaload => exact zs_aaload hC hX hR hd hnx hk hst hrm kk
  case aastore => exact zs_aastore hC hX hR hd hnx hk hst hrm kk
  case newarray => exact zs_newarray hC hX hR hd hnx hk hst hrm kk
  case anewarray => exact zs_anewarray hC hX hR hd hnx hk hst hrm kk
  case tableswitch => exact zs_tableswitch hC hX hR hd hnx hk hst hrm kk
  case invokestatic => exact zs_acopy hC hX hR hd hnx hk hst hrm kk
  all_goals (exact absurd hst (by unfold zbr; exact fun q => nomatch q))
end ZDI
set_option maxHeartbeats 4000000 in
theorem zst_mono {sc : Sc} {i : Instr} {nx a bb d w pc' : Nat} {cv : Int} {L st L' st' : List ZV} {S S' : Sh} {M M' : Me} {h h' : Ml} (hst : zst sc (i, nx, a, bb, d, cv, w) L st S M h = some (pc', L', st', S', M', h')) : S.length ≤ S'.length ∧ zsz S ≤ zsz S' := by
  cases i
  case new =>
    simp only [zst] at hst
    cases hst
    rw [zsz_app, List.length_append]
    exact ⟨Nat.le_add_right _ _, Nat.le_add_right _ _⟩
  case putfield =>
    simp only [zst, Bool.cond_eq_ite] at hst
    repeat' split at hst
    all_goals first
      | (cases hst; done)
      | (cases hst; exact ⟨Nat.le_refl _, Nat.le_refl _⟩)
      | (next hz _ _ _ _ _ _ => cases hst; rw [List.length_set, zsz_set hz (by simp)]; exact ⟨Nat.le_refl _, Nat.le_refl _⟩)
      | (rename_i hz _ _ _ _ _ _; cases hst; rw [List.length_set, zsz_set hz (by simp)]; exact ⟨Nat.le_refl _, Nat.le_refl _⟩)
      | (cases hst; rw [List.length_set, zsz_set (by assumption) (by simp)]; exact ⟨Nat.le_refl _, Nat.le_refl _⟩)
  all_goals first
    | (simp only [zst, reduceCtorEq] at hst; done)
    | (simp only [zst] at hst; cases hst; exact ⟨Nat.le_refl _, Nat.le_refl _⟩)
    | (simp only [zst, Bool.cond_eq_ite] at hst
       repeat' split at hst
       all_goals first
         | (cases hst; done)
         | (cases hst; exact ⟨Nat.le_refl _, Nat.le_refl _⟩)
         | (obtain ⟨_, hst⟩ := zput_some hst; cases hst; exact ⟨Nat.le_refl _, Nat.le_refl _⟩)
         | (obtain ⟨_, hst⟩ := zput_some hst; obtain ⟨_, hst⟩ := zput_some hst; cases hst; exact ⟨Nat.le_refl _, Nat.le_refl _⟩))
set_option maxHeartbeats 4000000 in
theorem zbr_mono {sc : Sc} {i : Instr} {nx a bb d w pc' : Nat} {cv : Int} {L st L' st' : List ZV} {S S' : Sh} {M M' : Me} {h h' : Ml} (hst : zbr sc (i, nx, a, bb, d, cv, w) L st S M h = some (pc', L', st', S', M', h')) : S.length ≤ S'.length ∧ zsz S ≤ zsz S' := by
  cases i
  case newarray =>
    simp only [zbr] at hst
    repeat' split at hst
    all_goals first
      | (cases hst; done)
      | (cases hst; rw [zsz_app, List.length_append]; exact ⟨Nat.le_add_right _ _, Nat.le_add_right _ _⟩)
  case anewarray =>
    simp only [zbr] at hst
    repeat' split at hst
    all_goals first
      | (cases hst; done)
      | (cases hst; rw [zsz_app, List.length_append]; exact ⟨Nat.le_add_right _ _, Nat.le_add_right _ _⟩)
  case aastore =>
    simp only [zbr] at hst
    split at hst
    · split at hst
      · next hz =>
        split at hst
        · split at hst
          · cases hst
            rw [List.length_set, zsz_set hz (by simp)]
            exact ⟨Nat.le_refl _, Nat.le_refl _⟩
          · cases hst
        · cases hst
      · cases hst
    · cases hst
  all_goals first
    | (simp only [zbr, reduceCtorEq] at hst; done)
    | (simp only [zbr] at hst
       repeat' split at hst
       all_goals first
         | (cases hst; done)
         | (cases hst; exact ⟨Nat.le_refl _, Nat.le_refl _⟩))
