/-! THE CODE IS AS THE TABLES SAY -/
def am_simple (i : Instr) : Bool := match i with
  | .iadd | .isub | .imul | .iand | .ior | .ixor | .ishl | .ishr | .idiv | .irem | .ineg | .ladd | .lsub | .lmul | .ldiv | .lrem | .lneg | .lcmp | .i2l | .i2b | .i2s | .dup | .dup2 | .pop => true
  | .iaload | .baload | .laload | .aaload | .iastore | .bastore | .lastore | .aastore | .arraylength | .lreturn | .return_ => true
  | _ => false
def am_nn (mk : Fin 4 → Instr) (j : Instr) (n : Nat) : Bool := if h : n < 4 then decide (j = mk ⟨n, h⟩) else false
def am_ins (M pc : Nat) (j : Instr) (len : Nat) (i : Instr) : Bool := match i with
  | .bipush v => (decide (j = .iconst v) && len == 1) || (decide (j = .bipush v) && len == 2 && decide ((Int8.ofInt v).toInt32 = Int32.ofInt v)) || (decide (j = .sipush v) && len == 3 && decide ((Int16.ofInt v).toInt32 = Int32.ofInt v)) || (len == 2 && am_K.any (fun q => q.1 == am_own M && decide (j = .ldc q.2.1) && decide (q.2.2.1 = v)))
  | .sipush v => (decide (j = .lconst 0) && len == 1 && decide (v = 0)) || (decide (j = .lconst 1) && len == 1 && decide (v = 1)) || (len == 3 && am_J.any (fun q => q.1 == am_own M && decide (j = .ldc2_w q.2.1) && decide (q.2.2.1 = v)))
  | .iload n => (decide (j = .iload n) && len == 2) || (am_nn .iload_n j n && len == 1)
  | .lload n => (decide (j = .lload n) && len == 2) || (am_nn .lload_n j n && len == 1)
  | .aload n => (decide (j = .aload n) && len == 2) || (am_nn .aload_n j n && len == 1)
  | .istore n => (decide (j = .istore n) && len == 2) || (am_nn .istore_n j n && len == 1)
  | .lstore n => (decide (j = .lstore n) && len == 2) || (am_nn .lstore_n j n && len == 1)
  | .astore n => (decide (j = .astore n) && len == 2) || (am_nn .astore_n j n && len == 1)
  | .iinc n v => decide (j = .iinc n v) && len == 3
  | .if_icmp o t => decide (j = .if_icmp o (t - pc)) && len == 3 && decide (0 ≤ t)
  | .ifCond o t => decide (j = .ifCond o (t - pc)) && len == 3 && decide (0 ≤ t)
  | .goto t => decide (j = .goto (t - pc)) && len == 3 && decide (0 ≤ t)
  | .tableswitch d lo hi os => decide (j = .tableswitch (d - pc) lo hi (os.map (fun o => o - pc))) && decide (0 ≤ d) && os.toList.all (fun o => decide (0 ≤ o)) && decide (hi < lo + os.size)
  | .lookupswitch d ps => decide (j = .lookupswitch (d - pc) (ps.map (fun q => (q.1, q.2 - pc)))) && decide (0 ≤ d) && ps.toList.all (fun q => decide (0 ≤ q.2)) && ((ps.map (fun q => (q.1, q.2 - (pc : Int)))).toList.zip ((ps.map (fun q => (q.1, q.2 - (pc : Int)))).toList.drop 1)).all (fun (a, next) => a.1 < next.1)
  | .getfield x => len == 3 && decide (x / 64 < 10) && decide (x % 64 < am_N (x / 64)) && am_F.any (fun q => q.1 == am_own M && decide (j = .getfield q.2.1) && q.2.2.1 == x)
  | .putfield x => len == 3 && decide (x / 64 < 10) && decide (x % 64 < am_N (x / 64)) && am_F.any (fun q => q.1 == am_own M && decide (j = .putfield q.2.1) && q.2.2.1 == x) && (decide ((am_Tx (x / 64) (x % 64)).2.2.2 = false) || (decide ((am_y M).name = "<init>") && decide ((am_Tx (x / 64) (x % 64)).1 = am_cls (am_own M))))
  | .getstatic x => len == 3 && am_G.any (fun q => q.1 == am_own M && decide (j = .getstatic q.2.1) && q.2.2.1 == x)
  | .new x => len == 3 && am_Nw.any (fun q => q.1 == am_own M && decide (j = .new q.2.1) && q.2.2.1 == x)
  | .newarray t => len == 2 && decide (j = .newarray t) && decide (am_atN t < 3)
  | .anewarray t => len == 3 && am_A.any (fun q => q.1 == am_own M && decide (j = .anewarray q.2.1) && q.2.2.1 == t)
  | .pop2 => len == 3 && am_O.any (fun q => q.1 == am_own M && decide (j = .invokespecial q.2.1)) && decide (1 ≤ am_fr M) && decide (24 ≤ am_lc M)
  | .fadd => len == 3 && am_Mt.any (fun q => q.1 == am_own M && decide (j = .invokestatic q.2.1) && q.2.2.1 == 0) && decide (1 ≤ am_fr M) && decide (24 ≤ am_lc M)
  | .fsub => len == 3 && am_Mt.any (fun q => q.1 == am_own M && decide (j = .invokestatic q.2.1) && q.2.2.1 == 1) && decide (1 ≤ am_fr M) && decide (24 ≤ am_lc M)
  | .fmul => len == 3 && am_Mt.any (fun q => q.1 == am_own M && decide (j = .invokestatic q.2.1) && q.2.2.1 == 2) && decide (1 ≤ am_fr M) && decide (24 ≤ am_lc M)
  | .fdiv => len == 3 && am_Mt.any (fun q => q.1 == am_own M && decide (j = .invokestatic q.2.1) && q.2.2.1 == 3) && decide (1 ≤ am_fr M) && decide (24 ≤ am_lc M)
  | .invokevirtual k => len == 3 && decide (k < 186) && decide (am_fr k + 1 ≤ am_fr M) && decide (8 + (am_mL k + 11) + am_lc k ≤ am_lc M) && am_C.any (fun q => q.1 == am_own M && q.2.2.1 == k && decide (j = (if q.2.2.2.1 = 0 then .invokevirtual q.2.1 else if q.2.2.2.1 = 1 ∨ q.2.2.2.1 = 4 then .invokestatic q.2.1 else .invokespecial q.2.1)))
  | .ireturn => decide (j = .ireturn) && len == 1 && decide (am_rt M = some .int)
  | .areturn => decide (j = .ireturn) && len == 1 && decide (am_rt M = some .boolean)
  | .lreturn => decide (j = .lreturn) && len == 1 && decide (am_rt M = some .long)
  | .return_ => decide (j = .return_) && len == 1 && decide (am_rt M = none)
  | i => decide (j = i) && am_simple i && len == 1
def am_chk (M : Nat) : Nat → List Instr → Bool
  | _, [] => true
  | pc, i :: c => match i with
    | .jsr t => decide (t = (pc : Int))
    | _ => match decode (am_cc M) pc with
      | .ok (j, len) => am_ins M pc j len i && am_chk M (pc + len) c
      | _ => false
def am_chkM (M : Nat) : Bool := ((am_BL[M]?).getD []).all (fun q => am_chk M q.1 q.2)
