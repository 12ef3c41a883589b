def xlen : Instr → Nat
  | .iload _ | .lload _ | .aload _ | .istore _ | .lstore _ | .astore _ | .bipush _ | .ldc _ | .newarray _ => 2
  | .sipush _ | .getfield _ | .putfield _ | .getstatic _ | .goto _ | .if_icmp _ _ | .ifCond _ _ | .if_acmp _ _ | .ifnull _ | .ifnonnull _ | .iinc _ _ | .invokevirtual _ | .invokespecial _ | .invokestatic _ | .new _ | .ldc_w _ | .ldc2_w _ => 3
  | _ => 1
def xsw : Instr → Bool
  | .tableswitch _ _ _ _ | .lookupswitch _ _ => true
  | _ => false
