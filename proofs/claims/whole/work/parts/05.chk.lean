-- what a program checks of the tables: every instruction decodes so, the calls' room
def ilk : Instr → Nat → Bool
  | .bipush _, l | .iload _, l | .lload _, l | .aload _, l | .istore _, l | .lstore _, l | .astore _, l | .newarray _, l => l == 2
  | .sipush _, l | .goto _, l | .ifCond _ _, l | .if_icmp _ _, l | .if_acmp _ _, l | .ifnull _, l | .ifnonnull _, l | .iinc _ _, l | .getfield _, l | .putfield _, l | .new _, l | .anewarray _, l | .instanceof _, l | .checkcast _, l | .invokestatic _, l | .invokespecial _, l | .invokevirtual _, l | .ldc2_w _, l => l == 3
  | .tableswitch _ _ _ _, _ => true
  | _, l => l == 1
def tgk (pc : Nat) : Instr → Bool
  | .goto o | .ifCond _ o | .if_icmp _ o | .if_acmp _ o | .ifnull o | .ifnonnull o => decide (0 ≤ (pc : Int) + o)
  | .tableswitch d _ _ os => decide (0 ≤ (pc : Int) + d) && os.toList.all (fun o => decide (0 ≤ (pc : Int) + o))
  | _ => true
def roomk (M : Nat) (tgs : List (Nat × Nat × List Nat)) : Bool := tgs.all fun q => decide (mfr q.2.1 + 1 ≤ mfr M) && decide (8 + (mxl q.2.1 + 11) + mlo q.2.1 ≤ mlo M) && decide (q.2.1 < 189) && decide (q.2.1 ≠ 0)
def calk (M : Nat) : Instr → Bool
  | .invokestatic i => (match cpM (mow M) i with | some (kd, _, _, _, _, tgs) => (decide (kd = 7) && decide (1 ≤ mfr M) && decide (21 ≤ mlo M)) || (decide (kd ≤ 1) && roomk M tgs) | none => false)
  | .invokevirtual i => (match cpM (mow M) i with | some (kd, _, _, _, _, tgs) => decide (kd = 5 ∨ kd = 6) && roomk M tgs && tgs.all (fun q => decide (q.1 ≤ 10)) | none => false)
  | .invokespecial i => (match cpM (mow M) i with | some (kd, _, _, _, _, tgs) => (decide (kd = 4) && decide (1 ≤ mfr M) && decide (20 ≤ mlo M)) || (decide (kd = 2 ∨ kd = 3) && roomk M tgs && tgs.all (fun q => decide (mrt q.2.1 = none))) | none => false)
  | _ => true
def ck1 (M pc : Nat) : Option (Instr × Nat) → Bool
  | none => true
  | some (i, nx) => decide (decode (mby M) pc = .ok (i, nx - pc)) && decide (pc ≤ nx) && ilk i (nx - pc) && tgk pc i && calk M i
def ckl (M : Nat) : Nat → List (Option (Instr × Nat)) → Bool
  | _, [] => true
  | pc, e :: t => ck1 M pc e && ckl M (pc + 1) t
def ckM (M : Nat) : Bool := ckl M 0 (cds.getD M [])
theorem ck_r1 : (List.range' 1 10).all ckM = true := by decide +kernel
theorem ck_r11 : (List.range' 11 10).all ckM = true := by decide +kernel
theorem ck_r21 : (List.range' 21 10).all ckM = true := by decide +kernel
theorem ck_r31 : (List.range' 31 10).all ckM = true := by decide +kernel
theorem ck_r41 : (List.range' 41 10).all ckM = true := by decide +kernel
theorem ck_r51 : (List.range' 51 10).all ckM = true := by decide +kernel
theorem ck_r61 : (List.range' 61 10).all ckM = true := by decide +kernel
theorem ck_r71 : (List.range' 71 10).all ckM = true := by decide +kernel
theorem ck_r81 : (List.range' 81 10).all ckM = true := by decide +kernel
theorem ck_r91 : (List.range' 91 10).all ckM = true := by decide +kernel
theorem ck_r101 : (List.range' 101 10).all ckM = true := by decide +kernel
theorem ck_r111 : (List.range' 111 10).all ckM = true := by decide +kernel
theorem ck_r121 : (List.range' 121 10).all ckM = true := by decide +kernel
theorem ck_r131 : (List.range' 131 10).all ckM = true := by decide +kernel
theorem ck_r141 : (List.range' 141 10).all ckM = true := by decide +kernel
theorem ck_r151 : (List.range' 151 10).all ckM = true := by decide +kernel
theorem ck_r161 : (List.range' 161 10).all ckM = true := by decide +kernel
theorem ck_r171 : (List.range' 171 10).all ckM = true := by decide +kernel
theorem ck_r181 : (List.range' 181 8).all ckM = true := by decide +kernel
