/-- how long an instruction is -/
def sm_lof (i : Instr) : Nat := match i with
  | .aload _ => 2
  | .astore _ => 2
  | .iload _ => 2
  | .istore _ => 2
  | .lload _ => 2
  | .lstore _ => 2
  | .bipush _ => 2
  | .ldc _ => 2
  | .newarray _ => 2
  | .anewarray _ => 3
  | .checkcast _ => 3
  | .getfield _ => 3
  | .putfield _ => 3
  | .getstatic _ => 3
  | .goto _ => 3
  | .if_icmp _ _ => 3
  | .ifCond _ _ => 3
  | .ifnull _ => 3
  | .ifnonnull _ => 3
  | .iinc _ _ => 3
  | .invokespecial _ => 3
  | .invokestatic _ => 3
  | .invokevirtual _ => 3
  | .ldc_w _ => 3
  | .ldc2_w _ => 3
  | .new _ => 3
  | .sipush _ => 3
  | _ => 1
def sm_isw (i : Instr) : Bool := match i with
  | .tableswitch _ _ _ _ => true
  | _ => false
/-- an instruction's numbers are what they stand for -/
def sm_num (i : Instr) : Bool := match i with
  | .iconst n => (Int32.ofInt n).toInt == n
  | .bipush n => (Int8.ofInt n).toInt32.toInt == n
  | .sipush n => (Int16.ofInt n).toInt32.toInt == n
  | .iinc _ n => (Int32.ofInt n).toInt == n
  | _ => true
def pf_dok (b : ByteArray) (t : List (Nat × (Instr × Nat))) : Prop := ∀ q ∈ t, decode b q.1 = .ok q.2 ∧ (sm_isw q.2.1 = true ∨ sm_lof q.2.1 = q.2.2) ∧ sm_num q.2.1 = true

set_option maxRecDepth 100000 in
theorem pf_d0 : pf_dok sm_m0.2.1 sm_t0 := by unfold pf_dok; decide +kernel
set_option maxRecDepth 100000 in
theorem pf_d1 : pf_dok sm_m1.2.1 sm_t1 := by unfold pf_dok; decide +kernel
set_option maxRecDepth 100000 in
theorem pf_d2 : pf_dok sm_m2.2.1 sm_t2 := by unfold pf_dok; decide +kernel
set_option maxRecDepth 100000 in
theorem pf_d3 : pf_dok sm_m3.2.1 sm_t3 := by unfold pf_dok; decide +kernel
set_option maxRecDepth 100000 in
theorem pf_d4 : pf_dok sm_m4.2.1 sm_t4 := by unfold pf_dok; decide +kernel
set_option maxRecDepth 100000 in
theorem pf_d5 : pf_dok sm_m5.2.1 sm_t5 := by unfold pf_dok; decide +kernel
set_option maxRecDepth 100000 in
theorem pf_d6 : pf_dok sm_m6.2.1 sm_t6 := by unfold pf_dok; decide +kernel
set_option maxRecDepth 100000 in
theorem pf_d7 : pf_dok sm_m7.2.1 sm_t7 := by unfold pf_dok; decide +kernel
set_option maxRecDepth 100000 in
theorem pf_d8 : pf_dok sm_m8.2.1 sm_t8 := by unfold pf_dok; decide +kernel
set_option maxRecDepth 100000 in
theorem pf_d9 : pf_dok sm_m9.2.1 sm_t9 := by unfold pf_dok; decide +kernel
set_option maxRecDepth 100000 in
theorem pf_d10 : pf_dok sm_m10.2.1 sm_t10 := by unfold pf_dok; decide +kernel
set_option maxRecDepth 100000 in
theorem pf_d11 : pf_dok sm_m11.2.1 sm_t11 := by unfold pf_dok; decide +kernel
set_option maxRecDepth 100000 in
theorem pf_d12 : pf_dok sm_m12.2.1 sm_t12 := by unfold pf_dok; decide +kernel
set_option maxRecDepth 100000 in
theorem pf_d13 : pf_dok sm_m13.2.1 sm_t13 := by unfold pf_dok; decide +kernel
set_option maxRecDepth 100000 in
theorem pf_d14 : pf_dok sm_m14.2.1 sm_t14 := by unfold pf_dok; decide +kernel
set_option maxRecDepth 100000 in
theorem pf_d15 : pf_dok sm_m15.2.1 sm_t15 := by unfold pf_dok; decide +kernel
set_option maxRecDepth 100000 in
theorem pf_d16 : pf_dok sm_m16.2.1 sm_t16 := by unfold pf_dok; decide +kernel
set_option maxRecDepth 100000 in
theorem pf_d17 : pf_dok sm_m17.2.1 sm_t17 := by unfold pf_dok; decide +kernel
set_option maxRecDepth 100000 in
theorem pf_d18 : pf_dok sm_m18.2.1 sm_t18 := by unfold pf_dok; decide +kernel
set_option maxRecDepth 100000 in
theorem pf_d19 : pf_dok sm_m19.2.1 sm_t19 := by unfold pf_dok; decide +kernel
set_option maxRecDepth 100000 in
theorem pf_d20 : pf_dok sm_m20.2.1 sm_t20 := by unfold pf_dok; decide +kernel
set_option maxRecDepth 100000 in
theorem pf_d21 : pf_dok sm_m21.2.1 sm_t21 := by unfold pf_dok; decide +kernel
set_option maxRecDepth 100000 in
theorem pf_d22 : pf_dok sm_m22.2.1 sm_t22 := by unfold pf_dok; decide +kernel
set_option maxRecDepth 100000 in
theorem pf_d23 : pf_dok sm_m23.2.1 sm_t23 := by unfold pf_dok; decide +kernel
set_option maxRecDepth 100000 in
theorem pf_d24 : pf_dok sm_m24.2.1 sm_t24 := by unfold pf_dok; decide +kernel
set_option maxRecDepth 100000 in
theorem pf_d25 : pf_dok sm_m25.2.1 sm_t25 := by unfold pf_dok; decide +kernel
set_option maxRecDepth 100000 in
theorem pf_d26 : pf_dok sm_m26.2.1 sm_t26 := by unfold pf_dok; decide +kernel
set_option maxRecDepth 100000 in
theorem pf_d27 : pf_dok sm_m27.2.1 sm_t27 := by unfold pf_dok; decide +kernel
set_option maxRecDepth 100000 in
theorem pf_d28 : pf_dok sm_m28.2.1 sm_t28 := by unfold pf_dok; decide +kernel
set_option maxRecDepth 100000 in
theorem pf_d29 : pf_dok sm_m29.2.1 sm_t29 := by unfold pf_dok; decide +kernel
set_option maxRecDepth 100000 in
theorem pf_d30 : pf_dok sm_m30.2.1 sm_t30 := by unfold pf_dok; decide +kernel
set_option maxRecDepth 100000 in
theorem pf_d31 : pf_dok sm_m31.2.1 sm_t31 := by unfold pf_dok; decide +kernel
set_option maxRecDepth 100000 in
theorem pf_d32 : pf_dok sm_m32.2.1 sm_t32 := by unfold pf_dok; decide +kernel
set_option maxRecDepth 100000 in
theorem pf_d33 : pf_dok sm_m33.2.1 sm_t33 := by unfold pf_dok; decide +kernel
set_option maxRecDepth 100000 in
theorem pf_d34 : pf_dok sm_m34.2.1 sm_t34 := by unfold pf_dok; decide +kernel
set_option maxRecDepth 100000 in
theorem pf_d35 : pf_dok sm_m35.2.1 sm_t35 := by unfold pf_dok; decide +kernel
set_option maxRecDepth 100000 in
theorem pf_d36 : pf_dok sm_m36.2.1 sm_t36 := by unfold pf_dok; decide +kernel
set_option maxRecDepth 100000 in
theorem pf_d37 : pf_dok sm_m37.2.1 sm_t37 := by unfold pf_dok; decide +kernel
set_option maxRecDepth 100000 in
theorem pf_d38 : pf_dok sm_m38.2.1 sm_t38 := by unfold pf_dok; decide +kernel
set_option maxRecDepth 100000 in
theorem pf_d39 : pf_dok sm_m39.2.1 sm_t39 := by unfold pf_dok; decide +kernel
set_option maxRecDepth 100000 in
theorem pf_d40 : pf_dok sm_m40.2.1 sm_t40 := by unfold pf_dok; decide +kernel
set_option maxRecDepth 100000 in
theorem pf_d41 : pf_dok sm_m41.2.1 sm_t41 := by unfold pf_dok; decide +kernel
set_option maxRecDepth 100000 in
theorem pf_d42 : pf_dok sm_m42.2.1 sm_t42 := by unfold pf_dok; decide +kernel
set_option maxRecDepth 100000 in
theorem pf_d43 : pf_dok sm_m43.2.1 sm_t43 := by unfold pf_dok; decide +kernel
set_option maxRecDepth 100000 in
theorem pf_d44 : pf_dok sm_m44.2.1 sm_t44 := by unfold pf_dok; decide +kernel
set_option maxRecDepth 100000 in
theorem pf_d45 : pf_dok sm_m45.2.1 sm_t45 := by unfold pf_dok; decide +kernel
set_option maxRecDepth 100000 in
theorem pf_d46 : pf_dok sm_m46.2.1 sm_t46 := by unfold pf_dok; decide +kernel
set_option maxRecDepth 100000 in
theorem pf_d47 : pf_dok sm_m47.2.1 sm_t47 := by unfold pf_dok; decide +kernel
set_option maxRecDepth 100000 in
theorem pf_d48 : pf_dok sm_m48.2.1 sm_t48 := by unfold pf_dok; decide +kernel
set_option maxRecDepth 100000 in
theorem pf_d49 : pf_dok sm_m49.2.1 sm_t49 := by unfold pf_dok; decide +kernel
set_option maxRecDepth 100000 in
theorem pf_d50 : pf_dok sm_m50.2.1 sm_t50 := by unfold pf_dok; decide +kernel
set_option maxRecDepth 100000 in
theorem pf_d51 : pf_dok sm_m51.2.1 sm_t51 := by unfold pf_dok; decide +kernel
set_option maxRecDepth 100000 in
theorem pf_d52 : pf_dok sm_m52.2.1 sm_t52 := by unfold pf_dok; decide +kernel
set_option maxRecDepth 100000 in
theorem pf_d53 : pf_dok sm_m53.2.1 sm_t53 := by unfold pf_dok; decide +kernel
set_option maxRecDepth 100000 in
theorem pf_d54 : pf_dok sm_m54.2.1 sm_t54 := by unfold pf_dok; decide +kernel
set_option maxRecDepth 100000 in
theorem pf_d55 : pf_dok sm_m55.2.1 sm_t55 := by unfold pf_dok; decide +kernel
set_option maxRecDepth 100000 in
theorem pf_d56 : pf_dok sm_m56.2.1 sm_t56 := by unfold pf_dok; decide +kernel
set_option maxRecDepth 100000 in
theorem pf_d57 : pf_dok sm_m57.2.1 sm_t57 := by unfold pf_dok; decide +kernel
set_option maxRecDepth 100000 in
theorem pf_d58 : pf_dok sm_m58.2.1 sm_t58 := by unfold pf_dok; decide +kernel
set_option maxRecDepth 100000 in
theorem pf_d59 : pf_dok sm_m59.2.1 sm_t59 := by unfold pf_dok; decide +kernel
set_option maxRecDepth 100000 in
theorem pf_d60 : pf_dok sm_m60.2.1 sm_t60 := by unfold pf_dok; decide +kernel
set_option maxRecDepth 100000 in
theorem pf_d61 : pf_dok sm_m61.2.1 sm_t61 := by unfold pf_dok; decide +kernel
set_option maxRecDepth 100000 in
theorem pf_d62 : pf_dok sm_m62.2.1 sm_t62 := by unfold pf_dok; decide +kernel
set_option maxRecDepth 100000 in
theorem pf_d63 : pf_dok sm_m63.2.1 sm_t63 := by unfold pf_dok; decide +kernel
