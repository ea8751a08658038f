/-! THE CONSTRUCTORS: one contract each -/
theorem iw19 : Cond.classLink RL 8 RX4 ∈ sT := sT_of (List.mem_of_getElem? (i := 19) (by decide +kernel)) rfl
theorem iw20 : Cond.instantiable RX4 8 ∈ sT := sT_of (List.mem_of_getElem? (i := 20) (by decide +kernel)) rfl
theorem iw21 : Cond.methodLink RL 129 yX4_init ∈ sT := sT_of (List.mem_of_getElem? (i := 21) (by decide +kernel)) rfl
theorem iw22 : Cond.instanceMethod yX4_init ∈ sT := sT_of (List.mem_of_getElem? (i := 22) (by decide +kernel)) rfl
theorem iw23 : Cond.code yX4_init cX4_init 2 none ∈ sT := sT_of (List.mem_of_getElem? (i := 23) (by decide +kernel)) rfl
theorem iw24 : Cond.methodLink RX4 3 Lib.objectInit ∈ sT := sT_of (List.mem_of_getElem? (i := 24) (by decide +kernel)) rfl
theorem iw25 : Cond.instanceMethod Lib.objectInit ∈ sT := sT_of (List.mem_of_getElem? (i := 25) (by decide +kernel)) rfl
theorem iw26 : Cond.code Lib.objectInit ⟨#[0xb1]⟩ 1 none ∈ sT := sT_of (List.mem_of_getElem? (i := 26) (by decide +kernel)) rfl
theorem iw27 : Cond.classLink RX4 9 RX2 ∈ sT := sT_of (List.mem_of_getElem? (i := 27) (by decide +kernel)) rfl
theorem iw29 : Cond.classLink RX4 15 RX3 ∈ sT := sT_of (List.mem_of_getElem? (i := 29) (by decide +kernel)) rfl
theorem iw31 : Cond.classLink RX4 21 RX1 ∈ sT := sT_of (List.mem_of_getElem? (i := 31) (by decide +kernel)) rfl
theorem iw33 : Cond.classLink RX4 27 RX0 ∈ sT := sT_of (List.mem_of_getElem? (i := 33) (by decide +kernel)) rfl
theorem iw34 : Cond.instantiable RX0 4 ∈ sT := sT_of (List.mem_of_getElem? (i := 34) (by decide +kernel)) rfl
theorem iw36 : Cond.instanceMethod yX0_init ∈ sT := sT_of (List.mem_of_getElem? (i := 36) (by decide +kernel)) rfl
theorem iw37 : Cond.code yX0_init cX0_init 1 none ∈ sT := sT_of (List.mem_of_getElem? (i := 37) (by decide +kernel)) rfl
theorem iw38 : Cond.methodLink RX0 3 Lib.objectInit ∈ sT := sT_of (List.mem_of_getElem? (i := 38) (by decide +kernel)) rfl
theorem iw39 : Cond.classLink RX0 9 RX2 ∈ sT := sT_of (List.mem_of_getElem? (i := 39) (by decide +kernel)) rfl
theorem iw40 : Cond.instantiable RX2 3 ∈ sT := sT_of (List.mem_of_getElem? (i := 40) (by decide +kernel)) rfl
theorem iw42 : Cond.instanceMethod yX2_init ∈ sT := sT_of (List.mem_of_getElem? (i := 42) (by decide +kernel)) rfl
theorem iw43 : Cond.code yX2_init cX2_init 1 none ∈ sT := sT_of (List.mem_of_getElem? (i := 43) (by decide +kernel)) rfl
theorem iw44 : Cond.methodLink RX2 3 Lib.objectInit ∈ sT := sT_of (List.mem_of_getElem? (i := 44) (by decide +kernel)) rfl
theorem iw63 : Cond.arrayClass .int ∈ sT := sT_of (List.mem_of_getElem? (i := 63) (by decide +kernel)) rfl
theorem iw64 : Cond.classLink RX0 24 RX1 ∈ sT := sT_of (List.mem_of_getElem? (i := 64) (by decide +kernel)) rfl
theorem iw65 : Cond.instantiable RX1 4 ∈ sT := sT_of (List.mem_of_getElem? (i := 65) (by decide +kernel)) rfl
theorem iw67 : Cond.instanceMethod yX1_init ∈ sT := sT_of (List.mem_of_getElem? (i := 67) (by decide +kernel)) rfl
theorem iw68 : Cond.code yX1_init cX1_init 1 none ∈ sT := sT_of (List.mem_of_getElem? (i := 68) (by decide +kernel)) rfl
theorem iw69 : Cond.methodLink RX1 3 Lib.objectInit ∈ sT := sT_of (List.mem_of_getElem? (i := 69) (by decide +kernel)) rfl
theorem iw85 : Cond.arrayClass .char ∈ sT := sT_of (List.mem_of_getElem? (i := 85) (by decide +kernel)) rfl
theorem iw100 : Cond.instantiable RX3 6 ∈ sT := sT_of (List.mem_of_getElem? (i := 100) (by decide +kernel)) rfl
theorem iw102 : Cond.instanceMethod yX3_init ∈ sT := sT_of (List.mem_of_getElem? (i := 102) (by decide +kernel)) rfl
theorem iw103 : Cond.code yX3_init cX3_init 1 none ∈ sT := sT_of (List.mem_of_getElem? (i := 103) (by decide +kernel)) rfl
theorem iw104 : Cond.methodLink RX3 1 Lib.objectInit ∈ sT := sT_of (List.mem_of_getElem? (i := 104) (by decide +kernel)) rfl
theorem iw823 : Cond.classLink RL 130 RX5 ∈ sT := sT_of (List.mem_of_getElem? (i := 820) (by decide +kernel)) rfl
theorem iw824 : Cond.instantiable RX5 21 ∈ sT := sT_of (List.mem_of_getElem? (i := 821) (by decide +kernel)) rfl
theorem iw825 : Cond.methodLink RL 132 yX5_init ∈ sT := sT_of (List.mem_of_getElem? (i := 822) (by decide +kernel)) rfl
theorem iw826 : Cond.instanceMethod yX5_init ∈ sT := sT_of (List.mem_of_getElem? (i := 823) (by decide +kernel)) rfl
theorem iw827 : Cond.code yX5_init cX5_init 1 none ∈ sT := sT_of (List.mem_of_getElem? (i := 824) (by decide +kernel)) rfl
theorem iw828 : Cond.methodLink RX5 1 Lib.objectInit ∈ sT := sT_of (List.mem_of_getElem? (i := 825) (by decide +kernel)) rfl
theorem iw893 : Cond.arrayClass .boolean ∈ sT := sT_of (List.mem_of_getElem? (i := 890) (by decide +kernel)) rfl
theorem iw1127 : Cond.arrayClass .long ∈ sT := sT_of (List.mem_of_getElem? (i := 1124) (by decide +kernel)) rfl
theorem iw1128 : Cond.arrayClass .double ∈ sT := sT_of (List.mem_of_getElem? (i := 1125) (by decide +kernel)) rfl
def iT (cy : Nat → ClassId) (h : Nat) (u : Nat × Nat) : va_W := [(h, .inr (2, [.ref u.1, .ref u.2, .int 0])), (u.1, sInt (cy 0) 120 (fun _ => 0)), (u.2, sInt (cy 0) 120 (fun _ => 0))]
def iV (h : Nat) (_ : Unit) : va_W := [(h, .inr (3, [.null, .int 0, .int 0, .int 0, .int 0, .int 0]))]
def iHi (cy : Nat → ClassId) (h : Nat) (u : Nat × (Nat × Nat)) : va_W := [(h, .inr (1, [.int 0, .ref u.1, .ref u.2.1, .ref u.2.2])), (u.1, sInt (cy 1) 30 (fun _ => 0)), (u.2.1, sInt (cy 0) 30 (fun _ => 0)), (u.2.2, sInt (cy 0) 30 (fun _ => 0))]
abbrev eT : va_E := .inr (2, [.null, .null, .int 0])
abbrev eV : va_E := .inr (3, [.null, .int 0, .int 0, .int 0, .int 0, .int 0])
abbrev eH : va_E := .inr (1, [.int 0, .null, .null, .null])
abbrev eB : va_E := .inr (0, [.null, .null, .null, .null])
abbrev eS : va_E := .inr (4, [.null, .null, .null, .null, .null, .int 0, .int 0, .int 0])
def iw (cy : Nat → ClassId) (u : Nat → Nat) (ks : List Nat) : va_W := ks.map (fun k => (u k, sRow cy u iX k (fun _ => 0)))
def iat (k0 h : Nat) (u : Nat → Nat) : Nat → Nat := fun k => if k = k0 then h else u k
abbrev ksB : List Nat := [4, 15, 16, 17, 18, 19, 20, 21, 22, 23, 40, 41, 42, 43]
theorem fsT : ∀ j, j < 3 → defaultValue (tyX2 j) = vp_V [.null, .null, .int 0] j := fun j hj => by
  rcases (by omega : j = 0 ∨ j = 1 ∨ j = 2) with rfl | rfl | rfl <;> rfl
theorem fsH : ∀ j, j < 4 → defaultValue (tyX1 j) = vp_V [.int 0, .null, .null, .null] j := fun j hj => by
  rcases (by omega : j = 0 ∨ j = 1 ∨ j = 2 ∨ j = 3) with rfl | rfl | rfl | rfl <;> rfl
theorem fsV : ∀ j, j < 6 → defaultValue (tyX3 j) = vp_V [.null, .int 0, .int 0, .int 0, .int 0, .int 0] j := fun j hj => by
  rcases (by omega : j = 0 ∨ j = 1 ∨ j = 2 ∨ j = 3 ∨ j = 4 ∨ j = 5) with rfl | rfl | rfl | rfl | rfl | rfl <;> rfl
theorem fsB : ∀ j, j < 4 → defaultValue (tyX0 j) = vp_V [.null, .null, .null, .null] j := fun j hj => by
  rcases (by omega : j = 0 ∨ j = 1 ∨ j = 2 ∨ j = 3) with rfl | rfl | rfl | rfl <;> rfl
theorem fsS : ∀ j, j < 8 → defaultValue (tyX4 j) = vp_V [.null, .null, .null, .null, .null, .int 0, .int 0, .int 0] j := fun j hj => by
  rcases (by omega : j = 0 ∨ j = 1 ∨ j = 2 ∨ j = 3 ∨ j = 4 ∨ j = 5 ∨ j = 6 ∨ j = 7) with rfl | rfl | rfl | rfl | rfl | rfl | rfl | rfl <;> rfl
theorem dI : yX2_init.cls ≠ "java/lang/invoke/MethodHandle" ∧ yX2_init.cls ≠ "java/lang/invoke/VarHandle" ∧ (parseMethodDescriptor yX2_init.desc).map (fun d => d.parameters.length) = some 0 := by decide +kernel
theorem dI1 : yX1_init.cls ≠ "java/lang/invoke/MethodHandle" ∧ yX1_init.cls ≠ "java/lang/invoke/VarHandle" ∧ (parseMethodDescriptor yX1_init.desc).map (fun d => d.parameters.length) = some 0 := by decide +kernel
theorem dI3 : yX3_init.cls ≠ "java/lang/invoke/MethodHandle" ∧ yX3_init.cls ≠ "java/lang/invoke/VarHandle" ∧ (parseMethodDescriptor yX3_init.desc).map (fun d => d.parameters.length) = some 0 := by decide +kernel
theorem dI0 : yX0_init.cls ≠ "java/lang/invoke/MethodHandle" ∧ yX0_init.cls ≠ "java/lang/invoke/VarHandle" ∧ (parseMethodDescriptor yX0_init.desc).map (fun d => d.parameters.length) = some 0 := by decide +kernel
set_option maxHeartbeats 4000000 in
set_option maxRecDepth 100000 in
theorem c_T (l : Launch) (D : va_G) (cy : Nat → ClassId) (h : Nat) : iMet l yX2_init cX2_init 1 1 12 2 240 D cy h eT (Nat × Nat) (iT cy h) (fun _ => []) := by
  refine iMet_of (by decide) (by decide) rfl ?_
  intro p e s m args below meth c ls A Q hA B hnm hl h0 END
  have hx := B.1
  have hb := B.2.1
  refine lv_aload_n hx hb dX2_init_0 rfl (lv_at hl 0 rfl) ?_
  refine i_obj B iw44 iw25 iw26 hl.1 dX2_init_1 (Nat.le_of_ble_eq_true rfl) (Nat.le_of_ble_eq_true rfl) ?_
  refine lv_aload_n hx hb dX2_init_4 rfl (lv_at hl 0 rfl) ?_
  refine lv_bipush (v := 120) hx hb dX2_init_5 (by decide) ?_
  refine i_newa B h0 hA 0 (atype := .int) (ty := .int) (N' := 120) rfl rfl (fun _ _ z => z) rfl iw63 (by decide) rfl (Nat.le_of_ble_eq_true rfl) (Nat.le_of_ble_eq_true rfl) (Nat.le_of_ble_eq_true rfl) dX2_init_7 (fun q1 H h1 => ?_)
  refine i_putF B h1 hnm 0 rfl rfl hin_X2 tyX2 tyX2_ok nmX2 0 (by decide) hw45 rfl rfl rfl rfl (Nat.le_of_ble_eq_true rfl) dX2_init_9 (fun H locs h2 => ?_)
  refine lv_aload_n hx hb dX2_init_12 rfl (lv_at hl 0 rfl) ?_
  refine lv_bipush (v := 120) hx hb dX2_init_13 (by decide) ?_
  refine i_newa B h2 hA 0 (atype := .int) (ty := .int) (N' := 120) rfl rfl (fun _ _ z => z) rfl iw63 (by decide) rfl (Nat.le_of_ble_eq_true rfl) (Nat.le_of_ble_eq_true rfl) (Nat.le_of_ble_eq_true rfl) dX2_init_15 (fun q2 H h3 => ?_)
  refine i_putF B h3 hnm 0 rfl rfl hin_X2 tyX2 tyX2_ok nmX2 1 (by decide) hw49 rfl rfl rfl rfl (Nat.le_of_ble_eq_true rfl) dX2_init_17 (fun H locs h4 => ?_)
  exact END _ _ (q1, q2) _ _ h4 dX2_init_20
set_option maxHeartbeats 4000000 in
set_option maxRecDepth 100000 in
theorem c_V (l : Launch) (D : va_G) (cy : Nat → ClassId) (h : Nat) : iMet l yX3_init cX3_init 1 1 12 0 0 D cy h eV Unit (iV h) (fun _ => []) := by
  refine iMet_of (by decide) (by decide) rfl ?_
  intro p e s m args below meth c ls A Q hA B hnm hl h0 END
  have hx := B.1
  have hb := B.2.1
  refine lv_aload_n hx hb dX3_init_0 rfl (lv_at hl 0 rfl) ?_
  refine i_obj B iw104 iw25 iw26 hl.1 dX3_init_1 (Nat.le_of_ble_eq_true rfl) (Nat.le_of_ble_eq_true rfl) ?_
  exact END _ _ () _ _ h0 dX3_init_4
set_option maxHeartbeats 4000000 in
set_option maxRecDepth 100000 in
theorem c_H (l : Launch) (D : va_G) (cy : Nat → ClassId) (h : Nat) : iMet l yX1_init cX1_init 1 1 12 3 90 D cy h eH (Nat × (Nat × Nat)) (iHi cy h) (fun _ => []) := by
  refine iMet_of (by decide) (by decide) rfl ?_
  intro p e s m args below meth c ls A Q hA B hnm hl h0 END
  have hx := B.1
  have hb := B.2.1
  refine lv_aload_n hx hb dX1_init_0 rfl (lv_at hl 0 rfl) ?_
  refine i_obj B iw69 iw25 iw26 hl.1 dX1_init_1 (Nat.le_of_ble_eq_true rfl) (Nat.le_of_ble_eq_true rfl) ?_
  refine lv_aload_n hx hb dX1_init_4 rfl (lv_at hl 0 rfl) ?_
  refine lv_bipush (v := 30) hx hb dX1_init_5 (by decide) ?_
  refine i_newa B h0 hA 1 (atype := .char) (ty := .char) (N' := 30) rfl rfl (fun _ _ z => z) rfl iw85 (by decide) rfl (Nat.le_of_ble_eq_true rfl) (Nat.le_of_ble_eq_true rfl) (Nat.le_of_ble_eq_true rfl) dX1_init_7 (fun q1 H h1 => ?_)
  refine i_putF B h1 hnm 0 rfl rfl hin_X1 tyX1 tyX1_ok nmX1 1 (by decide) hw73 rfl rfl rfl rfl (Nat.le_of_ble_eq_true rfl) dX1_init_9 (fun H locs h2 => ?_)
  refine lv_aload_n hx hb dX1_init_12 rfl (lv_at hl 0 rfl) ?_
  refine lv_bipush (v := 30) hx hb dX1_init_13 (by decide) ?_
  refine i_newa B h2 hA 0 (atype := .int) (ty := .int) (N' := 30) rfl rfl (fun _ _ z => z) rfl iw63 (by decide) rfl (Nat.le_of_ble_eq_true rfl) (Nat.le_of_ble_eq_true rfl) (Nat.le_of_ble_eq_true rfl) dX1_init_15 (fun q2 H h3 => ?_)
  refine i_putF B h3 hnm 0 rfl rfl hin_X1 tyX1 tyX1_ok nmX1 2 (by decide) hw74 rfl rfl rfl rfl (Nat.le_of_ble_eq_true rfl) dX1_init_17 (fun H locs h4 => ?_)
  refine lv_aload_n hx hb dX1_init_20 rfl (lv_at hl 0 rfl) ?_
  refine lv_bipush (v := 30) hx hb dX1_init_21 (by decide) ?_
  refine i_newa B h4 hA 0 (atype := .int) (ty := .int) (N' := 30) rfl rfl (fun _ _ z => z) rfl iw63 (by decide) rfl (Nat.le_of_ble_eq_true rfl) (Nat.le_of_ble_eq_true rfl) (Nat.le_of_ble_eq_true rfl) dX1_init_23 (fun q3 H h5 => ?_)
  refine i_putF B h5 hnm 0 rfl rfl hin_X1 tyX1 tyX1_ok nmX1 3 (by decide) hw75 rfl rfl rfl rfl (Nat.le_of_ble_eq_true rfl) dX1_init_25 (fun H locs h6 => ?_)
  exact END _ _ (q1, q2, q3) _ _ h6 dX1_init_28
set_option maxHeartbeats 4000000 in
set_option maxRecDepth 100000 in
theorem c_B (l : Launch) (D : va_G) (cy : Nat → ClassId) (h : Nat) : iMet l yX0_init cX0_init 1 2 32 13 823 D cy h eB (Nat → Nat) (fun u => iw cy (iat 4 h u) ksB) (fun _ => []) := by
  refine iMet_of (by decide) (by decide) rfl ?_
  intro p e s m args below meth c ls A Q hA B hnm hl h0 END
  have hx := B.1
  have hb := B.2.1
  refine lv_aload_n hx hb dX0_init_0 rfl (lv_at hl 0 rfl) ?_
  refine i_obj B iw38 iw25 iw26 hl.1 dX0_init_1 (Nat.le_of_ble_eq_true rfl) (Nat.le_of_ble_eq_true rfl) ?_
  refine lv_aload_n hx hb dX0_init_4 rfl (lv_at hl 0 rfl) ?_
  refine i_new B h0 hA hin_X2 tyX2 tyX2_ok iw39 iw40 hw3 (ci := 2) rfl fsT (Nat.le_of_ble_eq_true rfl) (Nat.le_of_ble_eq_true rfl) dX0_init_5 (fun q0 H h0a => ?_)
  refine lv_dup hx hb dX0_init_8 rfl ?_
  refine i_nest B h0a hA (c_T l D cy q0) iw43 (List.mem_of_getElem? (i := 0) rfl) hw3 iw42 rfl dI ⟨(Nat.le_of_ble_eq_true rfl), (Nat.le_of_ble_eq_true rfl)⟩ hl.1 (Nat.le_of_ble_eq_true rfl) dX0_init_9 ⟨(Nat.le_of_ble_eq_true rfl), (Nat.le_of_ble_eq_true rfl)⟩ (fun u0 H locs h0b _ => ?_)
  refine i_putF B h0b hnm 0 rfl rfl hin_X0 tyX0 tyX0_ok nmX0 0 (by decide) hw86 rfl rfl rfl rfl (Nat.le_of_ble_eq_true rfl) dX0_init_12 (fun H locs h0c => ?_)
  refine lv_aload_n hx hb dX0_init_15 rfl (lv_at hl 0 rfl) ?_
  refine i_new B h0c hA hin_X2 tyX2 tyX2_ok iw39 iw40 hw3 (ci := 2) rfl fsT (Nat.le_of_ble_eq_true rfl) (Nat.le_of_ble_eq_true rfl) dX0_init_16 (fun q1 H h1a => ?_)
  refine lv_dup hx hb dX0_init_19 rfl ?_
  refine i_nest B h1a hA (c_T l D cy q1) iw43 (List.mem_of_getElem? (i := 0) rfl) hw3 iw42 rfl dI ⟨(Nat.le_of_ble_eq_true rfl), (Nat.le_of_ble_eq_true rfl)⟩ hl.1 (Nat.le_of_ble_eq_true rfl) dX0_init_20 ⟨(Nat.le_of_ble_eq_true rfl), (Nat.le_of_ble_eq_true rfl)⟩ (fun u1 H locs h1b _ => ?_)
  refine i_putF B h1b hnm 0 rfl rfl hin_X0 tyX0 tyX0_ok nmX0 1 (by decide) hw87 rfl rfl rfl rfl (Nat.le_of_ble_eq_true rfl) dX0_init_23 (fun H locs h1c => ?_)
  refine lv_aload_n hx hb dX0_init_26 rfl (lv_at hl 0 rfl) ?_
  refine i_new B h1c hA hin_X2 tyX2 tyX2_ok iw39 iw40 hw3 (ci := 2) rfl fsT (Nat.le_of_ble_eq_true rfl) (Nat.le_of_ble_eq_true rfl) dX0_init_27 (fun q2 H h2a => ?_)
  refine lv_dup hx hb dX0_init_30 rfl ?_
  refine i_nest B h2a hA (c_T l D cy q2) iw43 (List.mem_of_getElem? (i := 0) rfl) hw3 iw42 rfl dI ⟨(Nat.le_of_ble_eq_true rfl), (Nat.le_of_ble_eq_true rfl)⟩ hl.1 (Nat.le_of_ble_eq_true rfl) dX0_init_31 ⟨(Nat.le_of_ble_eq_true rfl), (Nat.le_of_ble_eq_true rfl)⟩ (fun u2 H locs h2b _ => ?_)
  refine i_putF B h2b hnm 0 rfl rfl hin_X0 tyX0 tyX0_ok nmX0 2 (by decide) hw88 rfl rfl rfl rfl (Nat.le_of_ble_eq_true rfl) dX0_init_34 (fun H locs h2c => ?_)
  refine lv_aload_n hx hb dX0_init_37 rfl (lv_at hl 0 rfl) ?_
  refine i_new B h2c hA hin_X1 tyX1 tyX1_ok iw64 iw65 hw4 (ci := 1) rfl fsH (Nat.le_of_ble_eq_true rfl) (Nat.le_of_ble_eq_true rfl) dX0_init_38 (fun q3 H h3a => ?_)
  refine lv_dup hx hb dX0_init_41 rfl ?_
  refine i_nest B h3a hA (c_H l D cy q3) iw68 (List.mem_of_getElem? (i := 1) rfl) hw4 iw67 rfl dI1 ⟨(Nat.le_of_ble_eq_true rfl), (Nat.le_of_ble_eq_true rfl)⟩ hl.1 (Nat.le_of_ble_eq_true rfl) dX0_init_42 ⟨(Nat.le_of_ble_eq_true rfl), (Nat.le_of_ble_eq_true rfl)⟩ (fun u3 H locs h3b _ => ?_)
  refine i_putF B h3b hnm 0 rfl rfl hin_X0 tyX0 tyX0_ok nmX0 3 (by decide) hw89 rfl rfl rfl rfl (Nat.le_of_ble_eq_true rfl) dX0_init_45 (fun H locs h3c => ?_)
  exact END _ _ (fun k => if k < 24 then [q0, u0.1, u0.2, q1, u1.1, u1.2, q2, u2.1, u2.2].getD (k - 15) 0 else [q3, u3.1, u3.2.1, u3.2.2].getD (k - 40) 0) _ _ h3c dX0_init_48
