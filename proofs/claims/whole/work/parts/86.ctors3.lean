/-! THE CONSTRUCTORS: the reference's -/
abbrev ksM : List Nat := [44, 45, 46, 47, 48, 49, 50, 51, 52, 53, 54, 55, 56, 57, 58, 59, 60]
abbrev eM : va_E := .inr (5, [.null, .null, .null, .null, .null, .null, .null, .null, .null, .null, .null, .null, .null, .null, .null, .int 0, .null, .int 0, .int 0, .int 0, .int 0])
theorem fsM : ∀ j, j < 21 → defaultValue (tyX5 j) = vp_V [.null, .null, .null, .null, .null, .null, .null, .null, .null, .null, .null, .null, .null, .null, .null, .int 0, .null, .int 0, .int 0, .int 0, .int 0] j := fun j hj => by
  rcases (by omega : j = 0 ∨ j = 1 ∨ j = 2 ∨ j = 3 ∨ j = 4 ∨ j = 5 ∨ j = 6 ∨ j = 7 ∨ j = 8 ∨ j = 9 ∨ j = 10 ∨ j = 11 ∨ j = 12 ∨ j = 13 ∨ j = 14 ∨ j = 15 ∨ j = 16 ∨ j = 17 ∨ j = 18 ∨ j = 19 ∨ j = 20) with rfl | rfl | rfl | rfl | rfl | rfl | rfl | rfl | rfl | rfl | rfl | rfl | rfl | rfl | rfl | rfl | rfl | rfl | rfl | rfl | rfl <;> rfl
set_option maxHeartbeats 4000000 in
set_option maxRecDepth 100000 in
theorem c_M (l : Launch) (D : va_G) (cy : Nat → ClassId) (h : Nat) : iMet l yX5_init cX5_init 1 1 12 16 784 D cy h eM (Nat → Nat) (fun u => iw cy (iat 44 h u) ksM) (fun _ => []) := by
  refine iMet_of (by decide) (by decide) rfl ?_
  intro p e s m args below meth c ls A Q hA B hnm hl h0 END
  have hx := B.1
  have hb := B.2.1
  refine lv_aload_n hx hb dX5_init_0 rfl (lv_at hl 0 rfl) ?_
  refine i_obj B iw828 iw25 iw26 hl.1 dX5_init_1 (Nat.le_of_ble_eq_true rfl) (Nat.le_of_ble_eq_true rfl) ?_
  refine lv_aload_n hx hb dX5_init_4 rfl (lv_at hl 0 rfl) ?_
  refine lv_sipush (v := 180) hx hb dX5_init_5 (by decide) ?_
  refine i_newa B h0 hA 0 (atype := .int) (ty := .int) (N' := 180) rfl rfl (fun _ _ z => z) rfl iw63 (by decide) rfl (Nat.le_of_ble_eq_true rfl) (Nat.le_of_ble_eq_true rfl) (Nat.le_of_ble_eq_true rfl) dX5_init_8 (fun q45 H h0a => ?_)
  refine i_putF B h0a hnm 0 rfl rfl hin_X5 tyX5 tyX5_ok nmX5 0 (by decide) hw829 rfl rfl rfl rfl (Nat.le_of_ble_eq_true rfl) dX5_init_10 (fun H locs h0b => ?_)
  refine lv_aload_n hx hb dX5_init_13 rfl (lv_at hl 0 rfl) ?_
  refine lv_sipush (v := 180) hx hb dX5_init_14 (by decide) ?_
  refine i_newa B h0b hA 0 (atype := .int) (ty := .int) (N' := 180) rfl rfl (fun _ _ z => z) rfl iw63 (by decide) rfl (Nat.le_of_ble_eq_true rfl) (Nat.le_of_ble_eq_true rfl) (Nat.le_of_ble_eq_true rfl) dX5_init_17 (fun q46 H h1a => ?_)
  refine i_putF B h1a hnm 0 rfl rfl hin_X5 tyX5 tyX5_ok nmX5 1 (by decide) hw830 rfl rfl rfl rfl (Nat.le_of_ble_eq_true rfl) dX5_init_19 (fun H locs h1b => ?_)
  refine lv_aload_n hx hb dX5_init_22 rfl (lv_at hl 0 rfl) ?_
  refine lv_iconst (v := 3) hx hb dX5_init_23 (by decide) ?_
  refine i_newa B h1b hA 0 (atype := .int) (ty := .int) (N' := 3) rfl rfl (fun _ _ z => z) rfl iw63 (by decide) rfl (Nat.le_of_ble_eq_true rfl) (Nat.le_of_ble_eq_true rfl) (Nat.le_of_ble_eq_true rfl) dX5_init_24 (fun q47 H h2a => ?_)
  refine i_putF B h2a hnm 0 rfl rfl hin_X5 tyX5 tyX5_ok nmX5 2 (by decide) hw831 rfl rfl rfl rfl (Nat.le_of_ble_eq_true rfl) dX5_init_26 (fun H locs h2b => ?_)
  refine lv_aload_n hx hb dX5_init_29 rfl (lv_at hl 0 rfl) ?_
  refine lv_iconst (v := 4) hx hb dX5_init_30 (by decide) ?_
  refine i_newa B h2b hA 2 (atype := .boolean) (ty := .boolean) (N' := 4) rfl rfl (fun _ _ z => z) rfl iw893 (by decide) rfl (Nat.le_of_ble_eq_true rfl) (Nat.le_of_ble_eq_true rfl) (Nat.le_of_ble_eq_true rfl) dX5_init_31 (fun q48 H h3a => ?_)
  refine i_putF B h3a hnm 0 rfl rfl hin_X5 tyX5 tyX5_ok nmX5 3 (by decide) hw832 rfl rfl rfl rfl (Nat.le_of_ble_eq_true rfl) dX5_init_33 (fun H locs h3b => ?_)
  refine lv_aload_n hx hb dX5_init_36 rfl (lv_at hl 0 rfl) ?_
  refine lv_iconst (v := 4) hx hb dX5_init_37 (by decide) ?_
  refine i_newa B h3b hA 0 (atype := .int) (ty := .int) (N' := 4) rfl rfl (fun _ _ z => z) rfl iw63 (by decide) rfl (Nat.le_of_ble_eq_true rfl) (Nat.le_of_ble_eq_true rfl) (Nat.le_of_ble_eq_true rfl) dX5_init_38 (fun q49 H h4a => ?_)
  refine i_putF B h4a hnm 0 rfl rfl hin_X5 tyX5 tyX5_ok nmX5 4 (by decide) hw833 rfl rfl rfl rfl (Nat.le_of_ble_eq_true rfl) dX5_init_40 (fun H locs h4b => ?_)
  refine lv_aload_n hx hb dX5_init_43 rfl (lv_at hl 0 rfl) ?_
  refine lv_iconst (v := 4) hx hb dX5_init_44 (by decide) ?_
  refine i_newa B h4b hA 0 (atype := .int) (ty := .int) (N' := 4) rfl rfl (fun _ _ z => z) rfl iw63 (by decide) rfl (Nat.le_of_ble_eq_true rfl) (Nat.le_of_ble_eq_true rfl) (Nat.le_of_ble_eq_true rfl) dX5_init_45 (fun q50 H h5a => ?_)
  refine i_putF B h5a hnm 0 rfl rfl hin_X5 tyX5 tyX5_ok nmX5 5 (by decide) hw834 rfl rfl rfl rfl (Nat.le_of_ble_eq_true rfl) dX5_init_47 (fun H locs h5b => ?_)
  refine lv_aload_n hx hb dX5_init_50 rfl (lv_at hl 0 rfl) ?_
  refine lv_iconst (v := 4) hx hb dX5_init_51 (by decide) ?_
  refine i_newa B h5b hA 0 (atype := .int) (ty := .int) (N' := 4) rfl rfl (fun _ _ z => z) rfl iw63 (by decide) rfl (Nat.le_of_ble_eq_true rfl) (Nat.le_of_ble_eq_true rfl) (Nat.le_of_ble_eq_true rfl) dX5_init_52 (fun q51 H h6a => ?_)
  refine i_putF B h6a hnm 0 rfl rfl hin_X5 tyX5 tyX5_ok nmX5 6 (by decide) hw835 rfl rfl rfl rfl (Nat.le_of_ble_eq_true rfl) dX5_init_54 (fun H locs h6b => ?_)
  refine lv_aload_n hx hb dX5_init_57 rfl (lv_at hl 0 rfl) ?_
  refine lv_iconst (v := 4) hx hb dX5_init_58 (by decide) ?_
  refine i_newa B h6b hA 2 (atype := .boolean) (ty := .boolean) (N' := 4) rfl rfl (fun _ _ z => z) rfl iw893 (by decide) rfl (Nat.le_of_ble_eq_true rfl) (Nat.le_of_ble_eq_true rfl) (Nat.le_of_ble_eq_true rfl) dX5_init_59 (fun q52 H h7a => ?_)
  refine i_putF B h7a hnm 0 rfl rfl hin_X5 tyX5 tyX5_ok nmX5 7 (by decide) hw836 rfl rfl rfl rfl (Nat.le_of_ble_eq_true rfl) dX5_init_61 (fun H locs h7b => ?_)
  refine lv_aload_n hx hb dX5_init_64 rfl (lv_at hl 0 rfl) ?_
  refine lv_iconst (v := 4) hx hb dX5_init_65 (by decide) ?_
  refine i_newa B h7b hA 2 (atype := .boolean) (ty := .boolean) (N' := 4) rfl rfl (fun _ _ z => z) rfl iw893 (by decide) rfl (Nat.le_of_ble_eq_true rfl) (Nat.le_of_ble_eq_true rfl) (Nat.le_of_ble_eq_true rfl) dX5_init_66 (fun q53 H h8a => ?_)
  refine i_putF B h8a hnm 0 rfl rfl hin_X5 tyX5 tyX5_ok nmX5 8 (by decide) hw837 rfl rfl rfl rfl (Nat.le_of_ble_eq_true rfl) dX5_init_68 (fun H locs h8b => ?_)
  refine lv_aload_n hx hb dX5_init_71 rfl (lv_at hl 0 rfl) ?_
  refine lv_iconst (v := 4) hx hb dX5_init_72 (by decide) ?_
  refine i_newa B h8b hA 0 (atype := .int) (ty := .int) (N' := 4) rfl rfl (fun _ _ z => z) rfl iw63 (by decide) rfl (Nat.le_of_ble_eq_true rfl) (Nat.le_of_ble_eq_true rfl) (Nat.le_of_ble_eq_true rfl) dX5_init_73 (fun q54 H h9a => ?_)
  refine i_putF B h9a hnm 0 rfl rfl hin_X5 tyX5 tyX5_ok nmX5 9 (by decide) hw838 rfl rfl rfl rfl (Nat.le_of_ble_eq_true rfl) dX5_init_75 (fun H locs h9b => ?_)
  refine lv_aload_n hx hb dX5_init_78 rfl (lv_at hl 0 rfl) ?_
  refine lv_bipush (v := 90) hx hb dX5_init_79 (by decide) ?_
  refine i_newa B h9b hA 1 (atype := .char) (ty := .char) (N' := 90) rfl rfl (fun _ _ z => z) rfl iw85 (by decide) rfl (Nat.le_of_ble_eq_true rfl) (Nat.le_of_ble_eq_true rfl) (Nat.le_of_ble_eq_true rfl) dX5_init_81 (fun q55 H h10a => ?_)
  refine i_putF B h10a hnm 0 rfl rfl hin_X5 tyX5 tyX5_ok nmX5 10 (by decide) hw839 rfl rfl rfl rfl (Nat.le_of_ble_eq_true rfl) dX5_init_83 (fun H locs h10b => ?_)
  refine lv_aload_n hx hb dX5_init_86 rfl (lv_at hl 0 rfl) ?_
  refine lv_bipush (v := 90) hx hb dX5_init_87 (by decide) ?_
  refine i_newa B h10b hA 0 (atype := .int) (ty := .int) (N' := 90) rfl rfl (fun _ _ z => z) rfl iw63 (by decide) rfl (Nat.le_of_ble_eq_true rfl) (Nat.le_of_ble_eq_true rfl) (Nat.le_of_ble_eq_true rfl) dX5_init_89 (fun q56 H h11a => ?_)
  refine i_putF B h11a hnm 0 rfl rfl hin_X5 tyX5 tyX5_ok nmX5 11 (by decide) hw840 rfl rfl rfl rfl (Nat.le_of_ble_eq_true rfl) dX5_init_91 (fun H locs h11b => ?_)
  refine lv_aload_n hx hb dX5_init_94 rfl (lv_at hl 0 rfl) ?_
  refine lv_bipush (v := 90) hx hb dX5_init_95 (by decide) ?_
  refine i_newa B h11b hA 0 (atype := .int) (ty := .int) (N' := 90) rfl rfl (fun _ _ z => z) rfl iw63 (by decide) rfl (Nat.le_of_ble_eq_true rfl) (Nat.le_of_ble_eq_true rfl) (Nat.le_of_ble_eq_true rfl) dX5_init_97 (fun q57 H h12a => ?_)
  refine i_putF B h12a hnm 0 rfl rfl hin_X5 tyX5 tyX5_ok nmX5 12 (by decide) hw841 rfl rfl rfl rfl (Nat.le_of_ble_eq_true rfl) dX5_init_99 (fun H locs h12b => ?_)
  refine lv_aload_n hx hb dX5_init_102 rfl (lv_at hl 0 rfl) ?_
  refine lv_iconst (v := 3) hx hb dX5_init_103 (by decide) ?_
  refine i_newa B h12b hA 0 (atype := .int) (ty := .int) (N' := 3) rfl rfl (fun _ _ z => z) rfl iw63 (by decide) rfl (Nat.le_of_ble_eq_true rfl) (Nat.le_of_ble_eq_true rfl) (Nat.le_of_ble_eq_true rfl) dX5_init_104 (fun q58 H h13a => ?_)
  refine i_putF B h13a hnm 0 rfl rfl hin_X5 tyX5 tyX5_ok nmX5 13 (by decide) hw842 rfl rfl rfl rfl (Nat.le_of_ble_eq_true rfl) dX5_init_106 (fun H locs h13b => ?_)
  refine lv_aload_n hx hb dX5_init_109 rfl (lv_at hl 0 rfl) ?_
  refine lv_bipush (v := 60) hx hb dX5_init_110 (by decide) ?_
  refine i_newa B h13b hA 0 (atype := .int) (ty := .int) (N' := 60) rfl rfl (fun _ _ z => z) rfl iw63 (by decide) rfl (Nat.le_of_ble_eq_true rfl) (Nat.le_of_ble_eq_true rfl) (Nat.le_of_ble_eq_true rfl) dX5_init_112 (fun q59 H h14a => ?_)
  refine i_putF B h14a hnm 0 rfl rfl hin_X5 tyX5 tyX5_ok nmX5 14 (by decide) hw843 rfl rfl rfl rfl (Nat.le_of_ble_eq_true rfl) dX5_init_114 (fun H locs h14b => ?_)
  refine lv_aload_n hx hb dX5_init_117 rfl (lv_at hl 0 rfl) ?_
  refine lv_bipush (v := 60) hx hb dX5_init_118 (by decide) ?_
  refine i_newa B h14b hA 0 (atype := .int) (ty := .int) (N' := 60) rfl rfl (fun _ _ z => z) rfl iw63 (by decide) rfl (Nat.le_of_ble_eq_true rfl) (Nat.le_of_ble_eq_true rfl) (Nat.le_of_ble_eq_true rfl) dX5_init_120 (fun q60 H h15a => ?_)
  refine i_putF B h15a hnm 0 rfl rfl hin_X5 tyX5 tyX5_ok nmX5 16 (by decide) hw845 rfl rfl rfl rfl (Nat.le_of_ble_eq_true rfl) dX5_init_122 (fun H locs h15b => ?_)
  refine lv_aload_n hx hb dX5_init_125 rfl (lv_at hl 0 rfl) ?_
  refine lv_iconst (v := 0) hx hb dX5_init_126 (by decide) ?_
  refine i_put B h15b 0 rfl rfl hin_X5 tyX5 tyX5_ok nmX5 20 (by decide) hw849 rfl rfl rfl rfl (Nat.le_of_ble_eq_true rfl) dX5_init_127 (fun H locs hz => ?_)
  exact END _ _ (fun k => [q45, q46, q47, q48, q49, q50, q51, q52, q53, q54, q55, q56, q57, q58, q59, q60].getD (k - 45) 0) _ _ hz dX5_init_130
