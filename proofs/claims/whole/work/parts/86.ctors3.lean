/-! THE CONSTRUCTORS: the reference's -/
abbrev ksM : List Nat := [44, 45, 46, 47, 48, 49, 50, 51, 52, 53, 54, 55, 56, 57, 58, 59, 60]
abbrev eM : va_E := .inr (5, [.null, .null, .null, .null, .null, .null, .null, .null, .null, .null, .null, .null, .null, .null, .null, .int 0, .null, .int 0, .int 0, .int 0, .int 0])
theorem fsM : ∀ j, j < 21 → defaultValue (tyX5 j) = vp_V [.null, .null, .null, .null, .null, .null, .null, .null, .null, .null, .null, .null, .null, .null, .null, .int 0, .null, .int 0, .int 0, .int 0, .int 0] j := fun j hj => by
  rcases (by omega : j = 0 ∨ j = 1 ∨ j = 2 ∨ j = 3 ∨ j = 4 ∨ j = 5 ∨ j = 6 ∨ j = 7 ∨ j = 8 ∨ j = 9 ∨ j = 10 ∨ j = 11 ∨ j = 12 ∨ j = 13 ∨ j = 14 ∨ j = 15 ∨ j = 16 ∨ j = 17 ∨ j = 18 ∨ j = 19 ∨ j = 20) with rfl | rfl | rfl | rfl | rfl | rfl | rfl | rfl | rfl | rfl | rfl | rfl | rfl | rfl | rfl | rfl | rfl | rfl | rfl | rfl | rfl <;> rfl
section IFIELD
variable {p : Program} {l : Launch} {e : Env} {R : Room} {s : State} {m : MethodId} {args : Array Value} {below : List Frame} {meth : Method} {c : Code} {H : Heap} {locs : List Loc} {cells slots : Nat} {Q : State → Prop} {cc : ByteArray} {nL : Nat} {own : String} {D : va_G} {cy : Nat → ClassId} {A : Nat → Prop} {wr : va_W} {tys : List (ClassId × FieldType)} {pc : Nat} {ls : Array Slot}
theorem i_field (B : iB p s m c args cc nL own D cy) {a ci : Nat} {fs : List Value} (h : iH D A s ((a, .inr (ci, fs)) :: wr) tys H locs) (hA : ∀ q, s.heap.size ≤ q → A q) (hnm : meth.name = "<init>") (t : Nat) {atype : ArrayType} {ty : FieldType} {cA : ClassId} (hty : newarray.typeOf atype = ty) (ht : [(cy 0, FieldType.int), (cy 1, .char), (cy 2, .boolean)][t]? = some (cA, ty)) (hra : ∀ (U : State) (cB : ClassId), va_RA U cB ty → U.vm.findClass ("[" ++ ty.toString) = some cB) (hdef : defaultValue ty = .int 0) (harr : Cond.arrayClass ty ∈ sT)
    {n : Int32} {N' : Nat} (hn : ¬ n < 0) (hN : n.toNatClampNeg = N') (hbytes : N' * componentBytes ty ≤ 536870912) (hcells : cells + 1 ≤ R.cells) (hslots : slots + N' ≤ R.slots) (hdg : decode cc pc = .ok (.newarray atype, 2)) {T : u_T} {N index : Nat} (hc : sCl[ci]? = some (own, T, N)) (hin : ∀ w ∈ u_ws own T N, w ∈ sT) (ty0 : Nat → FieldType) (hty0 : ∀ k, k < N → parseFieldDescriptor (T k).2.2.1 = some (ty0 k)) (hnd : ∀ a, a < N → ∀ b, b < N → a ≠ b → (T a).2.1 ≠ (T b).2.1)
    (j : Nat) (hj : j < N) (hlink : Cond.fieldLink own index own (T j).2.1 (T j).2.2.1 ∈ sT) (hdc : (T j).1 = own) (hfin : (T j).2.2.2 = true) (hnn : ∀ q : Nat, narrow (ty0 j) (.ref q) = .ref q) (hfit : ∀ q : Nat, fits (ty0 j) (.ref q) = true) (hl : j < fs.length) (hdg2 : decode cc (pc + 2) = .ok (.putfield index, 3))
    (kk : ∀ (q : Nat) (H1 : Heap) (locs1 : List Loc), iH D A s ((a, .inr (ci, fs.set j (.ref q))) :: (wr ++ [(q, sInt cA N' (fun _ => 0))])) tys H1 locs1 → W p l e R s m args below meth c H1 locs1 (cells + 1) (slots + N') Q (F0 m (pc + 2 + 3) ls [])) : W p l e R s m args below meth c H locs cells slots Q (F0 m pc ls [.int n, .ref a]) :=
  i_newa B h hA t hty ht hra hdef harr hn hN hbytes hcells hslots hdg (fun q H1 h1 => i_putF B h1 hnm 0 rfl hc hin ty0 hty0 hnd j hj hlink hdc hfin (hnn q) (hfit q) hl hdg2 (fun H2 locs2 h2 => kk q H2 locs2 h2))
end IFIELD
set_option maxHeartbeats 4000000 in
set_option maxRecDepth 100000 in
theorem c_M (l : Launch) (D : va_G) (cy : Nat → ClassId) (h : Nat) : iMet l yX5_init cX5_init 1 1 12 16 784 D cy h eM (Nat → Nat) (fun u => iw cy (iat 44 h u) ksM) (fun _ => []) := by
  refine iMet_of (by decide) (by decide) rfl ?_
  intro p e s m args below meth c ls A Q hA B hnm hl h0 END
  have hx := B.1
  have hb := B.2.1
  refine lv_aload_n hx hb dX5_init_0 rfl (lv_at hl 0 rfl) ?_
  refine i_obj B iw828 iw25 iw26 hl.1 dX5_init_1 (Nat.le_of_ble_eq_true rfl) (Nat.le_of_ble_eq_true rfl) ?_
  refine lv_aload_n hx hb dX5_init_4 rfl (lv_at hl 0 rfl) ?_
  refine lv_sipush (v := 180) hx hb dX5_init_5 (by decide) ?_
  refine i_field B h0 hA hnm 0 (atype := .int) (ty := .int) (N' := 180) rfl rfl (fun _ _ z => z) rfl iw63 (by decide) rfl (Nat.le_of_ble_eq_true rfl) (Nat.le_of_ble_eq_true rfl) (Nat.le_of_ble_eq_true rfl) dX5_init_8 rfl hin_X5 tyX5 tyX5_ok nmX5 0 (by decide) hw826 rfl rfl (fun _ => rfl) (fun _ => rfl) (Nat.le_of_ble_eq_true rfl) dX5_init_10 (fun q45 H locs h0b => ?_)
  refine lv_aload_n hx hb dX5_init_13 rfl (lv_at hl 0 rfl) ?_
  refine lv_sipush (v := 180) hx hb dX5_init_14 (by decide) ?_
  refine i_field B h0b hA hnm 0 (atype := .int) (ty := .int) (N' := 180) rfl rfl (fun _ _ z => z) rfl iw63 (by decide) rfl (Nat.le_of_ble_eq_true rfl) (Nat.le_of_ble_eq_true rfl) (Nat.le_of_ble_eq_true rfl) dX5_init_17 rfl hin_X5 tyX5 tyX5_ok nmX5 1 (by decide) hw827 rfl rfl (fun _ => rfl) (fun _ => rfl) (Nat.le_of_ble_eq_true rfl) dX5_init_19 (fun q46 H locs h1b => ?_)
  refine lv_aload_n hx hb dX5_init_22 rfl (lv_at hl 0 rfl) ?_
  refine lv_iconst (v := 3) hx hb dX5_init_23 (by decide) ?_
  refine i_field B h1b hA hnm 0 (atype := .int) (ty := .int) (N' := 3) rfl rfl (fun _ _ z => z) rfl iw63 (by decide) rfl (Nat.le_of_ble_eq_true rfl) (Nat.le_of_ble_eq_true rfl) (Nat.le_of_ble_eq_true rfl) dX5_init_24 rfl hin_X5 tyX5 tyX5_ok nmX5 2 (by decide) hw828 rfl rfl (fun _ => rfl) (fun _ => rfl) (Nat.le_of_ble_eq_true rfl) dX5_init_26 (fun q47 H locs h2b => ?_)
  refine lv_aload_n hx hb dX5_init_29 rfl (lv_at hl 0 rfl) ?_
  refine lv_iconst (v := 4) hx hb dX5_init_30 (by decide) ?_
  refine i_field B h2b hA hnm 2 (atype := .boolean) (ty := .boolean) (N' := 4) rfl rfl (fun _ _ z => z) rfl iw893 (by decide) rfl (Nat.le_of_ble_eq_true rfl) (Nat.le_of_ble_eq_true rfl) (Nat.le_of_ble_eq_true rfl) dX5_init_31 rfl hin_X5 tyX5 tyX5_ok nmX5 3 (by decide) hw829 rfl rfl (fun _ => rfl) (fun _ => rfl) (Nat.le_of_ble_eq_true rfl) dX5_init_33 (fun q48 H locs h3b => ?_)
  refine lv_aload_n hx hb dX5_init_36 rfl (lv_at hl 0 rfl) ?_
  refine lv_iconst (v := 4) hx hb dX5_init_37 (by decide) ?_
  refine i_field B h3b hA hnm 0 (atype := .int) (ty := .int) (N' := 4) rfl rfl (fun _ _ z => z) rfl iw63 (by decide) rfl (Nat.le_of_ble_eq_true rfl) (Nat.le_of_ble_eq_true rfl) (Nat.le_of_ble_eq_true rfl) dX5_init_38 rfl hin_X5 tyX5 tyX5_ok nmX5 4 (by decide) hw830 rfl rfl (fun _ => rfl) (fun _ => rfl) (Nat.le_of_ble_eq_true rfl) dX5_init_40 (fun q49 H locs h4b => ?_)
  refine lv_aload_n hx hb dX5_init_43 rfl (lv_at hl 0 rfl) ?_
  refine lv_iconst (v := 4) hx hb dX5_init_44 (by decide) ?_
  refine i_field B h4b hA hnm 0 (atype := .int) (ty := .int) (N' := 4) rfl rfl (fun _ _ z => z) rfl iw63 (by decide) rfl (Nat.le_of_ble_eq_true rfl) (Nat.le_of_ble_eq_true rfl) (Nat.le_of_ble_eq_true rfl) dX5_init_45 rfl hin_X5 tyX5 tyX5_ok nmX5 5 (by decide) hw831 rfl rfl (fun _ => rfl) (fun _ => rfl) (Nat.le_of_ble_eq_true rfl) dX5_init_47 (fun q50 H locs h5b => ?_)
  refine lv_aload_n hx hb dX5_init_50 rfl (lv_at hl 0 rfl) ?_
  refine lv_iconst (v := 4) hx hb dX5_init_51 (by decide) ?_
  refine i_field B h5b hA hnm 0 (atype := .int) (ty := .int) (N' := 4) rfl rfl (fun _ _ z => z) rfl iw63 (by decide) rfl (Nat.le_of_ble_eq_true rfl) (Nat.le_of_ble_eq_true rfl) (Nat.le_of_ble_eq_true rfl) dX5_init_52 rfl hin_X5 tyX5 tyX5_ok nmX5 6 (by decide) hw832 rfl rfl (fun _ => rfl) (fun _ => rfl) (Nat.le_of_ble_eq_true rfl) dX5_init_54 (fun q51 H locs h6b => ?_)
  refine lv_aload_n hx hb dX5_init_57 rfl (lv_at hl 0 rfl) ?_
  refine lv_iconst (v := 4) hx hb dX5_init_58 (by decide) ?_
  refine i_field B h6b hA hnm 2 (atype := .boolean) (ty := .boolean) (N' := 4) rfl rfl (fun _ _ z => z) rfl iw893 (by decide) rfl (Nat.le_of_ble_eq_true rfl) (Nat.le_of_ble_eq_true rfl) (Nat.le_of_ble_eq_true rfl) dX5_init_59 rfl hin_X5 tyX5 tyX5_ok nmX5 7 (by decide) hw833 rfl rfl (fun _ => rfl) (fun _ => rfl) (Nat.le_of_ble_eq_true rfl) dX5_init_61 (fun q52 H locs h7b => ?_)
  refine lv_aload_n hx hb dX5_init_64 rfl (lv_at hl 0 rfl) ?_
  refine lv_iconst (v := 4) hx hb dX5_init_65 (by decide) ?_
  refine i_field B h7b hA hnm 2 (atype := .boolean) (ty := .boolean) (N' := 4) rfl rfl (fun _ _ z => z) rfl iw893 (by decide) rfl (Nat.le_of_ble_eq_true rfl) (Nat.le_of_ble_eq_true rfl) (Nat.le_of_ble_eq_true rfl) dX5_init_66 rfl hin_X5 tyX5 tyX5_ok nmX5 8 (by decide) hw834 rfl rfl (fun _ => rfl) (fun _ => rfl) (Nat.le_of_ble_eq_true rfl) dX5_init_68 (fun q53 H locs h8b => ?_)
  refine lv_aload_n hx hb dX5_init_71 rfl (lv_at hl 0 rfl) ?_
  refine lv_iconst (v := 4) hx hb dX5_init_72 (by decide) ?_
  refine i_field B h8b hA hnm 0 (atype := .int) (ty := .int) (N' := 4) rfl rfl (fun _ _ z => z) rfl iw63 (by decide) rfl (Nat.le_of_ble_eq_true rfl) (Nat.le_of_ble_eq_true rfl) (Nat.le_of_ble_eq_true rfl) dX5_init_73 rfl hin_X5 tyX5 tyX5_ok nmX5 9 (by decide) hw835 rfl rfl (fun _ => rfl) (fun _ => rfl) (Nat.le_of_ble_eq_true rfl) dX5_init_75 (fun q54 H locs h9b => ?_)
  refine lv_aload_n hx hb dX5_init_78 rfl (lv_at hl 0 rfl) ?_
  refine lv_bipush (v := 90) hx hb dX5_init_79 (by decide) ?_
  refine i_field B h9b hA hnm 1 (atype := .char) (ty := .char) (N' := 90) rfl rfl (fun _ _ z => z) rfl iw85 (by decide) rfl (Nat.le_of_ble_eq_true rfl) (Nat.le_of_ble_eq_true rfl) (Nat.le_of_ble_eq_true rfl) dX5_init_81 rfl hin_X5 tyX5 tyX5_ok nmX5 10 (by decide) hw836 rfl rfl (fun _ => rfl) (fun _ => rfl) (Nat.le_of_ble_eq_true rfl) dX5_init_83 (fun q55 H locs h10b => ?_)
  refine lv_aload_n hx hb dX5_init_86 rfl (lv_at hl 0 rfl) ?_
  refine lv_bipush (v := 90) hx hb dX5_init_87 (by decide) ?_
  refine i_field B h10b hA hnm 0 (atype := .int) (ty := .int) (N' := 90) rfl rfl (fun _ _ z => z) rfl iw63 (by decide) rfl (Nat.le_of_ble_eq_true rfl) (Nat.le_of_ble_eq_true rfl) (Nat.le_of_ble_eq_true rfl) dX5_init_89 rfl hin_X5 tyX5 tyX5_ok nmX5 11 (by decide) hw837 rfl rfl (fun _ => rfl) (fun _ => rfl) (Nat.le_of_ble_eq_true rfl) dX5_init_91 (fun q56 H locs h11b => ?_)
  refine lv_aload_n hx hb dX5_init_94 rfl (lv_at hl 0 rfl) ?_
  refine lv_bipush (v := 90) hx hb dX5_init_95 (by decide) ?_
  refine i_field B h11b hA hnm 0 (atype := .int) (ty := .int) (N' := 90) rfl rfl (fun _ _ z => z) rfl iw63 (by decide) rfl (Nat.le_of_ble_eq_true rfl) (Nat.le_of_ble_eq_true rfl) (Nat.le_of_ble_eq_true rfl) dX5_init_97 rfl hin_X5 tyX5 tyX5_ok nmX5 12 (by decide) hw838 rfl rfl (fun _ => rfl) (fun _ => rfl) (Nat.le_of_ble_eq_true rfl) dX5_init_99 (fun q57 H locs h12b => ?_)
  refine lv_aload_n hx hb dX5_init_102 rfl (lv_at hl 0 rfl) ?_
  refine lv_iconst (v := 3) hx hb dX5_init_103 (by decide) ?_
  refine i_field B h12b hA hnm 0 (atype := .int) (ty := .int) (N' := 3) rfl rfl (fun _ _ z => z) rfl iw63 (by decide) rfl (Nat.le_of_ble_eq_true rfl) (Nat.le_of_ble_eq_true rfl) (Nat.le_of_ble_eq_true rfl) dX5_init_104 rfl hin_X5 tyX5 tyX5_ok nmX5 13 (by decide) hw839 rfl rfl (fun _ => rfl) (fun _ => rfl) (Nat.le_of_ble_eq_true rfl) dX5_init_106 (fun q58 H locs h13b => ?_)
  refine lv_aload_n hx hb dX5_init_109 rfl (lv_at hl 0 rfl) ?_
  refine lv_bipush (v := 60) hx hb dX5_init_110 (by decide) ?_
  refine i_field B h13b hA hnm 0 (atype := .int) (ty := .int) (N' := 60) rfl rfl (fun _ _ z => z) rfl iw63 (by decide) rfl (Nat.le_of_ble_eq_true rfl) (Nat.le_of_ble_eq_true rfl) (Nat.le_of_ble_eq_true rfl) dX5_init_112 rfl hin_X5 tyX5 tyX5_ok nmX5 14 (by decide) hw840 rfl rfl (fun _ => rfl) (fun _ => rfl) (Nat.le_of_ble_eq_true rfl) dX5_init_114 (fun q59 H locs h14b => ?_)
  refine lv_aload_n hx hb dX5_init_117 rfl (lv_at hl 0 rfl) ?_
  refine lv_bipush (v := 60) hx hb dX5_init_118 (by decide) ?_
  refine i_field B h14b hA hnm 0 (atype := .int) (ty := .int) (N' := 60) rfl rfl (fun _ _ z => z) rfl iw63 (by decide) rfl (Nat.le_of_ble_eq_true rfl) (Nat.le_of_ble_eq_true rfl) (Nat.le_of_ble_eq_true rfl) dX5_init_120 rfl hin_X5 tyX5 tyX5_ok nmX5 16 (by decide) hw842 rfl rfl (fun _ => rfl) (fun _ => rfl) (Nat.le_of_ble_eq_true rfl) dX5_init_122 (fun q60 H locs h15b => ?_)
  refine lv_aload_n hx hb dX5_init_125 rfl (lv_at hl 0 rfl) ?_
  refine lv_iconst (v := 0) hx hb dX5_init_126 (by decide) ?_
  refine i_put B h15b 0 rfl rfl hin_X5 tyX5 tyX5_ok nmX5 20 (by decide) hw846 rfl rfl rfl rfl (Nat.le_of_ble_eq_true rfl) dX5_init_127 (fun H locs hz => ?_)
  exact END _ _ (fun k => [q45, q46, q47, q48, q49, q50, q51, q52, q53, q54, q55, q56, q57, q58, q59, q60].getD (k - 45) 0) _ _ hz dX5_init_130
