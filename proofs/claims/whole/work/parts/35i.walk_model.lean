set_option maxHeartbeats 4000000 in
set_option maxRecDepth 100000 in
theorem k_X5_viewPut_73 {p : Program} {l : Launch} {e : Env} {s : State} {m : MethodId} {args : Array Value} {below : List Frame} {meth : Method} {c : Code} {D : va_G} {cy : Nat → ClassId} {ad : Nat → Nat} {X : sX} {r : Int32} {σ' : sM} (B : sB p l s m meth c args cX5_viewPut 4 RX5 D cy ad) (hr : meth.sig.returnType = (some .int)) (v1 : Int32) (v2 : Int32) (v3 : Int32) (vs1 : Int32) (σ : sM) (hf : b_X5_viewPut_73 v1 v2 v3 vs1 σ = some (r, σ')) : sGo p l e { frames := 3, cells := 0, slots := 0, locals := 68 } s m args below meth c D cy ad X 4 (sQ below args s 0 0 D cy ad (.inr (some (.int r))) X σ') σ 73 [(0, .ref (ad 44)), (1, .int v1), (2, .int v2), (3, .int v3)] [.int vs1, .ref (ad 44)] := by
  replace hf : (wthn (f_X5_refused vs1 σ) (fun vr13 σ13 => if vr13 = 0 then (chk (inb v1 4) (wthn (f_X5_puts (σ13 49 (v1).toNatClampNeg) v2 v3 σ13) (fun _ σ16 => rthn (f_X5_manyOf v1 σ16) (fun vr17 => some (vr17, σ16))))) else (some ((0 : Int32), σ13)))) = some (r, σ') := hf
  intro H locs ls h hl
  have hx := B.1
  have hb := B.2.1
  obtain ⟨vr13, σ13, hq13, hf⟩ := wthn_some hf
  refine sRetC1 (g_runV (k := 44) (T := TX5) (N := 21) B h (ok_X5_refused B.2.2.2.2.2.2.2.2 B.2.2.2.2.2.2.1 _ _ vs1 hq13) cw_X5_95 ⟨Nat.le_of_ble_eq_true rfl, Nat.le_of_ble_eq_true rfl⟩ (by decide) (M_row _) rfl rfl hl.1.symm rfl (Nat.le_of_ble_eq_true rfl) dX5_viewPut_73 ⟨Nat.zero_le _, Nat.zero_le _⟩) h (fun H locs h => ?_)
  refine lv_if_eq (tgt := 81) hx hb dX5_viewPut_76 (by decide) (fun c14 => ?_) (fun c14 => ?_)
  · rw [if_pos c14] at hf
    refine lv_aload_n hx hb dX5_viewPut_81 rfl (lv_at hl 0 rfl) ?_
    refine lv_aload_n hx hb dX5_viewPut_82 rfl (lv_at hl 0 rfl) ?_
    refine g_get B h 44 (by decide) (C := RX5) (T := TX5) (N := 21) (M_row _) rfl hin_X5 4 (by decide) hw830 rfl rfl dX5_viewPut_83 ?_
    refine lv_iload_n hx hb dX5_viewPut_86 rfl (lv_at hl 1 rfl) ?_
    obtain ⟨c15, hf⟩ := chk_some hf
    refine g_iald B h 49 (by decide) (n := 4) (fun _ => rfl) (inb_in c15) dX5_viewPut_87 ?_
    refine lv_iload_n hx hb dX5_viewPut_88 rfl (lv_at hl 2 rfl) ?_
    refine lv_iload_n hx hb dX5_viewPut_89 rfl (lv_at hl 3 rfl) ?_
    obtain ⟨vr16, σ16, hq16, hf⟩ := wthn_some hf
    refine sRetC0 (g_runV (k := 44) (T := TX5) (N := 21) B h (ok_X5_puts B.2.2.2.2.2.2.2.2 B.2.2.2.2.2.2.1 _ _ (σ13 49 (v1).toNatClampNeg) v2 v3 hq16) cw_X5_98 ⟨Nat.le_of_ble_eq_true rfl, Nat.le_of_ble_eq_true rfl⟩ (by decide) (M_row _) rfl rfl hl.1.symm rfl (Nat.le_of_ble_eq_true rfl) dX5_viewPut_90 ⟨Nat.zero_le _, Nat.zero_le _⟩) h (fun H locs h => ?_)
    refine lv_aload_n hx hb dX5_viewPut_93 rfl (lv_at hl 0 rfl) ?_
    refine lv_iload_n hx hb dX5_viewPut_94 rfl (lv_at hl 1 rfl) ?_
    obtain ⟨vr17, hq17, hf⟩ := rthn_some hf
    refine sRetC1 (g_runV (k := 44) (T := TX5) (N := 21) B h (ok_X5_manyOf B.2.2.2.2.2.2.2.2 B.2.2.2.2.2.2.1 _ _ v1 hq17) cw_X5_129 ⟨Nat.le_of_ble_eq_true rfl, Nat.le_of_ble_eq_true rfl⟩ (by decide) (M_row _) rfl rfl hl.1.symm rfl (Nat.le_of_ble_eq_true rfl) dX5_viewPut_95 ⟨Nat.zero_le _, Nat.zero_le _⟩) h (fun H locs h => ?_)
    obtain ⟨rfl, rfl⟩ := Prod.mk.inj (Option.some.inj hf)
    exact sE_i B hr h dX5_viewPut_98
  · rw [if_neg c14] at hf
    refine lv_iconst (v := (0 : Int32)) hx hb dX5_viewPut_79 (by decide) ?_
    obtain ⟨rfl, rfl⟩ := Prod.mk.inj (Option.some.inj hf)
    exact sE_i B hr h dX5_viewPut_80
set_option maxHeartbeats 4000000 in
set_option maxRecDepth 100000 in
theorem k_X5_viewPut_0 {p : Program} {l : Launch} {e : Env} {s : State} {m : MethodId} {args : Array Value} {below : List Frame} {meth : Method} {c : Code} {D : va_G} {cy : Nat → ClassId} {ad : Nat → Nat} {X : sX} {r : Int32} {σ' : sM} (B : sB p l s m meth c args cX5_viewPut 4 RX5 D cy ad) (hr : meth.sig.returnType = (some .int)) (v1 : Int32) (v2 : Int32) (v3 : Int32) (σ : sM) (hf : f_X5_viewPut v1 v2 v3 σ = some (r, σ')) : sGo p l e { frames := 3, cells := 0, slots := 0, locals := 68 } s m args below meth c D cy ad X 4 (sQ below args s 0 0 D cy ad (.inr (some (.int r))) X σ') σ 0 [(0, .ref (ad 44)), (1, .int v1), (2, .int v2), (3, .int v3)] [] := by
  replace hf : (rthn (f_X5_isView v1 σ) (fun vr1 => if vr1 = 0 then (b_X5_viewPut_73 v1 v2 v3 (1 : Int32) σ) else (chk (inb v1 4) (if (σ 48 (v1).toNatClampNeg) = 0 then (b_X5_viewPut_73 v1 v2 v3 (2 : Int32) σ) else (rthn (f_X5_isIn v1 v2 σ) (fun vr5 => if vr5 = 0 then (b_X5_viewPut_73 v1 v2 v3 (3 : Int32) σ) else (chk (inb v1 4) (chk (inb (σ 49 (v1).toNatClampNeg) 3) (if (σ 47 ((σ 49 (v1).toNatClampNeg)).toNatClampNeg) = (60 : Int32) then (chk (inb v1 4) (rthn (f_X5_has (σ 49 (v1).toNatClampNeg) v2 σ) (fun vr11 => if vr11 = 0 then (b_X5_viewPut_73 v1 v2 v3 (4 : Int32) σ) else (b_X5_viewPut_73 v1 v2 v3 (0 : Int32) σ)))) else (b_X5_viewPut_73 v1 v2 v3 (0 : Int32) σ)))))))))) = some (r, σ') := hf
  intro H locs ls h hl
  have hx := B.1
  have hb := B.2.1
  refine lv_aload_n hx hb dX5_viewPut_0 rfl (lv_at hl 0 rfl) ?_
  refine lv_iload_n hx hb dX5_viewPut_1 rfl (lv_at hl 1 rfl) ?_
  obtain ⟨vr1, hq1, hf⟩ := rthn_some hf
  refine sRetC1 (g_runS B h (ok_X5_isView B.2.2.2.2.2.2.2.2 B.2.2.2.2.2.2.1 _ _ v1 hq1) cw_X5_126 ⟨Nat.le_of_ble_eq_true rfl, Nat.le_of_ble_eq_true rfl⟩ rfl hl.1.symm rfl (Nat.le_of_ble_eq_true rfl) dX5_viewPut_2 ⟨Nat.zero_le _, Nat.zero_le _⟩) h (fun H locs h => ?_)
  refine lv_if_ne (tgt := 12) hx hb dX5_viewPut_5 (by decide) (fun c2 => ?_) (fun c2 => ?_)
  · rw [if_neg c2] at hf
    refine lv_aload_n hx hb dX5_viewPut_12 rfl (lv_at hl 0 rfl) ?_
    refine g_get B h 44 (by decide) (C := RX5) (T := TX5) (N := 21) (M_row _) rfl hin_X5 3 (by decide) hw829 rfl rfl dX5_viewPut_13 ?_
    refine lv_iload_n hx hb dX5_viewPut_16 rfl (lv_at hl 1 rfl) ?_
    obtain ⟨c3, hf⟩ := chk_some hf
    refine g_zald B h 48 (by decide) (n := 4) (fun _ => rfl) (inb_in c3) dX5_viewPut_17 ?_
    refine lv_if_ne (tgt := 25) hx hb dX5_viewPut_18 (by decide) (fun c4 => ?_) (fun c4 => ?_)
    · rw [if_neg c4] at hf
      refine lv_aload_n hx hb dX5_viewPut_25 rfl (lv_at hl 0 rfl) ?_
      refine lv_iload_n hx hb dX5_viewPut_26 rfl (lv_at hl 1 rfl) ?_
      refine lv_iload_n hx hb dX5_viewPut_27 rfl (lv_at hl 2 rfl) ?_
      obtain ⟨vr5, hq5, hf⟩ := rthn_some hf
      refine sRetC1 (g_runV (k := 44) (T := TX5) (N := 21) B h (ok_X5_isIn B.2.2.2.2.2.2.2.2 B.2.2.2.2.2.2.1 _ _ v1 v2 hq5) cw_X5_120 ⟨Nat.le_of_ble_eq_true rfl, Nat.le_of_ble_eq_true rfl⟩ (by decide) (M_row _) rfl rfl hl.1.symm rfl (Nat.le_of_ble_eq_true rfl) dX5_viewPut_28 ⟨Nat.zero_le _, Nat.zero_le _⟩) h (fun H locs h => ?_)
      refine lv_if_ne (tgt := 38) hx hb dX5_viewPut_31 (by decide) (fun c6 => ?_) (fun c6 => ?_)
      · rw [if_neg c6] at hf
        refine lv_aload_n hx hb dX5_viewPut_38 rfl (lv_at hl 0 rfl) ?_
        refine g_get B h 44 (by decide) (C := RX5) (T := TX5) (N := 21) (M_row _) rfl hin_X5 2 (by decide) hw828 rfl rfl dX5_viewPut_39 ?_
        refine lv_aload_n hx hb dX5_viewPut_42 rfl (lv_at hl 0 rfl) ?_
        refine g_get B h 44 (by decide) (C := RX5) (T := TX5) (N := 21) (M_row _) rfl hin_X5 4 (by decide) hw830 rfl rfl dX5_viewPut_43 ?_
        refine lv_iload_n hx hb dX5_viewPut_46 rfl (lv_at hl 1 rfl) ?_
        obtain ⟨c7, hf⟩ := chk_some hf
        refine g_iald B h 49 (by decide) (n := 4) (fun _ => rfl) (inb_in c7) dX5_viewPut_47 ?_
        obtain ⟨c8, hf⟩ := chk_some hf
        refine g_iald B h 47 (by decide) (n := 3) (fun _ => rfl) (inb_in c8) dX5_viewPut_48 ?_
        refine lv_bipush (v := (60 : Int32)) hx hb dX5_viewPut_49 (by decide) ?_
        refine lv_icmp_ne (tgt := 72) hx hb dX5_viewPut_51 (by decide) (fun c9 => ?_) (fun c9 => ?_)
        · rw [if_neg c9] at hf
          refine lv_iconst (v := (0 : Int32)) hx hb dX5_viewPut_72 (by decide) ?_
          exact k_X5_viewPut_73 B hr  _ _ _ _ _ hf _ _ _ h (lv_sub hl [0, 1, 2, 3] rfl)
        · rw [if_pos c9] at hf
          refine lv_aload_n hx hb dX5_viewPut_54 rfl (lv_at hl 0 rfl) ?_
          refine lv_aload_n hx hb dX5_viewPut_55 rfl (lv_at hl 0 rfl) ?_
          refine g_get B h 44 (by decide) (C := RX5) (T := TX5) (N := 21) (M_row _) rfl hin_X5 4 (by decide) hw830 rfl rfl dX5_viewPut_56 ?_
          refine lv_iload_n hx hb dX5_viewPut_59 rfl (lv_at hl 1 rfl) ?_
          obtain ⟨c10, hf⟩ := chk_some hf
          refine g_iald B h 49 (by decide) (n := 4) (fun _ => rfl) (inb_in c10) dX5_viewPut_60 ?_
          refine lv_iload_n hx hb dX5_viewPut_61 rfl (lv_at hl 2 rfl) ?_
          obtain ⟨vr11, hq11, hf⟩ := rthn_some hf
          refine sRetC1 (g_runV (k := 44) (T := TX5) (N := 21) B h (ok_X5_has B.2.2.2.2.2.2.2.2 B.2.2.2.2.2.2.1 _ _ (σ 49 (v1).toNatClampNeg) v2 hq11) cw_X5_91 ⟨Nat.le_of_ble_eq_true rfl, Nat.le_of_ble_eq_true rfl⟩ (by decide) (M_row _) rfl rfl hl.1.symm rfl (Nat.le_of_ble_eq_true rfl) dX5_viewPut_62 ⟨Nat.zero_le _, Nat.zero_le _⟩) h (fun H locs h => ?_)
          refine lv_if_ne (tgt := 72) hx hb dX5_viewPut_65 (by decide) (fun c12 => ?_) (fun c12 => ?_)
          · rw [if_neg c12] at hf
            refine lv_iconst (v := (0 : Int32)) hx hb dX5_viewPut_72 (by decide) ?_
            exact k_X5_viewPut_73 B hr  _ _ _ _ _ hf _ _ _ h (lv_sub hl [0, 1, 2, 3] rfl)
          · rw [if_pos c12] at hf
            refine lv_iconst (v := (4 : Int32)) hx hb dX5_viewPut_68 (by decide) ?_
            refine lv_goto (tgt := 73) hx hb dX5_viewPut_69 (by decide) ?_
            exact k_X5_viewPut_73 B hr  _ _ _ _ _ hf _ _ _ h (lv_sub hl [0, 1, 2, 3] rfl)
      · rw [if_pos c6] at hf
        refine lv_iconst (v := (3 : Int32)) hx hb dX5_viewPut_34 (by decide) ?_
        refine lv_goto (tgt := 73) hx hb dX5_viewPut_35 (by decide) ?_
        exact k_X5_viewPut_73 B hr  _ _ _ _ _ hf _ _ _ h (lv_sub hl [0, 1, 2, 3] rfl)
    · rw [if_pos c4] at hf
      refine lv_iconst (v := (2 : Int32)) hx hb dX5_viewPut_21 (by decide) ?_
      refine lv_goto (tgt := 73) hx hb dX5_viewPut_22 (by decide) ?_
      exact k_X5_viewPut_73 B hr  _ _ _ _ _ hf _ _ _ h (lv_sub hl [0, 1, 2, 3] rfl)
  · rw [if_pos c2] at hf
    refine lv_iconst (v := (1 : Int32)) hx hb dX5_viewPut_8 (by decide) ?_
    refine lv_goto (tgt := 73) hx hb dX5_viewPut_9 (by decide) ?_
    exact k_X5_viewPut_73 B hr  _ _ _ _ _ hf _ _ _ h (lv_sub hl [0, 1, 2, 3] rfl)
set_option maxRecDepth 100000 in
theorem ok_X5_viewPut {l : Launch} (hl0 : l.stackTraces = false) {D : va_G} {cy : Nat → ClassId} {ad : Nat → Nat} (hap : sAp ad) (X : sX) (σ : sM) (v1 : Int32) (v2 : Int32) (v3 : Int32) {r : Int32} {σ' : sM} (hf : f_X5_viewPut v1 v2 v3 σ = some (r, σ')) : sMet l yX5_viewPut (sWs yX5_viewPut cX5_viewPut 4 (some .int)) 3 68 0 0 D cy ad X σ [.ref (ad 44), .int v1, .int v2, .int v3] (.inr (some (.int r))) X σ' := by
  refine sMet_of (by decide +kernel) (Nat.le_of_ble_eq_true rfl) hap hl0 ?_
  intro p e s m args below meth c ls B hr htab hl h
  exact k_X5_viewPut_0 B hr _ _ _ _  hf _ _ _ h hl
set_option maxHeartbeats 4000000 in
set_option maxRecDepth 100000 in
theorem k_X5_viewRemove_62 {p : Program} {l : Launch} {e : Env} {s : State} {m : MethodId} {args : Array Value} {below : List Frame} {meth : Method} {c : Code} {D : va_G} {cy : Nat → ClassId} {ad : Nat → Nat} {X : sX} {r : Int32} {σ' : sM} (B : sB p l s m meth c args cX5_viewRemove 4 RX5 D cy ad) (hr : meth.sig.returnType = (some .boolean)) (v1 : Int32) (v2 : Int32) (vs0 : Int32) (σ : sM) (hf : b_X5_viewRemove_62 v1 v2 vs0 σ = some (r, σ')) : sGo p l e { frames := 2, cells := 0, slots := 0, locals := 45 } s m args below meth c D cy ad X 4 (sQ below args s 0 0 D cy ad (.inr (some (.int r))) X σ') σ 62 [(0, .ref (ad 44)), (1, .int v1), (2, .int v2)] [.int vs0] := by
  replace hf : (if vs0 = 0 then (chk (isb vs0) (some (vs0, σ))) else (chk (inb v1 4) (chk (inb v1 4) (rthn (f_X5_placeOf (σ 49 (v1).toNatClampNeg) v2 σ) (fun vr16 => wthn (f_X5_takes (σ 49 (v1).toNatClampNeg) vr16 σ) (fun _ σ17 => chk (isb vs0) (some (vs0, σ17)))))))) = some (r, σ') := hf
  intro H locs ls h hl
  have hx := B.1
  have hb := B.2.1
  refine lv_istore_n (lv' := [(3, .int vs0), (0, .ref (ad 44)), (1, .int v1), (2, .int v2)]) hx hb dX5_viewRemove_62 rfl hl (by decide) rfl (fun ls hl => ?_)
  refine lv_iload_n hx hb dX5_viewRemove_63 rfl (lv_at hl 0 rfl) ?_
  refine lv_if_eq (tgt := 88) hx hb dX5_viewRemove_64 (by decide) (fun c12 => ?_) (fun c12 => ?_)
  · rw [if_pos c12] at hf
    refine lv_iload_n hx hb dX5_viewRemove_88 rfl (lv_at hl 0 rfl) ?_
    obtain ⟨c13, hf⟩ := chk_some hf
    obtain ⟨rfl, rfl⟩ := Prod.mk.inj (Option.some.inj hf)
    exact sE_z B hr h (isb_n c13) dX5_viewRemove_89
  · rw [if_neg c12] at hf
    refine lv_aload_n hx hb dX5_viewRemove_67 rfl (lv_at hl 1 rfl) ?_
    refine lv_aload_n hx hb dX5_viewRemove_68 rfl (lv_at hl 1 rfl) ?_
    refine g_get B h 44 (by decide) (C := RX5) (T := TX5) (N := 21) (M_row _) rfl hin_X5 4 (by decide) hw830 rfl rfl dX5_viewRemove_69 ?_
    refine lv_iload_n hx hb dX5_viewRemove_72 rfl (lv_at hl 2 rfl) ?_
    obtain ⟨c14, hf⟩ := chk_some hf
    refine g_iald B h 49 (by decide) (n := 4) (fun _ => rfl) (inb_in c14) dX5_viewRemove_73 ?_
    refine lv_aload_n hx hb dX5_viewRemove_74 rfl (lv_at hl 1 rfl) ?_
    refine lv_aload_n hx hb dX5_viewRemove_75 rfl (lv_at hl 1 rfl) ?_
    refine g_get B h 44 (by decide) (C := RX5) (T := TX5) (N := 21) (M_row _) rfl hin_X5 4 (by decide) hw830 rfl rfl dX5_viewRemove_76 ?_
    refine lv_iload_n hx hb dX5_viewRemove_79 rfl (lv_at hl 2 rfl) ?_
    obtain ⟨c15, hf⟩ := chk_some hf
    refine g_iald B h 49 (by decide) (n := 4) (fun _ => rfl) (inb_in c15) dX5_viewRemove_80 ?_
    refine lv_iload_n hx hb dX5_viewRemove_81 rfl (lv_at hl 3 rfl) ?_
    obtain ⟨vr16, hq16, hf⟩ := rthn_some hf
    refine sRetC1 (g_runV (k := 44) (T := TX5) (N := 21) B h (ok_X5_placeOf B.2.2.2.2.2.2.2.2 B.2.2.2.2.2.2.1 _ _ (σ 49 (v1).toNatClampNeg) v2 hq16) cw_X5_68 ⟨Nat.le_of_ble_eq_true rfl, Nat.le_of_ble_eq_true rfl⟩ (by decide) (M_row _) rfl rfl hl.1.symm rfl (Nat.le_of_ble_eq_true rfl) dX5_viewRemove_82 ⟨Nat.zero_le _, Nat.zero_le _⟩) h (fun H locs h => ?_)
    obtain ⟨vr17, σ17, hq17, hf⟩ := wthn_some hf
    refine sRetC0 (g_runV (k := 44) (T := TX5) (N := 21) B h (ok_X5_takes B.2.2.2.2.2.2.2.2 B.2.2.2.2.2.2.1 _ _ (σ 49 (v1).toNatClampNeg) vr16 hq17) cw_X5_79 ⟨Nat.le_of_ble_eq_true rfl, Nat.le_of_ble_eq_true rfl⟩ (by decide) (M_row _) rfl rfl hl.1.symm rfl (Nat.le_of_ble_eq_true rfl) dX5_viewRemove_85 ⟨Nat.zero_le _, Nat.zero_le _⟩) h (fun H locs h => ?_)
    refine lv_iload_n hx hb dX5_viewRemove_88 rfl (lv_at hl 0 rfl) ?_
    obtain ⟨c18, hf⟩ := chk_some hf
    obtain ⟨rfl, rfl⟩ := Prod.mk.inj (Option.some.inj hf)
    exact sE_z B hr h (isb_n c18) dX5_viewRemove_89
set_option maxHeartbeats 4000000 in
set_option maxRecDepth 100000 in
theorem k_X5_viewRemove_26 {p : Program} {l : Launch} {e : Env} {s : State} {m : MethodId} {args : Array Value} {below : List Frame} {meth : Method} {c : Code} {D : va_G} {cy : Nat → ClassId} {ad : Nat → Nat} {X : sX} {r : Int32} {σ' : sM} (B : sB p l s m meth c args cX5_viewRemove 4 RX5 D cy ad) (hr : meth.sig.returnType = (some .boolean)) (v1 : Int32) (v2 : Int32) (vs1 : Int32) (σ : sM) (hf : b_X5_viewRemove_26 v1 v2 vs1 σ = some (r, σ')) : sGo p l e { frames := 2, cells := 0, slots := 0, locals := 45 } s m args below meth c D cy ad X 4 (sQ below args s 0 0 D cy ad (.inr (some (.int r))) X σ') σ 26 [(0, .ref (ad 44)), (1, .int v1), (2, .int v2)] [.int vs1, .ref (ad 44)] := by
  replace hf : (wthn (f_X5_refused vs1 σ) (fun vr5 σ5 => if vr5 = 0 then (rthn (f_X5_isIn v1 v2 σ5) (fun vr7 => if vr7 = 0 then (b_X5_viewRemove_62 v1 v2 (0 : Int32) σ5) else (chk (inb v1 4) (rthn (f_X5_has (σ5 49 (v1).toNatClampNeg) v2 σ5) (fun vr10 => if vr10 = 0 then (b_X5_viewRemove_62 v1 v2 (0 : Int32) σ5) else (b_X5_viewRemove_62 v1 v2 (1 : Int32) σ5)))))) else (some ((0 : Int32), σ5)))) = some (r, σ') := hf
  intro H locs ls h hl
  have hx := B.1
  have hb := B.2.1
  obtain ⟨vr5, σ5, hq5, hf⟩ := wthn_some hf
  refine sRetC1 (g_runV (k := 44) (T := TX5) (N := 21) B h (ok_X5_refused B.2.2.2.2.2.2.2.2 B.2.2.2.2.2.2.1 _ _ vs1 hq5) cw_X5_95 ⟨Nat.le_of_ble_eq_true rfl, Nat.le_of_ble_eq_true rfl⟩ (by decide) (M_row _) rfl rfl hl.1.symm rfl (Nat.le_of_ble_eq_true rfl) dX5_viewRemove_26 ⟨Nat.zero_le _, Nat.zero_le _⟩) h (fun H locs h => ?_)
  refine lv_if_eq (tgt := 34) hx hb dX5_viewRemove_29 (by decide) (fun c6 => ?_) (fun c6 => ?_)
  · rw [if_pos c6] at hf
    refine lv_aload_n hx hb dX5_viewRemove_34 rfl (lv_at hl 0 rfl) ?_
    refine lv_iload_n hx hb dX5_viewRemove_35 rfl (lv_at hl 1 rfl) ?_
    refine lv_iload_n hx hb dX5_viewRemove_36 rfl (lv_at hl 2 rfl) ?_
    obtain ⟨vr7, hq7, hf⟩ := rthn_some hf
    refine sRetC1 (g_runV (k := 44) (T := TX5) (N := 21) B h (ok_X5_isIn B.2.2.2.2.2.2.2.2 B.2.2.2.2.2.2.1 _ _ v1 v2 hq7) cw_X5_120 ⟨Nat.le_of_ble_eq_true rfl, Nat.le_of_ble_eq_true rfl⟩ (by decide) (M_row _) rfl rfl hl.1.symm rfl (Nat.le_of_ble_eq_true rfl) dX5_viewRemove_37 ⟨Nat.zero_le _, Nat.zero_le _⟩) h (fun H locs h => ?_)
    refine lv_if_eq (tgt := 61) hx hb dX5_viewRemove_40 (by decide) (fun c8 => ?_) (fun c8 => ?_)
    · rw [if_pos c8] at hf
      refine lv_iconst (v := (0 : Int32)) hx hb dX5_viewRemove_61 (by decide) ?_
      exact k_X5_viewRemove_62 B hr  _ _ _ _ hf _ _ _ h (lv_sub hl [0, 1, 2] rfl)
    · rw [if_neg c8] at hf
      refine lv_aload_n hx hb dX5_viewRemove_43 rfl (lv_at hl 0 rfl) ?_
      refine lv_aload_n hx hb dX5_viewRemove_44 rfl (lv_at hl 0 rfl) ?_
      refine g_get B h 44 (by decide) (C := RX5) (T := TX5) (N := 21) (M_row _) rfl hin_X5 4 (by decide) hw830 rfl rfl dX5_viewRemove_45 ?_
      refine lv_iload_n hx hb dX5_viewRemove_48 rfl (lv_at hl 1 rfl) ?_
      obtain ⟨c9, hf⟩ := chk_some hf
      refine g_iald B h 49 (by decide) (n := 4) (fun _ => rfl) (inb_in c9) dX5_viewRemove_49 ?_
      refine lv_iload_n hx hb dX5_viewRemove_50 rfl (lv_at hl 2 rfl) ?_
      obtain ⟨vr10, hq10, hf⟩ := rthn_some hf
      refine sRetC1 (g_runV (k := 44) (T := TX5) (N := 21) B h (ok_X5_has B.2.2.2.2.2.2.2.2 B.2.2.2.2.2.2.1 _ _ (σ5 49 (v1).toNatClampNeg) v2 hq10) cw_X5_91 ⟨Nat.le_of_ble_eq_true rfl, Nat.le_of_ble_eq_true rfl⟩ (by decide) (M_row _) rfl rfl hl.1.symm rfl (Nat.le_of_ble_eq_true rfl) dX5_viewRemove_51 ⟨Nat.zero_le _, Nat.zero_le _⟩) h (fun H locs h => ?_)
      refine lv_if_eq (tgt := 61) hx hb dX5_viewRemove_54 (by decide) (fun c11 => ?_) (fun c11 => ?_)
      · rw [if_pos c11] at hf
        refine lv_iconst (v := (0 : Int32)) hx hb dX5_viewRemove_61 (by decide) ?_
        exact k_X5_viewRemove_62 B hr  _ _ _ _ hf _ _ _ h (lv_sub hl [0, 1, 2] rfl)
      · rw [if_neg c11] at hf
        refine lv_iconst (v := (1 : Int32)) hx hb dX5_viewRemove_57 (by decide) ?_
        refine lv_goto (tgt := 62) hx hb dX5_viewRemove_58 (by decide) ?_
        exact k_X5_viewRemove_62 B hr  _ _ _ _ hf _ _ _ h (lv_sub hl [0, 1, 2] rfl)
  · rw [if_neg c6] at hf
    refine lv_iconst (v := (0 : Int32)) hx hb dX5_viewRemove_32 (by decide) ?_
    obtain ⟨rfl, rfl⟩ := Prod.mk.inj (Option.some.inj hf)
    exact sE_z B hr h rfl dX5_viewRemove_33
set_option maxHeartbeats 4000000 in
set_option maxRecDepth 100000 in
theorem k_X5_viewRemove_0 {p : Program} {l : Launch} {e : Env} {s : State} {m : MethodId} {args : Array Value} {below : List Frame} {meth : Method} {c : Code} {D : va_G} {cy : Nat → ClassId} {ad : Nat → Nat} {X : sX} {r : Int32} {σ' : sM} (B : sB p l s m meth c args cX5_viewRemove 4 RX5 D cy ad) (hr : meth.sig.returnType = (some .boolean)) (v1 : Int32) (v2 : Int32) (σ : sM) (hf : f_X5_viewRemove v1 v2 σ = some (r, σ')) : sGo p l e { frames := 2, cells := 0, slots := 0, locals := 45 } s m args below meth c D cy ad X 4 (sQ below args s 0 0 D cy ad (.inr (some (.int r))) X σ') σ 0 [(0, .ref (ad 44)), (1, .int v1), (2, .int v2)] [] := by
  replace hf : (rthn (f_X5_isView v1 σ) (fun vr1 => if vr1 = 0 then (b_X5_viewRemove_26 v1 v2 (1 : Int32) σ) else (chk (inb v1 4) (if (σ 48 (v1).toNatClampNeg) = 0 then (b_X5_viewRemove_26 v1 v2 (2 : Int32) σ) else (b_X5_viewRemove_26 v1 v2 (0 : Int32) σ))))) = some (r, σ') := hf
  intro H locs ls h hl
  have hx := B.1
  have hb := B.2.1
  refine lv_aload_n hx hb dX5_viewRemove_0 rfl (lv_at hl 0 rfl) ?_
  refine lv_iload_n hx hb dX5_viewRemove_1 rfl (lv_at hl 1 rfl) ?_
  obtain ⟨vr1, hq1, hf⟩ := rthn_some hf
  refine sRetC1 (g_runS B h (ok_X5_isView B.2.2.2.2.2.2.2.2 B.2.2.2.2.2.2.1 _ _ v1 hq1) cw_X5_126 ⟨Nat.le_of_ble_eq_true rfl, Nat.le_of_ble_eq_true rfl⟩ rfl hl.1.symm rfl (Nat.le_of_ble_eq_true rfl) dX5_viewRemove_2 ⟨Nat.zero_le _, Nat.zero_le _⟩) h (fun H locs h => ?_)
  refine lv_if_ne (tgt := 12) hx hb dX5_viewRemove_5 (by decide) (fun c2 => ?_) (fun c2 => ?_)
  · rw [if_neg c2] at hf
    refine lv_aload_n hx hb dX5_viewRemove_12 rfl (lv_at hl 0 rfl) ?_
    refine g_get B h 44 (by decide) (C := RX5) (T := TX5) (N := 21) (M_row _) rfl hin_X5 3 (by decide) hw829 rfl rfl dX5_viewRemove_13 ?_
    refine lv_iload_n hx hb dX5_viewRemove_16 rfl (lv_at hl 1 rfl) ?_
    obtain ⟨c3, hf⟩ := chk_some hf
    refine g_zald B h 48 (by decide) (n := 4) (fun _ => rfl) (inb_in c3) dX5_viewRemove_17 ?_
    refine lv_if_ne (tgt := 25) hx hb dX5_viewRemove_18 (by decide) (fun c4 => ?_) (fun c4 => ?_)
    · rw [if_neg c4] at hf
      refine lv_iconst (v := (0 : Int32)) hx hb dX5_viewRemove_25 (by decide) ?_
      exact k_X5_viewRemove_26 B hr  _ _ _ _ hf _ _ _ h (lv_sub hl [0, 1, 2] rfl)
    · rw [if_pos c4] at hf
      refine lv_iconst (v := (2 : Int32)) hx hb dX5_viewRemove_21 (by decide) ?_
      refine lv_goto (tgt := 26) hx hb dX5_viewRemove_22 (by decide) ?_
      exact k_X5_viewRemove_26 B hr  _ _ _ _ hf _ _ _ h (lv_sub hl [0, 1, 2] rfl)
  · rw [if_pos c2] at hf
    refine lv_iconst (v := (1 : Int32)) hx hb dX5_viewRemove_8 (by decide) ?_
    refine lv_goto (tgt := 26) hx hb dX5_viewRemove_9 (by decide) ?_
    exact k_X5_viewRemove_26 B hr  _ _ _ _ hf _ _ _ h (lv_sub hl [0, 1, 2] rfl)
set_option maxRecDepth 100000 in
theorem ok_X5_viewRemove {l : Launch} (hl0 : l.stackTraces = false) {D : va_G} {cy : Nat → ClassId} {ad : Nat → Nat} (hap : sAp ad) (X : sX) (σ : sM) (v1 : Int32) (v2 : Int32) {r : Int32} {σ' : sM} (hf : f_X5_viewRemove v1 v2 σ = some (r, σ')) : sMet l yX5_viewRemove (sWs yX5_viewRemove cX5_viewRemove 4 (some .boolean)) 2 45 0 0 D cy ad X σ [.ref (ad 44), .int v1, .int v2] (.inr (some (.int r))) X σ' := by
  refine sMet_of (by decide +kernel) (Nat.le_of_ble_eq_true rfl) hap hl0 ?_
  intro p e s m args below meth c ls B hr htab hl h
  exact k_X5_viewRemove_0 B hr _ _ _  hf _ _ _ h hl
set_option maxHeartbeats 4000000 in
set_option maxRecDepth 100000 in
theorem k_X5_viewSize_13 {p : Program} {l : Launch} {e : Env} {s : State} {m : MethodId} {args : Array Value} {below : List Frame} {meth : Method} {c : Code} {D : va_G} {cy : Nat → ClassId} {ad : Nat → Nat} {X : sX} {r : Int32} {σ' : sM} (B : sB p l s m meth c args cX5_viewSize 2 RX5 D cy ad) (hr : meth.sig.returnType = (some .int)) (v1 : Int32) (vs1 : Int32) (σ : sM) (hf : b_X5_viewSize_13 v1 vs1 σ = some (r, σ')) : sGo p l e { frames := 3, cells := 0, slots := 0, locals := 68 } s m args below meth c D cy ad X 2 (sQ below args s 0 0 D cy ad (.inr (some (.int r))) X σ') σ 13 [(0, .ref (ad 44)), (1, .int v1)] [.int vs1, .ref (ad 44)] := by
  replace hf : (wthn (f_X5_refused vs1 σ) (fun vr3 σ3 => if vr3 = 0 then (chk (inb v1 4) (if (σ3 48 (v1).toNatClampNeg) = 0 then (some ((-1 : Int32), σ3)) else (rthn (f_X5_manyOf v1 σ3) (fun vr7 => some (vr7, σ3))))) else (some ((0 : Int32), σ3)))) = some (r, σ') := hf
  intro H locs ls h hl
  have hx := B.1
  have hb := B.2.1
  obtain ⟨vr3, σ3, hq3, hf⟩ := wthn_some hf
  refine sRetC1 (g_runV (k := 44) (T := TX5) (N := 21) B h (ok_X5_refused B.2.2.2.2.2.2.2.2 B.2.2.2.2.2.2.1 _ _ vs1 hq3) cw_X5_95 ⟨Nat.le_of_ble_eq_true rfl, Nat.le_of_ble_eq_true rfl⟩ (by decide) (M_row _) rfl rfl hl.1.symm rfl (Nat.le_of_ble_eq_true rfl) dX5_viewSize_13 ⟨Nat.zero_le _, Nat.zero_le _⟩) h (fun H locs h => ?_)
  refine lv_if_eq (tgt := 23) hx hb dX5_viewSize_16 (by decide) (fun c4 => ?_) (fun c4 => ?_)
  · rw [if_pos c4] at hf
    refine lv_aload_n hx hb dX5_viewSize_23 rfl (lv_at hl 0 rfl) ?_
    refine g_get B h 44 (by decide) (C := RX5) (T := TX5) (N := 21) (M_row _) rfl hin_X5 3 (by decide) hw829 rfl rfl dX5_viewSize_24 ?_
    refine lv_iload_n hx hb dX5_viewSize_27 rfl (lv_at hl 1 rfl) ?_
    obtain ⟨c5, hf⟩ := chk_some hf
    refine g_zald B h 48 (by decide) (n := 4) (fun _ => rfl) (inb_in c5) dX5_viewSize_28 ?_
    refine lv_if_eq (tgt := 40) hx hb dX5_viewSize_29 (by decide) (fun c6 => ?_) (fun c6 => ?_)
    · rw [if_pos c6] at hf
      refine lv_iconst (v := (-1 : Int32)) hx hb dX5_viewSize_40 (by decide) ?_
      obtain ⟨rfl, rfl⟩ := Prod.mk.inj (Option.some.inj hf)
      exact sE_i B hr h dX5_viewSize_41
    · rw [if_neg c6] at hf
      refine lv_aload_n hx hb dX5_viewSize_32 rfl (lv_at hl 0 rfl) ?_
      refine lv_iload_n hx hb dX5_viewSize_33 rfl (lv_at hl 1 rfl) ?_
      obtain ⟨vr7, hq7, hf⟩ := rthn_some hf
      refine sRetC1 (g_runV (k := 44) (T := TX5) (N := 21) B h (ok_X5_manyOf B.2.2.2.2.2.2.2.2 B.2.2.2.2.2.2.1 _ _ v1 hq7) cw_X5_129 ⟨Nat.le_of_ble_eq_true rfl, Nat.le_of_ble_eq_true rfl⟩ (by decide) (M_row _) rfl rfl hl.1.symm rfl (Nat.le_of_ble_eq_true rfl) dX5_viewSize_34 ⟨Nat.zero_le _, Nat.zero_le _⟩) h (fun H locs h => ?_)
      refine lv_goto (tgt := 41) hx hb dX5_viewSize_37 (by decide) ?_
      obtain ⟨rfl, rfl⟩ := Prod.mk.inj (Option.some.inj hf)
      exact sE_i B hr h dX5_viewSize_41
  · rw [if_neg c4] at hf
    refine lv_iconst (v := (0 : Int32)) hx hb dX5_viewSize_19 (by decide) ?_
    refine lv_goto (tgt := 41) hx hb dX5_viewSize_20 (by decide) ?_
    obtain ⟨rfl, rfl⟩ := Prod.mk.inj (Option.some.inj hf)
    exact sE_i B hr h dX5_viewSize_41
set_option maxHeartbeats 4000000 in
set_option maxRecDepth 100000 in
theorem k_X5_viewSize_0 {p : Program} {l : Launch} {e : Env} {s : State} {m : MethodId} {args : Array Value} {below : List Frame} {meth : Method} {c : Code} {D : va_G} {cy : Nat → ClassId} {ad : Nat → Nat} {X : sX} {r : Int32} {σ' : sM} (B : sB p l s m meth c args cX5_viewSize 2 RX5 D cy ad) (hr : meth.sig.returnType = (some .int)) (v1 : Int32) (σ : sM) (hf : f_X5_viewSize v1 σ = some (r, σ')) : sGo p l e { frames := 3, cells := 0, slots := 0, locals := 68 } s m args below meth c D cy ad X 2 (sQ below args s 0 0 D cy ad (.inr (some (.int r))) X σ') σ 0 [(0, .ref (ad 44)), (1, .int v1)] [] := by
  replace hf : (rthn (f_X5_isView v1 σ) (fun vr1 => if vr1 = 0 then (b_X5_viewSize_13 v1 (1 : Int32) σ) else (b_X5_viewSize_13 v1 (0 : Int32) σ))) = some (r, σ') := hf
  intro H locs ls h hl
  have hx := B.1
  have hb := B.2.1
  refine lv_aload_n hx hb dX5_viewSize_0 rfl (lv_at hl 0 rfl) ?_
  refine lv_iload_n hx hb dX5_viewSize_1 rfl (lv_at hl 1 rfl) ?_
  obtain ⟨vr1, hq1, hf⟩ := rthn_some hf
  refine sRetC1 (g_runS B h (ok_X5_isView B.2.2.2.2.2.2.2.2 B.2.2.2.2.2.2.1 _ _ v1 hq1) cw_X5_126 ⟨Nat.le_of_ble_eq_true rfl, Nat.le_of_ble_eq_true rfl⟩ rfl hl.1.symm rfl (Nat.le_of_ble_eq_true rfl) dX5_viewSize_2 ⟨Nat.zero_le _, Nat.zero_le _⟩) h (fun H locs h => ?_)
  refine lv_if_ne (tgt := 12) hx hb dX5_viewSize_5 (by decide) (fun c2 => ?_) (fun c2 => ?_)
  · rw [if_neg c2] at hf
    refine lv_iconst (v := (0 : Int32)) hx hb dX5_viewSize_12 (by decide) ?_
    exact k_X5_viewSize_13 B hr  _ _ _ hf _ _ _ h (lv_sub hl [0, 1] rfl)
  · rw [if_pos c2] at hf
    refine lv_iconst (v := (1 : Int32)) hx hb dX5_viewSize_8 (by decide) ?_
    refine lv_goto (tgt := 13) hx hb dX5_viewSize_9 (by decide) ?_
    exact k_X5_viewSize_13 B hr  _ _ _ hf _ _ _ h (lv_sub hl [0, 1] rfl)
set_option maxRecDepth 100000 in
theorem ok_X5_viewSize {l : Launch} (hl0 : l.stackTraces = false) {D : va_G} {cy : Nat → ClassId} {ad : Nat → Nat} (hap : sAp ad) (X : sX) (σ : sM) (v1 : Int32) {r : Int32} {σ' : sM} (hf : f_X5_viewSize v1 σ = some (r, σ')) : sMet l yX5_viewSize (sWs yX5_viewSize cX5_viewSize 2 (some .int)) 3 68 0 0 D cy ad X σ [.ref (ad 44), .int v1] (.inr (some (.int r))) X σ' := by
  refine sMet_of (by decide +kernel) (Nat.le_of_ble_eq_true rfl) hap hl0 ?_
  intro p e s m args below meth c ls B hr htab hl h
  exact k_X5_viewSize_0 B hr _ _  hf _ _ _ h hl
