set_option maxHeartbeats 4000000 in
set_option maxRecDepth 100000 in
theorem k_X5_size_0 {p : Program} {l : Launch} {e : Env} {s : State} {m : MethodId} {args : Array Value} {below : List Frame} {meth : Method} {c : Code} {D : va_G} {cy : Nat → ClassId} {ad : Nat → Nat} {X : sX} {r : Int32} {σ' : sM} (B : sB p l s m meth c args cX5_size 2 RX5 D cy ad) (hr : meth.sig.returnType = (some .int)) (v1 : Int32) (σ : sM) (hf : f_X5_size v1 σ = some (r, σ')) : sGo p l e { frames := 2, cells := 0, slots := 0, locals := 42 } s m args below meth c D cy ad X 2 (sQ below args s 0 0 D cy ad (.inr (some (.int r))) X σ') σ 0 [(0, .ref (ad 44)), (1, .int v1)] [] := by
  replace hf : (rthn (f_X5_isMap v1 σ) (fun vr1 => if vr1 = 0 then (wthn (f_X5_refused (1 : Int32) σ) (fun vr6 σ6 => if vr6 = 0 then (chk (inb v1 3) (some ((σ6 47 (v1).toNatClampNeg), σ6))) else (some ((0 : Int32), σ6)))) else (wthn (f_X5_refused (0 : Int32) σ) (fun vr3 σ3 => if vr3 = 0 then (chk (inb v1 3) (some ((σ3 47 (v1).toNatClampNeg), σ3))) else (some ((0 : Int32), σ3)))))) = some (r, σ') := hf
  intro H locs ls h hl
  have hx := B.1
  have hb := B.2.1
  refine lv_aload_n hx hb dX5_size_0 rfl (lv_at hl 0 rfl) ?_
  refine lv_iload_n hx hb dX5_size_1 rfl (lv_at hl 1 rfl) ?_
  obtain ⟨vr1, hq1, hf⟩ := rthn_some hf
  refine sRetC1 (g_runS B h (ok_X5_isMap B.2.2.2.2.2.2.2.2 B.2.2.2.2.2.2.1 _ _ v1 hq1) cw_X5_87 ⟨Nat.le_of_ble_eq_true rfl, Nat.le_of_ble_eq_true rfl⟩ rfl hl.1.symm rfl (Nat.le_of_ble_eq_true rfl) dX5_size_2 ⟨Nat.zero_le _, Nat.zero_le _⟩) h (fun H locs h => ?_)
  refine lv_if_ne (tgt := 12) hx hb dX5_size_5 (by decide) (fun c2 => ?_) (fun c2 => ?_)
  · rw [if_neg c2] at hf
    refine lv_iconst (v := (0 : Int32)) hx hb dX5_size_12 (by decide) ?_
    obtain ⟨vr3, σ3, hq3, hf⟩ := wthn_some hf
    refine sRetC1 (g_runV (k := 44) (T := TX5) (N := 21) B h (ok_X5_refused B.2.2.2.2.2.2.2.2 B.2.2.2.2.2.2.1 _ _ (0 : Int32) hq3) cw_X5_95 ⟨Nat.le_of_ble_eq_true rfl, Nat.le_of_ble_eq_true rfl⟩ (by decide) (M_row _) rfl rfl hl.1.symm rfl (Nat.le_of_ble_eq_true rfl) dX5_size_13 ⟨Nat.zero_le _, Nat.zero_le _⟩) h (fun H locs h => ?_)
    refine lv_if_eq (tgt := 23) hx hb dX5_size_16 (by decide) (fun c4 => ?_) (fun c4 => ?_)
    · rw [if_pos c4] at hf
      refine lv_aload_n hx hb dX5_size_23 rfl (lv_at hl 0 rfl) ?_
      refine g_get B h 44 (by decide) (C := RX5) (T := TX5) (N := 21) (M_row _) rfl hin_X5 2 (by decide) hw828 rfl rfl dX5_size_24 ?_
      refine lv_iload_n hx hb dX5_size_27 rfl (lv_at hl 1 rfl) ?_
      obtain ⟨c5, hf⟩ := chk_some hf
      refine g_iald B h 47 (by decide) (n := 3) (fun _ => rfl) (inb_in c5) dX5_size_28 ?_
      obtain ⟨rfl, rfl⟩ := Prod.mk.inj (Option.some.inj hf)
      exact sE_i B hr h dX5_size_29
    · rw [if_neg c4] at hf
      refine lv_iconst (v := (0 : Int32)) hx hb dX5_size_19 (by decide) ?_
      refine lv_goto (tgt := 29) hx hb dX5_size_20 (by decide) ?_
      obtain ⟨rfl, rfl⟩ := Prod.mk.inj (Option.some.inj hf)
      exact sE_i B hr h dX5_size_29
  · rw [if_pos c2] at hf
    refine lv_iconst (v := (1 : Int32)) hx hb dX5_size_8 (by decide) ?_
    refine lv_goto (tgt := 13) hx hb dX5_size_9 (by decide) ?_
    obtain ⟨vr6, σ6, hq6, hf⟩ := wthn_some hf
    refine sRetC1 (g_runV (k := 44) (T := TX5) (N := 21) B h (ok_X5_refused B.2.2.2.2.2.2.2.2 B.2.2.2.2.2.2.1 _ _ (1 : Int32) hq6) cw_X5_95 ⟨Nat.le_of_ble_eq_true rfl, Nat.le_of_ble_eq_true rfl⟩ (by decide) (M_row _) rfl rfl hl.1.symm rfl (Nat.le_of_ble_eq_true rfl) dX5_size_13 ⟨Nat.zero_le _, Nat.zero_le _⟩) h (fun H locs h => ?_)
    refine lv_if_eq (tgt := 23) hx hb dX5_size_16 (by decide) (fun c7 => ?_) (fun c7 => ?_)
    · rw [if_pos c7] at hf
      refine lv_aload_n hx hb dX5_size_23 rfl (lv_at hl 0 rfl) ?_
      refine g_get B h 44 (by decide) (C := RX5) (T := TX5) (N := 21) (M_row _) rfl hin_X5 2 (by decide) hw828 rfl rfl dX5_size_24 ?_
      refine lv_iload_n hx hb dX5_size_27 rfl (lv_at hl 1 rfl) ?_
      obtain ⟨c8, hf⟩ := chk_some hf
      refine g_iald B h 47 (by decide) (n := 3) (fun _ => rfl) (inb_in c8) dX5_size_28 ?_
      obtain ⟨rfl, rfl⟩ := Prod.mk.inj (Option.some.inj hf)
      exact sE_i B hr h dX5_size_29
    · rw [if_neg c7] at hf
      refine lv_iconst (v := (0 : Int32)) hx hb dX5_size_19 (by decide) ?_
      refine lv_goto (tgt := 29) hx hb dX5_size_20 (by decide) ?_
      obtain ⟨rfl, rfl⟩ := Prod.mk.inj (Option.some.inj hf)
      exact sE_i B hr h dX5_size_29
set_option maxRecDepth 100000 in
theorem ok_X5_size {l : Launch} (hl0 : l.stackTraces = false) {D : va_G} {cy : Nat → ClassId} {ad : Nat → Nat} (hap : sAp ad) (X : sX) (σ : sM) (v1 : Int32) {r : Int32} {σ' : sM} (hf : f_X5_size v1 σ = some (r, σ')) : sMet l yX5_size (sWs yX5_size cX5_size 2 (some .int)) 2 42 0 0 D cy ad X σ [.ref (ad 44), .int v1] (.inr (some (.int r))) X σ' := by
  refine sMet_of (by decide +kernel) (Nat.le_of_ble_eq_true rfl) hap hl0 ?_
  intro p e s m args below meth c ls B hr htab hl h
  exact k_X5_size_0 B hr _ _  hf _ _ _ h hl
set_option maxHeartbeats 4000000 in
set_option maxRecDepth 100000 in
theorem k_X5_step_74 {p : Program} {l : Launch} {e : Env} {s : State} {m : MethodId} {args : Array Value} {below : List Frame} {meth : Method} {c : Code} {D : va_G} {cy : Nat → ClassId} {ad : Nat → Nat} {X : sX} {r : Int32} {σ' : sM} (B : sB p l s m meth c args cX5_step 6 RX5 D cy ad) (hr : meth.sig.returnType = (some .int)) (v1 : Int32) (v2 : Int32) (v3 : Int32) (v4 : Int32) (vs1 : Int32) (σ : sM) (hf : b_X5_step_74 v1 v2 v3 v4 vs1 σ = some (r, σ')) : sGo p l e { frames := 2, cells := 0, slots := 0, locals := 42 } s m args below meth c D cy ad X 6 (sQ below args s 0 0 D cy ad (.inr (some (.int r))) X σ') σ 74 [(0, .ref (ad 44)), (1, .int v1), (2, .int v2), (3, .int v3), (4, .int v4)] [.int vs1, .ref (ad 44)] := by
  replace hf : (wthn (f_X5_refused vs1 σ) (fun vr11 σ11 => if vr11 = 0 then (wthn (f_X5_adds v1 v2 v3 v4 σ11) (fun _ σ13 => chk (inb v1 3) (some ((σ13 58 (v1).toNatClampNeg), σ13)))) else (some ((0 : Int32), σ11)))) = some (r, σ') := hf
  intro H locs ls h hl
  have hx := B.1
  have hb := B.2.1
  obtain ⟨vr11, σ11, hq11, hf⟩ := wthn_some hf
  refine sRetC1 (g_runV (k := 44) (T := TX5) (N := 21) B h (ok_X5_refused B.2.2.2.2.2.2.2.2 B.2.2.2.2.2.2.1 _ _ vs1 hq11) cw_X5_95 ⟨Nat.le_of_ble_eq_true rfl, Nat.le_of_ble_eq_true rfl⟩ (by decide) (M_row _) rfl rfl hl.1.symm rfl (Nat.le_of_ble_eq_true rfl) dX5_step_74 ⟨Nat.zero_le _, Nat.zero_le _⟩) h (fun H locs h => ?_)
  refine lv_if_eq (tgt := 82) hx hb dX5_step_77 (by decide) (fun c12 => ?_) (fun c12 => ?_)
  · rw [if_pos c12] at hf
    refine lv_aload_n hx hb dX5_step_82 rfl (lv_at hl 0 rfl) ?_
    refine lv_iload_n hx hb dX5_step_83 rfl (lv_at hl 1 rfl) ?_
    refine lv_iload_n hx hb dX5_step_84 rfl (lv_at hl 2 rfl) ?_
    refine lv_iload_n hx hb dX5_step_85 rfl (lv_at hl 3 rfl) ?_
    refine lv_iload hx hb dX5_step_86 (lv_at hl 4 rfl) ?_
    obtain ⟨vr13, σ13, hq13, hf⟩ := wthn_some hf
    refine sRetC0 (g_runV (k := 44) (T := TX5) (N := 21) B h (ok_X5_adds B.2.2.2.2.2.2.2.2 B.2.2.2.2.2.2.1 _ _ v1 v2 v3 v4 hq13) cw_X5_139 ⟨Nat.le_of_ble_eq_true rfl, Nat.le_of_ble_eq_true rfl⟩ (by decide) (M_row _) rfl rfl hl.1.symm rfl (Nat.le_of_ble_eq_true rfl) dX5_step_88 ⟨Nat.zero_le _, Nat.zero_le _⟩) h (fun H locs h => ?_)
    refine lv_aload_n hx hb dX5_step_91 rfl (lv_at hl 0 rfl) ?_
    refine g_get B h 44 (by decide) (C := RX5) (T := TX5) (N := 21) (M_row _) rfl hin_X5 13 (by decide) hw839 rfl rfl dX5_step_92 ?_
    refine lv_iload_n hx hb dX5_step_95 rfl (lv_at hl 1 rfl) ?_
    obtain ⟨c14, hf⟩ := chk_some hf
    refine g_iald B h 58 (by decide) (n := 3) (fun _ => rfl) (inb_in c14) dX5_step_96 ?_
    obtain ⟨rfl, rfl⟩ := Prod.mk.inj (Option.some.inj hf)
    exact sE_i B hr h dX5_step_97
  · rw [if_neg c12] at hf
    refine lv_iconst (v := (0 : Int32)) hx hb dX5_step_80 (by decide) ?_
    obtain ⟨rfl, rfl⟩ := Prod.mk.inj (Option.some.inj hf)
    exact sE_i B hr h dX5_step_81
set_option maxHeartbeats 4000000 in
set_option maxRecDepth 100000 in
theorem k_X5_step_35 {p : Program} {l : Launch} {e : Env} {s : State} {m : MethodId} {args : Array Value} {below : List Frame} {meth : Method} {c : Code} {D : va_G} {cy : Nat → ClassId} {ad : Nat → Nat} {X : sX} {r : Int32} {σ' : sM} (B : sB p l s m meth c args cX5_step 6 RX5 D cy ad) (hr : meth.sig.returnType = (some .int)) (v1 : Int32) (v2 : Int32) (v3 : Int32) (v4 : Int32) (vs0 : Int32) (σ : sM) (hf : b_X5_step_35 v1 v2 v3 v4 vs0 σ = some (r, σ')) : sGo p l e { frames := 2, cells := 0, slots := 0, locals := 42 } s m args below meth c D cy ad X 6 (sQ below args s 0 0 D cy ad (.inr (some (.int r))) X σ') σ 35 [(0, .ref (ad 44)), (1, .int v1), (2, .int v2), (3, .int v3), (4, .int v4)] [.int vs0] := by
  replace hf : (rthn (f_X5_isHistory v1 σ) (fun vr6 => if vr6 = 0 then (b_X5_step_74 v1 v2 v3 v4 (1 : Int32) σ) else (if vs0 = 0 then (b_X5_step_74 v1 v2 v3 v4 (2 : Int32) σ) else (chk (inb v1 3) (if (σ 58 (v1).toNatClampNeg) = (30 : Int32) then (b_X5_step_74 v1 v2 v3 v4 (3 : Int32) σ) else (b_X5_step_74 v1 v2 v3 v4 (0 : Int32) σ)))))) = some (r, σ') := hf
  intro H locs ls h hl
  have hx := B.1
  have hb := B.2.1
  refine lv_istore (lv' := [(5, .int vs0), (0, .ref (ad 44)), (1, .int v1), (2, .int v2), (3, .int v3), (4, .int v4)]) hx hb dX5_step_35 hl (by decide) rfl (fun ls hl => ?_)
  refine lv_aload_n hx hb dX5_step_37 rfl (lv_at hl 1 rfl) ?_
  refine lv_iload_n hx hb dX5_step_38 rfl (lv_at hl 2 rfl) ?_
  obtain ⟨vr6, hq6, hf⟩ := rthn_some hf
  refine sRetC1 (g_runS B h (ok_X5_isHistory B.2.2.2.2.2.2.2.2 B.2.2.2.2.2.2.1 _ _ v1 hq6) cw_X5_136 ⟨Nat.le_of_ble_eq_true rfl, Nat.le_of_ble_eq_true rfl⟩ rfl hl.1.symm rfl (Nat.le_of_ble_eq_true rfl) dX5_step_39 ⟨Nat.zero_le _, Nat.zero_le _⟩) h (fun H locs h => ?_)
  refine lv_if_ne (tgt := 49) hx hb dX5_step_42 (by decide) (fun c7 => ?_) (fun c7 => ?_)
  · rw [if_neg c7] at hf
    refine lv_iload hx hb dX5_step_49 (lv_at hl 0 rfl) ?_
    refine lv_if_ne (tgt := 58) hx hb dX5_step_51 (by decide) (fun c8 => ?_) (fun c8 => ?_)
    · rw [if_neg c8] at hf
      refine lv_aload_n hx hb dX5_step_58 rfl (lv_at hl 1 rfl) ?_
      refine g_get B h 44 (by decide) (C := RX5) (T := TX5) (N := 21) (M_row _) rfl hin_X5 13 (by decide) hw839 rfl rfl dX5_step_59 ?_
      refine lv_iload_n hx hb dX5_step_62 rfl (lv_at hl 2 rfl) ?_
      obtain ⟨c9, hf⟩ := chk_some hf
      refine g_iald B h 58 (by decide) (n := 3) (fun _ => rfl) (inb_in c9) dX5_step_63 ?_
      refine lv_bipush (v := (30 : Int32)) hx hb dX5_step_64 (by decide) ?_
      refine lv_icmp_ne (tgt := 73) hx hb dX5_step_66 (by decide) (fun c10 => ?_) (fun c10 => ?_)
      · rw [if_neg c10] at hf
        refine lv_iconst (v := (0 : Int32)) hx hb dX5_step_73 (by decide) ?_
        exact k_X5_step_74 B hr  _ _ _ _ _ _ hf _ _ _ h (lv_sub hl [1, 2, 3, 4, 5] rfl)
      · rw [if_pos c10] at hf
        refine lv_iconst (v := (3 : Int32)) hx hb dX5_step_69 (by decide) ?_
        refine lv_goto (tgt := 74) hx hb dX5_step_70 (by decide) ?_
        exact k_X5_step_74 B hr  _ _ _ _ _ _ hf _ _ _ h (lv_sub hl [1, 2, 3, 4, 5] rfl)
    · rw [if_pos c8] at hf
      refine lv_iconst (v := (2 : Int32)) hx hb dX5_step_54 (by decide) ?_
      refine lv_goto (tgt := 74) hx hb dX5_step_55 (by decide) ?_
      exact k_X5_step_74 B hr  _ _ _ _ _ _ hf _ _ _ h (lv_sub hl [1, 2, 3, 4, 5] rfl)
  · rw [if_pos c7] at hf
    refine lv_iconst (v := (1 : Int32)) hx hb dX5_step_45 (by decide) ?_
    refine lv_goto (tgt := 74) hx hb dX5_step_46 (by decide) ?_
    exact k_X5_step_74 B hr  _ _ _ _ _ _ hf _ _ _ h (lv_sub hl [1, 2, 3, 4, 5] rfl)
set_option maxHeartbeats 4000000 in
set_option maxRecDepth 100000 in
theorem k_X5_step_0 {p : Program} {l : Launch} {e : Env} {s : State} {m : MethodId} {args : Array Value} {below : List Frame} {meth : Method} {c : Code} {D : va_G} {cy : Nat → ClassId} {ad : Nat → Nat} {X : sX} {r : Int32} {σ' : sM} (B : sB p l s m meth c args cX5_step 6 RX5 D cy ad) (hr : meth.sig.returnType = (some .int)) (v1 : Int32) (v2 : Int32) (v3 : Int32) (v4 : Int32) (σ : sM) (hf : f_X5_step v1 v2 v3 v4 σ = some (r, σ')) : sGo p l e { frames := 2, cells := 0, slots := 0, locals := 42 } s m args below meth c D cy ad X 6 (sQ below args s 0 0 D cy ad (.inr (some (.int r))) X σ') σ 0 [(0, .ref (ad 44)), (1, .int v1), (2, .int v2), (3, .int v3), (4, .int v4)] [] := by
  replace hf : (if v2 = (112 : Int32) then (b_X5_step_35 v1 v2 v3 v4 (1 : Int32) σ) else (if v2 = (114 : Int32) then (b_X5_step_35 v1 v2 v3 v4 (1 : Int32) σ) else (if v2 = (115 : Int32) then (b_X5_step_35 v1 v2 v3 v4 (1 : Int32) σ) else (if v2 = (97 : Int32) then (b_X5_step_35 v1 v2 v3 v4 (1 : Int32) σ) else (if v2 = (120 : Int32) then (b_X5_step_35 v1 v2 v3 v4 (1 : Int32) σ) else (b_X5_step_35 v1 v2 v3 v4 (0 : Int32) σ)))))) = some (r, σ') := hf
  intro H locs ls h hl
  have hx := B.1
  have hb := B.2.1
  refine lv_iload_n hx hb dX5_step_0 rfl (lv_at hl 2 rfl) ?_
  refine lv_bipush (v := (112 : Int32)) hx hb dX5_step_1 (by decide) ?_
  refine lv_icmp_eq (tgt := 30) hx hb dX5_step_3 (by decide) (fun c1 => ?_) (fun c1 => ?_)
  · rw [if_pos c1] at hf
    refine lv_iconst (v := (1 : Int32)) hx hb dX5_step_30 (by decide) ?_
    refine lv_goto (tgt := 35) hx hb dX5_step_31 (by decide) ?_
    exact k_X5_step_35 B hr  _ _ _ _ _ _ hf _ _ _ h (lv_sub hl [0, 1, 2, 3, 4] rfl)
  · rw [if_neg c1] at hf
    refine lv_iload_n hx hb dX5_step_6 rfl (lv_at hl 2 rfl) ?_
    refine lv_bipush (v := (114 : Int32)) hx hb dX5_step_7 (by decide) ?_
    refine lv_icmp_eq (tgt := 30) hx hb dX5_step_9 (by decide) (fun c2 => ?_) (fun c2 => ?_)
    · rw [if_pos c2] at hf
      refine lv_iconst (v := (1 : Int32)) hx hb dX5_step_30 (by decide) ?_
      refine lv_goto (tgt := 35) hx hb dX5_step_31 (by decide) ?_
      exact k_X5_step_35 B hr  _ _ _ _ _ _ hf _ _ _ h (lv_sub hl [0, 1, 2, 3, 4] rfl)
    · rw [if_neg c2] at hf
      refine lv_iload_n hx hb dX5_step_12 rfl (lv_at hl 2 rfl) ?_
      refine lv_bipush (v := (115 : Int32)) hx hb dX5_step_13 (by decide) ?_
      refine lv_icmp_eq (tgt := 30) hx hb dX5_step_15 (by decide) (fun c3 => ?_) (fun c3 => ?_)
      · rw [if_pos c3] at hf
        refine lv_iconst (v := (1 : Int32)) hx hb dX5_step_30 (by decide) ?_
        refine lv_goto (tgt := 35) hx hb dX5_step_31 (by decide) ?_
        exact k_X5_step_35 B hr  _ _ _ _ _ _ hf _ _ _ h (lv_sub hl [0, 1, 2, 3, 4] rfl)
      · rw [if_neg c3] at hf
        refine lv_iload_n hx hb dX5_step_18 rfl (lv_at hl 2 rfl) ?_
        refine lv_bipush (v := (97 : Int32)) hx hb dX5_step_19 (by decide) ?_
        refine lv_icmp_eq (tgt := 30) hx hb dX5_step_21 (by decide) (fun c4 => ?_) (fun c4 => ?_)
        · rw [if_pos c4] at hf
          refine lv_iconst (v := (1 : Int32)) hx hb dX5_step_30 (by decide) ?_
          refine lv_goto (tgt := 35) hx hb dX5_step_31 (by decide) ?_
          exact k_X5_step_35 B hr  _ _ _ _ _ _ hf _ _ _ h (lv_sub hl [0, 1, 2, 3, 4] rfl)
        · rw [if_neg c4] at hf
          refine lv_iload_n hx hb dX5_step_24 rfl (lv_at hl 2 rfl) ?_
          refine lv_bipush (v := (120 : Int32)) hx hb dX5_step_25 (by decide) ?_
          refine lv_icmp_ne (tgt := 34) hx hb dX5_step_27 (by decide) (fun c5 => ?_) (fun c5 => ?_)
          · rw [if_neg c5] at hf
            refine lv_iconst (v := (0 : Int32)) hx hb dX5_step_34 (by decide) ?_
            exact k_X5_step_35 B hr  _ _ _ _ _ _ hf _ _ _ h (lv_sub hl [0, 1, 2, 3, 4] rfl)
          · rw [if_pos c5] at hf
            refine lv_iconst (v := (1 : Int32)) hx hb dX5_step_30 (by decide) ?_
            refine lv_goto (tgt := 35) hx hb dX5_step_31 (by decide) ?_
            exact k_X5_step_35 B hr  _ _ _ _ _ _ hf _ _ _ h (lv_sub hl [0, 1, 2, 3, 4] rfl)
set_option maxRecDepth 100000 in
theorem ok_X5_step {l : Launch} (hl0 : l.stackTraces = false) {D : va_G} {cy : Nat → ClassId} {ad : Nat → Nat} (hap : sAp ad) (X : sX) (σ : sM) (v1 : Int32) (v2 : Int32) (v3 : Int32) (v4 : Int32) {r : Int32} {σ' : sM} (hf : f_X5_step v1 v2 v3 v4 σ = some (r, σ')) : sMet l yX5_step (sWs yX5_step cX5_step 6 (some .int)) 2 42 0 0 D cy ad X σ [.ref (ad 44), .int v1, .int v2, .int v3, .int v4] (.inr (some (.int r))) X σ' := by
  refine sMet_of (by decide +kernel) (Nat.le_of_ble_eq_true rfl) hap hl0 ?_
  intro p e s m args below meth c ls B hr htab hl h
  exact k_X5_step_0 B hr _ _ _ _ _  hf _ _ _ h hl
set_option maxHeartbeats 4000000 in
set_option maxRecDepth 100000 in
theorem k_X5_thrown_0 {p : Program} {l : Launch} {e : Env} {s : State} {m : MethodId} {args : Array Value} {below : List Frame} {meth : Method} {c : Code} {D : va_G} {cy : Nat → ClassId} {ad : Nat → Nat} {X : sX} {r : Int32} (B : sB p l s m meth c args cX5_thrown 1 RX5 D cy ad) (hr : meth.sig.returnType = (some .int)) (σ : sM) (hf : f_X5_thrown σ = some r) : sGo p l e { frames := 0, cells := 0, slots := 0, locals := 0 } s m args below meth c D cy ad X 1 (sQ below args s 0 0 D cy ad (.inr (some (.int r))) X σ) σ 0 [(0, .ref (ad 44))] [] := by
  replace hf : (some (σ 44 20)) = some r := hf
  intro H locs ls h hl
  have hx := B.1
  have hb := B.2.1
  refine lv_aload_n hx hb dX5_thrown_0 rfl (lv_at hl 0 rfl) ?_
  refine g_get B h 44 (by decide) (C := RX5) (T := TX5) (N := 21) (M_row _) rfl hin_X5 20 (by decide) hw846 rfl rfl dX5_thrown_1 ?_
  obtain rfl := Option.some.inj hf
  exact sE_i B hr h dX5_thrown_4
set_option maxRecDepth 100000 in
theorem ok_X5_thrown {l : Launch} (hl0 : l.stackTraces = false) {D : va_G} {cy : Nat → ClassId} {ad : Nat → Nat} (hap : sAp ad) (X : sX) (σ : sM) {r : Int32} (hf : f_X5_thrown σ = some r) : sMet l yX5_thrown (sWs yX5_thrown cX5_thrown 1 (some .int)) 0 0 0 0 D cy ad X σ [.ref (ad 44)] (.inr (some (.int r))) X σ := by
  refine sMet_of (by decide +kernel) (Nat.le_of_ble_eq_true rfl) hap hl0 ?_
  intro p e s m args below meth c ls B hr htab hl h
  exact k_X5_thrown_0 B hr  _  hf _ _ _ h hl
set_option maxHeartbeats 4000000 in
set_option maxRecDepth 100000 in
theorem k_X5_value_26 {p : Program} {l : Launch} {e : Env} {s : State} {m : MethodId} {args : Array Value} {below : List Frame} {meth : Method} {c : Code} {D : va_G} {cy : Nat → ClassId} {ad : Nat → Nat} {X : sX} {r : Int32} {σ' : sM} (B : sB p l s m meth c args cX5_value 3 RX5 D cy ad) (hr : meth.sig.returnType = (some .int)) (v1 : Int32) (v2 : Int32) (vs1 : Int32) (σ : sM) (hf : b_X5_value_26 v1 v2 vs1 σ = some (r, σ')) : sGo p l e { frames := 2, cells := 0, slots := 0, locals := 45 } s m args below meth c D cy ad X 3 (sQ below args s 0 0 D cy ad (.inr (some (.int r))) X σ') σ 26 [(0, .ref (ad 44)), (1, .int v1), (2, .int v2)] [.int vs1, .ref (ad 44)] := by
  replace hf : (wthn (f_X5_refused vs1 σ) (fun vr5 σ5 => if vr5 = 0 then (rthn (f_X5_placeOf v1 v2 σ5) (fun vr7 => chk (inb (((60 : Int32) * v1) + vr7) 180) (some ((σ5 46 ((((60 : Int32) * v1) + vr7)).toNatClampNeg), σ5)))) else (some ((0 : Int32), σ5)))) = some (r, σ') := hf
  intro H locs ls h hl
  have hx := B.1
  have hb := B.2.1
  obtain ⟨vr5, σ5, hq5, hf⟩ := wthn_some hf
  refine sRetC1 (g_runV (k := 44) (T := TX5) (N := 21) B h (ok_X5_refused B.2.2.2.2.2.2.2.2 B.2.2.2.2.2.2.1 _ _ vs1 hq5) cw_X5_95 ⟨Nat.le_of_ble_eq_true rfl, Nat.le_of_ble_eq_true rfl⟩ (by decide) (M_row _) rfl rfl hl.1.symm rfl (Nat.le_of_ble_eq_true rfl) dX5_value_26 ⟨Nat.zero_le _, Nat.zero_le _⟩) h (fun H locs h => ?_)
  refine lv_if_eq (tgt := 34) hx hb dX5_value_29 (by decide) (fun c6 => ?_) (fun c6 => ?_)
  · rw [if_pos c6] at hf
    refine lv_aload_n hx hb dX5_value_34 rfl (lv_at hl 0 rfl) ?_
    refine g_get B h 44 (by decide) (C := RX5) (T := TX5) (N := 21) (M_row _) rfl hin_X5 1 (by decide) hw827 rfl rfl dX5_value_35 ?_
    refine lv_bipush (v := (60 : Int32)) hx hb dX5_value_38 (by decide) ?_
    refine lv_iload_n hx hb dX5_value_40 rfl (lv_at hl 1 rfl) ?_
    refine lv_imul hx hb dX5_value_41 ?_
    refine lv_aload_n hx hb dX5_value_42 rfl (lv_at hl 0 rfl) ?_
    refine lv_iload_n hx hb dX5_value_43 rfl (lv_at hl 1 rfl) ?_
    refine lv_iload_n hx hb dX5_value_44 rfl (lv_at hl 2 rfl) ?_
    obtain ⟨vr7, hq7, hf⟩ := rthn_some hf
    refine sRetC1 (g_runV (k := 44) (T := TX5) (N := 21) B h (ok_X5_placeOf B.2.2.2.2.2.2.2.2 B.2.2.2.2.2.2.1 _ _ v1 v2 hq7) cw_X5_68 ⟨Nat.le_of_ble_eq_true rfl, Nat.le_of_ble_eq_true rfl⟩ (by decide) (M_row _) rfl rfl hl.1.symm rfl (Nat.le_of_ble_eq_true rfl) dX5_value_45 ⟨Nat.zero_le _, Nat.zero_le _⟩) h (fun H locs h => ?_)
    refine lv_iadd hx hb dX5_value_48 ?_
    obtain ⟨c8, hf⟩ := chk_some hf
    refine g_iald B h 46 (by decide) (n := 180) (fun _ => rfl) (inb_in c8) dX5_value_49 ?_
    obtain ⟨rfl, rfl⟩ := Prod.mk.inj (Option.some.inj hf)
    exact sE_i B hr h dX5_value_50
  · rw [if_neg c6] at hf
    refine lv_iconst (v := (0 : Int32)) hx hb dX5_value_32 (by decide) ?_
    obtain ⟨rfl, rfl⟩ := Prod.mk.inj (Option.some.inj hf)
    exact sE_i B hr h dX5_value_33
set_option maxHeartbeats 4000000 in
set_option maxRecDepth 100000 in
theorem k_X5_value_0 {p : Program} {l : Launch} {e : Env} {s : State} {m : MethodId} {args : Array Value} {below : List Frame} {meth : Method} {c : Code} {D : va_G} {cy : Nat → ClassId} {ad : Nat → Nat} {X : sX} {r : Int32} {σ' : sM} (B : sB p l s m meth c args cX5_value 3 RX5 D cy ad) (hr : meth.sig.returnType = (some .int)) (v1 : Int32) (v2 : Int32) (σ : sM) (hf : f_X5_value v1 v2 σ = some (r, σ')) : sGo p l e { frames := 2, cells := 0, slots := 0, locals := 45 } s m args below meth c D cy ad X 3 (sQ below args s 0 0 D cy ad (.inr (some (.int r))) X σ') σ 0 [(0, .ref (ad 44)), (1, .int v1), (2, .int v2)] [] := by
  replace hf : (rthn (f_X5_isMap v1 σ) (fun vr1 => if vr1 = 0 then (b_X5_value_26 v1 v2 (1 : Int32) σ) else (rthn (f_X5_has v1 v2 σ) (fun vr3 => if vr3 = 0 then (b_X5_value_26 v1 v2 (2 : Int32) σ) else (b_X5_value_26 v1 v2 (0 : Int32) σ))))) = some (r, σ') := hf
  intro H locs ls h hl
  have hx := B.1
  have hb := B.2.1
  refine lv_aload_n hx hb dX5_value_0 rfl (lv_at hl 0 rfl) ?_
  refine lv_iload_n hx hb dX5_value_1 rfl (lv_at hl 1 rfl) ?_
  obtain ⟨vr1, hq1, hf⟩ := rthn_some hf
  refine sRetC1 (g_runS B h (ok_X5_isMap B.2.2.2.2.2.2.2.2 B.2.2.2.2.2.2.1 _ _ v1 hq1) cw_X5_87 ⟨Nat.le_of_ble_eq_true rfl, Nat.le_of_ble_eq_true rfl⟩ rfl hl.1.symm rfl (Nat.le_of_ble_eq_true rfl) dX5_value_2 ⟨Nat.zero_le _, Nat.zero_le _⟩) h (fun H locs h => ?_)
  refine lv_if_ne (tgt := 12) hx hb dX5_value_5 (by decide) (fun c2 => ?_) (fun c2 => ?_)
  · rw [if_neg c2] at hf
    refine lv_aload_n hx hb dX5_value_12 rfl (lv_at hl 0 rfl) ?_
    refine lv_iload_n hx hb dX5_value_13 rfl (lv_at hl 1 rfl) ?_
    refine lv_iload_n hx hb dX5_value_14 rfl (lv_at hl 2 rfl) ?_
    obtain ⟨vr3, hq3, hf⟩ := rthn_some hf
    refine sRetC1 (g_runV (k := 44) (T := TX5) (N := 21) B h (ok_X5_has B.2.2.2.2.2.2.2.2 B.2.2.2.2.2.2.1 _ _ v1 v2 hq3) cw_X5_91 ⟨Nat.le_of_ble_eq_true rfl, Nat.le_of_ble_eq_true rfl⟩ (by decide) (M_row _) rfl rfl hl.1.symm rfl (Nat.le_of_ble_eq_true rfl) dX5_value_15 ⟨Nat.zero_le _, Nat.zero_le _⟩) h (fun H locs h => ?_)
    refine lv_if_ne (tgt := 25) hx hb dX5_value_18 (by decide) (fun c4 => ?_) (fun c4 => ?_)
    · rw [if_neg c4] at hf
      refine lv_iconst (v := (0 : Int32)) hx hb dX5_value_25 (by decide) ?_
      exact k_X5_value_26 B hr  _ _ _ _ hf _ _ _ h (lv_sub hl [0, 1, 2] rfl)
    · rw [if_pos c4] at hf
      refine lv_iconst (v := (2 : Int32)) hx hb dX5_value_21 (by decide) ?_
      refine lv_goto (tgt := 26) hx hb dX5_value_22 (by decide) ?_
      exact k_X5_value_26 B hr  _ _ _ _ hf _ _ _ h (lv_sub hl [0, 1, 2] rfl)
  · rw [if_pos c2] at hf
    refine lv_iconst (v := (1 : Int32)) hx hb dX5_value_8 (by decide) ?_
    refine lv_goto (tgt := 26) hx hb dX5_value_9 (by decide) ?_
    exact k_X5_value_26 B hr  _ _ _ _ hf _ _ _ h (lv_sub hl [0, 1, 2] rfl)
set_option maxRecDepth 100000 in
theorem ok_X5_value {l : Launch} (hl0 : l.stackTraces = false) {D : va_G} {cy : Nat → ClassId} {ad : Nat → Nat} (hap : sAp ad) (X : sX) (σ : sM) (v1 : Int32) (v2 : Int32) {r : Int32} {σ' : sM} (hf : f_X5_value v1 v2 σ = some (r, σ')) : sMet l yX5_value (sWs yX5_value cX5_value 3 (some .int)) 2 45 0 0 D cy ad X σ [.ref (ad 44), .int v1, .int v2] (.inr (some (.int r))) X σ' := by
  refine sMet_of (by decide +kernel) (Nat.le_of_ble_eq_true rfl) hap hl0 ?_
  intro p e s m args below meth c ls B hr htab hl h
  exact k_X5_value_0 B hr _ _ _  hf _ _ _ h hl
set_option maxHeartbeats 4000000 in
set_option maxRecDepth 100000 in
theorem k_X5_viewClear_49 {p : Program} {l : Launch} {e : Env} {s : State} {m : MethodId} {args : Array Value} {below : List Frame} {meth : Method} {c : Code} {D : va_G} {cy : Nat → ClassId} {ad : Nat → Nat} {X : sX} {r : Int32} {σ' : sM} (B : sB p l s m meth c args cX5_viewClear 5 RX5 D cy ad) (hr : meth.sig.returnType = (some .int)) : ∀ (n : Nat) (v1 : Int32) (v2 : Int32) (v3 : Int32) (v4 : Int32) (σ : sM), b_X5_viewClear_49 n v1 v2 v3 v4 σ = some (r, σ') → sGo p l e { frames := 3, cells := 0, slots := 0, locals := 68 } s m args below meth c D cy ad X 5 (sQ below args s 0 0 D cy ad (.inr (some (.int r))) X σ') σ 49 [(0, .ref (ad 44)), (1, .int v1), (2, .int v2), (3, .int v3), (4, .int v4)] [] := by
  intro n
  induction n with
  | zero =>
    intro v1 v2 v3 v4 σ hf
    exact nomatch (show none = some (r, σ') from hf)
  | succ n ih =>
    intro v1 v2 v3 v4 σ hf
    replace hf : (if v2 ≤ v4 then (some (v2, σ)) else (chk (inb v1 4) (wthn (f_X5_takes (σ 49 (v1).toNatClampNeg) v3 σ) (fun _ σ11 => b_X5_viewClear_49 n v1 v2 v3 (v4 + 1) σ11)))) = some (r, σ') := hf
    intro H locs ls h hl
    have hx := B.1
    have hb := B.2.1
    refine lv_iload hx hb dX5_viewClear_49 (lv_at hl 4 rfl) ?_
    refine lv_iload_n hx hb dX5_viewClear_51 rfl (lv_at hl 2 rfl) ?_
    refine lv_icmp_ge (tgt := 72) hx hb dX5_viewClear_52 (by decide) (fun c9 => ?_) (fun c9 => ?_)
    · rw [if_pos c9] at hf
      refine lv_iload_n hx hb dX5_viewClear_72 rfl (lv_at hl 2 rfl) ?_
      obtain ⟨rfl, rfl⟩ := Prod.mk.inj (Option.some.inj hf)
      exact sE_i B hr h dX5_viewClear_73
    · rw [if_neg c9] at hf
      refine lv_aload_n hx hb dX5_viewClear_55 rfl (lv_at hl 0 rfl) ?_
      refine lv_aload_n hx hb dX5_viewClear_56 rfl (lv_at hl 0 rfl) ?_
      refine g_get B h 44 (by decide) (C := RX5) (T := TX5) (N := 21) (M_row _) rfl hin_X5 4 (by decide) hw830 rfl rfl dX5_viewClear_57 ?_
      refine lv_iload_n hx hb dX5_viewClear_60 rfl (lv_at hl 1 rfl) ?_
      obtain ⟨c10, hf⟩ := chk_some hf
      refine g_iald B h 49 (by decide) (n := 4) (fun _ => rfl) (inb_in c10) dX5_viewClear_61 ?_
      refine lv_iload_n hx hb dX5_viewClear_62 rfl (lv_at hl 3 rfl) ?_
      obtain ⟨vr11, σ11, hq11, hf⟩ := wthn_some hf
      refine sRetC0 (g_runV (k := 44) (T := TX5) (N := 21) B h (ok_X5_takes B.2.2.2.2.2.2.2.2 B.2.2.2.2.2.2.1 _ _ (σ 49 (v1).toNatClampNeg) v3 hq11) cw_X5_79 ⟨Nat.le_of_ble_eq_true rfl, Nat.le_of_ble_eq_true rfl⟩ (by decide) (M_row _) rfl rfl hl.1.symm rfl (Nat.le_of_ble_eq_true rfl) dX5_viewClear_63 ⟨Nat.zero_le _, Nat.zero_le _⟩) h (fun H locs h => ?_)
      refine lv_iinc (v := (v4 + 1)) (lv' := [(4, .int (v4 + 1)), (0, .ref (ad 44)), (1, .int v1), (2, .int v2), (3, .int v3)]) hx hb dX5_viewClear_66 hl (k := 4) rfl rfl (by decide) rfl (fun ls hl => ?_)
      refine lv_goto (tgt := 49) hx hb dX5_viewClear_69 (by decide) ?_
      exact ih _ _ _ _ _ hf _ _ _ h (lv_sub hl [1, 2, 3, 4, 0] rfl)
set_option maxHeartbeats 4000000 in
set_option maxRecDepth 100000 in
theorem k_X5_viewClear_26 {p : Program} {l : Launch} {e : Env} {s : State} {m : MethodId} {args : Array Value} {below : List Frame} {meth : Method} {c : Code} {D : va_G} {cy : Nat → ClassId} {ad : Nat → Nat} {X : sX} {r : Int32} {σ' : sM} (B : sB p l s m meth c args cX5_viewClear 5 RX5 D cy ad) (hr : meth.sig.returnType = (some .int)) (v1 : Int32) (vs1 : Int32) (σ : sM) (hf : b_X5_viewClear_26 v1 vs1 σ = some (r, σ')) : sGo p l e { frames := 3, cells := 0, slots := 0, locals := 68 } s m args below meth c D cy ad X 5 (sQ below args s 0 0 D cy ad (.inr (some (.int r))) X σ') σ 26 [(0, .ref (ad 44)), (1, .int v1)] [.int vs1, .ref (ad 44)] := by
  replace hf : (wthn (f_X5_refused vs1 σ) (fun vr5 σ5 => if vr5 = 0 then (rthn (f_X5_manyOf v1 σ5) (fun vr7 => rthn (f_X5_firstOf v1 σ5) (fun vr8 => b_X5_viewClear_49 FU v1 vr7 vr8 (0 : Int32) σ5))) else (some ((0 : Int32), σ5)))) = some (r, σ') := hf
  intro H locs ls h hl
  have hx := B.1
  have hb := B.2.1
  obtain ⟨vr5, σ5, hq5, hf⟩ := wthn_some hf
  refine sRetC1 (g_runV (k := 44) (T := TX5) (N := 21) B h (ok_X5_refused B.2.2.2.2.2.2.2.2 B.2.2.2.2.2.2.1 _ _ vs1 hq5) cw_X5_95 ⟨Nat.le_of_ble_eq_true rfl, Nat.le_of_ble_eq_true rfl⟩ (by decide) (M_row _) rfl rfl hl.1.symm rfl (Nat.le_of_ble_eq_true rfl) dX5_viewClear_26 ⟨Nat.zero_le _, Nat.zero_le _⟩) h (fun H locs h => ?_)
  refine lv_if_eq (tgt := 34) hx hb dX5_viewClear_29 (by decide) (fun c6 => ?_) (fun c6 => ?_)
  · rw [if_pos c6] at hf
    refine lv_aload_n hx hb dX5_viewClear_34 rfl (lv_at hl 0 rfl) ?_
    refine lv_iload_n hx hb dX5_viewClear_35 rfl (lv_at hl 1 rfl) ?_
    obtain ⟨vr7, hq7, hf⟩ := rthn_some hf
    refine sRetC1 (g_runV (k := 44) (T := TX5) (N := 21) B h (ok_X5_manyOf B.2.2.2.2.2.2.2.2 B.2.2.2.2.2.2.1 _ _ v1 hq7) cw_X5_129 ⟨Nat.le_of_ble_eq_true rfl, Nat.le_of_ble_eq_true rfl⟩ (by decide) (M_row _) rfl rfl hl.1.symm rfl (Nat.le_of_ble_eq_true rfl) dX5_viewClear_36 ⟨Nat.zero_le _, Nat.zero_le _⟩) h (fun H locs h => ?_)
    refine lv_istore_n (lv' := [(2, .int vr7), (0, .ref (ad 44)), (1, .int v1)]) hx hb dX5_viewClear_39 rfl hl (by decide) rfl (fun ls hl => ?_)
    refine lv_aload_n hx hb dX5_viewClear_40 rfl (lv_at hl 1 rfl) ?_
    refine lv_iload_n hx hb dX5_viewClear_41 rfl (lv_at hl 2 rfl) ?_
    obtain ⟨vr8, hq8, hf⟩ := rthn_some hf
    refine sRetC1 (g_runV (k := 44) (T := TX5) (N := 21) B h (ok_X5_firstOf B.2.2.2.2.2.2.2.2 B.2.2.2.2.2.2.1 _ _ v1 hq8) cw_X5_116 ⟨Nat.le_of_ble_eq_true rfl, Nat.le_of_ble_eq_true rfl⟩ (by decide) (M_row _) rfl rfl hl.1.symm rfl (Nat.le_of_ble_eq_true rfl) dX5_viewClear_42 ⟨Nat.zero_le _, Nat.zero_le _⟩) h (fun H locs h => ?_)
    refine lv_istore_n (lv' := [(3, .int vr8), (2, .int vr7), (0, .ref (ad 44)), (1, .int v1)]) hx hb dX5_viewClear_45 rfl hl (by decide) rfl (fun ls hl => ?_)
    refine lv_iconst (v := (0 : Int32)) hx hb dX5_viewClear_46 (by decide) ?_
    refine lv_istore (lv' := [(4, .int (0 : Int32)), (3, .int vr8), (2, .int vr7), (0, .ref (ad 44)), (1, .int v1)]) hx hb dX5_viewClear_47 hl (by decide) rfl (fun ls hl => ?_)
    exact k_X5_viewClear_49 B hr  _ _ _ _ _ _ hf _ _ _ h (lv_sub hl [3, 4, 2, 1, 0] rfl)
  · rw [if_neg c6] at hf
    refine lv_iconst (v := (0 : Int32)) hx hb dX5_viewClear_32 (by decide) ?_
    obtain ⟨rfl, rfl⟩ := Prod.mk.inj (Option.some.inj hf)
    exact sE_i B hr h dX5_viewClear_33
set_option maxHeartbeats 4000000 in
set_option maxRecDepth 100000 in
theorem k_X5_viewClear_0 {p : Program} {l : Launch} {e : Env} {s : State} {m : MethodId} {args : Array Value} {below : List Frame} {meth : Method} {c : Code} {D : va_G} {cy : Nat → ClassId} {ad : Nat → Nat} {X : sX} {r : Int32} {σ' : sM} (B : sB p l s m meth c args cX5_viewClear 5 RX5 D cy ad) (hr : meth.sig.returnType = (some .int)) (v1 : Int32) (σ : sM) (hf : f_X5_viewClear v1 σ = some (r, σ')) : sGo p l e { frames := 3, cells := 0, slots := 0, locals := 68 } s m args below meth c D cy ad X 5 (sQ below args s 0 0 D cy ad (.inr (some (.int r))) X σ') σ 0 [(0, .ref (ad 44)), (1, .int v1)] [] := by
  replace hf : (rthn (f_X5_isView v1 σ) (fun vr1 => if vr1 = 0 then (b_X5_viewClear_26 v1 (1 : Int32) σ) else (chk (inb v1 4) (if (σ 48 (v1).toNatClampNeg) = 0 then (b_X5_viewClear_26 v1 (2 : Int32) σ) else (b_X5_viewClear_26 v1 (0 : Int32) σ))))) = some (r, σ') := hf
  intro H locs ls h hl
  have hx := B.1
  have hb := B.2.1
  refine lv_aload_n hx hb dX5_viewClear_0 rfl (lv_at hl 0 rfl) ?_
  refine lv_iload_n hx hb dX5_viewClear_1 rfl (lv_at hl 1 rfl) ?_
  obtain ⟨vr1, hq1, hf⟩ := rthn_some hf
  refine sRetC1 (g_runS B h (ok_X5_isView B.2.2.2.2.2.2.2.2 B.2.2.2.2.2.2.1 _ _ v1 hq1) cw_X5_126 ⟨Nat.le_of_ble_eq_true rfl, Nat.le_of_ble_eq_true rfl⟩ rfl hl.1.symm rfl (Nat.le_of_ble_eq_true rfl) dX5_viewClear_2 ⟨Nat.zero_le _, Nat.zero_le _⟩) h (fun H locs h => ?_)
  refine lv_if_ne (tgt := 12) hx hb dX5_viewClear_5 (by decide) (fun c2 => ?_) (fun c2 => ?_)
  · rw [if_neg c2] at hf
    refine lv_aload_n hx hb dX5_viewClear_12 rfl (lv_at hl 0 rfl) ?_
    refine g_get B h 44 (by decide) (C := RX5) (T := TX5) (N := 21) (M_row _) rfl hin_X5 3 (by decide) hw829 rfl rfl dX5_viewClear_13 ?_
    refine lv_iload_n hx hb dX5_viewClear_16 rfl (lv_at hl 1 rfl) ?_
    obtain ⟨c3, hf⟩ := chk_some hf
    refine g_zald B h 48 (by decide) (n := 4) (fun _ => rfl) (inb_in c3) dX5_viewClear_17 ?_
    refine lv_if_ne (tgt := 25) hx hb dX5_viewClear_18 (by decide) (fun c4 => ?_) (fun c4 => ?_)
    · rw [if_neg c4] at hf
      refine lv_iconst (v := (0 : Int32)) hx hb dX5_viewClear_25 (by decide) ?_
      exact k_X5_viewClear_26 B hr  _ _ _ hf _ _ _ h (lv_sub hl [0, 1] rfl)
    · rw [if_pos c4] at hf
      refine lv_iconst (v := (2 : Int32)) hx hb dX5_viewClear_21 (by decide) ?_
      refine lv_goto (tgt := 26) hx hb dX5_viewClear_22 (by decide) ?_
      exact k_X5_viewClear_26 B hr  _ _ _ hf _ _ _ h (lv_sub hl [0, 1] rfl)
  · rw [if_pos c2] at hf
    refine lv_iconst (v := (1 : Int32)) hx hb dX5_viewClear_8 (by decide) ?_
    refine lv_goto (tgt := 26) hx hb dX5_viewClear_9 (by decide) ?_
    exact k_X5_viewClear_26 B hr  _ _ _ hf _ _ _ h (lv_sub hl [0, 1] rfl)
set_option maxRecDepth 100000 in
theorem ok_X5_viewClear {l : Launch} (hl0 : l.stackTraces = false) {D : va_G} {cy : Nat → ClassId} {ad : Nat → Nat} (hap : sAp ad) (X : sX) (σ : sM) (v1 : Int32) {r : Int32} {σ' : sM} (hf : f_X5_viewClear v1 σ = some (r, σ')) : sMet l yX5_viewClear (sWs yX5_viewClear cX5_viewClear 5 (some .int)) 3 68 0 0 D cy ad X σ [.ref (ad 44), .int v1] (.inr (some (.int r))) X σ' := by
  refine sMet_of (by decide +kernel) (Nat.le_of_ble_eq_true rfl) hap hl0 ?_
  intro p e s m args below meth c ls B hr htab hl h
  exact k_X5_viewClear_0 B hr _ _  hf _ _ _ h hl
set_option maxHeartbeats 4000000 in
set_option maxRecDepth 100000 in
theorem k_X5_viewEnd_34 {p : Program} {l : Launch} {e : Env} {s : State} {m : MethodId} {args : Array Value} {below : List Frame} {meth : Method} {c : Code} {D : va_G} {cy : Nat → ClassId} {ad : Nat → Nat} {X : sX} {r : Int32} {σ' : sM} (B : sB p l s m meth c args cX5_viewEnd 3 RX5 D cy ad) (hr : meth.sig.returnType = (some .int)) (v1 : Int32) (v2 : Int32) (vs1 : Int32) (σ : sM) (hf : b_X5_viewEnd_34 v1 v2 vs1 σ = some (r, σ')) : sGo p l e { frames := 3, cells := 0, slots := 0, locals := 68 } s m args below meth c D cy ad X 3 (sQ below args s 0 0 D cy ad (.inr (some (.int r))) X σ') σ 34 [(0, .ref (ad 44)), (1, .int v1), (2, .int v2)] [.int vs1, .ref (ad 44)] := by
  replace hf : (wthn (f_X5_refused vs1 σ) (fun vr7 σ7 => if vr7 = 0 then (chk (inb v1 4) (if v2 = 0 then (rthn (f_X5_firstOf v1 σ7) (fun vr11 => chk (inb (((60 : Int32) * (σ7 49 (v1).toNatClampNeg)) + vr11) 180) (some ((σ7 45 ((((60 : Int32) * (σ7 49 (v1).toNatClampNeg)) + vr11)).toNatClampNeg), σ7)))) else (rthn (f_X5_behindOf v1 σ7) (fun vr13 => chk (inb (((60 : Int32) * (σ7 49 (v1).toNatClampNeg)) + (vr13 - (1 : Int32))) 180) (some ((σ7 45 ((((60 : Int32) * (σ7 49 (v1).toNatClampNeg)) + (vr13 - (1 : Int32)))).toNatClampNeg), σ7)))))) else (some ((0 : Int32), σ7)))) = some (r, σ') := hf
  intro H locs ls h hl
  have hx := B.1
  have hb := B.2.1
  obtain ⟨vr7, σ7, hq7, hf⟩ := wthn_some hf
  refine sRetC1 (g_runV (k := 44) (T := TX5) (N := 21) B h (ok_X5_refused B.2.2.2.2.2.2.2.2 B.2.2.2.2.2.2.1 _ _ vs1 hq7) cw_X5_95 ⟨Nat.le_of_ble_eq_true rfl, Nat.le_of_ble_eq_true rfl⟩ (by decide) (M_row _) rfl rfl hl.1.symm rfl (Nat.le_of_ble_eq_true rfl) dX5_viewEnd_34 ⟨Nat.zero_le _, Nat.zero_le _⟩) h (fun H locs h => ?_)
  refine lv_if_eq (tgt := 42) hx hb dX5_viewEnd_37 (by decide) (fun c8 => ?_) (fun c8 => ?_)
  · rw [if_pos c8] at hf
    refine lv_aload_n hx hb dX5_viewEnd_42 rfl (lv_at hl 0 rfl) ?_
    refine g_get B h 44 (by decide) (C := RX5) (T := TX5) (N := 21) (M_row _) rfl hin_X5 0 (by decide) hw826 rfl rfl dX5_viewEnd_43 ?_
    refine lv_bipush (v := (60 : Int32)) hx hb dX5_viewEnd_46 (by decide) ?_
    refine lv_aload_n hx hb dX5_viewEnd_48 rfl (lv_at hl 0 rfl) ?_
    refine g_get B h 44 (by decide) (C := RX5) (T := TX5) (N := 21) (M_row _) rfl hin_X5 4 (by decide) hw830 rfl rfl dX5_viewEnd_49 ?_
    refine lv_iload_n hx hb dX5_viewEnd_52 rfl (lv_at hl 1 rfl) ?_
    obtain ⟨c9, hf⟩ := chk_some hf
    refine g_iald B h 49 (by decide) (n := 4) (fun _ => rfl) (inb_in c9) dX5_viewEnd_53 ?_
    refine lv_imul hx hb dX5_viewEnd_54 ?_
    refine lv_iload_n hx hb dX5_viewEnd_55 rfl (lv_at hl 2 rfl) ?_
    refine lv_if_eq (tgt := 69) hx hb dX5_viewEnd_56 (by decide) (fun c10 => ?_) (fun c10 => ?_)
    · rw [if_pos c10] at hf
      refine lv_aload_n hx hb dX5_viewEnd_69 rfl (lv_at hl 0 rfl) ?_
      refine lv_iload_n hx hb dX5_viewEnd_70 rfl (lv_at hl 1 rfl) ?_
      obtain ⟨vr11, hq11, hf⟩ := rthn_some hf
      refine sRetC1 (g_runV (k := 44) (T := TX5) (N := 21) B h (ok_X5_firstOf B.2.2.2.2.2.2.2.2 B.2.2.2.2.2.2.1 _ _ v1 hq11) cw_X5_116 ⟨Nat.le_of_ble_eq_true rfl, Nat.le_of_ble_eq_true rfl⟩ (by decide) (M_row _) rfl rfl hl.1.symm rfl (Nat.le_of_ble_eq_true rfl) dX5_viewEnd_71 ⟨Nat.zero_le _, Nat.zero_le _⟩) h (fun H locs h => ?_)
      refine lv_iadd hx hb dX5_viewEnd_74 ?_
      obtain ⟨c12, hf⟩ := chk_some hf
      refine g_iald B h 45 (by decide) (n := 180) (fun _ => rfl) (inb_in c12) dX5_viewEnd_75 ?_
      obtain ⟨rfl, rfl⟩ := Prod.mk.inj (Option.some.inj hf)
      exact sE_i B hr h dX5_viewEnd_76
    · rw [if_neg c10] at hf
      refine lv_aload_n hx hb dX5_viewEnd_59 rfl (lv_at hl 0 rfl) ?_
      refine lv_iload_n hx hb dX5_viewEnd_60 rfl (lv_at hl 1 rfl) ?_
      obtain ⟨vr13, hq13, hf⟩ := rthn_some hf
      refine sRetC1 (g_runV (k := 44) (T := TX5) (N := 21) B h (ok_X5_behindOf B.2.2.2.2.2.2.2.2 B.2.2.2.2.2.2.1 _ _ v1 hq13) cw_X5_123 ⟨Nat.le_of_ble_eq_true rfl, Nat.le_of_ble_eq_true rfl⟩ (by decide) (M_row _) rfl rfl hl.1.symm rfl (Nat.le_of_ble_eq_true rfl) dX5_viewEnd_61 ⟨Nat.zero_le _, Nat.zero_le _⟩) h (fun H locs h => ?_)
      refine lv_iconst (v := (1 : Int32)) hx hb dX5_viewEnd_64 (by decide) ?_
      refine lv_isub hx hb dX5_viewEnd_65 ?_
      refine lv_goto (tgt := 74) hx hb dX5_viewEnd_66 (by decide) ?_
      refine lv_iadd hx hb dX5_viewEnd_74 ?_
      obtain ⟨c14, hf⟩ := chk_some hf
      refine g_iald B h 45 (by decide) (n := 180) (fun _ => rfl) (inb_in c14) dX5_viewEnd_75 ?_
      obtain ⟨rfl, rfl⟩ := Prod.mk.inj (Option.some.inj hf)
      exact sE_i B hr h dX5_viewEnd_76
  · rw [if_neg c8] at hf
    refine lv_iconst (v := (0 : Int32)) hx hb dX5_viewEnd_40 (by decide) ?_
    obtain ⟨rfl, rfl⟩ := Prod.mk.inj (Option.some.inj hf)
    exact sE_i B hr h dX5_viewEnd_41
set_option maxHeartbeats 4000000 in
set_option maxRecDepth 100000 in
theorem k_X5_viewEnd_0 {p : Program} {l : Launch} {e : Env} {s : State} {m : MethodId} {args : Array Value} {below : List Frame} {meth : Method} {c : Code} {D : va_G} {cy : Nat → ClassId} {ad : Nat → Nat} {X : sX} {r : Int32} {σ' : sM} (B : sB p l s m meth c args cX5_viewEnd 3 RX5 D cy ad) (hr : meth.sig.returnType = (some .int)) (v1 : Int32) (v2 : Int32) (σ : sM) (hf : f_X5_viewEnd v1 v2 σ = some (r, σ')) : sGo p l e { frames := 3, cells := 0, slots := 0, locals := 68 } s m args below meth c D cy ad X 3 (sQ below args s 0 0 D cy ad (.inr (some (.int r))) X σ') σ 0 [(0, .ref (ad 44)), (1, .int v1), (2, .int v2)] [] := by
  replace hf : (rthn (f_X5_isView v1 σ) (fun vr1 => if vr1 = 0 then (b_X5_viewEnd_34 v1 v2 (1 : Int32) σ) else (chk (inb v1 4) (if (σ 48 (v1).toNatClampNeg) = 0 then (b_X5_viewEnd_34 v1 v2 (2 : Int32) σ) else (rthn (f_X5_manyOf v1 σ) (fun vr5 => if vr5 = 0 then (b_X5_viewEnd_34 v1 v2 (2 : Int32) σ) else (b_X5_viewEnd_34 v1 v2 (0 : Int32) σ))))))) = some (r, σ') := hf
  intro H locs ls h hl
  have hx := B.1
  have hb := B.2.1
  refine lv_aload_n hx hb dX5_viewEnd_0 rfl (lv_at hl 0 rfl) ?_
  refine lv_iload_n hx hb dX5_viewEnd_1 rfl (lv_at hl 1 rfl) ?_
  obtain ⟨vr1, hq1, hf⟩ := rthn_some hf
  refine sRetC1 (g_runS B h (ok_X5_isView B.2.2.2.2.2.2.2.2 B.2.2.2.2.2.2.1 _ _ v1 hq1) cw_X5_126 ⟨Nat.le_of_ble_eq_true rfl, Nat.le_of_ble_eq_true rfl⟩ rfl hl.1.symm rfl (Nat.le_of_ble_eq_true rfl) dX5_viewEnd_2 ⟨Nat.zero_le _, Nat.zero_le _⟩) h (fun H locs h => ?_)
  refine lv_if_ne (tgt := 12) hx hb dX5_viewEnd_5 (by decide) (fun c2 => ?_) (fun c2 => ?_)
  · rw [if_neg c2] at hf
    refine lv_aload_n hx hb dX5_viewEnd_12 rfl (lv_at hl 0 rfl) ?_
    refine g_get B h 44 (by decide) (C := RX5) (T := TX5) (N := 21) (M_row _) rfl hin_X5 3 (by decide) hw829 rfl rfl dX5_viewEnd_13 ?_
    refine lv_iload_n hx hb dX5_viewEnd_16 rfl (lv_at hl 1 rfl) ?_
    obtain ⟨c3, hf⟩ := chk_some hf
    refine g_zald B h 48 (by decide) (n := 4) (fun _ => rfl) (inb_in c3) dX5_viewEnd_17 ?_
    refine lv_if_eq (tgt := 29) hx hb dX5_viewEnd_18 (by decide) (fun c4 => ?_) (fun c4 => ?_)
    · rw [if_pos c4] at hf
      refine lv_iconst (v := (2 : Int32)) hx hb dX5_viewEnd_29 (by decide) ?_
      refine lv_goto (tgt := 34) hx hb dX5_viewEnd_30 (by decide) ?_
      exact k_X5_viewEnd_34 B hr  _ _ _ _ hf _ _ _ h (lv_sub hl [0, 1, 2] rfl)
    · rw [if_neg c4] at hf
      refine lv_aload_n hx hb dX5_viewEnd_21 rfl (lv_at hl 0 rfl) ?_
      refine lv_iload_n hx hb dX5_viewEnd_22 rfl (lv_at hl 1 rfl) ?_
      obtain ⟨vr5, hq5, hf⟩ := rthn_some hf
      refine sRetC1 (g_runV (k := 44) (T := TX5) (N := 21) B h (ok_X5_manyOf B.2.2.2.2.2.2.2.2 B.2.2.2.2.2.2.1 _ _ v1 hq5) cw_X5_129 ⟨Nat.le_of_ble_eq_true rfl, Nat.le_of_ble_eq_true rfl⟩ (by decide) (M_row _) rfl rfl hl.1.symm rfl (Nat.le_of_ble_eq_true rfl) dX5_viewEnd_23 ⟨Nat.zero_le _, Nat.zero_le _⟩) h (fun H locs h => ?_)
      refine lv_if_ne (tgt := 33) hx hb dX5_viewEnd_26 (by decide) (fun c6 => ?_) (fun c6 => ?_)
      · rw [if_neg c6] at hf
        refine lv_iconst (v := (0 : Int32)) hx hb dX5_viewEnd_33 (by decide) ?_
        exact k_X5_viewEnd_34 B hr  _ _ _ _ hf _ _ _ h (lv_sub hl [0, 1, 2] rfl)
      · rw [if_pos c6] at hf
        refine lv_iconst (v := (2 : Int32)) hx hb dX5_viewEnd_29 (by decide) ?_
        refine lv_goto (tgt := 34) hx hb dX5_viewEnd_30 (by decide) ?_
        exact k_X5_viewEnd_34 B hr  _ _ _ _ hf _ _ _ h (lv_sub hl [0, 1, 2] rfl)
  · rw [if_pos c2] at hf
    refine lv_iconst (v := (1 : Int32)) hx hb dX5_viewEnd_8 (by decide) ?_
    refine lv_goto (tgt := 34) hx hb dX5_viewEnd_9 (by decide) ?_
    exact k_X5_viewEnd_34 B hr  _ _ _ _ hf _ _ _ h (lv_sub hl [0, 1, 2] rfl)
set_option maxRecDepth 100000 in
theorem ok_X5_viewEnd {l : Launch} (hl0 : l.stackTraces = false) {D : va_G} {cy : Nat → ClassId} {ad : Nat → Nat} (hap : sAp ad) (X : sX) (σ : sM) (v1 : Int32) (v2 : Int32) {r : Int32} {σ' : sM} (hf : f_X5_viewEnd v1 v2 σ = some (r, σ')) : sMet l yX5_viewEnd (sWs yX5_viewEnd cX5_viewEnd 3 (some .int)) 3 68 0 0 D cy ad X σ [.ref (ad 44), .int v1, .int v2] (.inr (some (.int r))) X σ' := by
  refine sMet_of (by decide +kernel) (Nat.le_of_ble_eq_true rfl) hap hl0 ?_
  intro p e s m args below meth c ls B hr htab hl h
  exact k_X5_viewEnd_0 B hr _ _ _  hf _ _ _ h hl
set_option maxHeartbeats 4000000 in
set_option maxRecDepth 100000 in
theorem k_X5_viewNearAt_0 {p : Program} {l : Launch} {e : Env} {s : State} {m : MethodId} {args : Array Value} {below : List Frame} {meth : Method} {c : Code} {D : va_G} {cy : Nat → ClassId} {ad : Nat → Nat} {X : sX} {r : Int32} (B : sB p l s m meth c args cX5_viewNearAt 4 RX5 D cy ad) (hr : meth.sig.returnType = (some .int)) (v1 : Int32) (v2 : Int32) (v3 : Int32) (σ : sM) (hf : f_X5_viewNearAt v1 v2 v3 σ = some r) : sGo p l e { frames := 2, cells := 0, slots := 0, locals := 50 } s m args below meth c D cy ad X 4 (sQ below args s 0 0 D cy ad (.inr (some (.int r))) X σ) σ 0 [(0, .ref (ad 44)), (1, .int v1), (2, .int v2), (3, .int v3)] [] := by
  replace hf : (chk (inb v1 4) (rthn (f_X5_firstOf v1 σ) (fun vr2 => rthn (f_X5_behindOf v1 σ) (fun vr3 => rthn (f_X5_nearAt (σ 49 (v1).toNatClampNeg) vr2 vr3 v2 v3 σ) (fun vr4 => some vr4))))) = some r := hf
  intro H locs ls h hl
  have hx := B.1
  have hb := B.2.1
  refine lv_aload_n hx hb dX5_viewNearAt_0 rfl (lv_at hl 0 rfl) ?_
  refine lv_aload_n hx hb dX5_viewNearAt_1 rfl (lv_at hl 0 rfl) ?_
  refine g_get B h 44 (by decide) (C := RX5) (T := TX5) (N := 21) (M_row _) rfl hin_X5 4 (by decide) hw830 rfl rfl dX5_viewNearAt_2 ?_
  refine lv_iload_n hx hb dX5_viewNearAt_5 rfl (lv_at hl 1 rfl) ?_
  obtain ⟨c1, hf⟩ := chk_some hf
  refine g_iald B h 49 (by decide) (n := 4) (fun _ => rfl) (inb_in c1) dX5_viewNearAt_6 ?_
  refine lv_aload_n hx hb dX5_viewNearAt_7 rfl (lv_at hl 0 rfl) ?_
  refine lv_iload_n hx hb dX5_viewNearAt_8 rfl (lv_at hl 1 rfl) ?_
  obtain ⟨vr2, hq2, hf⟩ := rthn_some hf
  refine sRetC1 (g_runV (k := 44) (T := TX5) (N := 21) B h (ok_X5_firstOf B.2.2.2.2.2.2.2.2 B.2.2.2.2.2.2.1 _ _ v1 hq2) cw_X5_116 ⟨Nat.le_of_ble_eq_true rfl, Nat.le_of_ble_eq_true rfl⟩ (by decide) (M_row _) rfl rfl hl.1.symm rfl (Nat.le_of_ble_eq_true rfl) dX5_viewNearAt_9 ⟨Nat.zero_le _, Nat.zero_le _⟩) h (fun H locs h => ?_)
  refine lv_aload_n hx hb dX5_viewNearAt_12 rfl (lv_at hl 0 rfl) ?_
  refine lv_iload_n hx hb dX5_viewNearAt_13 rfl (lv_at hl 1 rfl) ?_
  obtain ⟨vr3, hq3, hf⟩ := rthn_some hf
  refine sRetC1 (g_runV (k := 44) (T := TX5) (N := 21) B h (ok_X5_behindOf B.2.2.2.2.2.2.2.2 B.2.2.2.2.2.2.1 _ _ v1 hq3) cw_X5_123 ⟨Nat.le_of_ble_eq_true rfl, Nat.le_of_ble_eq_true rfl⟩ (by decide) (M_row _) rfl rfl hl.1.symm rfl (Nat.le_of_ble_eq_true rfl) dX5_viewNearAt_14 ⟨Nat.zero_le _, Nat.zero_le _⟩) h (fun H locs h => ?_)
  refine lv_iload_n hx hb dX5_viewNearAt_17 rfl (lv_at hl 2 rfl) ?_
  refine lv_iload_n hx hb dX5_viewNearAt_18 rfl (lv_at hl 3 rfl) ?_
  obtain ⟨vr4, hq4, hf⟩ := rthn_some hf
  refine sRetC1 (g_runV (k := 44) (T := TX5) (N := 21) B h (ok_X5_nearAt B.2.2.2.2.2.2.2.2 B.2.2.2.2.2.2.1 _ _ (σ 49 (v1).toNatClampNeg) vr2 vr3 v2 v3 hq4) cw_X5_106 ⟨Nat.le_of_ble_eq_true rfl, Nat.le_of_ble_eq_true rfl⟩ (by decide) (M_row _) rfl rfl hl.1.symm rfl (Nat.le_of_ble_eq_true rfl) dX5_viewNearAt_19 ⟨Nat.zero_le _, Nat.zero_le _⟩) h (fun H locs h => ?_)
  obtain rfl := Option.some.inj hf
  exact sE_i B hr h dX5_viewNearAt_22
set_option maxRecDepth 100000 in
theorem ok_X5_viewNearAt {l : Launch} (hl0 : l.stackTraces = false) {D : va_G} {cy : Nat → ClassId} {ad : Nat → Nat} (hap : sAp ad) (X : sX) (σ : sM) (v1 : Int32) (v2 : Int32) (v3 : Int32) {r : Int32} (hf : f_X5_viewNearAt v1 v2 v3 σ = some r) : sMet l yX5_viewNearAt (sWs yX5_viewNearAt cX5_viewNearAt 4 (some .int)) 2 50 0 0 D cy ad X σ [.ref (ad 44), .int v1, .int v2, .int v3] (.inr (some (.int r))) X σ := by
  refine sMet_of (by decide +kernel) (Nat.le_of_ble_eq_true rfl) hap hl0 ?_
  intro p e s m args below meth c ls B hr htab hl h
  exact k_X5_viewNearAt_0 B hr _ _ _ _  hf _ _ _ h hl
set_option maxHeartbeats 4000000 in
set_option maxRecDepth 100000 in
theorem k_X5_viewNear_47 {p : Program} {l : Launch} {e : Env} {s : State} {m : MethodId} {args : Array Value} {below : List Frame} {meth : Method} {c : Code} {D : va_G} {cy : Nat → ClassId} {ad : Nat → Nat} {X : sX} {r : Int32} {σ' : sM} (B : sB p l s m meth c args cX5_viewNear 4 RX5 D cy ad) (hr : meth.sig.returnType = (some .int)) (v1 : Int32) (v2 : Int32) (v3 : Int32) (vs1 : Int32) (σ : sM) (hf : b_X5_viewNear_47 v1 v2 v3 vs1 σ = some (r, σ')) : sGo p l e { frames := 3, cells := 0, slots := 0, locals := 73 } s m args below meth c D cy ad X 4 (sQ below args s 0 0 D cy ad (.inr (some (.int r))) X σ') σ 47 [(0, .ref (ad 44)), (1, .int v1), (2, .int v2), (3, .int v3)] [.int vs1, .ref (ad 44)] := by
  replace hf : (wthn (f_X5_refused vs1 σ) (fun vr9 σ9 => if vr9 = 0 then (chk (inb v1 4) (rthn (f_X5_viewNearAt v1 v2 v3 σ9) (fun vr12 => chk (inb (((60 : Int32) * (σ9 49 (v1).toNatClampNeg)) + vr12) 180) (some ((σ9 45 ((((60 : Int32) * (σ9 49 (v1).toNatClampNeg)) + vr12)).toNatClampNeg), σ9))))) else (some ((0 : Int32), σ9)))) = some (r, σ') := hf
  intro H locs ls h hl
  have hx := B.1
  have hb := B.2.1
  obtain ⟨vr9, σ9, hq9, hf⟩ := wthn_some hf
  refine sRetC1 (g_runV (k := 44) (T := TX5) (N := 21) B h (ok_X5_refused B.2.2.2.2.2.2.2.2 B.2.2.2.2.2.2.1 _ _ vs1 hq9) cw_X5_95 ⟨Nat.le_of_ble_eq_true rfl, Nat.le_of_ble_eq_true rfl⟩ (by decide) (M_row _) rfl rfl hl.1.symm rfl (Nat.le_of_ble_eq_true rfl) dX5_viewNear_47 ⟨Nat.zero_le _, Nat.zero_le _⟩) h (fun H locs h => ?_)
  refine lv_if_eq (tgt := 55) hx hb dX5_viewNear_50 (by decide) (fun c10 => ?_) (fun c10 => ?_)
  · rw [if_pos c10] at hf
    refine lv_aload_n hx hb dX5_viewNear_55 rfl (lv_at hl 0 rfl) ?_
    refine g_get B h 44 (by decide) (C := RX5) (T := TX5) (N := 21) (M_row _) rfl hin_X5 0 (by decide) hw826 rfl rfl dX5_viewNear_56 ?_
    refine lv_bipush (v := (60 : Int32)) hx hb dX5_viewNear_59 (by decide) ?_
    refine lv_aload_n hx hb dX5_viewNear_61 rfl (lv_at hl 0 rfl) ?_
    refine g_get B h 44 (by decide) (C := RX5) (T := TX5) (N := 21) (M_row _) rfl hin_X5 4 (by decide) hw830 rfl rfl dX5_viewNear_62 ?_
    refine lv_iload_n hx hb dX5_viewNear_65 rfl (lv_at hl 1 rfl) ?_
    obtain ⟨c11, hf⟩ := chk_some hf
    refine g_iald B h 49 (by decide) (n := 4) (fun _ => rfl) (inb_in c11) dX5_viewNear_66 ?_
    refine lv_imul hx hb dX5_viewNear_67 ?_
    refine lv_aload_n hx hb dX5_viewNear_68 rfl (lv_at hl 0 rfl) ?_
    refine lv_iload_n hx hb dX5_viewNear_69 rfl (lv_at hl 1 rfl) ?_
    refine lv_iload_n hx hb dX5_viewNear_70 rfl (lv_at hl 2 rfl) ?_
    refine lv_iload_n hx hb dX5_viewNear_71 rfl (lv_at hl 3 rfl) ?_
    obtain ⟨vr12, hq12, hf⟩ := rthn_some hf
    refine sRetC1 (g_runV (k := 44) (T := TX5) (N := 21) B h (ok_X5_viewNearAt B.2.2.2.2.2.2.2.2 B.2.2.2.2.2.2.1 _ _ v1 v2 v3 hq12) cw_X5_132 ⟨Nat.le_of_ble_eq_true rfl, Nat.le_of_ble_eq_true rfl⟩ (by decide) (M_row _) rfl rfl hl.1.symm rfl (Nat.le_of_ble_eq_true rfl) dX5_viewNear_72 ⟨Nat.zero_le _, Nat.zero_le _⟩) h (fun H locs h => ?_)
    refine lv_iadd hx hb dX5_viewNear_75 ?_
    obtain ⟨c13, hf⟩ := chk_some hf
    refine g_iald B h 45 (by decide) (n := 180) (fun _ => rfl) (inb_in c13) dX5_viewNear_76 ?_
    obtain ⟨rfl, rfl⟩ := Prod.mk.inj (Option.some.inj hf)
    exact sE_i B hr h dX5_viewNear_77
  · rw [if_neg c10] at hf
    refine lv_iconst (v := (0 : Int32)) hx hb dX5_viewNear_53 (by decide) ?_
    obtain ⟨rfl, rfl⟩ := Prod.mk.inj (Option.some.inj hf)
    exact sE_i B hr h dX5_viewNear_54
set_option maxHeartbeats 4000000 in
set_option maxRecDepth 100000 in
theorem k_X5_viewNear_0 {p : Program} {l : Launch} {e : Env} {s : State} {m : MethodId} {args : Array Value} {below : List Frame} {meth : Method} {c : Code} {D : va_G} {cy : Nat → ClassId} {ad : Nat → Nat} {X : sX} {r : Int32} {σ' : sM} (B : sB p l s m meth c args cX5_viewNear 4 RX5 D cy ad) (hr : meth.sig.returnType = (some .int)) (v1 : Int32) (v2 : Int32) (v3 : Int32) (σ : sM) (hf : f_X5_viewNear v1 v2 v3 σ = some (r, σ')) : sGo p l e { frames := 3, cells := 0, slots := 0, locals := 73 } s m args below meth c D cy ad X 4 (sQ below args s 0 0 D cy ad (.inr (some (.int r))) X σ') σ 0 [(0, .ref (ad 44)), (1, .int v1), (2, .int v2), (3, .int v3)] [] := by
  replace hf : (rthn (f_X5_isView v1 σ) (fun vr1 => if vr1 = 0 then (b_X5_viewNear_47 v1 v2 v3 (1 : Int32) σ) else (rthn (f_X5_isWay v3 σ) (fun vr3 => if vr3 = 0 then (b_X5_viewNear_47 v1 v2 v3 (2 : Int32) σ) else (chk (inb v1 4) (if (σ 48 (v1).toNatClampNeg) = 0 then (b_X5_viewNear_47 v1 v2 v3 (3 : Int32) σ) else (rthn (f_X5_viewNearAt v1 v2 v3 σ) (fun vr7 => if 0 ≤ vr7 then (b_X5_viewNear_47 v1 v2 v3 (0 : Int32) σ) else (b_X5_viewNear_47 v1 v2 v3 (3 : Int32) σ))))))))) = some (r, σ') := hf
  intro H locs ls h hl
  have hx := B.1
  have hb := B.2.1
  refine lv_aload_n hx hb dX5_viewNear_0 rfl (lv_at hl 0 rfl) ?_
  refine lv_iload_n hx hb dX5_viewNear_1 rfl (lv_at hl 1 rfl) ?_
  obtain ⟨vr1, hq1, hf⟩ := rthn_some hf
  refine sRetC1 (g_runS B h (ok_X5_isView B.2.2.2.2.2.2.2.2 B.2.2.2.2.2.2.1 _ _ v1 hq1) cw_X5_126 ⟨Nat.le_of_ble_eq_true rfl, Nat.le_of_ble_eq_true rfl⟩ rfl hl.1.symm rfl (Nat.le_of_ble_eq_true rfl) dX5_viewNear_2 ⟨Nat.zero_le _, Nat.zero_le _⟩) h (fun H locs h => ?_)
  refine lv_if_ne (tgt := 12) hx hb dX5_viewNear_5 (by decide) (fun c2 => ?_) (fun c2 => ?_)
  · rw [if_neg c2] at hf
    refine lv_iload_n hx hb dX5_viewNear_12 rfl (lv_at hl 3 rfl) ?_
    obtain ⟨vr3, hq3, hf⟩ := rthn_some hf
    refine sRetC1 (g_runS B h (ok_X5_isWay B.2.2.2.2.2.2.2.2 B.2.2.2.2.2.2.1 _ _ v3 hq3) cw_X5_102 ⟨Nat.le_of_ble_eq_true rfl, Nat.le_of_ble_eq_true rfl⟩ rfl hl.1.symm rfl (Nat.le_of_ble_eq_true rfl) dX5_viewNear_13 ⟨Nat.zero_le _, Nat.zero_le _⟩) h (fun H locs h => ?_)
    refine lv_if_ne (tgt := 23) hx hb dX5_viewNear_16 (by decide) (fun c4 => ?_) (fun c4 => ?_)
    · rw [if_neg c4] at hf
      refine lv_aload_n hx hb dX5_viewNear_23 rfl (lv_at hl 0 rfl) ?_
      refine g_get B h 44 (by decide) (C := RX5) (T := TX5) (N := 21) (M_row _) rfl hin_X5 3 (by decide) hw829 rfl rfl dX5_viewNear_24 ?_
      refine lv_iload_n hx hb dX5_viewNear_27 rfl (lv_at hl 1 rfl) ?_
      obtain ⟨c5, hf⟩ := chk_some hf
      refine g_zald B h 48 (by decide) (n := 4) (fun _ => rfl) (inb_in c5) dX5_viewNear_28 ?_
      refine lv_if_eq (tgt := 42) hx hb dX5_viewNear_29 (by decide) (fun c6 => ?_) (fun c6 => ?_)
      · rw [if_pos c6] at hf
        refine lv_iconst (v := (3 : Int32)) hx hb dX5_viewNear_42 (by decide) ?_
        refine lv_goto (tgt := 47) hx hb dX5_viewNear_43 (by decide) ?_
        exact k_X5_viewNear_47 B hr  _ _ _ _ _ hf _ _ _ h (lv_sub hl [0, 1, 2, 3] rfl)
      · rw [if_neg c6] at hf
        refine lv_aload_n hx hb dX5_viewNear_32 rfl (lv_at hl 0 rfl) ?_
        refine lv_iload_n hx hb dX5_viewNear_33 rfl (lv_at hl 1 rfl) ?_
        refine lv_iload_n hx hb dX5_viewNear_34 rfl (lv_at hl 2 rfl) ?_
        refine lv_iload_n hx hb dX5_viewNear_35 rfl (lv_at hl 3 rfl) ?_
        obtain ⟨vr7, hq7, hf⟩ := rthn_some hf
        refine sRetC1 (g_runV (k := 44) (T := TX5) (N := 21) B h (ok_X5_viewNearAt B.2.2.2.2.2.2.2.2 B.2.2.2.2.2.2.1 _ _ v1 v2 v3 hq7) cw_X5_132 ⟨Nat.le_of_ble_eq_true rfl, Nat.le_of_ble_eq_true rfl⟩ (by decide) (M_row _) rfl rfl hl.1.symm rfl (Nat.le_of_ble_eq_true rfl) dX5_viewNear_36 ⟨Nat.zero_le _, Nat.zero_le _⟩) h (fun H locs h => ?_)
        refine lv_if_ge (tgt := 46) hx hb dX5_viewNear_39 (by decide) (fun c8 => ?_) (fun c8 => ?_)
        · rw [if_pos c8] at hf
          refine lv_iconst (v := (0 : Int32)) hx hb dX5_viewNear_46 (by decide) ?_
          exact k_X5_viewNear_47 B hr  _ _ _ _ _ hf _ _ _ h (lv_sub hl [0, 1, 2, 3] rfl)
        · rw [if_neg c8] at hf
          refine lv_iconst (v := (3 : Int32)) hx hb dX5_viewNear_42 (by decide) ?_
          refine lv_goto (tgt := 47) hx hb dX5_viewNear_43 (by decide) ?_
          exact k_X5_viewNear_47 B hr  _ _ _ _ _ hf _ _ _ h (lv_sub hl [0, 1, 2, 3] rfl)
    · rw [if_pos c4] at hf
      refine lv_iconst (v := (2 : Int32)) hx hb dX5_viewNear_19 (by decide) ?_
      refine lv_goto (tgt := 47) hx hb dX5_viewNear_20 (by decide) ?_
      exact k_X5_viewNear_47 B hr  _ _ _ _ _ hf _ _ _ h (lv_sub hl [0, 1, 2, 3] rfl)
  · rw [if_pos c2] at hf
    refine lv_iconst (v := (1 : Int32)) hx hb dX5_viewNear_8 (by decide) ?_
    refine lv_goto (tgt := 47) hx hb dX5_viewNear_9 (by decide) ?_
    exact k_X5_viewNear_47 B hr  _ _ _ _ _ hf _ _ _ h (lv_sub hl [0, 1, 2, 3] rfl)
set_option maxRecDepth 100000 in
theorem ok_X5_viewNear {l : Launch} (hl0 : l.stackTraces = false) {D : va_G} {cy : Nat → ClassId} {ad : Nat → Nat} (hap : sAp ad) (X : sX) (σ : sM) (v1 : Int32) (v2 : Int32) (v3 : Int32) {r : Int32} {σ' : sM} (hf : f_X5_viewNear v1 v2 v3 σ = some (r, σ')) : sMet l yX5_viewNear (sWs yX5_viewNear cX5_viewNear 4 (some .int)) 3 73 0 0 D cy ad X σ [.ref (ad 44), .int v1, .int v2, .int v3] (.inr (some (.int r))) X σ' := by
  refine sMet_of (by decide +kernel) (Nat.le_of_ble_eq_true rfl) hap hl0 ?_
  intro p e s m args below meth c ls B hr htab hl h
  exact k_X5_viewNear_0 B hr _ _ _ _  hf _ _ _ h hl
set_option maxHeartbeats 4000000 in
set_option maxRecDepth 100000 in
theorem k_X5_viewPoll_34 {p : Program} {l : Launch} {e : Env} {s : State} {m : MethodId} {args : Array Value} {below : List Frame} {meth : Method} {c : Code} {D : va_G} {cy : Nat → ClassId} {ad : Nat → Nat} {X : sX} {r : Int32} {σ' : sM} (B : sB p l s m meth c args cX5_viewPoll 3 RX5 D cy ad) (hr : meth.sig.returnType = (some .int)) (v1 : Int32) (v2 : Int32) (vs1 : Int32) (σ : sM) (hf : b_X5_viewPoll_34 v1 v2 vs1 σ = some (r, σ')) : sGo p l e { frames := 3, cells := 0, slots := 0, locals := 68 } s m args below meth c D cy ad X 3 (sQ below args s 0 0 D cy ad (.inr (some (.int r))) X σ') σ 34 [(0, .ref (ad 44)), (1, .int v1), (2, .int v2)] [.int vs1, .ref (ad 44)] := by
  replace hf : (wthn (f_X5_refused vs1 σ) (fun vr7 σ7 => if vr7 = 0 then (chk (inb v1 4) (if v2 = 0 then (rthn (f_X5_firstOf v1 σ7) (fun vr11 => wthn (f_X5_pollsAt (σ7 49 (v1).toNatClampNeg) vr11 σ7) (fun vr12 σ12 => some (vr12, σ12)))) else (rthn (f_X5_behindOf v1 σ7) (fun vr13 => wthn (f_X5_pollsAt (σ7 49 (v1).toNatClampNeg) (vr13 - (1 : Int32)) σ7) (fun vr14 σ14 => some (vr14, σ14)))))) else (some ((0 : Int32), σ7)))) = some (r, σ') := hf
  intro H locs ls h hl
  have hx := B.1
  have hb := B.2.1
  obtain ⟨vr7, σ7, hq7, hf⟩ := wthn_some hf
  refine sRetC1 (g_runV (k := 44) (T := TX5) (N := 21) B h (ok_X5_refused B.2.2.2.2.2.2.2.2 B.2.2.2.2.2.2.1 _ _ vs1 hq7) cw_X5_95 ⟨Nat.le_of_ble_eq_true rfl, Nat.le_of_ble_eq_true rfl⟩ (by decide) (M_row _) rfl rfl hl.1.symm rfl (Nat.le_of_ble_eq_true rfl) dX5_viewPoll_34 ⟨Nat.zero_le _, Nat.zero_le _⟩) h (fun H locs h => ?_)
  refine lv_if_eq (tgt := 42) hx hb dX5_viewPoll_37 (by decide) (fun c8 => ?_) (fun c8 => ?_)
  · rw [if_pos c8] at hf
    refine lv_aload_n hx hb dX5_viewPoll_42 rfl (lv_at hl 0 rfl) ?_
    refine lv_aload_n hx hb dX5_viewPoll_43 rfl (lv_at hl 0 rfl) ?_
    refine g_get B h 44 (by decide) (C := RX5) (T := TX5) (N := 21) (M_row _) rfl hin_X5 4 (by decide) hw830 rfl rfl dX5_viewPoll_44 ?_
    refine lv_iload_n hx hb dX5_viewPoll_47 rfl (lv_at hl 1 rfl) ?_
    obtain ⟨c9, hf⟩ := chk_some hf
    refine g_iald B h 49 (by decide) (n := 4) (fun _ => rfl) (inb_in c9) dX5_viewPoll_48 ?_
    refine lv_iload_n hx hb dX5_viewPoll_49 rfl (lv_at hl 2 rfl) ?_
    refine lv_if_eq (tgt := 63) hx hb dX5_viewPoll_50 (by decide) (fun c10 => ?_) (fun c10 => ?_)
    · rw [if_pos c10] at hf
      refine lv_aload_n hx hb dX5_viewPoll_63 rfl (lv_at hl 0 rfl) ?_
      refine lv_iload_n hx hb dX5_viewPoll_64 rfl (lv_at hl 1 rfl) ?_
      obtain ⟨vr11, hq11, hf⟩ := rthn_some hf
      refine sRetC1 (g_runV (k := 44) (T := TX5) (N := 21) B h (ok_X5_firstOf B.2.2.2.2.2.2.2.2 B.2.2.2.2.2.2.1 _ _ v1 hq11) cw_X5_116 ⟨Nat.le_of_ble_eq_true rfl, Nat.le_of_ble_eq_true rfl⟩ (by decide) (M_row _) rfl rfl hl.1.symm rfl (Nat.le_of_ble_eq_true rfl) dX5_viewPoll_65 ⟨Nat.zero_le _, Nat.zero_le _⟩) h (fun H locs h => ?_)
      obtain ⟨vr12, σ12, hq12, hf⟩ := wthn_some hf
      refine sRetC1 (g_runV (k := 44) (T := TX5) (N := 21) B h (ok_X5_pollsAt B.2.2.2.2.2.2.2.2 B.2.2.2.2.2.2.1 _ _ (σ7 49 (v1).toNatClampNeg) vr11 hq12) cw_X5_110 ⟨Nat.le_of_ble_eq_true rfl, Nat.le_of_ble_eq_true rfl⟩ (by decide) (M_row _) rfl rfl hl.1.symm rfl (Nat.le_of_ble_eq_true rfl) dX5_viewPoll_68 ⟨Nat.zero_le _, Nat.zero_le _⟩) h (fun H locs h => ?_)
      obtain ⟨rfl, rfl⟩ := Prod.mk.inj (Option.some.inj hf)
      exact sE_i B hr h dX5_viewPoll_71
    · rw [if_neg c10] at hf
      refine lv_aload_n hx hb dX5_viewPoll_53 rfl (lv_at hl 0 rfl) ?_
      refine lv_iload_n hx hb dX5_viewPoll_54 rfl (lv_at hl 1 rfl) ?_
      obtain ⟨vr13, hq13, hf⟩ := rthn_some hf
      refine sRetC1 (g_runV (k := 44) (T := TX5) (N := 21) B h (ok_X5_behindOf B.2.2.2.2.2.2.2.2 B.2.2.2.2.2.2.1 _ _ v1 hq13) cw_X5_123 ⟨Nat.le_of_ble_eq_true rfl, Nat.le_of_ble_eq_true rfl⟩ (by decide) (M_row _) rfl rfl hl.1.symm rfl (Nat.le_of_ble_eq_true rfl) dX5_viewPoll_55 ⟨Nat.zero_le _, Nat.zero_le _⟩) h (fun H locs h => ?_)
      refine lv_iconst (v := (1 : Int32)) hx hb dX5_viewPoll_58 (by decide) ?_
      refine lv_isub hx hb dX5_viewPoll_59 ?_
      refine lv_goto (tgt := 68) hx hb dX5_viewPoll_60 (by decide) ?_
      obtain ⟨vr14, σ14, hq14, hf⟩ := wthn_some hf
      refine sRetC1 (g_runV (k := 44) (T := TX5) (N := 21) B h (ok_X5_pollsAt B.2.2.2.2.2.2.2.2 B.2.2.2.2.2.2.1 _ _ (σ7 49 (v1).toNatClampNeg) (vr13 - (1 : Int32)) hq14) cw_X5_110 ⟨Nat.le_of_ble_eq_true rfl, Nat.le_of_ble_eq_true rfl⟩ (by decide) (M_row _) rfl rfl hl.1.symm rfl (Nat.le_of_ble_eq_true rfl) dX5_viewPoll_68 ⟨Nat.zero_le _, Nat.zero_le _⟩) h (fun H locs h => ?_)
      obtain ⟨rfl, rfl⟩ := Prod.mk.inj (Option.some.inj hf)
      exact sE_i B hr h dX5_viewPoll_71
  · rw [if_neg c8] at hf
    refine lv_iconst (v := (0 : Int32)) hx hb dX5_viewPoll_40 (by decide) ?_
    obtain ⟨rfl, rfl⟩ := Prod.mk.inj (Option.some.inj hf)
    exact sE_i B hr h dX5_viewPoll_41
set_option maxHeartbeats 4000000 in
set_option maxRecDepth 100000 in
theorem k_X5_viewPoll_0 {p : Program} {l : Launch} {e : Env} {s : State} {m : MethodId} {args : Array Value} {below : List Frame} {meth : Method} {c : Code} {D : va_G} {cy : Nat → ClassId} {ad : Nat → Nat} {X : sX} {r : Int32} {σ' : sM} (B : sB p l s m meth c args cX5_viewPoll 3 RX5 D cy ad) (hr : meth.sig.returnType = (some .int)) (v1 : Int32) (v2 : Int32) (σ : sM) (hf : f_X5_viewPoll v1 v2 σ = some (r, σ')) : sGo p l e { frames := 3, cells := 0, slots := 0, locals := 68 } s m args below meth c D cy ad X 3 (sQ below args s 0 0 D cy ad (.inr (some (.int r))) X σ') σ 0 [(0, .ref (ad 44)), (1, .int v1), (2, .int v2)] [] := by
  replace hf : (rthn (f_X5_isView v1 σ) (fun vr1 => if vr1 = 0 then (b_X5_viewPoll_34 v1 v2 (1 : Int32) σ) else (chk (inb v1 4) (if (σ 48 (v1).toNatClampNeg) = 0 then (b_X5_viewPoll_34 v1 v2 (2 : Int32) σ) else (rthn (f_X5_manyOf v1 σ) (fun vr5 => if vr5 = 0 then (b_X5_viewPoll_34 v1 v2 (2 : Int32) σ) else (b_X5_viewPoll_34 v1 v2 (0 : Int32) σ))))))) = some (r, σ') := hf
  intro H locs ls h hl
  have hx := B.1
  have hb := B.2.1
  refine lv_aload_n hx hb dX5_viewPoll_0 rfl (lv_at hl 0 rfl) ?_
  refine lv_iload_n hx hb dX5_viewPoll_1 rfl (lv_at hl 1 rfl) ?_
  obtain ⟨vr1, hq1, hf⟩ := rthn_some hf
  refine sRetC1 (g_runS B h (ok_X5_isView B.2.2.2.2.2.2.2.2 B.2.2.2.2.2.2.1 _ _ v1 hq1) cw_X5_126 ⟨Nat.le_of_ble_eq_true rfl, Nat.le_of_ble_eq_true rfl⟩ rfl hl.1.symm rfl (Nat.le_of_ble_eq_true rfl) dX5_viewPoll_2 ⟨Nat.zero_le _, Nat.zero_le _⟩) h (fun H locs h => ?_)
  refine lv_if_ne (tgt := 12) hx hb dX5_viewPoll_5 (by decide) (fun c2 => ?_) (fun c2 => ?_)
  · rw [if_neg c2] at hf
    refine lv_aload_n hx hb dX5_viewPoll_12 rfl (lv_at hl 0 rfl) ?_
    refine g_get B h 44 (by decide) (C := RX5) (T := TX5) (N := 21) (M_row _) rfl hin_X5 3 (by decide) hw829 rfl rfl dX5_viewPoll_13 ?_
    refine lv_iload_n hx hb dX5_viewPoll_16 rfl (lv_at hl 1 rfl) ?_
    obtain ⟨c3, hf⟩ := chk_some hf
    refine g_zald B h 48 (by decide) (n := 4) (fun _ => rfl) (inb_in c3) dX5_viewPoll_17 ?_
    refine lv_if_eq (tgt := 29) hx hb dX5_viewPoll_18 (by decide) (fun c4 => ?_) (fun c4 => ?_)
    · rw [if_pos c4] at hf
      refine lv_iconst (v := (2 : Int32)) hx hb dX5_viewPoll_29 (by decide) ?_
      refine lv_goto (tgt := 34) hx hb dX5_viewPoll_30 (by decide) ?_
      exact k_X5_viewPoll_34 B hr  _ _ _ _ hf _ _ _ h (lv_sub hl [0, 1, 2] rfl)
    · rw [if_neg c4] at hf
      refine lv_aload_n hx hb dX5_viewPoll_21 rfl (lv_at hl 0 rfl) ?_
      refine lv_iload_n hx hb dX5_viewPoll_22 rfl (lv_at hl 1 rfl) ?_
      obtain ⟨vr5, hq5, hf⟩ := rthn_some hf
      refine sRetC1 (g_runV (k := 44) (T := TX5) (N := 21) B h (ok_X5_manyOf B.2.2.2.2.2.2.2.2 B.2.2.2.2.2.2.1 _ _ v1 hq5) cw_X5_129 ⟨Nat.le_of_ble_eq_true rfl, Nat.le_of_ble_eq_true rfl⟩ (by decide) (M_row _) rfl rfl hl.1.symm rfl (Nat.le_of_ble_eq_true rfl) dX5_viewPoll_23 ⟨Nat.zero_le _, Nat.zero_le _⟩) h (fun H locs h => ?_)
      refine lv_if_ne (tgt := 33) hx hb dX5_viewPoll_26 (by decide) (fun c6 => ?_) (fun c6 => ?_)
      · rw [if_neg c6] at hf
        refine lv_iconst (v := (0 : Int32)) hx hb dX5_viewPoll_33 (by decide) ?_
        exact k_X5_viewPoll_34 B hr  _ _ _ _ hf _ _ _ h (lv_sub hl [0, 1, 2] rfl)
      · rw [if_pos c6] at hf
        refine lv_iconst (v := (2 : Int32)) hx hb dX5_viewPoll_29 (by decide) ?_
        refine lv_goto (tgt := 34) hx hb dX5_viewPoll_30 (by decide) ?_
        exact k_X5_viewPoll_34 B hr  _ _ _ _ hf _ _ _ h (lv_sub hl [0, 1, 2] rfl)
  · rw [if_pos c2] at hf
    refine lv_iconst (v := (1 : Int32)) hx hb dX5_viewPoll_8 (by decide) ?_
    refine lv_goto (tgt := 34) hx hb dX5_viewPoll_9 (by decide) ?_
    exact k_X5_viewPoll_34 B hr  _ _ _ _ hf _ _ _ h (lv_sub hl [0, 1, 2] rfl)
set_option maxRecDepth 100000 in
theorem ok_X5_viewPoll {l : Launch} (hl0 : l.stackTraces = false) {D : va_G} {cy : Nat → ClassId} {ad : Nat → Nat} (hap : sAp ad) (X : sX) (σ : sM) (v1 : Int32) (v2 : Int32) {r : Int32} {σ' : sM} (hf : f_X5_viewPoll v1 v2 σ = some (r, σ')) : sMet l yX5_viewPoll (sWs yX5_viewPoll cX5_viewPoll 3 (some .int)) 3 68 0 0 D cy ad X σ [.ref (ad 44), .int v1, .int v2] (.inr (some (.int r))) X σ' := by
  refine sMet_of (by decide +kernel) (Nat.le_of_ble_eq_true rfl) hap hl0 ?_
  intro p e s m args below meth c ls B hr htab hl h
  exact k_X5_viewPoll_0 B hr _ _ _  hf _ _ _ h hl
