set_option maxHeartbeats 4000000 in
set_option maxRecDepth 100000 in
theorem k_X0_isBelow_0 {p : Program} {l : Launch} {e : Env} {s : State} {m : MethodId} {args : Array Value} {below : List Frame} {meth : Method} {c : Code} {D : va_G} {cy : Nat → ClassId} {ad : Nat → Nat} {X : sX} {r : Int32} (B : sB p l s m meth c args cX0_isBelow 3 RX0 D cy ad) (hr : meth.sig.returnType = (some .boolean)) (v0 : Int32) (v1 : Int32) (v2 : Int32) (σ : sM) (hf : f_X0_isBelow v0 v1 v2 σ = some r) : sGo p l e { frames := 0, cells := 0, slots := 0, locals := 0 } s m args below meth c D cy ad X 3 (sQ below args s 0 0 D cy ad (.inr (some (.int r))) X σ) σ 0 [(0, .int v0), (1, .int v1), (2, .int v2)] [] := by
  replace hf : (if v2 = 0 then (if v1 ≤ v0 then (some (0 : Int32)) else (some (1 : Int32))) else (if v1 < v0 then (some (0 : Int32)) else (some (1 : Int32)))) = some r := hf
  intro H locs ls h hl
  have hx := B.1
  have hb := B.2.1
  refine lv_iload_n hx hb dX0_isBelow_0 rfl (lv_at hl 2 rfl) ?_
  refine lv_if_eq (tgt := 17) hx hb dX0_isBelow_1 (by decide) (fun c1 => ?_) (fun c1 => ?_)
  · rw [if_pos c1] at hf
    refine lv_iload_n hx hb dX0_isBelow_17 rfl (lv_at hl 0 rfl) ?_
    refine lv_iload_n hx hb dX0_isBelow_18 rfl (lv_at hl 1 rfl) ?_
    refine lv_icmp_ge (tgt := 26) hx hb dX0_isBelow_19 (by decide) (fun c2 => ?_) (fun c2 => ?_)
    · rw [if_pos c2] at hf
      refine lv_iconst (v := (0 : Int32)) hx hb dX0_isBelow_26 (by decide) ?_
      obtain rfl := Option.some.inj hf
      exact sE_z B hr h rfl dX0_isBelow_27
    · rw [if_neg c2] at hf
      refine lv_iconst (v := (1 : Int32)) hx hb dX0_isBelow_22 (by decide) ?_
      refine lv_goto (tgt := 27) hx hb dX0_isBelow_23 (by decide) ?_
      obtain rfl := Option.some.inj hf
      exact sE_z B hr h rfl dX0_isBelow_27
  · rw [if_neg c1] at hf
    refine lv_iload_n hx hb dX0_isBelow_4 rfl (lv_at hl 0 rfl) ?_
    refine lv_iload_n hx hb dX0_isBelow_5 rfl (lv_at hl 1 rfl) ?_
    refine lv_icmp_gt (tgt := 13) hx hb dX0_isBelow_6 (by decide) (fun c3 => ?_) (fun c3 => ?_)
    · rw [if_pos c3] at hf
      refine lv_iconst (v := (0 : Int32)) hx hb dX0_isBelow_13 (by decide) ?_
      refine lv_goto (tgt := 27) hx hb dX0_isBelow_14 (by decide) ?_
      obtain rfl := Option.some.inj hf
      exact sE_z B hr h rfl dX0_isBelow_27
    · rw [if_neg c3] at hf
      refine lv_iconst (v := (1 : Int32)) hx hb dX0_isBelow_9 (by decide) ?_
      refine lv_goto (tgt := 27) hx hb dX0_isBelow_10 (by decide) ?_
      obtain rfl := Option.some.inj hf
      exact sE_z B hr h rfl dX0_isBelow_27
set_option maxRecDepth 100000 in
theorem ok_X0_isBelow {l : Launch} (hl0 : l.stackTraces = false) {D : va_G} {cy : Nat → ClassId} {ad : Nat → Nat} (hap : sAp ad) (X : sX) (σ : sM) (v0 : Int32) (v1 : Int32) (v2 : Int32) {r : Int32} (hf : f_X0_isBelow v0 v1 v2 σ = some r) : sMet l yX0_isBelow (sWs yX0_isBelow cX0_isBelow 3 (some .boolean)) 0 0 0 0 D cy ad X σ [.int v0, .int v1, .int v2] (.inr (some (.int r))) X σ := by
  refine sMet_of (by decide +kernel) (Nat.le_of_ble_eq_true rfl) hap hl0 ?_
  intro p e s m args below meth c ls B hr htab hl h
  exact k_X0_isBelow_0 B hr _ _ _ _  hf _ _ _ h hl
set_option maxHeartbeats 4000000 in
set_option maxRecDepth 100000 in
theorem k_X0_isSplitSound_90 {p : Program} {l : Launch} {e : Env} {s : State} {m : MethodId} {args : Array Value} {below : List Frame} {meth : Method} {c : Code} {D : va_G} {cy : Nat → ClassId} {ad : Nat → Nat} {X : sX} {r : Int32} (B : sB p l s m meth c args cX0_isSplitSound 6 RX0 D cy ad) (hr : meth.sig.returnType = (some .boolean)) (t0 : Nat) (v1 : Int32) (v2 : Int32) (v4 : Int32) (σ : sM) (ft0 : isT t0) (hf : b_X0_isSplitSound_90 t0 v1 v2 v4 σ = some r) : sGo p l e { frames := 3, cells := 0, slots := 0, locals := 72 } s m args below meth c D cy ad X 6 (sQ below args s 0 0 D cy ad (.inr (some (.int r))) X σ) σ 90 [(0, .ref (ad t0)), (1, .int v1), (2, .int v2), (4, .int v4)] [] := by
  replace hf : (if v4 < 0 then (some (1 : Int32)) else (chk (inb v4 120) (rthn (f_X0_isBelow (σ (t0 + 1) (v4).toNatClampNeg) v1 v2 σ) (fun vr15 => if vr15 = 0 then (some (1 : Int32)) else (some (0 : Int32)))))) = some r := hf
  intro H locs ls h hl
  have hx := B.1
  have hb := B.2.1
  refine lv_iload hx hb dX0_isSplitSound_90 (lv_at hl 3 rfl) ?_
  refine lv_if_lt (tgt := 110) hx hb dX0_isSplitSound_92 (by decide) (fun c13 => ?_) (fun c13 => ?_)
  · rw [if_pos c13] at hf
    refine lv_iconst (v := (1 : Int32)) hx hb dX0_isSplitSound_110 (by decide) ?_
    refine lv_goto (tgt := 115) hx hb dX0_isSplitSound_111 (by decide) ?_
    obtain rfl := Option.some.inj hf
    exact sE_z B hr h rfl dX0_isSplitSound_115
  · rw [if_neg c13] at hf
    refine lv_aload_n hx hb dX0_isSplitSound_95 rfl (lv_at hl 0 rfl) ?_
    refine g_get B h t0 (T_lt ft0) (C := RX2) (T := TX2) (N := 3) (T_row ft0 _) rfl hin_X2 0 (by decide) hw46 rfl rfl dX0_isSplitSound_96 ?_
    refine lv_iload hx hb dX0_isSplitSound_99 (lv_at hl 3 rfl) ?_
    obtain ⟨c14, hf⟩ := chk_some hf
    refine g_iald B h (t0 + 1) (T_lt1 ft0) (n := 120) (T_keys ft0) (inb_in c14) dX0_isSplitSound_101 ?_
    refine lv_iload_n hx hb dX0_isSplitSound_102 rfl (lv_at hl 1 rfl) ?_
    refine lv_iload_n hx hb dX0_isSplitSound_103 rfl (lv_at hl 2 rfl) ?_
    obtain ⟨vr15, hq15, hf⟩ := rthn_some hf
    refine sRetC1 (g_runS B h (ok_X0_isBelow B.2.2.2.2.2.2.2.2 B.2.2.2.2.2.2.1 _ _ (σ (t0 + 1) (v4).toNatClampNeg) v1 v2 hq15) cw_X0_71 ⟨Nat.le_of_ble_eq_true rfl, Nat.le_of_ble_eq_true rfl⟩ rfl hl.1.symm rfl (Nat.le_of_ble_eq_true rfl) dX0_isSplitSound_104 ⟨Nat.zero_le _, Nat.zero_le _⟩) h (fun H locs h => ?_)
    refine lv_if_ne (tgt := 114) hx hb dX0_isSplitSound_107 (by decide) (fun c16 => ?_) (fun c16 => ?_)
    · rw [if_neg c16] at hf
      refine lv_iconst (v := (0 : Int32)) hx hb dX0_isSplitSound_114 (by decide) ?_
      obtain rfl := Option.some.inj hf
      exact sE_z B hr h rfl dX0_isSplitSound_115
    · rw [if_pos c16] at hf
      refine lv_iconst (v := (1 : Int32)) hx hb dX0_isSplitSound_110 (by decide) ?_
      refine lv_goto (tgt := 115) hx hb dX0_isSplitSound_111 (by decide) ?_
      obtain rfl := Option.some.inj hf
      exact sE_z B hr h rfl dX0_isSplitSound_115
set_option maxHeartbeats 4000000 in
set_option maxRecDepth 100000 in
theorem k_X0_isSplitSound_67 {p : Program} {l : Launch} {e : Env} {s : State} {m : MethodId} {args : Array Value} {below : List Frame} {meth : Method} {c : Code} {D : va_G} {cy : Nat → ClassId} {ad : Nat → Nat} {X : sX} {r : Int32} (B : sB p l s m meth c args cX0_isSplitSound 6 RX0 D cy ad) (hr : meth.sig.returnType = (some .boolean)) (t0 : Nat) (v1 : Int32) (v2 : Int32) (v3 : Int32) (v4 : Int32) (vs0 : Int32) (vs1 : Int32) (σ : sM) (ft0 : isT t0) (hf : b_X0_isSplitSound_67 t0 v1 v2 v3 v4 vs0 vs1 σ = some r) : sGo p l e { frames := 3, cells := 0, slots := 0, locals := 72 } s m args below meth c D cy ad X 6 (sQ below args s 0 0 D cy ad (.inr (some (.int r))) X σ) σ 67 [(0, .ref (ad t0)), (1, .int v1), (2, .int v2), (3, .int v3), (4, .int v4)] [.int vs1, .int vs0] := by
  replace hf : (if vs0 = vs1 then (if v3 < 0 then (b_X0_isSplitSound_90 t0 v1 v2 v4 σ) else (chk (inb v3 120) (rthn (f_X0_isBelow (σ (t0 + 1) (v3).toNatClampNeg) v1 v2 σ) (fun vr11 => if vr11 = 0 then (some (0 : Int32)) else (b_X0_isSplitSound_90 t0 v1 v2 v4 σ))))) else (some (0 : Int32))) = some r := hf
  intro H locs ls h hl
  have hx := B.1
  have hb := B.2.1
  refine lv_icmp_eq (tgt := 72) hx hb dX0_isSplitSound_67 (by decide) (fun c8 => ?_) (fun c8 => ?_)
  · rw [if_pos c8] at hf
    refine lv_iload_n hx hb dX0_isSplitSound_72 rfl (lv_at hl 3 rfl) ?_
    refine lv_if_lt (tgt := 90) hx hb dX0_isSplitSound_73 (by decide) (fun c9 => ?_) (fun c9 => ?_)
    · rw [if_pos c9] at hf
      exact k_X0_isSplitSound_90 B hr  _ _ _ _ _ ft0 hf _ _ _ h (lv_sub hl [0, 1, 2, 4] rfl)
    · rw [if_neg c9] at hf
      refine lv_aload_n hx hb dX0_isSplitSound_76 rfl (lv_at hl 0 rfl) ?_
      refine g_get B h t0 (T_lt ft0) (C := RX2) (T := TX2) (N := 3) (T_row ft0 _) rfl hin_X2 0 (by decide) hw46 rfl rfl dX0_isSplitSound_77 ?_
      refine lv_iload_n hx hb dX0_isSplitSound_80 rfl (lv_at hl 3 rfl) ?_
      obtain ⟨c10, hf⟩ := chk_some hf
      refine g_iald B h (t0 + 1) (T_lt1 ft0) (n := 120) (T_keys ft0) (inb_in c10) dX0_isSplitSound_81 ?_
      refine lv_iload_n hx hb dX0_isSplitSound_82 rfl (lv_at hl 1 rfl) ?_
      refine lv_iload_n hx hb dX0_isSplitSound_83 rfl (lv_at hl 2 rfl) ?_
      obtain ⟨vr11, hq11, hf⟩ := rthn_some hf
      refine sRetC1 (g_runS B h (ok_X0_isBelow B.2.2.2.2.2.2.2.2 B.2.2.2.2.2.2.1 _ _ (σ (t0 + 1) (v3).toNatClampNeg) v1 v2 hq11) cw_X0_71 ⟨Nat.le_of_ble_eq_true rfl, Nat.le_of_ble_eq_true rfl⟩ rfl hl.1.symm rfl (Nat.le_of_ble_eq_true rfl) dX0_isSplitSound_84 ⟨Nat.zero_le _, Nat.zero_le _⟩) h (fun H locs h => ?_)
      refine lv_if_eq (tgt := 114) hx hb dX0_isSplitSound_87 (by decide) (fun c12 => ?_) (fun c12 => ?_)
      · rw [if_pos c12] at hf
        refine lv_iconst (v := (0 : Int32)) hx hb dX0_isSplitSound_114 (by decide) ?_
        obtain rfl := Option.some.inj hf
        exact sE_z B hr h rfl dX0_isSplitSound_115
      · rw [if_neg c12] at hf
        exact k_X0_isSplitSound_90 B hr  _ _ _ _ _ ft0 hf _ _ _ h (lv_sub hl [0, 1, 2, 4] rfl)
  · rw [if_neg c8] at hf
    refine lv_iconst (v := (0 : Int32)) hx hb dX0_isSplitSound_70 (by decide) ?_
    obtain rfl := Option.some.inj hf
    exact sE_z B hr h rfl dX0_isSplitSound_71
set_option maxHeartbeats 4000000 in
set_option maxRecDepth 100000 in
theorem k_X0_isSplitSound_35 {p : Program} {l : Launch} {e : Env} {s : State} {m : MethodId} {args : Array Value} {below : List Frame} {meth : Method} {c : Code} {D : va_G} {cy : Nat → ClassId} {ad : Nat → Nat} {X : sX} {r : Int32} (B : sB p l s m meth c args cX0_isSplitSound 6 RX0 D cy ad) (hr : meth.sig.returnType = (some .boolean)) (t0 : Nat) (v1 : Int32) (v2 : Int32) (v3 : Int32) (ts0 : Nat) (vs1 : Int32) (vs2 : Int32) (σ : sM) (ft0 : isT t0) (fts0 : isT ts0) (hf : b_X0_isSplitSound_35 t0 v1 v2 v3 ts0 vs1 vs2 σ = some r) : sGo p l e { frames := 3, cells := 0, slots := 0, locals := 72 } s m args below meth c D cy ad X 6 (sQ below args s 0 0 D cy ad (.inr (some (.int r))) X σ) σ 35 [(0, .ref (ad t0)), (1, .int v1), (2, .int v2), (3, .int v3)] [.int vs2, .int vs1, .ref (ad ts0)] := by
  replace hf : (rthn (f_X2_placeNear ts0 vs1 vs2 (0 : Int32) (σ t0 2) σ) (fun vr6 => if (σ t0 2) ≤ (v3 + (1 : Int32)) then (b_X0_isSplitSound_67 t0 v1 v2 v3 vr6 vr6 (-1 : Int32) σ) else (b_X0_isSplitSound_67 t0 v1 v2 v3 vr6 vr6 (v3 + (1 : Int32)) σ))) = some r := hf
  intro H locs ls h hl
  have hx := B.1
  have hb := B.2.1
  refine lv_iconst (v := (0 : Int32)) hx hb dX0_isSplitSound_35 (by decide) ?_
  refine lv_aload_n hx hb dX0_isSplitSound_36 rfl (lv_at hl 0 rfl) ?_
  refine g_get B h t0 (T_lt ft0) (C := RX2) (T := TX2) (N := 3) (T_row ft0 _) rfl hin_X2 2 (by decide) hw52 rfl rfl dX0_isSplitSound_37 ?_
  obtain ⟨vr6, hq6, hf⟩ := rthn_some hf
  refine sRetC1 (g_runV (k := ts0) (T := TX2) (N := 3) B h (ok_X2_placeNear B.2.2.2.2.2.2.2.2 B.2.2.2.2.2.2.1 _ _ fts0 vs1 vs2 (0 : Int32) (σ t0 2) hq6) cw_X0_67 ⟨Nat.le_of_ble_eq_true rfl, Nat.le_of_ble_eq_true rfl⟩ (T_lt fts0) (T_row fts0 _) rfl rfl hl.1.symm rfl (Nat.le_of_ble_eq_true rfl) dX0_isSplitSound_40 ⟨Nat.zero_le _, Nat.zero_le _⟩) h (fun H locs h => ?_)
  refine lv_istore (lv' := [(4, .int vr6), (0, .ref (ad t0)), (1, .int v1), (2, .int v2), (3, .int v3)]) hx hb dX0_isSplitSound_43 hl (by decide) rfl (fun ls hl => ?_)
  refine lv_iload_n hx hb dX0_isSplitSound_45 rfl (lv_at hl 4 rfl) ?_
  refine lv_iconst (v := (1 : Int32)) hx hb dX0_isSplitSound_46 (by decide) ?_
  refine lv_iadd hx hb dX0_isSplitSound_47 ?_
  refine lv_istore (lv' := [(5, .int (v3 + (1 : Int32))), (4, .int vr6), (0, .ref (ad t0)), (1, .int v1), (2, .int v2), (3, .int v3)]) hx hb dX0_isSplitSound_48 hl (by decide) rfl (fun ls hl => ?_)
  refine lv_iload hx hb dX0_isSplitSound_50 (lv_at hl 1 rfl) ?_
  refine lv_iload hx hb dX0_isSplitSound_52 (lv_at hl 0 rfl) ?_
  refine lv_aload_n hx hb dX0_isSplitSound_54 rfl (lv_at hl 2 rfl) ?_
  refine g_get B h t0 (T_lt ft0) (C := RX2) (T := TX2) (N := 3) (T_row ft0 _) rfl hin_X2 2 (by decide) hw52 rfl rfl dX0_isSplitSound_55 ?_
  refine lv_icmp_ge (tgt := 66) hx hb dX0_isSplitSound_58 (by decide) (fun c7 => ?_) (fun c7 => ?_)
  · rw [if_pos c7] at hf
    refine lv_iconst (v := (-1 : Int32)) hx hb dX0_isSplitSound_66 (by decide) ?_
    exact k_X0_isSplitSound_67 B hr  _ _ _ _ _ _ _ _ ft0 hf _ _ _ h (lv_sub hl [2, 3, 4, 5, 1] rfl)
  · rw [if_neg c7] at hf
    refine lv_iload hx hb dX0_isSplitSound_61 (lv_at hl 0 rfl) ?_
    refine lv_goto (tgt := 67) hx hb dX0_isSplitSound_63 (by decide) ?_
    exact k_X0_isSplitSound_67 B hr  _ _ _ _ _ _ _ _ ft0 hf _ _ _ h (lv_sub hl [2, 3, 4, 5, 1] rfl)
set_option maxHeartbeats 4000000 in
set_option maxRecDepth 100000 in
theorem k_X0_isSplitSound_0 {p : Program} {l : Launch} {e : Env} {s : State} {m : MethodId} {args : Array Value} {below : List Frame} {meth : Method} {c : Code} {D : va_G} {cy : Nat → ClassId} {ad : Nat → Nat} {X : sX} {r : Int32} (B : sB p l s m meth c args cX0_isSplitSound 6 RX0 D cy ad) (hr : meth.sig.returnType = (some .boolean)) (t0 : Nat) (v1 : Int32) (v2 : Int32) (σ : sM) (ft0 : isT t0) (hf : f_X0_isSplitSound t0 v1 v2 σ = some r) : sGo p l e { frames := 3, cells := 0, slots := 0, locals := 72 } s m args below meth c D cy ad X 6 (sQ below args s 0 0 D cy ad (.inr (some (.int r))) X σ) σ 0 [(0, .ref (ad t0)), (1, .int v1), (2, .int v2)] [] := by
  replace hf : (if v2 = 0 then (rthn (f_X2_placeNear t0 v1 (108 : Int32) (0 : Int32) (σ t0 2) σ) (fun vr2 => if v2 = 0 then (b_X0_isSplitSound_35 t0 v1 v2 vr2 t0 v1 (99 : Int32) σ) else (b_X0_isSplitSound_35 t0 v1 v2 vr2 t0 v1 (104 : Int32) σ))) else (rthn (f_X2_placeNear t0 v1 (102 : Int32) (0 : Int32) (σ t0 2) σ) (fun vr4 => if v2 = 0 then (b_X0_isSplitSound_35 t0 v1 v2 vr4 t0 v1 (99 : Int32) σ) else (b_X0_isSplitSound_35 t0 v1 v2 vr4 t0 v1 (104 : Int32) σ)))) = some r := hf
  intro H locs ls h hl
  have hx := B.1
  have hb := B.2.1
  refine lv_aload_n hx hb dX0_isSplitSound_0 rfl (lv_at hl 0 rfl) ?_
  refine lv_iload_n hx hb dX0_isSplitSound_1 rfl (lv_at hl 1 rfl) ?_
  refine lv_iload_n hx hb dX0_isSplitSound_2 rfl (lv_at hl 2 rfl) ?_
  refine lv_if_eq (tgt := 11) hx hb dX0_isSplitSound_3 (by decide) (fun c1 => ?_) (fun c1 => ?_)
  · rw [if_pos c1] at hf
    refine lv_bipush (v := (108 : Int32)) hx hb dX0_isSplitSound_11 (by decide) ?_
    refine lv_iconst (v := (0 : Int32)) hx hb dX0_isSplitSound_13 (by decide) ?_
    refine lv_aload_n hx hb dX0_isSplitSound_14 rfl (lv_at hl 0 rfl) ?_
    refine g_get B h t0 (T_lt ft0) (C := RX2) (T := TX2) (N := 3) (T_row ft0 _) rfl hin_X2 2 (by decide) hw52 rfl rfl dX0_isSplitSound_15 ?_
    obtain ⟨vr2, hq2, hf⟩ := rthn_some hf
    refine sRetC1 (g_runV (k := t0) (T := TX2) (N := 3) B h (ok_X2_placeNear B.2.2.2.2.2.2.2.2 B.2.2.2.2.2.2.1 _ _ ft0 v1 (108 : Int32) (0 : Int32) (σ t0 2) hq2) cw_X0_67 ⟨Nat.le_of_ble_eq_true rfl, Nat.le_of_ble_eq_true rfl⟩ (T_lt ft0) (T_row ft0 _) rfl rfl hl.1.symm rfl (Nat.le_of_ble_eq_true rfl) dX0_isSplitSound_18 ⟨Nat.zero_le _, Nat.zero_le _⟩) h (fun H locs h => ?_)
    refine lv_istore_n (lv' := [(3, .int vr2), (0, .ref (ad t0)), (1, .int v1), (2, .int v2)]) hx hb dX0_isSplitSound_21 rfl hl (by decide) rfl (fun ls hl => ?_)
    refine lv_aload_n hx hb dX0_isSplitSound_22 rfl (lv_at hl 1 rfl) ?_
    refine lv_iload_n hx hb dX0_isSplitSound_23 rfl (lv_at hl 2 rfl) ?_
    refine lv_iload_n hx hb dX0_isSplitSound_24 rfl (lv_at hl 3 rfl) ?_
    refine lv_if_eq (tgt := 33) hx hb dX0_isSplitSound_25 (by decide) (fun c3 => ?_) (fun c3 => ?_)
    · rw [if_pos c3] at hf
      refine lv_bipush (v := (99 : Int32)) hx hb dX0_isSplitSound_33 (by decide) ?_
      exact k_X0_isSplitSound_35 B hr  _ _ _ _ _ _ _ _ ft0 ft0 hf _ _ _ h (lv_sub hl [1, 2, 3, 0] rfl)
    · rw [if_neg c3] at hf
      refine lv_bipush (v := (104 : Int32)) hx hb dX0_isSplitSound_28 (by decide) ?_
      refine lv_goto (tgt := 35) hx hb dX0_isSplitSound_30 (by decide) ?_
      exact k_X0_isSplitSound_35 B hr  _ _ _ _ _ _ _ _ ft0 ft0 hf _ _ _ h (lv_sub hl [1, 2, 3, 0] rfl)
  · rw [if_neg c1] at hf
    refine lv_bipush (v := (102 : Int32)) hx hb dX0_isSplitSound_6 (by decide) ?_
    refine lv_goto (tgt := 13) hx hb dX0_isSplitSound_8 (by decide) ?_
    refine lv_iconst (v := (0 : Int32)) hx hb dX0_isSplitSound_13 (by decide) ?_
    refine lv_aload_n hx hb dX0_isSplitSound_14 rfl (lv_at hl 0 rfl) ?_
    refine g_get B h t0 (T_lt ft0) (C := RX2) (T := TX2) (N := 3) (T_row ft0 _) rfl hin_X2 2 (by decide) hw52 rfl rfl dX0_isSplitSound_15 ?_
    obtain ⟨vr4, hq4, hf⟩ := rthn_some hf
    refine sRetC1 (g_runV (k := t0) (T := TX2) (N := 3) B h (ok_X2_placeNear B.2.2.2.2.2.2.2.2 B.2.2.2.2.2.2.1 _ _ ft0 v1 (102 : Int32) (0 : Int32) (σ t0 2) hq4) cw_X0_67 ⟨Nat.le_of_ble_eq_true rfl, Nat.le_of_ble_eq_true rfl⟩ (T_lt ft0) (T_row ft0 _) rfl rfl hl.1.symm rfl (Nat.le_of_ble_eq_true rfl) dX0_isSplitSound_18 ⟨Nat.zero_le _, Nat.zero_le _⟩) h (fun H locs h => ?_)
    refine lv_istore_n (lv' := [(3, .int vr4), (0, .ref (ad t0)), (1, .int v1), (2, .int v2)]) hx hb dX0_isSplitSound_21 rfl hl (by decide) rfl (fun ls hl => ?_)
    refine lv_aload_n hx hb dX0_isSplitSound_22 rfl (lv_at hl 1 rfl) ?_
    refine lv_iload_n hx hb dX0_isSplitSound_23 rfl (lv_at hl 2 rfl) ?_
    refine lv_iload_n hx hb dX0_isSplitSound_24 rfl (lv_at hl 3 rfl) ?_
    refine lv_if_eq (tgt := 33) hx hb dX0_isSplitSound_25 (by decide) (fun c5 => ?_) (fun c5 => ?_)
    · rw [if_pos c5] at hf
      refine lv_bipush (v := (99 : Int32)) hx hb dX0_isSplitSound_33 (by decide) ?_
      exact k_X0_isSplitSound_35 B hr  _ _ _ _ _ _ _ _ ft0 ft0 hf _ _ _ h (lv_sub hl [1, 2, 3, 0] rfl)
    · rw [if_neg c5] at hf
      refine lv_bipush (v := (104 : Int32)) hx hb dX0_isSplitSound_28 (by decide) ?_
      refine lv_goto (tgt := 35) hx hb dX0_isSplitSound_30 (by decide) ?_
      exact k_X0_isSplitSound_35 B hr  _ _ _ _ _ _ _ _ ft0 ft0 hf _ _ _ h (lv_sub hl [1, 2, 3, 0] rfl)
set_option maxRecDepth 100000 in
theorem ok_X0_isSplitSound {l : Launch} (hl0 : l.stackTraces = false) {D : va_G} {cy : Nat → ClassId} {ad : Nat → Nat} (hap : sAp ad) (X : sX) (σ : sM) {t0 : Nat} (ft0 : isT t0) (v1 : Int32) (v2 : Int32) {r : Int32} (hf : f_X0_isSplitSound t0 v1 v2 σ = some r) : sMet l yX0_isSplitSound (sWs yX0_isSplitSound cX0_isSplitSound 6 (some .boolean)) 3 72 0 0 D cy ad X σ [.ref (ad t0), .int v1, .int v2] (.inr (some (.int r))) X σ := by
  refine sMet_of (by decide +kernel) (Nat.le_of_ble_eq_true rfl) hap hl0 ?_
  intro p e s m args below meth c ls B hr htab hl h
  exact k_X0_isSplitSound_0 B hr _ _ _ _ ft0 hf _ _ _ h hl
set_option maxHeartbeats 4000000 in
set_option maxRecDepth 100000 in
theorem k_X0_areNearKeysSound_38 {p : Program} {l : Launch} {e : Env} {s : State} {m : MethodId} {args : Array Value} {below : List Frame} {meth : Method} {c : Code} {D : va_G} {cy : Nat → ClassId} {ad : Nat → Nat} {X : sX} {r : Int32} (B : sB p l s m meth c args cX0_areNearKeysSound 5 RX0 D cy ad) (hr : meth.sig.returnType = (some .boolean)) {K2 : Nat → Int32 → sM → Option Int32} (hK2 : ∀ (t1 : Nat) (v2 : Int32) (σ : sM) (ft1 : isT t1), K2 t1 v2 σ = some r → sGo p l e { frames := 4, cells := 0, slots := 0, locals := 97 } s m args below meth c D cy ad X 5 (sQ below args s 0 0 D cy ad (.inr (some (.int r))) X σ) σ 2 [(1, .ref (ad t1)), (2, .int v2)] []) : ∀ (n : Nat) (t1 : Nat) (v2 : Int32) (v3 : Int32) (v4 : Int32) (σ : sM) (ft1 : isT t1), b_X0_areNearKeysSound_38 K2 n t1 v2 v3 v4 σ = some r → sGo p l e { frames := 4, cells := 0, slots := 0, locals := 97 } s m args below meth c D cy ad X 5 (sQ below args s 0 0 D cy ad (.inr (some (.int r))) X σ) σ 38 [(1, .ref (ad t1)), (2, .int v2), (3, .int v3), (4, .int v4)] [] := by
  intro n
  induction n with
  | zero =>
    intro t1 v2 v3 v4 σ ft1 hf
    exact nomatch (show none = some r from hf)
  | succ n ih =>
    intro t1 v2 v3 v4 σ ft1 hf
    replace hf : (if (1 : Int32) < v4 then (K2 t1 (v2 + 1) σ) else (rthn (f_X0_isSplitSound t1 (v3 + v4) (1 : Int32) σ) (fun vr7 => if vr7 = 0 then (some (0 : Int32)) else (rthn (f_X0_isSplitSound t1 (v3 + v4) (0 : Int32) σ) (fun vr9 => if vr9 = 0 then (some (0 : Int32)) else (b_X0_areNearKeysSound_38 K2 n t1 v2 v3 (v4 + 1) σ)))))) = some r := hf
    intro H locs ls h hl
    have hx := B.1
    have hb := B.2.1
    refine lv_iload hx hb dX0_areNearKeysSound_38 (lv_at hl 3 rfl) ?_
    refine lv_iconst (v := (1 : Int32)) hx hb dX0_areNearKeysSound_40 (by decide) ?_
    refine lv_icmp_gt (tgt := 76) hx hb dX0_areNearKeysSound_41 (by decide) (fun c6 => ?_) (fun c6 => ?_)
    · rw [if_pos c6] at hf
      refine lv_iinc (v := (v2 + 1)) (lv' := [(2, .int (v2 + 1)), (1, .ref (ad t1)), (3, .int v3), (4, .int v4)]) hx hb dX0_areNearKeysSound_76 hl (k := 1) rfl rfl (by decide) rfl (fun ls hl => ?_)
      refine lv_goto (tgt := 2) hx hb dX0_areNearKeysSound_79 (by decide) ?_
      exact hK2 _ _ _ ft1 hf _ _ _ h (lv_sub hl [1, 0] rfl)
    · rw [if_neg c6] at hf
      refine lv_aload_n hx hb dX0_areNearKeysSound_44 rfl (lv_at hl 0 rfl) ?_
      refine lv_iload_n hx hb dX0_areNearKeysSound_45 rfl (lv_at hl 2 rfl) ?_
      refine lv_iload hx hb dX0_areNearKeysSound_46 (lv_at hl 3 rfl) ?_
      refine lv_iadd hx hb dX0_areNearKeysSound_48 ?_
      refine lv_iconst (v := (1 : Int32)) hx hb dX0_areNearKeysSound_49 (by decide) ?_
      obtain ⟨vr7, hq7, hf⟩ := rthn_some hf
      refine sRetC1 (g_runS B h (ok_X0_isSplitSound B.2.2.2.2.2.2.2.2 B.2.2.2.2.2.2.1 _ _ ft1 (v3 + v4) (1 : Int32) hq7) cw_X0_63 ⟨Nat.le_of_ble_eq_true rfl, Nat.le_of_ble_eq_true rfl⟩ rfl hl.1.symm rfl (Nat.le_of_ble_eq_true rfl) dX0_areNearKeysSound_50 ⟨Nat.zero_le _, Nat.zero_le _⟩) h (fun H locs h => ?_)
      refine lv_if_eq (tgt := 68) hx hb dX0_areNearKeysSound_53 (by decide) (fun c8 => ?_) (fun c8 => ?_)
      · rw [if_pos c8] at hf
        refine lv_iconst (v := (0 : Int32)) hx hb dX0_areNearKeysSound_68 (by decide) ?_
        obtain rfl := Option.some.inj hf
        exact sE_z B hr h rfl dX0_areNearKeysSound_69
      · rw [if_neg c8] at hf
        refine lv_aload_n hx hb dX0_areNearKeysSound_56 rfl (lv_at hl 0 rfl) ?_
        refine lv_iload_n hx hb dX0_areNearKeysSound_57 rfl (lv_at hl 2 rfl) ?_
        refine lv_iload hx hb dX0_areNearKeysSound_58 (lv_at hl 3 rfl) ?_
        refine lv_iadd hx hb dX0_areNearKeysSound_60 ?_
        refine lv_iconst (v := (0 : Int32)) hx hb dX0_areNearKeysSound_61 (by decide) ?_
        obtain ⟨vr9, hq9, hf⟩ := rthn_some hf
        refine sRetC1 (g_runS B h (ok_X0_isSplitSound B.2.2.2.2.2.2.2.2 B.2.2.2.2.2.2.1 _ _ ft1 (v3 + v4) (0 : Int32) hq9) cw_X0_63 ⟨Nat.le_of_ble_eq_true rfl, Nat.le_of_ble_eq_true rfl⟩ rfl hl.1.symm rfl (Nat.le_of_ble_eq_true rfl) dX0_areNearKeysSound_62 ⟨Nat.zero_le _, Nat.zero_le _⟩) h (fun H locs h => ?_)
        refine lv_if_ne (tgt := 70) hx hb dX0_areNearKeysSound_65 (by decide) (fun c10 => ?_) (fun c10 => ?_)
        · rw [if_neg c10] at hf
          refine lv_iinc (v := (v4 + 1)) (lv' := [(4, .int (v4 + 1)), (1, .ref (ad t1)), (2, .int v2), (3, .int v3)]) hx hb dX0_areNearKeysSound_70 hl (k := 3) rfl rfl (by decide) rfl (fun ls hl => ?_)
          refine lv_goto (tgt := 38) hx hb dX0_areNearKeysSound_73 (by decide) ?_
          exact ih _ _ _ _ _ ft1 hf _ _ _ h (lv_sub hl [1, 2, 3, 0] rfl)
        · rw [if_pos c10] at hf
          refine lv_iconst (v := (0 : Int32)) hx hb dX0_areNearKeysSound_68 (by decide) ?_
          obtain rfl := Option.some.inj hf
          exact sE_z B hr h rfl dX0_areNearKeysSound_69
set_option maxHeartbeats 4000000 in
set_option maxRecDepth 100000 in
theorem k_X0_areNearKeysSound_2 {p : Program} {l : Launch} {e : Env} {s : State} {m : MethodId} {args : Array Value} {below : List Frame} {meth : Method} {c : Code} {D : va_G} {cy : Nat → ClassId} {ad : Nat → Nat} {X : sX} {r : Int32} (B : sB p l s m meth c args cX0_areNearKeysSound 5 RX0 D cy ad) (hr : meth.sig.returnType = (some .boolean)) : ∀ (n : Nat) (t1 : Nat) (v2 : Int32) (σ : sM) (ft1 : isT t1), b_X0_areNearKeysSound_2 n t1 v2 σ = some r → sGo p l e { frames := 4, cells := 0, slots := 0, locals := 97 } s m args below meth c D cy ad X 5 (sQ below args s 0 0 D cy ad (.inr (some (.int r))) X σ) σ 2 [(1, .ref (ad t1)), (2, .int v2)] [] := by
  intro n
  induction n with
  | zero =>
    intro t1 v2 σ ft1 hf
    exact nomatch (show none = some r from hf)
  | succ n ih =>
    intro t1 v2 σ ft1 hf
    replace hf : (if (σ t1 2) ≤ v2 then (some (1 : Int32)) else (chk (inb v2 120) (if v2 ≤ 0 then (b_X0_areNearKeysSound_38 (b_X0_areNearKeysSound_2 n) FU t1 v2 (σ (t1 + 1) (v2).toNatClampNeg) (-1 : Int32) σ) else (chk (inb (v2 - (1 : Int32)) 120) (if (σ (t1 + 1) ((v2 - (1 : Int32))).toNatClampNeg) < (σ (t1 + 1) (v2).toNatClampNeg) then (b_X0_areNearKeysSound_38 (b_X0_areNearKeysSound_2 n) FU t1 v2 (σ (t1 + 1) (v2).toNatClampNeg) (-1 : Int32) σ) else (some (0 : Int32))))))) = some r := hf
    intro H locs ls h hl
    have hx := B.1
    have hb := B.2.1
    refine lv_iload_n hx hb dX0_areNearKeysSound_2 rfl (lv_at hl 1 rfl) ?_
    refine lv_aload_n hx hb dX0_areNearKeysSound_3 rfl (lv_at hl 0 rfl) ?_
    refine g_get B h t1 (T_lt ft1) (C := RX2) (T := TX2) (N := 3) (T_row ft1 _) rfl hin_X2 2 (by decide) hw52 rfl rfl dX0_areNearKeysSound_4 ?_
    refine lv_icmp_ge (tgt := 82) hx hb dX0_areNearKeysSound_7 (by decide) (fun c1 => ?_) (fun c1 => ?_)
    · rw [if_pos c1] at hf
      refine lv_iconst (v := (1 : Int32)) hx hb dX0_areNearKeysSound_82 (by decide) ?_
      obtain rfl := Option.some.inj hf
      exact sE_z B hr h rfl dX0_areNearKeysSound_83
    · rw [if_neg c1] at hf
      refine lv_aload_n hx hb dX0_areNearKeysSound_10 rfl (lv_at hl 0 rfl) ?_
      refine g_get B h t1 (T_lt ft1) (C := RX2) (T := TX2) (N := 3) (T_row ft1 _) rfl hin_X2 0 (by decide) hw46 rfl rfl dX0_areNearKeysSound_11 ?_
      refine lv_iload_n hx hb dX0_areNearKeysSound_14 rfl (lv_at hl 1 rfl) ?_
      obtain ⟨c2, hf⟩ := chk_some hf
      refine g_iald B h (t1 + 1) (T_lt1 ft1) (n := 120) (T_keys ft1) (inb_in c2) dX0_areNearKeysSound_15 ?_
      refine lv_istore_n (lv' := [(3, .int (σ (t1 + 1) (v2).toNatClampNeg)), (1, .ref (ad t1)), (2, .int v2)]) hx hb dX0_areNearKeysSound_16 rfl hl (by decide) rfl (fun ls hl => ?_)
      refine lv_iload_n hx hb dX0_areNearKeysSound_17 rfl (lv_at hl 2 rfl) ?_
      refine lv_if_le (tgt := 35) hx hb dX0_areNearKeysSound_18 (by decide) (fun c3 => ?_) (fun c3 => ?_)
      · rw [if_pos c3] at hf
        refine lv_iconst (v := (-1 : Int32)) hx hb dX0_areNearKeysSound_35 (by decide) ?_
        refine lv_istore (lv' := [(4, .int (-1 : Int32)), (3, .int (σ (t1 + 1) (v2).toNatClampNeg)), (1, .ref (ad t1)), (2, .int v2)]) hx hb dX0_areNearKeysSound_36 hl (by decide) rfl (fun ls hl => ?_)
        exact k_X0_areNearKeysSound_38 B hr ih _ _ _ _ _ _ ft1 hf _ _ _ h (lv_sub hl [2, 3, 1, 0] rfl)
      · rw [if_neg c3] at hf
        refine lv_aload_n hx hb dX0_areNearKeysSound_21 rfl (lv_at hl 1 rfl) ?_
        refine g_get B h t1 (T_lt ft1) (C := RX2) (T := TX2) (N := 3) (T_row ft1 _) rfl hin_X2 0 (by decide) hw46 rfl rfl dX0_areNearKeysSound_22 ?_
        refine lv_iload_n hx hb dX0_areNearKeysSound_25 rfl (lv_at hl 2 rfl) ?_
        refine lv_iconst (v := (1 : Int32)) hx hb dX0_areNearKeysSound_26 (by decide) ?_
        refine lv_isub hx hb dX0_areNearKeysSound_27 ?_
        obtain ⟨c4, hf⟩ := chk_some hf
        refine g_iald B h (t1 + 1) (T_lt1 ft1) (n := 120) (T_keys ft1) (inb_in c4) dX0_areNearKeysSound_28 ?_
        refine lv_iload_n hx hb dX0_areNearKeysSound_29 rfl (lv_at hl 0 rfl) ?_
        refine lv_icmp_lt (tgt := 35) hx hb dX0_areNearKeysSound_30 (by decide) (fun c5 => ?_) (fun c5 => ?_)
        · rw [if_pos c5] at hf
          refine lv_iconst (v := (-1 : Int32)) hx hb dX0_areNearKeysSound_35 (by decide) ?_
          refine lv_istore (lv' := [(4, .int (-1 : Int32)), (3, .int (σ (t1 + 1) (v2).toNatClampNeg)), (1, .ref (ad t1)), (2, .int v2)]) hx hb dX0_areNearKeysSound_36 hl (by decide) rfl (fun ls hl => ?_)
          exact k_X0_areNearKeysSound_38 B hr ih _ _ _ _ _ _ ft1 hf _ _ _ h (lv_sub hl [2, 3, 1, 0] rfl)
        · rw [if_neg c5] at hf
          refine lv_iconst (v := (0 : Int32)) hx hb dX0_areNearKeysSound_33 (by decide) ?_
          obtain rfl := Option.some.inj hf
          exact sE_z B hr h rfl dX0_areNearKeysSound_34
set_option maxHeartbeats 4000000 in
set_option maxRecDepth 100000 in
theorem k_X0_areNearKeysSound_0 {p : Program} {l : Launch} {e : Env} {s : State} {m : MethodId} {args : Array Value} {below : List Frame} {meth : Method} {c : Code} {D : va_G} {cy : Nat → ClassId} {ad : Nat → Nat} {X : sX} {r : Int32} (B : sB p l s m meth c args cX0_areNearKeysSound 5 RX0 D cy ad) (hr : meth.sig.returnType = (some .boolean)) (t1 : Nat) (σ : sM) (ft1 : isT t1) (hf : f_X0_areNearKeysSound t1 σ = some r) : sGo p l e { frames := 4, cells := 0, slots := 0, locals := 97 } s m args below meth c D cy ad X 5 (sQ below args s 0 0 D cy ad (.inr (some (.int r))) X σ) σ 0 [(0, .ref (ad 4)), (1, .ref (ad t1))] [] := by
  replace hf : (b_X0_areNearKeysSound_2 FU t1 (0 : Int32) σ) = some r := hf
  intro H locs ls h hl
  have hx := B.1
  have hb := B.2.1
  refine lv_iconst (v := (0 : Int32)) hx hb dX0_areNearKeysSound_0 (by decide) ?_
  refine lv_istore_n (lv' := [(2, .int (0 : Int32)), (0, .ref (ad 4)), (1, .ref (ad t1))]) hx hb dX0_areNearKeysSound_1 rfl hl (by decide) rfl (fun ls hl => ?_)
  exact k_X0_areNearKeysSound_2 B hr  _ _ _ _ ft1 hf _ _ _ h (lv_sub hl [2, 0] rfl)
set_option maxRecDepth 100000 in
theorem ok_X0_areNearKeysSound {l : Launch} (hl0 : l.stackTraces = false) {D : va_G} {cy : Nat → ClassId} {ad : Nat → Nat} (hap : sAp ad) (X : sX) (σ : sM) {t1 : Nat} (ft1 : isT t1) {r : Int32} (hf : f_X0_areNearKeysSound t1 σ = some r) : sMet l yX0_areNearKeysSound (sWs yX0_areNearKeysSound cX0_areNearKeysSound 5 (some .boolean)) 4 97 0 0 D cy ad X σ [.ref (ad 4), .ref (ad t1)] (.inr (some (.int r))) X σ := by
  refine sMet_of (by decide +kernel) (Nat.le_of_ble_eq_true rfl) hap hl0 ?_
  intro p e s m args below meth c ls B hr htab hl h
  exact k_X0_areNearKeysSound_0 B hr _ _ ft1 hf _ _ _ h hl
set_option maxHeartbeats 4000000 in
set_option maxRecDepth 100000 in
theorem k_X0_arePollsSoundFrom_53 {p : Program} {l : Launch} {e : Env} {s : State} {m : MethodId} {args : Array Value} {below : List Frame} {meth : Method} {c : Code} {D : va_G} {cy : Nat → ClassId} {ad : Nat → Nat} {X : sX} {r : Int32} {σ' : sM} (B : sB p l s m meth c args cX0_arePollsSoundFrom 5 RX0 D cy ad) (hr : meth.sig.returnType = (some .boolean)) {K10 : Nat → Int32 → Int32 → sM → Option (Int32 × sM)} (hK10 : ∀ (t1 : Nat) (v2 : Int32) (v3 : Int32) (σ : sM) (ft1 : isT t1), K10 t1 v2 v3 σ = some (r, σ') → sGo p l e { frames := 2, cells := 0, slots := 0, locals := 130 } s m args below meth c D cy ad X 5 (sQ below args s 0 0 D cy ad (.inr (some (.int r))) X σ') σ 10 [(0, .ref (ad 4)), (1, .ref (ad t1)), (2, .int v2), (3, .int v3)] []) (t1 : Nat) (v2 : Int32) (v3 : Int32) (vs0 : Int32) (σ : sM) (ft1 : isT t1) (hf : b_X0_arePollsSoundFrom_53 K10 t1 v2 v3 vs0 σ = some (r, σ')) : sGo p l e { frames := 2, cells := 0, slots := 0, locals := 130 } s m args below meth c D cy ad X 5 (sQ below args s 0 0 D cy ad (.inr (some (.int r))) X σ') σ 53 [(0, .ref (ad 4)), (1, .ref (ad t1)), (2, .int v2), (3, .int v3)] [.int vs0] := by
  replace hf : (if v2 = 0 then (rthn (f_X2_hasSameAt 18 vs0 t1 v3 σ) (fun vr7 => if vr7 = 0 then (some ((0 : Int32), σ)) else (wthn (f_X2_dropPlaces 18 vs0 (vs0 + (1 : Int32)) σ) (fun _ σ9 => K10 t1 v2 (v3 + 1) σ9)))) else (rthn (f_X2_hasSameAt 18 vs0 t1 vs0 σ) (fun vr10 => if vr10 = 0 then (some ((0 : Int32), σ)) else (wthn (f_X2_dropPlaces 18 vs0 (vs0 + (1 : Int32)) σ) (fun _ σ12 => K10 t1 v2 (v3 + 1) σ12))))) = some (r, σ') := hf
  intro H locs ls h hl
  have hx := B.1
  have hb := B.2.1
  refine lv_istore (lv' := [(4, .int vs0), (0, .ref (ad 4)), (1, .ref (ad t1)), (2, .int v2), (3, .int v3)]) hx hb dX0_arePollsSoundFrom_53 hl (by decide) rfl (fun ls hl => ?_)
  refine lv_aload_n hx hb dX0_arePollsSoundFrom_55 rfl (lv_at hl 1 rfl) ?_
  refine g_get B h 4 (by decide) (C := RX0) (T := TX0) (N := 4) (B_row _) rfl hin_X0 1 (by decide) hw87 rfl rfl dX0_arePollsSoundFrom_56 ?_
  refine lv_iload hx hb dX0_arePollsSoundFrom_59 (lv_at hl 0 rfl) ?_
  refine lv_aload_n hx hb dX0_arePollsSoundFrom_61 rfl (lv_at hl 2 rfl) ?_
  refine lv_iload_n hx hb dX0_arePollsSoundFrom_62 rfl (lv_at hl 3 rfl) ?_
  refine lv_if_eq (tgt := 71) hx hb dX0_arePollsSoundFrom_63 (by decide) (fun c6 => ?_) (fun c6 => ?_)
  · rw [if_pos c6] at hf
    refine lv_iload_n hx hb dX0_arePollsSoundFrom_71 rfl (lv_at hl 4 rfl) ?_
    obtain ⟨vr7, hq7, hf⟩ := rthn_some hf
    refine sRetC1 (g_runV (k := 18) (T := TX2) (N := 3) B h (ok_X2_hasSameAt B.2.2.2.2.2.2.2.2 B.2.2.2.2.2.2.1 _ _ ff18 vs0 ft1 v3 hq7) cw_X0_82 ⟨Nat.le_of_ble_eq_true rfl, Nat.le_of_ble_eq_true rfl⟩ (T_lt ff18) (T_row ff18 _) rfl rfl hl.1.symm rfl (Nat.le_of_ble_eq_true rfl) dX0_arePollsSoundFrom_72 ⟨Nat.zero_le _, Nat.zero_le _⟩) h (fun H locs h => ?_)
    refine lv_if_ne (tgt := 80) hx hb dX0_arePollsSoundFrom_75 (by decide) (fun c8 => ?_) (fun c8 => ?_)
    · rw [if_neg c8] at hf
      refine lv_aload_n hx hb dX0_arePollsSoundFrom_80 rfl (lv_at hl 1 rfl) ?_
      refine g_get B h 4 (by decide) (C := RX0) (T := TX0) (N := 4) (B_row _) rfl hin_X0 1 (by decide) hw87 rfl rfl dX0_arePollsSoundFrom_81 ?_
      refine lv_iload hx hb dX0_arePollsSoundFrom_84 (lv_at hl 0 rfl) ?_
      refine lv_iload hx hb dX0_arePollsSoundFrom_86 (lv_at hl 0 rfl) ?_
      refine lv_iconst (v := (1 : Int32)) hx hb dX0_arePollsSoundFrom_88 (by decide) ?_
      refine lv_iadd hx hb dX0_arePollsSoundFrom_89 ?_
      obtain ⟨vr9, σ9, hq9, hf⟩ := wthn_some hf
      refine sRetC0 (g_runV (k := 18) (T := TX2) (N := 3) B h (ok_X2_dropPlaces B.2.2.2.2.2.2.2.2 B.2.2.2.2.2.2.1 _ _ ff18 vs0 (vs0 + (1 : Int32)) hq9) cw_X0_86 ⟨Nat.le_of_ble_eq_true rfl, Nat.le_of_ble_eq_true rfl⟩ (T_lt ff18) (T_row ff18 _) rfl rfl hl.1.symm rfl (Nat.le_of_ble_eq_true rfl) dX0_arePollsSoundFrom_90 ⟨Nat.zero_le _, Nat.zero_le _⟩) h (fun H locs h => ?_)
      refine lv_iinc (v := (v3 + 1)) (lv' := [(3, .int (v3 + 1)), (4, .int vs0), (0, .ref (ad 4)), (1, .ref (ad t1)), (2, .int v2)]) hx hb dX0_arePollsSoundFrom_93 hl (k := 4) rfl rfl (by decide) rfl (fun ls hl => ?_)
      refine lv_goto (tgt := 10) hx hb dX0_arePollsSoundFrom_96 (by decide) ?_
      exact hK10 _ _ _ _ ft1 hf _ _ _ h (lv_sub hl [2, 3, 4, 0] rfl)
    · rw [if_pos c8] at hf
      refine lv_iconst (v := (0 : Int32)) hx hb dX0_arePollsSoundFrom_78 (by decide) ?_
      obtain ⟨rfl, rfl⟩ := Prod.mk.inj (Option.some.inj hf)
      exact sE_z B hr h rfl dX0_arePollsSoundFrom_79
  · rw [if_neg c6] at hf
    refine lv_iload hx hb dX0_arePollsSoundFrom_66 (lv_at hl 0 rfl) ?_
    refine lv_goto (tgt := 72) hx hb dX0_arePollsSoundFrom_68 (by decide) ?_
    obtain ⟨vr10, hq10, hf⟩ := rthn_some hf
    refine sRetC1 (g_runV (k := 18) (T := TX2) (N := 3) B h (ok_X2_hasSameAt B.2.2.2.2.2.2.2.2 B.2.2.2.2.2.2.1 _ _ ff18 vs0 ft1 vs0 hq10) cw_X0_82 ⟨Nat.le_of_ble_eq_true rfl, Nat.le_of_ble_eq_true rfl⟩ (T_lt ff18) (T_row ff18 _) rfl rfl hl.1.symm rfl (Nat.le_of_ble_eq_true rfl) dX0_arePollsSoundFrom_72 ⟨Nat.zero_le _, Nat.zero_le _⟩) h (fun H locs h => ?_)
    refine lv_if_ne (tgt := 80) hx hb dX0_arePollsSoundFrom_75 (by decide) (fun c11 => ?_) (fun c11 => ?_)
    · rw [if_neg c11] at hf
      refine lv_aload_n hx hb dX0_arePollsSoundFrom_80 rfl (lv_at hl 1 rfl) ?_
      refine g_get B h 4 (by decide) (C := RX0) (T := TX0) (N := 4) (B_row _) rfl hin_X0 1 (by decide) hw87 rfl rfl dX0_arePollsSoundFrom_81 ?_
      refine lv_iload hx hb dX0_arePollsSoundFrom_84 (lv_at hl 0 rfl) ?_
      refine lv_iload hx hb dX0_arePollsSoundFrom_86 (lv_at hl 0 rfl) ?_
      refine lv_iconst (v := (1 : Int32)) hx hb dX0_arePollsSoundFrom_88 (by decide) ?_
      refine lv_iadd hx hb dX0_arePollsSoundFrom_89 ?_
      obtain ⟨vr12, σ12, hq12, hf⟩ := wthn_some hf
      refine sRetC0 (g_runV (k := 18) (T := TX2) (N := 3) B h (ok_X2_dropPlaces B.2.2.2.2.2.2.2.2 B.2.2.2.2.2.2.1 _ _ ff18 vs0 (vs0 + (1 : Int32)) hq12) cw_X0_86 ⟨Nat.le_of_ble_eq_true rfl, Nat.le_of_ble_eq_true rfl⟩ (T_lt ff18) (T_row ff18 _) rfl rfl hl.1.symm rfl (Nat.le_of_ble_eq_true rfl) dX0_arePollsSoundFrom_90 ⟨Nat.zero_le _, Nat.zero_le _⟩) h (fun H locs h => ?_)
      refine lv_iinc (v := (v3 + 1)) (lv' := [(3, .int (v3 + 1)), (4, .int vs0), (0, .ref (ad 4)), (1, .ref (ad t1)), (2, .int v2)]) hx hb dX0_arePollsSoundFrom_93 hl (k := 4) rfl rfl (by decide) rfl (fun ls hl => ?_)
      refine lv_goto (tgt := 10) hx hb dX0_arePollsSoundFrom_96 (by decide) ?_
      exact hK10 _ _ _ _ ft1 hf _ _ _ h (lv_sub hl [2, 3, 4, 0] rfl)
    · rw [if_pos c11] at hf
      refine lv_iconst (v := (0 : Int32)) hx hb dX0_arePollsSoundFrom_78 (by decide) ?_
      obtain ⟨rfl, rfl⟩ := Prod.mk.inj (Option.some.inj hf)
      exact sE_z B hr h rfl dX0_arePollsSoundFrom_79
set_option maxHeartbeats 4000000 in
set_option maxRecDepth 100000 in
theorem k_X0_arePollsSoundFrom_10 {p : Program} {l : Launch} {e : Env} {s : State} {m : MethodId} {args : Array Value} {below : List Frame} {meth : Method} {c : Code} {D : va_G} {cy : Nat → ClassId} {ad : Nat → Nat} {X : sX} {r : Int32} {σ' : sM} (B : sB p l s m meth c args cX0_arePollsSoundFrom 5 RX0 D cy ad) (hr : meth.sig.returnType = (some .boolean)) : ∀ (n : Nat) (t1 : Nat) (v2 : Int32) (v3 : Int32) (σ : sM) (ft1 : isT t1), b_X0_arePollsSoundFrom_10 n t1 v2 v3 σ = some (r, σ') → sGo p l e { frames := 2, cells := 0, slots := 0, locals := 130 } s m args below meth c D cy ad X 5 (sQ below args s 0 0 D cy ad (.inr (some (.int r))) X σ') σ 10 [(0, .ref (ad 4)), (1, .ref (ad t1)), (2, .int v2), (3, .int v3)] [] := by
  intro n
  induction n with
  | zero =>
    intro t1 v2 v3 σ ft1 hf
    exact nomatch (show none = some (r, σ') from hf)
  | succ n ih =>
    intro t1 v2 v3 σ ft1 hf
    replace hf : (if (σ t1 2) ≤ v3 then (if (σ 18 2) = 0 then (some ((1 : Int32), σ)) else (some ((0 : Int32), σ))) else (if (σ 18 2) = ((σ t1 2) - v3) then (if v2 = 0 then (b_X0_arePollsSoundFrom_53 (b_X0_arePollsSoundFrom_10 n) t1 v2 v3 (0 : Int32) σ) else (b_X0_arePollsSoundFrom_53 (b_X0_arePollsSoundFrom_10 n) t1 v2 v3 ((σ 18 2) - (1 : Int32)) σ)) else (some ((0 : Int32), σ)))) = some (r, σ') := hf
    intro H locs ls h hl
    have hx := B.1
    have hb := B.2.1
    refine lv_iload_n hx hb dX0_arePollsSoundFrom_10 rfl (lv_at hl 3 rfl) ?_
    refine lv_aload_n hx hb dX0_arePollsSoundFrom_11 rfl (lv_at hl 1 rfl) ?_
    refine g_get B h t1 (T_lt ft1) (C := RX2) (T := TX2) (N := 3) (T_row ft1 _) rfl hin_X2 2 (by decide) hw52 rfl rfl dX0_arePollsSoundFrom_12 ?_
    refine lv_icmp_ge (tgt := 99) hx hb dX0_arePollsSoundFrom_15 (by decide) (fun c2 => ?_) (fun c2 => ?_)
    · rw [if_pos c2] at hf
      refine lv_aload_n hx hb dX0_arePollsSoundFrom_99 rfl (lv_at hl 0 rfl) ?_
      refine g_get B h 4 (by decide) (C := RX0) (T := TX0) (N := 4) (B_row _) rfl hin_X0 1 (by decide) hw87 rfl rfl dX0_arePollsSoundFrom_100 ?_
      refine g_get B h 18 (T_lt ff18) (C := RX2) (T := TX2) (N := 3) (T_row ff18 _) rfl hin_X2 2 (by decide) hw52 rfl rfl dX0_arePollsSoundFrom_103 ?_
      refine lv_if_ne (tgt := 113) hx hb dX0_arePollsSoundFrom_106 (by decide) (fun c3 => ?_) (fun c3 => ?_)
      · rw [if_neg c3] at hf
        refine lv_iconst (v := (0 : Int32)) hx hb dX0_arePollsSoundFrom_113 (by decide) ?_
        obtain ⟨rfl, rfl⟩ := Prod.mk.inj (Option.some.inj hf)
        exact sE_z B hr h rfl dX0_arePollsSoundFrom_114
      · rw [if_pos c3] at hf
        refine lv_iconst (v := (1 : Int32)) hx hb dX0_arePollsSoundFrom_109 (by decide) ?_
        refine lv_goto (tgt := 114) hx hb dX0_arePollsSoundFrom_110 (by decide) ?_
        obtain ⟨rfl, rfl⟩ := Prod.mk.inj (Option.some.inj hf)
        exact sE_z B hr h rfl dX0_arePollsSoundFrom_114
    · rw [if_neg c2] at hf
      refine lv_aload_n hx hb dX0_arePollsSoundFrom_18 rfl (lv_at hl 0 rfl) ?_
      refine g_get B h 4 (by decide) (C := RX0) (T := TX0) (N := 4) (B_row _) rfl hin_X0 1 (by decide) hw87 rfl rfl dX0_arePollsSoundFrom_19 ?_
      refine g_get B h 18 (T_lt ff18) (C := RX2) (T := TX2) (N := 3) (T_row ff18 _) rfl hin_X2 2 (by decide) hw52 rfl rfl dX0_arePollsSoundFrom_22 ?_
      refine lv_aload_n hx hb dX0_arePollsSoundFrom_25 rfl (lv_at hl 1 rfl) ?_
      refine g_get B h t1 (T_lt ft1) (C := RX2) (T := TX2) (N := 3) (T_row ft1 _) rfl hin_X2 2 (by decide) hw52 rfl rfl dX0_arePollsSoundFrom_26 ?_
      refine lv_iload_n hx hb dX0_arePollsSoundFrom_29 rfl (lv_at hl 3 rfl) ?_
      refine lv_isub hx hb dX0_arePollsSoundFrom_30 ?_
      refine lv_icmp_eq (tgt := 36) hx hb dX0_arePollsSoundFrom_31 (by decide) (fun c4 => ?_) (fun c4 => ?_)
      · rw [if_pos c4] at hf
        refine lv_iload_n hx hb dX0_arePollsSoundFrom_36 rfl (lv_at hl 2 rfl) ?_
        refine lv_if_eq (tgt := 52) hx hb dX0_arePollsSoundFrom_37 (by decide) (fun c5 => ?_) (fun c5 => ?_)
        · rw [if_pos c5] at hf
          refine lv_iconst (v := (0 : Int32)) hx hb dX0_arePollsSoundFrom_52 (by decide) ?_
          exact k_X0_arePollsSoundFrom_53 B hr ih _ _ _ _ _ ft1 hf _ _ _ h (lv_sub hl [0, 1, 2, 3] rfl)
        · rw [if_neg c5] at hf
          refine lv_aload_n hx hb dX0_arePollsSoundFrom_40 rfl (lv_at hl 0 rfl) ?_
          refine g_get B h 4 (by decide) (C := RX0) (T := TX0) (N := 4) (B_row _) rfl hin_X0 1 (by decide) hw87 rfl rfl dX0_arePollsSoundFrom_41 ?_
          refine g_get B h 18 (T_lt ff18) (C := RX2) (T := TX2) (N := 3) (T_row ff18 _) rfl hin_X2 2 (by decide) hw52 rfl rfl dX0_arePollsSoundFrom_44 ?_
          refine lv_iconst (v := (1 : Int32)) hx hb dX0_arePollsSoundFrom_47 (by decide) ?_
          refine lv_isub hx hb dX0_arePollsSoundFrom_48 ?_
          refine lv_goto (tgt := 53) hx hb dX0_arePollsSoundFrom_49 (by decide) ?_
          exact k_X0_arePollsSoundFrom_53 B hr ih _ _ _ _ _ ft1 hf _ _ _ h (lv_sub hl [0, 1, 2, 3] rfl)
      · rw [if_neg c4] at hf
        refine lv_iconst (v := (0 : Int32)) hx hb dX0_arePollsSoundFrom_34 (by decide) ?_
        obtain ⟨rfl, rfl⟩ := Prod.mk.inj (Option.some.inj hf)
        exact sE_z B hr h rfl dX0_arePollsSoundFrom_35
set_option maxHeartbeats 4000000 in
set_option maxRecDepth 100000 in
theorem k_X0_arePollsSoundFrom_0 {p : Program} {l : Launch} {e : Env} {s : State} {m : MethodId} {args : Array Value} {below : List Frame} {meth : Method} {c : Code} {D : va_G} {cy : Nat → ClassId} {ad : Nat → Nat} {X : sX} {r : Int32} {σ' : sM} (B : sB p l s m meth c args cX0_arePollsSoundFrom 5 RX0 D cy ad) (hr : meth.sig.returnType = (some .boolean)) (t1 : Nat) (v2 : Int32) (σ : sM) (ft1 : isT t1) (hf : f_X0_arePollsSoundFrom t1 v2 σ = some (r, σ')) : sGo p l e { frames := 2, cells := 0, slots := 0, locals := 130 } s m args below meth c D cy ad X 5 (sQ below args s 0 0 D cy ad (.inr (some (.int r))) X σ') σ 0 [(0, .ref (ad 4)), (1, .ref (ad t1)), (2, .int v2)] [] := by
  replace hf : (wthn (f_X2_becomeCopy 18 t1 σ) (fun _ σ1 => b_X0_arePollsSoundFrom_10 FU t1 v2 (0 : Int32) σ1)) = some (r, σ') := hf
  intro H locs ls h hl
  have hx := B.1
  have hb := B.2.1
  refine lv_aload_n hx hb dX0_arePollsSoundFrom_0 rfl (lv_at hl 0 rfl) ?_
  refine g_get B h 4 (by decide) (C := RX0) (T := TX0) (N := 4) (B_row _) rfl hin_X0 1 (by decide) hw87 rfl rfl dX0_arePollsSoundFrom_1 ?_
  refine lv_aload_n hx hb dX0_arePollsSoundFrom_4 rfl (lv_at hl 1 rfl) ?_
  obtain ⟨vr1, σ1, hq1, hf⟩ := wthn_some hf
  refine sRetC0 (g_runV (k := 18) (T := TX2) (N := 3) B h (ok_X2_becomeCopy B.2.2.2.2.2.2.2.2 B.2.2.2.2.2.2.1 _ _ ff18 ft1 hq1) cw_X0_79 ⟨Nat.le_of_ble_eq_true rfl, Nat.le_of_ble_eq_true rfl⟩ (T_lt ff18) (T_row ff18 _) rfl rfl hl.1.symm rfl (Nat.le_of_ble_eq_true rfl) dX0_arePollsSoundFrom_5 ⟨Nat.zero_le _, Nat.zero_le _⟩) h (fun H locs h => ?_)
  refine lv_iconst (v := (0 : Int32)) hx hb dX0_arePollsSoundFrom_8 (by decide) ?_
  refine lv_istore_n (lv' := [(3, .int (0 : Int32)), (0, .ref (ad 4)), (1, .ref (ad t1)), (2, .int v2)]) hx hb dX0_arePollsSoundFrom_9 rfl hl (by decide) rfl (fun ls hl => ?_)
  exact k_X0_arePollsSoundFrom_10 B hr  _ _ _ _ _ ft1 hf _ _ _ h (lv_sub hl [1, 2, 3, 0] rfl)
set_option maxRecDepth 100000 in
theorem ok_X0_arePollsSoundFrom {l : Launch} (hl0 : l.stackTraces = false) {D : va_G} {cy : Nat → ClassId} {ad : Nat → Nat} (hap : sAp ad) (X : sX) (σ : sM) {t1 : Nat} (ft1 : isT t1) (v2 : Int32) {r : Int32} {σ' : sM} (hf : f_X0_arePollsSoundFrom t1 v2 σ = some (r, σ')) : sMet l yX0_arePollsSoundFrom (sWs yX0_arePollsSoundFrom cX0_arePollsSoundFrom 5 (some .boolean)) 2 130 0 0 D cy ad X σ [.ref (ad 4), .ref (ad t1), .int v2] (.inr (some (.int r))) X σ' := by
  refine sMet_of (by decide +kernel) (Nat.le_of_ble_eq_true rfl) hap hl0 ?_
  intro p e s m args below meth c ls B hr htab hl h
  exact k_X0_arePollsSoundFrom_0 B hr _ _ _ ft1 hf _ _ _ h hl
set_option maxHeartbeats 4000000 in
set_option maxRecDepth 100000 in
theorem k_X0_arePollsSound_0 {p : Program} {l : Launch} {e : Env} {s : State} {m : MethodId} {args : Array Value} {below : List Frame} {meth : Method} {c : Code} {D : va_G} {cy : Nat → ClassId} {ad : Nat → Nat} {X : sX} {r : Int32} {σ' : sM} (B : sB p l s m meth c args cX0_arePollsSound 2 RX0 D cy ad) (hr : meth.sig.returnType = (some .boolean)) (t1 : Nat) (σ : sM) (ft1 : isT t1) (hf : f_X0_arePollsSound t1 σ = some (r, σ')) : sGo p l e { frames := 3, cells := 0, slots := 0, locals := 154 } s m args below meth c D cy ad X 2 (sQ below args s 0 0 D cy ad (.inr (some (.int r))) X σ') σ 0 [(0, .ref (ad 4)), (1, .ref (ad t1))] [] := by
  replace hf : (wthn (f_X0_arePollsSoundFrom t1 (0 : Int32) σ) (fun vr1 σ1 => if vr1 = 0 then (some ((0 : Int32), σ1)) else (wthn (f_X0_arePollsSoundFrom t1 (1 : Int32) σ1) (fun vr3 σ3 => if vr3 = 0 then (some ((0 : Int32), σ3)) else (some ((1 : Int32), σ3)))))) = some (r, σ') := hf
  intro H locs ls h hl
  have hx := B.1
  have hb := B.2.1
  refine lv_aload_n hx hb dX0_arePollsSound_0 rfl (lv_at hl 0 rfl) ?_
  refine lv_aload_n hx hb dX0_arePollsSound_1 rfl (lv_at hl 1 rfl) ?_
  refine lv_iconst (v := (0 : Int32)) hx hb dX0_arePollsSound_2 (by decide) ?_
  obtain ⟨vr1, σ1, hq1, hf⟩ := wthn_some hf
  refine sRetC1 (g_runV (k := 4) (T := TX0) (N := 4) B h (ok_X0_arePollsSoundFrom B.2.2.2.2.2.2.2.2 B.2.2.2.2.2.2.1 _ _ ft1 (0 : Int32) hq1) cw_X0_75 ⟨Nat.le_of_ble_eq_true rfl, Nat.le_of_ble_eq_true rfl⟩ (by decide) (B_row _) rfl rfl hl.1.symm rfl (Nat.le_of_ble_eq_true rfl) dX0_arePollsSound_3 ⟨Nat.zero_le _, Nat.zero_le _⟩) h (fun H locs h => ?_)
  refine lv_if_eq (tgt := 22) hx hb dX0_arePollsSound_6 (by decide) (fun c2 => ?_) (fun c2 => ?_)
  · rw [if_pos c2] at hf
    refine lv_iconst (v := (0 : Int32)) hx hb dX0_arePollsSound_22 (by decide) ?_
    obtain ⟨rfl, rfl⟩ := Prod.mk.inj (Option.some.inj hf)
    exact sE_z B hr h rfl dX0_arePollsSound_23
  · rw [if_neg c2] at hf
    refine lv_aload_n hx hb dX0_arePollsSound_9 rfl (lv_at hl 0 rfl) ?_
    refine lv_aload_n hx hb dX0_arePollsSound_10 rfl (lv_at hl 1 rfl) ?_
    refine lv_iconst (v := (1 : Int32)) hx hb dX0_arePollsSound_11 (by decide) ?_
    obtain ⟨vr3, σ3, hq3, hf⟩ := wthn_some hf
    refine sRetC1 (g_runV (k := 4) (T := TX0) (N := 4) B h (ok_X0_arePollsSoundFrom B.2.2.2.2.2.2.2.2 B.2.2.2.2.2.2.1 _ _ ft1 (1 : Int32) hq3) cw_X0_75 ⟨Nat.le_of_ble_eq_true rfl, Nat.le_of_ble_eq_true rfl⟩ (by decide) (B_row _) rfl rfl hl.1.symm rfl (Nat.le_of_ble_eq_true rfl) dX0_arePollsSound_12 ⟨Nat.zero_le _, Nat.zero_le _⟩) h (fun H locs h => ?_)
    refine lv_if_eq (tgt := 22) hx hb dX0_arePollsSound_15 (by decide) (fun c4 => ?_) (fun c4 => ?_)
    · rw [if_pos c4] at hf
      refine lv_iconst (v := (0 : Int32)) hx hb dX0_arePollsSound_22 (by decide) ?_
      obtain ⟨rfl, rfl⟩ := Prod.mk.inj (Option.some.inj hf)
      exact sE_z B hr h rfl dX0_arePollsSound_23
    · rw [if_neg c4] at hf
      refine lv_iconst (v := (1 : Int32)) hx hb dX0_arePollsSound_18 (by decide) ?_
      refine lv_goto (tgt := 23) hx hb dX0_arePollsSound_19 (by decide) ?_
      obtain ⟨rfl, rfl⟩ := Prod.mk.inj (Option.some.inj hf)
      exact sE_z B hr h rfl dX0_arePollsSound_23
set_option maxRecDepth 100000 in
theorem ok_X0_arePollsSound {l : Launch} (hl0 : l.stackTraces = false) {D : va_G} {cy : Nat → ClassId} {ad : Nat → Nat} (hap : sAp ad) (X : sX) (σ : sM) {t1 : Nat} (ft1 : isT t1) {r : Int32} {σ' : sM} (hf : f_X0_arePollsSound t1 σ = some (r, σ')) : sMet l yX0_arePollsSound (sWs yX0_arePollsSound cX0_arePollsSound 2 (some .boolean)) 3 154 0 0 D cy ad X σ [.ref (ad 4), .ref (ad t1)] (.inr (some (.int r))) X σ' := by
  refine sMet_of (by decide +kernel) (Nat.le_of_ble_eq_true rfl) hap hl0 ?_
  intro p e s m args below meth c ls B hr htab hl h
  exact k_X0_arePollsSound_0 B hr _ _ ft1 hf _ _ _ h hl
set_option maxHeartbeats 4000000 in
set_option maxRecDepth 100000 in
theorem k_X0_countKeys_0 {p : Program} {l : Launch} {e : Env} {s : State} {m : MethodId} {args : Array Value} {below : List Frame} {meth : Method} {c : Code} {D : va_G} {cy : Nat → ClassId} {ad : Nat → Nat} {X : sX} {r : Int32} {σ' : sM} (B : sB p l s m meth c args cX0_countKeys 3 RX0 D cy ad) (hr : meth.sig.returnType = (some .int)) (t1 : Nat) (t2 : Nat) (σ : sM) (ft1 : isH t1) (ft2 : isH t2) (hf : f_X0_countKeys t1 t2 σ = some (r, σ')) : sGo p l e { frames := 3, cells := 0, slots := 0, locals := 154 } s m args below meth c D cy ad X 3 (sQ below args s 0 0 D cy ad (.inr (some (.int r))) X σ') σ 0 [(0, .ref (ad 4)), (1, .ref (ad t1)), (2, .ref (ad t2))] [] := by
  replace hf : (stl (va_up σ 15 (upd (σ 15) 2 (0 : Int32))) (fun σ1 => wthn (f_X1_addKeysTo t1 15 σ1) (fun _ σ2 => wthn (f_X1_addKeysTo t2 15 σ2) (fun _ σ3 => some ((σ3 15 2), σ3))))) = some (r, σ') := hf
  intro H locs ls h hl
  have hx := B.1
  have hb := B.2.1
  refine lv_aload_n hx hb dX0_countKeys_0 rfl (lv_at hl 0 rfl) ?_
  refine g_get B h 4 (by decide) (C := RX0) (T := TX0) (N := 4) (B_row _) rfl hin_X0 0 (by decide) hw86 rfl rfl dX0_countKeys_1 ?_
  refine lv_iconst (v := (0 : Int32)) hx hb dX0_countKeys_4 (by decide) ?_
  refine g_put B h 15 (T_lt ff15) (C := RX2) (T := TX2) (N := 3) (T_row ff15 _) rfl hin_X2 tyX2 tyX2_ok nmX2 2 (by decide) hw52 rfl rfl rfl rfl (upd (σ 15) 2 (0 : Int32)) (T_put2 ff15 _ _) (Nat.le_of_ble_eq_true rfl) dX0_countKeys_5 (fun H locs h => ?_)
  obtain ⟨σ1, e1, hf⟩ := stl_some hf
  rw [← e1] at h
  refine lv_aload_n hx hb dX0_countKeys_8 rfl (lv_at hl 1 rfl) ?_
  refine lv_aload_n hx hb dX0_countKeys_9 rfl (lv_at hl 0 rfl) ?_
  refine g_get B h 4 (by decide) (C := RX0) (T := TX0) (N := 4) (B_row _) rfl hin_X0 0 (by decide) hw86 rfl rfl dX0_countKeys_10 ?_
  obtain ⟨vr2, σ2, hq2, hf⟩ := wthn_some hf
  refine sRetC0 (g_runV (k := t1) (T := TX1) (N := 4) B h (ok_X1_addKeysTo B.2.2.2.2.2.2.2.2 B.2.2.2.2.2.2.1 _ _ ft1 ff15 hq2) cw_X0_35 ⟨Nat.le_of_ble_eq_true rfl, Nat.le_of_ble_eq_true rfl⟩ (H_lt ft1) (H_row ft1 _) rfl rfl hl.1.symm rfl (Nat.le_of_ble_eq_true rfl) dX0_countKeys_13 ⟨Nat.zero_le _, Nat.zero_le _⟩) h (fun H locs h => ?_)
  refine lv_aload_n hx hb dX0_countKeys_16 rfl (lv_at hl 2 rfl) ?_
  refine lv_aload_n hx hb dX0_countKeys_17 rfl (lv_at hl 0 rfl) ?_
  refine g_get B h 4 (by decide) (C := RX0) (T := TX0) (N := 4) (B_row _) rfl hin_X0 0 (by decide) hw86 rfl rfl dX0_countKeys_18 ?_
  obtain ⟨vr3, σ3, hq3, hf⟩ := wthn_some hf
  refine sRetC0 (g_runV (k := t2) (T := TX1) (N := 4) B h (ok_X1_addKeysTo B.2.2.2.2.2.2.2.2 B.2.2.2.2.2.2.1 _ _ ft2 ff15 hq3) cw_X0_35 ⟨Nat.le_of_ble_eq_true rfl, Nat.le_of_ble_eq_true rfl⟩ (H_lt ft2) (H_row ft2 _) rfl rfl hl.1.symm rfl (Nat.le_of_ble_eq_true rfl) dX0_countKeys_21 ⟨Nat.zero_le _, Nat.zero_le _⟩) h (fun H locs h => ?_)
  refine lv_aload_n hx hb dX0_countKeys_24 rfl (lv_at hl 0 rfl) ?_
  refine g_get B h 4 (by decide) (C := RX0) (T := TX0) (N := 4) (B_row _) rfl hin_X0 0 (by decide) hw86 rfl rfl dX0_countKeys_25 ?_
  refine g_get B h 15 (T_lt ff15) (C := RX2) (T := TX2) (N := 3) (T_row ff15 _) rfl hin_X2 2 (by decide) hw52 rfl rfl dX0_countKeys_28 ?_
  obtain ⟨rfl, rfl⟩ := Prod.mk.inj (Option.some.inj hf)
  exact sE_i B hr h dX0_countKeys_31
set_option maxRecDepth 100000 in
theorem ok_X0_countKeys {l : Launch} (hl0 : l.stackTraces = false) {D : va_G} {cy : Nat → ClassId} {ad : Nat → Nat} (hap : sAp ad) (X : sX) (σ : sM) {t1 : Nat} (ft1 : isH t1) {t2 : Nat} (ft2 : isH t2) {r : Int32} {σ' : sM} (hf : f_X0_countKeys t1 t2 σ = some (r, σ')) : sMet l yX0_countKeys (sWs yX0_countKeys cX0_countKeys 3 (some .int)) 3 154 0 0 D cy ad X σ [.ref (ad 4), .ref (ad t1), .ref (ad t2)] (.inr (some (.int r))) X σ' := by
  refine sMet_of (by decide +kernel) (Nat.le_of_ble_eq_true rfl) hap hl0 ?_
  intro p e s m args below meth c ls B hr htab hl h
  exact k_X0_countKeys_0 B hr _ _ _ ft1 ft2 hf _ _ _ h hl
set_option maxHeartbeats 4000000 in
set_option maxRecDepth 100000 in
theorem k_X0_countCommonKeys_0 {p : Program} {l : Launch} {e : Env} {s : State} {m : MethodId} {args : Array Value} {below : List Frame} {meth : Method} {c : Code} {D : va_G} {cy : Nat → ClassId} {ad : Nat → Nat} {X : sX} {r : Int32} {σ' : sM} (B : sB p l s m meth c args cX0_countCommonKeys 3 RX0 D cy ad) (hr : meth.sig.returnType = (some .int)) (t1 : Nat) (t2 : Nat) (σ : sM) (ft1 : isH t1) (ft2 : isH t2) (hf : f_X0_countCommonKeys t1 t2 σ = some (r, σ')) : sGo p l e { frames := 4, cells := 0, slots := 0, locals := 176 } s m args below meth c D cy ad X 3 (sQ below args s 0 0 D cy ad (.inr (some (.int r))) X σ') σ 0 [(0, .ref (ad 4)), (1, .ref (ad t1)), (2, .ref (ad t2))] [] := by
  replace hf : (wthn (f_X0_countKeys t1 t1 σ) (fun vr1 σ1 => wthn (f_X0_countKeys t2 t2 σ1) (fun vr2 σ2 => wthn (f_X0_countKeys t1 t2 σ2) (fun vr3 σ3 => some (((vr1 + vr2) - vr3), σ3))))) = some (r, σ') := hf
  intro H locs ls h hl
  have hx := B.1
  have hb := B.2.1
  refine lv_aload_n hx hb dX0_countCommonKeys_0 rfl (lv_at hl 0 rfl) ?_
  refine lv_aload_n hx hb dX0_countCommonKeys_1 rfl (lv_at hl 1 rfl) ?_
  refine lv_aload_n hx hb dX0_countCommonKeys_2 rfl (lv_at hl 1 rfl) ?_
  obtain ⟨vr1, σ1, hq1, hf⟩ := wthn_some hf
  refine sRetC1 (g_runV (k := 4) (T := TX0) (N := 4) B h (ok_X0_countKeys B.2.2.2.2.2.2.2.2 B.2.2.2.2.2.2.1 _ _ ft1 ft1 hq1) cw_X0_39 ⟨Nat.le_of_ble_eq_true rfl, Nat.le_of_ble_eq_true rfl⟩ (by decide) (B_row _) rfl rfl hl.1.symm rfl (Nat.le_of_ble_eq_true rfl) dX0_countCommonKeys_3 ⟨Nat.zero_le _, Nat.zero_le _⟩) h (fun H locs h => ?_)
  refine lv_aload_n hx hb dX0_countCommonKeys_6 rfl (lv_at hl 0 rfl) ?_
  refine lv_aload_n hx hb dX0_countCommonKeys_7 rfl (lv_at hl 2 rfl) ?_
  refine lv_aload_n hx hb dX0_countCommonKeys_8 rfl (lv_at hl 2 rfl) ?_
  obtain ⟨vr2, σ2, hq2, hf⟩ := wthn_some hf
  refine sRetC1 (g_runV (k := 4) (T := TX0) (N := 4) B h (ok_X0_countKeys B.2.2.2.2.2.2.2.2 B.2.2.2.2.2.2.1 _ _ ft2 ft2 hq2) cw_X0_39 ⟨Nat.le_of_ble_eq_true rfl, Nat.le_of_ble_eq_true rfl⟩ (by decide) (B_row _) rfl rfl hl.1.symm rfl (Nat.le_of_ble_eq_true rfl) dX0_countCommonKeys_9 ⟨Nat.zero_le _, Nat.zero_le _⟩) h (fun H locs h => ?_)
  refine lv_iadd hx hb dX0_countCommonKeys_12 ?_
  refine lv_aload_n hx hb dX0_countCommonKeys_13 rfl (lv_at hl 0 rfl) ?_
  refine lv_aload_n hx hb dX0_countCommonKeys_14 rfl (lv_at hl 1 rfl) ?_
  refine lv_aload_n hx hb dX0_countCommonKeys_15 rfl (lv_at hl 2 rfl) ?_
  obtain ⟨vr3, σ3, hq3, hf⟩ := wthn_some hf
  refine sRetC1 (g_runV (k := 4) (T := TX0) (N := 4) B h (ok_X0_countKeys B.2.2.2.2.2.2.2.2 B.2.2.2.2.2.2.1 _ _ ft1 ft2 hq3) cw_X0_39 ⟨Nat.le_of_ble_eq_true rfl, Nat.le_of_ble_eq_true rfl⟩ (by decide) (B_row _) rfl rfl hl.1.symm rfl (Nat.le_of_ble_eq_true rfl) dX0_countCommonKeys_16 ⟨Nat.zero_le _, Nat.zero_le _⟩) h (fun H locs h => ?_)
  refine lv_isub hx hb dX0_countCommonKeys_19 ?_
  obtain ⟨rfl, rfl⟩ := Prod.mk.inj (Option.some.inj hf)
  exact sE_i B hr h dX0_countCommonKeys_20
set_option maxRecDepth 100000 in
theorem ok_X0_countCommonKeys {l : Launch} (hl0 : l.stackTraces = false) {D : va_G} {cy : Nat → ClassId} {ad : Nat → Nat} (hap : sAp ad) (X : sX) (σ : sM) {t1 : Nat} (ft1 : isH t1) {t2 : Nat} (ft2 : isH t2) {r : Int32} {σ' : sM} (hf : f_X0_countCommonKeys t1 t2 σ = some (r, σ')) : sMet l yX0_countCommonKeys (sWs yX0_countCommonKeys cX0_countCommonKeys 3 (some .int)) 4 176 0 0 D cy ad X σ [.ref (ad 4), .ref (ad t1), .ref (ad t2)] (.inr (some (.int r))) X σ' := by
  refine sMet_of (by decide +kernel) (Nat.le_of_ble_eq_true rfl) hap hl0 ?_
  intro p e s m args below meth c ls B hr htab hl h
  exact k_X0_countCommonKeys_0 B hr _ _ _ ft1 ft2 hf _ _ _ h hl
set_option maxHeartbeats 4000000 in
set_option maxRecDepth 100000 in
theorem k_X0_hasRoom_0 {p : Program} {l : Launch} {e : Env} {s : State} {m : MethodId} {args : Array Value} {below : List Frame} {meth : Method} {c : Code} {D : va_G} {cy : Nat → ClassId} {ad : Nat → Nat} {X : sX} {r : Int32} {σ' : sM} (B : sB p l s m meth c args cX0_hasRoom 4 RX0 D cy ad) (hr : meth.sig.returnType = (some .boolean)) (t1 : Nat) (t2 : Nat) (t3 : Nat) (σ : sM) (ft1 : isT t1) (ft2 : isH t2) (ft3 : isH t3) (hf : f_X0_hasRoom t1 t2 t3 σ = some (r, σ')) : sGo p l e { frames := 4, cells := 0, slots := 0, locals := 176 } s m args below meth c D cy ad X 4 (sQ below args s 0 0 D cy ad (.inr (some (.int r))) X σ') σ 0 [(0, .ref (ad 4)), (1, .ref (ad t1)), (2, .ref (ad t2)), (3, .ref (ad t3))] [] := by
  replace hf : (wthn (f_X0_countKeys t2 t3 σ) (fun vr1 σ1 => rthn (f_X2_countMissingIn 15 t1 σ1) (fun vr2 => if (60 : Int32) < ((σ1 t1 2) + vr2) then (some ((0 : Int32), σ1)) else (some ((1 : Int32), σ1))))) = some (r, σ') := hf
  intro H locs ls h hl
  have hx := B.1
  have hb := B.2.1
  refine lv_aload_n hx hb dX0_hasRoom_0 rfl (lv_at hl 0 rfl) ?_
  refine lv_aload_n hx hb dX0_hasRoom_1 rfl (lv_at hl 2 rfl) ?_
  refine lv_aload_n hx hb dX0_hasRoom_2 rfl (lv_at hl 3 rfl) ?_
  obtain ⟨vr1, σ1, hq1, hf⟩ := wthn_some hf
  refine sRetC1 (g_runV (k := 4) (T := TX0) (N := 4) B h (ok_X0_countKeys B.2.2.2.2.2.2.2.2 B.2.2.2.2.2.2.1 _ _ ft2 ft3 hq1) cw_X0_39 ⟨Nat.le_of_ble_eq_true rfl, Nat.le_of_ble_eq_true rfl⟩ (by decide) (B_row _) rfl rfl hl.1.symm rfl (Nat.le_of_ble_eq_true rfl) dX0_hasRoom_3 ⟨Nat.zero_le _, Nat.zero_le _⟩) h (fun H locs h => ?_)
  refine lv_pop hx hb dX0_hasRoom_6 rfl ?_
  refine lv_aload_n hx hb dX0_hasRoom_7 rfl (lv_at hl 1 rfl) ?_
  refine g_get B h t1 (T_lt ft1) (C := RX2) (T := TX2) (N := 3) (T_row ft1 _) rfl hin_X2 2 (by decide) hw52 rfl rfl dX0_hasRoom_8 ?_
  refine lv_aload_n hx hb dX0_hasRoom_11 rfl (lv_at hl 0 rfl) ?_
  refine g_get B h 4 (by decide) (C := RX0) (T := TX0) (N := 4) (B_row _) rfl hin_X0 0 (by decide) hw86 rfl rfl dX0_hasRoom_12 ?_
  refine lv_aload_n hx hb dX0_hasRoom_15 rfl (lv_at hl 1 rfl) ?_
  obtain ⟨vr2, hq2, hf⟩ := rthn_some hf
  refine sRetC1 (g_runV (k := 15) (T := TX2) (N := 3) B h (ok_X2_countMissingIn B.2.2.2.2.2.2.2.2 B.2.2.2.2.2.2.1 _ _ ff15 ft1 hq2) cw_X0_43 ⟨Nat.le_of_ble_eq_true rfl, Nat.le_of_ble_eq_true rfl⟩ (T_lt ff15) (T_row ff15 _) rfl rfl hl.1.symm rfl (Nat.le_of_ble_eq_true rfl) dX0_hasRoom_16 ⟨Nat.zero_le _, Nat.zero_le _⟩) h (fun H locs h => ?_)
  refine lv_iadd hx hb dX0_hasRoom_19 ?_
  refine lv_bipush (v := (60 : Int32)) hx hb dX0_hasRoom_20 (by decide) ?_
  refine lv_icmp_gt (tgt := 29) hx hb dX0_hasRoom_22 (by decide) (fun c3 => ?_) (fun c3 => ?_)
  · rw [if_pos c3] at hf
    refine lv_iconst (v := (0 : Int32)) hx hb dX0_hasRoom_29 (by decide) ?_
    obtain ⟨rfl, rfl⟩ := Prod.mk.inj (Option.some.inj hf)
    exact sE_z B hr h rfl dX0_hasRoom_30
  · rw [if_neg c3] at hf
    refine lv_iconst (v := (1 : Int32)) hx hb dX0_hasRoom_25 (by decide) ?_
    refine lv_goto (tgt := 30) hx hb dX0_hasRoom_26 (by decide) ?_
    obtain ⟨rfl, rfl⟩ := Prod.mk.inj (Option.some.inj hf)
    exact sE_z B hr h rfl dX0_hasRoom_30
set_option maxRecDepth 100000 in
theorem ok_X0_hasRoom {l : Launch} (hl0 : l.stackTraces = false) {D : va_G} {cy : Nat → ClassId} {ad : Nat → Nat} (hap : sAp ad) (X : sX) (σ : sM) {t1 : Nat} (ft1 : isT t1) {t2 : Nat} (ft2 : isH t2) {t3 : Nat} (ft3 : isH t3) {r : Int32} {σ' : sM} (hf : f_X0_hasRoom t1 t2 t3 σ = some (r, σ')) : sMet l yX0_hasRoom (sWs yX0_hasRoom cX0_hasRoom 4 (some .boolean)) 4 176 0 0 D cy ad X σ [.ref (ad 4), .ref (ad t1), .ref (ad t2), .ref (ad t3)] (.inr (some (.int r))) X σ' := by
  refine sMet_of (by decide +kernel) (Nat.le_of_ble_eq_true rfl) hap hl0 ?_
  intro p e s m args below meth c ls B hr htab hl h
  exact k_X0_hasRoom_0 B hr _ _ _ _ ft1 ft2 ft3 hf _ _ _ h hl
set_option maxHeartbeats 4000000 in
set_option maxRecDepth 100000 in
theorem k_X0_isMixAlike_0 {p : Program} {l : Launch} {e : Env} {s : State} {m : MethodId} {args : Array Value} {below : List Frame} {meth : Method} {c : Code} {D : va_G} {cy : Nat → ClassId} {ad : Nat → Nat} {X : sX} {r : Int32} {σ' : sM} (B : sB p l s m meth c args cX0_isMixAlike 4 RX0 D cy ad) (hr : meth.sig.returnType = (some .boolean)) (t1 : Nat) (t2 : Nat) (v3 : Int32) (σ : sM) (ft1 : isT t1) (ft2 : isT t2) (hf : f_X0_isMixAlike t1 t2 v3 σ = some (r, σ')) : sGo p l e { frames := 3, cells := 0, slots := 0, locals := 158 } s m args below meth c D cy ad X 4 (sQ below args s 0 0 D cy ad (.inr (some (.int r))) X σ') σ 0 [(0, .ref (ad 4)), (1, .ref (ad t1)), (2, .ref (ad t2)), (3, .int v3)] [] := by
  replace hf : (wthn (f_X2_becomeCopy 18 t2 σ) (fun _ σ1 => wthn (f_X2_takeIn 18 t1 v3 σ1) (fun _ σ2 => wthn (f_X2_becomeCopy 21 t1 σ2) (fun _ σ3 => wthn (f_X2_takeIn 21 t2 v3 σ3) (fun _ σ4 => rthn (f_X2_isSame 18 21 σ4) (fun vr5 => chk (isb vr5) (some (vr5, σ4)))))))) = some (r, σ') := hf
  intro H locs ls h hl
  have hx := B.1
  have hb := B.2.1
  refine lv_aload_n hx hb dX0_isMixAlike_0 rfl (lv_at hl 0 rfl) ?_
  refine g_get B h 4 (by decide) (C := RX0) (T := TX0) (N := 4) (B_row _) rfl hin_X0 1 (by decide) hw87 rfl rfl dX0_isMixAlike_1 ?_
  refine lv_aload_n hx hb dX0_isMixAlike_4 rfl (lv_at hl 2 rfl) ?_
  obtain ⟨vr1, σ1, hq1, hf⟩ := wthn_some hf
  refine sRetC0 (g_runV (k := 18) (T := TX2) (N := 3) B h (ok_X2_becomeCopy B.2.2.2.2.2.2.2.2 B.2.2.2.2.2.2.1 _ _ ff18 ft2 hq1) cw_X0_79 ⟨Nat.le_of_ble_eq_true rfl, Nat.le_of_ble_eq_true rfl⟩ (T_lt ff18) (T_row ff18 _) rfl rfl hl.1.symm rfl (Nat.le_of_ble_eq_true rfl) dX0_isMixAlike_5 ⟨Nat.zero_le _, Nat.zero_le _⟩) h (fun H locs h => ?_)
  refine lv_aload_n hx hb dX0_isMixAlike_8 rfl (lv_at hl 0 rfl) ?_
  refine g_get B h 4 (by decide) (C := RX0) (T := TX0) (N := 4) (B_row _) rfl hin_X0 1 (by decide) hw87 rfl rfl dX0_isMixAlike_9 ?_
  refine lv_aload_n hx hb dX0_isMixAlike_12 rfl (lv_at hl 1 rfl) ?_
  refine lv_iload_n hx hb dX0_isMixAlike_13 rfl (lv_at hl 3 rfl) ?_
  obtain ⟨vr2, σ2, hq2, hf⟩ := wthn_some hf
  refine sRetC0 (g_runV (k := 18) (T := TX2) (N := 3) B h (ok_X2_takeIn B.2.2.2.2.2.2.2.2 B.2.2.2.2.2.2.1 _ _ ff18 ft1 v3 hq2) cw_X0_104 ⟨Nat.le_of_ble_eq_true rfl, Nat.le_of_ble_eq_true rfl⟩ (T_lt ff18) (T_row ff18 _) rfl rfl hl.1.symm rfl (Nat.le_of_ble_eq_true rfl) dX0_isMixAlike_14 ⟨Nat.zero_le _, Nat.zero_le _⟩) h (fun H locs h => ?_)
  refine lv_aload_n hx hb dX0_isMixAlike_17 rfl (lv_at hl 0 rfl) ?_
  refine g_get B h 4 (by decide) (C := RX0) (T := TX0) (N := 4) (B_row _) rfl hin_X0 2 (by decide) hw88 rfl rfl dX0_isMixAlike_18 ?_
  refine lv_aload_n hx hb dX0_isMixAlike_21 rfl (lv_at hl 1 rfl) ?_
  obtain ⟨vr3, σ3, hq3, hf⟩ := wthn_some hf
  refine sRetC0 (g_runV (k := 21) (T := TX2) (N := 3) B h (ok_X2_becomeCopy B.2.2.2.2.2.2.2.2 B.2.2.2.2.2.2.1 _ _ ff21 ft1 hq3) cw_X0_79 ⟨Nat.le_of_ble_eq_true rfl, Nat.le_of_ble_eq_true rfl⟩ (T_lt ff21) (T_row ff21 _) rfl rfl hl.1.symm rfl (Nat.le_of_ble_eq_true rfl) dX0_isMixAlike_22 ⟨Nat.zero_le _, Nat.zero_le _⟩) h (fun H locs h => ?_)
  refine lv_aload_n hx hb dX0_isMixAlike_25 rfl (lv_at hl 0 rfl) ?_
  refine g_get B h 4 (by decide) (C := RX0) (T := TX0) (N := 4) (B_row _) rfl hin_X0 2 (by decide) hw88 rfl rfl dX0_isMixAlike_26 ?_
  refine lv_aload_n hx hb dX0_isMixAlike_29 rfl (lv_at hl 2 rfl) ?_
  refine lv_iload_n hx hb dX0_isMixAlike_30 rfl (lv_at hl 3 rfl) ?_
  obtain ⟨vr4, σ4, hq4, hf⟩ := wthn_some hf
  refine sRetC0 (g_runV (k := 21) (T := TX2) (N := 3) B h (ok_X2_takeIn B.2.2.2.2.2.2.2.2 B.2.2.2.2.2.2.1 _ _ ff21 ft2 v3 hq4) cw_X0_104 ⟨Nat.le_of_ble_eq_true rfl, Nat.le_of_ble_eq_true rfl⟩ (T_lt ff21) (T_row ff21 _) rfl rfl hl.1.symm rfl (Nat.le_of_ble_eq_true rfl) dX0_isMixAlike_31 ⟨Nat.zero_le _, Nat.zero_le _⟩) h (fun H locs h => ?_)
  refine lv_aload_n hx hb dX0_isMixAlike_34 rfl (lv_at hl 0 rfl) ?_
  refine g_get B h 4 (by decide) (C := RX0) (T := TX0) (N := 4) (B_row _) rfl hin_X0 1 (by decide) hw87 rfl rfl dX0_isMixAlike_35 ?_
  refine lv_aload_n hx hb dX0_isMixAlike_38 rfl (lv_at hl 0 rfl) ?_
  refine g_get B h 4 (by decide) (C := RX0) (T := TX0) (N := 4) (B_row _) rfl hin_X0 2 (by decide) hw88 rfl rfl dX0_isMixAlike_39 ?_
  obtain ⟨vr5, hq5, hf⟩ := rthn_some hf
  refine sRetC1 (g_runV (k := 18) (T := TX2) (N := 3) B h (ok_X2_isSame B.2.2.2.2.2.2.2.2 B.2.2.2.2.2.2.1 _ _ ff18 ff21 hq5) cw_X0_96 ⟨Nat.le_of_ble_eq_true rfl, Nat.le_of_ble_eq_true rfl⟩ (T_lt ff18) (T_row ff18 _) rfl rfl hl.1.symm rfl (Nat.le_of_ble_eq_true rfl) dX0_isMixAlike_42 ⟨Nat.zero_le _, Nat.zero_le _⟩) h (fun H locs h => ?_)
  obtain ⟨c6, hf⟩ := chk_some hf
  obtain ⟨rfl, rfl⟩ := Prod.mk.inj (Option.some.inj hf)
  exact sE_z B hr h (isb_n c6) dX0_isMixAlike_45
set_option maxRecDepth 100000 in
theorem ok_X0_isMixAlike {l : Launch} (hl0 : l.stackTraces = false) {D : va_G} {cy : Nat → ClassId} {ad : Nat → Nat} (hap : sAp ad) (X : sX) (σ : sM) {t1 : Nat} (ft1 : isT t1) {t2 : Nat} (ft2 : isT t2) (v3 : Int32) {r : Int32} {σ' : sM} (hf : f_X0_isMixAlike t1 t2 v3 σ = some (r, σ')) : sMet l yX0_isMixAlike (sWs yX0_isMixAlike cX0_isMixAlike 4 (some .boolean)) 3 158 0 0 D cy ad X σ [.ref (ad 4), .ref (ad t1), .ref (ad t2), .int v3] (.inr (some (.int r))) X σ' := by
  refine sMet_of (by decide +kernel) (Nat.le_of_ble_eq_true rfl) hap hl0 ?_
  intro p e s m args below meth c ls B hr htab hl h
  exact k_X0_isMixAlike_0 B hr _ _ _ _ ft1 ft2 hf _ _ _ h hl
set_option maxHeartbeats 4000000 in
set_option maxRecDepth 100000 in
theorem k_X0_isOrderFree_0 {p : Program} {l : Launch} {e : Env} {s : State} {m : MethodId} {args : Array Value} {below : List Frame} {meth : Method} {c : Code} {D : va_G} {cy : Nat → ClassId} {ad : Nat → Nat} {X : sX} {r : Int32} {σ' : sM} (B : sB p l s m meth c args cX0_isOrderFree 4 RX0 D cy ad) (hr : meth.sig.returnType = (some .boolean)) (t1 : Nat) (t2 : Nat) (t3 : Nat) (σ : sM) (ft1 : isH t1) (ft2 : isH t2) (ft3 : isT t3) (hf : f_X0_isOrderFree t1 t2 t3 σ = some (r, σ')) : sGo p l e { frames := 5, cells := 0, slots := 0, locals := 199 } s m args below meth c D cy ad X 4 (sQ below args s 0 0 D cy ad (.inr (some (.int r))) X σ') σ 0 [(0, .ref (ad 4)), (1, .ref (ad t1)), (2, .ref (ad t2)), (3, .ref (ad t3))] [] := by
  replace hf : (wthn (f_X0_countCommonKeys t1 t2 σ) (fun vr1 σ1 => if vr1 ≤ 0 then (wthn (f_X2_becomeCopy 18 t3 σ1) (fun _ σ3 => wthn (f_X1_playOn t1 18 σ3) (fun vr4 σ4 => wthn (f_X1_playOn t2 18 σ4) (fun vr5 σ5 => wthn (f_X2_becomeCopy 21 t3 σ5) (fun _ σ6 => wthn (f_X1_playOn t2 21 σ6) (fun vr7 σ7 => wthn (f_X1_playOn t1 21 σ7) (fun vr8 σ8 => rthn (f_X2_isSame 18 21 σ8) (fun vr9 => chk (isb vr9) (some (vr9, σ8)))))))))) else (some ((1 : Int32), σ1)))) = some (r, σ') := hf
  intro H locs ls h hl
  have hx := B.1
  have hb := B.2.1
  refine lv_aload_n hx hb dX0_isOrderFree_0 rfl (lv_at hl 0 rfl) ?_
  refine lv_aload_n hx hb dX0_isOrderFree_1 rfl (lv_at hl 1 rfl) ?_
  refine lv_aload_n hx hb dX0_isOrderFree_2 rfl (lv_at hl 2 rfl) ?_
  obtain ⟨vr1, σ1, hq1, hf⟩ := wthn_some hf
  refine sRetC1 (g_runV (k := 4) (T := TX0) (N := 4) B h (ok_X0_countCommonKeys B.2.2.2.2.2.2.2.2 B.2.2.2.2.2.2.1 _ _ ft1 ft2 hq1) cw_X0_90 ⟨Nat.le_of_ble_eq_true rfl, Nat.le_of_ble_eq_true rfl⟩ (by decide) (B_row _) rfl rfl hl.1.symm rfl (Nat.le_of_ble_eq_true rfl) dX0_isOrderFree_3 ⟨Nat.zero_le _, Nat.zero_le _⟩) h (fun H locs h => ?_)
  refine lv_if_le (tgt := 11) hx hb dX0_isOrderFree_6 (by decide) (fun c2 => ?_) (fun c2 => ?_)
  · rw [if_pos c2] at hf
    refine lv_aload_n hx hb dX0_isOrderFree_11 rfl (lv_at hl 0 rfl) ?_
    refine g_get B h 4 (by decide) (C := RX0) (T := TX0) (N := 4) (B_row _) rfl hin_X0 1 (by decide) hw87 rfl rfl dX0_isOrderFree_12 ?_
    refine lv_aload_n hx hb dX0_isOrderFree_15 rfl (lv_at hl 3 rfl) ?_
    obtain ⟨vr3, σ3, hq3, hf⟩ := wthn_some hf
    refine sRetC0 (g_runV (k := 18) (T := TX2) (N := 3) B h (ok_X2_becomeCopy B.2.2.2.2.2.2.2.2 B.2.2.2.2.2.2.1 _ _ ff18 ft3 hq3) cw_X0_79 ⟨Nat.le_of_ble_eq_true rfl, Nat.le_of_ble_eq_true rfl⟩ (T_lt ff18) (T_row ff18 _) rfl rfl hl.1.symm rfl (Nat.le_of_ble_eq_true rfl) dX0_isOrderFree_16 ⟨Nat.zero_le _, Nat.zero_le _⟩) h (fun H locs h => ?_)
    refine lv_aload_n hx hb dX0_isOrderFree_19 rfl (lv_at hl 1 rfl) ?_
    refine lv_aload_n hx hb dX0_isOrderFree_20 rfl (lv_at hl 0 rfl) ?_
    refine g_get B h 4 (by decide) (C := RX0) (T := TX0) (N := 4) (B_row _) rfl hin_X0 1 (by decide) hw87 rfl rfl dX0_isOrderFree_21 ?_
    obtain ⟨vr4, σ4, hq4, hf⟩ := wthn_some hf
    refine sRetC1 (g_runV (k := t1) (T := TX1) (N := 4) B h (ok_X1_playOn B.2.2.2.2.2.2.2.2 B.2.2.2.2.2.2.1 _ _ ft1 ff18 hq4) cw_X0_93 ⟨Nat.le_of_ble_eq_true rfl, Nat.le_of_ble_eq_true rfl⟩ (H_lt ft1) (H_row ft1 _) rfl rfl hl.1.symm rfl (Nat.le_of_ble_eq_true rfl) dX0_isOrderFree_24 ⟨Nat.zero_le _, Nat.zero_le _⟩) h (fun H locs h => ?_)
    refine lv_pop hx hb dX0_isOrderFree_27 rfl ?_
    refine lv_aload_n hx hb dX0_isOrderFree_28 rfl (lv_at hl 2 rfl) ?_
    refine lv_aload_n hx hb dX0_isOrderFree_29 rfl (lv_at hl 0 rfl) ?_
    refine g_get B h 4 (by decide) (C := RX0) (T := TX0) (N := 4) (B_row _) rfl hin_X0 1 (by decide) hw87 rfl rfl dX0_isOrderFree_30 ?_
    obtain ⟨vr5, σ5, hq5, hf⟩ := wthn_some hf
    refine sRetC1 (g_runV (k := t2) (T := TX1) (N := 4) B h (ok_X1_playOn B.2.2.2.2.2.2.2.2 B.2.2.2.2.2.2.1 _ _ ft2 ff18 hq5) cw_X0_93 ⟨Nat.le_of_ble_eq_true rfl, Nat.le_of_ble_eq_true rfl⟩ (H_lt ft2) (H_row ft2 _) rfl rfl hl.1.symm rfl (Nat.le_of_ble_eq_true rfl) dX0_isOrderFree_33 ⟨Nat.zero_le _, Nat.zero_le _⟩) h (fun H locs h => ?_)
    refine lv_pop hx hb dX0_isOrderFree_36 rfl ?_
    refine lv_aload_n hx hb dX0_isOrderFree_37 rfl (lv_at hl 0 rfl) ?_
    refine g_get B h 4 (by decide) (C := RX0) (T := TX0) (N := 4) (B_row _) rfl hin_X0 2 (by decide) hw88 rfl rfl dX0_isOrderFree_38 ?_
    refine lv_aload_n hx hb dX0_isOrderFree_41 rfl (lv_at hl 3 rfl) ?_
    obtain ⟨vr6, σ6, hq6, hf⟩ := wthn_some hf
    refine sRetC0 (g_runV (k := 21) (T := TX2) (N := 3) B h (ok_X2_becomeCopy B.2.2.2.2.2.2.2.2 B.2.2.2.2.2.2.1 _ _ ff21 ft3 hq6) cw_X0_79 ⟨Nat.le_of_ble_eq_true rfl, Nat.le_of_ble_eq_true rfl⟩ (T_lt ff21) (T_row ff21 _) rfl rfl hl.1.symm rfl (Nat.le_of_ble_eq_true rfl) dX0_isOrderFree_42 ⟨Nat.zero_le _, Nat.zero_le _⟩) h (fun H locs h => ?_)
    refine lv_aload_n hx hb dX0_isOrderFree_45 rfl (lv_at hl 2 rfl) ?_
    refine lv_aload_n hx hb dX0_isOrderFree_46 rfl (lv_at hl 0 rfl) ?_
    refine g_get B h 4 (by decide) (C := RX0) (T := TX0) (N := 4) (B_row _) rfl hin_X0 2 (by decide) hw88 rfl rfl dX0_isOrderFree_47 ?_
    obtain ⟨vr7, σ7, hq7, hf⟩ := wthn_some hf
    refine sRetC1 (g_runV (k := t2) (T := TX1) (N := 4) B h (ok_X1_playOn B.2.2.2.2.2.2.2.2 B.2.2.2.2.2.2.1 _ _ ft2 ff21 hq7) cw_X0_93 ⟨Nat.le_of_ble_eq_true rfl, Nat.le_of_ble_eq_true rfl⟩ (H_lt ft2) (H_row ft2 _) rfl rfl hl.1.symm rfl (Nat.le_of_ble_eq_true rfl) dX0_isOrderFree_50 ⟨Nat.zero_le _, Nat.zero_le _⟩) h (fun H locs h => ?_)
    refine lv_pop hx hb dX0_isOrderFree_53 rfl ?_
    refine lv_aload_n hx hb dX0_isOrderFree_54 rfl (lv_at hl 1 rfl) ?_
    refine lv_aload_n hx hb dX0_isOrderFree_55 rfl (lv_at hl 0 rfl) ?_
    refine g_get B h 4 (by decide) (C := RX0) (T := TX0) (N := 4) (B_row _) rfl hin_X0 2 (by decide) hw88 rfl rfl dX0_isOrderFree_56 ?_
    obtain ⟨vr8, σ8, hq8, hf⟩ := wthn_some hf
    refine sRetC1 (g_runV (k := t1) (T := TX1) (N := 4) B h (ok_X1_playOn B.2.2.2.2.2.2.2.2 B.2.2.2.2.2.2.1 _ _ ft1 ff21 hq8) cw_X0_93 ⟨Nat.le_of_ble_eq_true rfl, Nat.le_of_ble_eq_true rfl⟩ (H_lt ft1) (H_row ft1 _) rfl rfl hl.1.symm rfl (Nat.le_of_ble_eq_true rfl) dX0_isOrderFree_59 ⟨Nat.zero_le _, Nat.zero_le _⟩) h (fun H locs h => ?_)
    refine lv_pop hx hb dX0_isOrderFree_62 rfl ?_
    refine lv_aload_n hx hb dX0_isOrderFree_63 rfl (lv_at hl 0 rfl) ?_
    refine g_get B h 4 (by decide) (C := RX0) (T := TX0) (N := 4) (B_row _) rfl hin_X0 1 (by decide) hw87 rfl rfl dX0_isOrderFree_64 ?_
    refine lv_aload_n hx hb dX0_isOrderFree_67 rfl (lv_at hl 0 rfl) ?_
    refine g_get B h 4 (by decide) (C := RX0) (T := TX0) (N := 4) (B_row _) rfl hin_X0 2 (by decide) hw88 rfl rfl dX0_isOrderFree_68 ?_
    obtain ⟨vr9, hq9, hf⟩ := rthn_some hf
    refine sRetC1 (g_runV (k := 18) (T := TX2) (N := 3) B h (ok_X2_isSame B.2.2.2.2.2.2.2.2 B.2.2.2.2.2.2.1 _ _ ff18 ff21 hq9) cw_X0_96 ⟨Nat.le_of_ble_eq_true rfl, Nat.le_of_ble_eq_true rfl⟩ (T_lt ff18) (T_row ff18 _) rfl rfl hl.1.symm rfl (Nat.le_of_ble_eq_true rfl) dX0_isOrderFree_71 ⟨Nat.zero_le _, Nat.zero_le _⟩) h (fun H locs h => ?_)
    obtain ⟨c10, hf⟩ := chk_some hf
    obtain ⟨rfl, rfl⟩ := Prod.mk.inj (Option.some.inj hf)
    exact sE_z B hr h (isb_n c10) dX0_isOrderFree_74
  · rw [if_neg c2] at hf
    refine lv_iconst (v := (1 : Int32)) hx hb dX0_isOrderFree_9 (by decide) ?_
    obtain ⟨rfl, rfl⟩ := Prod.mk.inj (Option.some.inj hf)
    exact sE_z B hr h rfl dX0_isOrderFree_10
set_option maxRecDepth 100000 in
theorem ok_X0_isOrderFree {l : Launch} (hl0 : l.stackTraces = false) {D : va_G} {cy : Nat → ClassId} {ad : Nat → Nat} (hap : sAp ad) (X : sX) (σ : sM) {t1 : Nat} (ft1 : isH t1) {t2 : Nat} (ft2 : isH t2) {t3 : Nat} (ft3 : isT t3) {r : Int32} {σ' : sM} (hf : f_X0_isOrderFree t1 t2 t3 σ = some (r, σ')) : sMet l yX0_isOrderFree (sWs yX0_isOrderFree cX0_isOrderFree 4 (some .boolean)) 5 199 0 0 D cy ad X σ [.ref (ad 4), .ref (ad t1), .ref (ad t2), .ref (ad t3)] (.inr (some (.int r))) X σ' := by
  refine sMet_of (by decide +kernel) (Nat.le_of_ble_eq_true rfl) hap hl0 ?_
  intro p e s m args below meth c ls B hr htab hl h
  exact k_X0_isOrderFree_0 B hr _ _ _ _ ft1 ft2 ft3 hf _ _ _ h hl
set_option maxHeartbeats 4000000 in
set_option maxRecDepth 100000 in
theorem k_X0_turnRound_24 {p : Program} {l : Launch} {e : Env} {s : State} {m : MethodId} {args : Array Value} {below : List Frame} {meth : Method} {c : Code} {D : va_G} {cy : Nat → ClassId} {ad : Nat → Nat} {X : sX} {r : Unit} {σ' : sM} (B : sB p l s m meth c args cX0_turnRound 7 RX0 D cy ad) (hr : meth.sig.returnType = none) : ∀ (n : Nat) (t2 : Nat) (t3 : Nat) (v4 : Int32) (σ : sM) (ft2 : isT t2) (ft3 : isH t3), b_X0_turnRound_24 n t2 t3 v4 σ = some (r, σ') → sGo p l e { frames := 3, cells := 0, slots := 0, locals := 154 } s m args below meth c D cy ad X 7 (sQ below args s 0 0 D cy ad (.inr none) X σ') σ 24 [(0, .ref (ad 4)), (2, .ref (ad t2)), (3, .ref (ad t3)), (4, .int v4)] [] := by
  intro n
  induction n with
  | zero =>
    intro t2 t3 v4 σ ft2 ft3 hf
    exact nomatch (show none = some (r, σ') from hf)
  | succ n ih =>
    intro t2 t3 v4 σ ft2 ft3 hf
    replace hf : (if (σ 15 2) ≤ v4 then (some ((), σ)) else (chk (inb v4 120) (rthn (f_X2_placeOf t2 (σ (15 + 1) (v4).toNatClampNeg) σ) (fun vr6 => if 0 ≤ vr6 then (chk (inb vr6 120) (wthn (f_X1_add t3 (112 : Int32) (σ (15 + 1) (v4).toNatClampNeg) (σ (t2 + 2) (vr6).toNatClampNeg) σ) (fun _ σ9 => b_X0_turnRound_24 n t2 t3 (v4 + 1) σ9))) else (wthn (f_X1_add t3 (114 : Int32) (σ (15 + 1) (v4).toNatClampNeg) (0 : Int32) σ) (fun _ σ10 => b_X0_turnRound_24 n t2 t3 (v4 + 1) σ10)))))) = some (r, σ') := hf
    intro H locs ls h hl
    have hx := B.1
    have hb := B.2.1
    refine lv_iload hx hb dX0_turnRound_24 (lv_at hl 3 rfl) ?_
    refine lv_aload_n hx hb dX0_turnRound_26 rfl (lv_at hl 0 rfl) ?_
    refine g_get B h 4 (by decide) (C := RX0) (T := TX0) (N := 4) (B_row _) rfl hin_X0 0 (by decide) hw86 rfl rfl dX0_turnRound_27 ?_
    refine g_get B h 15 (T_lt ff15) (C := RX2) (T := TX2) (N := 3) (T_row ff15 _) rfl hin_X2 2 (by decide) hw52 rfl rfl dX0_turnRound_30 ?_
    refine lv_icmp_ge (tgt := 94) hx hb dX0_turnRound_33 (by decide) (fun c4 => ?_) (fun c4 => ?_)
    · rw [if_pos c4] at hf
      obtain ⟨rfl, rfl⟩ := Prod.mk.inj (Option.some.inj hf)
      exact sE_v B hr h dX0_turnRound_94
    · rw [if_neg c4] at hf
      refine lv_aload_n hx hb dX0_turnRound_36 rfl (lv_at hl 0 rfl) ?_
      refine g_get B h 4 (by decide) (C := RX0) (T := TX0) (N := 4) (B_row _) rfl hin_X0 0 (by decide) hw86 rfl rfl dX0_turnRound_37 ?_
      refine g_get B h 15 (T_lt ff15) (C := RX2) (T := TX2) (N := 3) (T_row ff15 _) rfl hin_X2 0 (by decide) hw46 rfl rfl dX0_turnRound_40 ?_
      refine lv_iload hx hb dX0_turnRound_43 (lv_at hl 3 rfl) ?_
      obtain ⟨c5, hf⟩ := chk_some hf
      refine g_iald B h (15 + 1) (T_lt1 ff15) (n := 120) (T_keys ff15) (inb_in c5) dX0_turnRound_45 ?_
      refine lv_istore (lv' := [(5, .int (σ (15 + 1) (v4).toNatClampNeg)), (0, .ref (ad 4)), (2, .ref (ad t2)), (3, .ref (ad t3)), (4, .int v4)]) hx hb dX0_turnRound_46 hl (by decide) rfl (fun ls hl => ?_)
      refine lv_aload_n hx hb dX0_turnRound_48 rfl (lv_at hl 2 rfl) ?_
      refine lv_iload hx hb dX0_turnRound_49 (lv_at hl 0 rfl) ?_
      obtain ⟨vr6, hq6, hf⟩ := rthn_some hf
      refine sRetC1 (g_runV (k := t2) (T := TX2) (N := 3) B h (ok_X2_placeOf B.2.2.2.2.2.2.2.2 B.2.2.2.2.2.2.1 _ _ ft2 (σ (15 + 1) (v4).toNatClampNeg) hq6) cw_X0_52 ⟨Nat.le_of_ble_eq_true rfl, Nat.le_of_ble_eq_true rfl⟩ (T_lt ft2) (T_row ft2 _) rfl rfl hl.1.symm rfl (Nat.le_of_ble_eq_true rfl) dX0_turnRound_51 ⟨Nat.zero_le _, Nat.zero_le _⟩) h (fun H locs h => ?_)
      refine lv_istore (lv' := [(6, .int vr6), (5, .int (σ (15 + 1) (v4).toNatClampNeg)), (0, .ref (ad 4)), (2, .ref (ad t2)), (3, .ref (ad t3)), (4, .int v4)]) hx hb dX0_turnRound_54 hl (by decide) rfl (fun ls hl => ?_)
      refine lv_iload hx hb dX0_turnRound_56 (lv_at hl 0 rfl) ?_
      refine lv_if_ge (tgt := 73) hx hb dX0_turnRound_58 (by decide) (fun c7 => ?_) (fun c7 => ?_)
      · rw [if_pos c7] at hf
        refine lv_aload_n hx hb dX0_turnRound_73 rfl (lv_at hl 4 rfl) ?_
        refine lv_bipush (v := (112 : Int32)) hx hb dX0_turnRound_74 (by decide) ?_
        refine lv_iload hx hb dX0_turnRound_76 (lv_at hl 1 rfl) ?_
        refine lv_aload_n hx hb dX0_turnRound_78 rfl (lv_at hl 3 rfl) ?_
        refine g_get B h t2 (T_lt ft2) (C := RX2) (T := TX2) (N := 3) (T_row ft2 _) rfl hin_X2 1 (by decide) hw51 rfl rfl dX0_turnRound_79 ?_
        refine lv_iload hx hb dX0_turnRound_82 (lv_at hl 0 rfl) ?_
        obtain ⟨c8, hf⟩ := chk_some hf
        refine g_iald B h (t2 + 2) (T_lt2 ft2) (n := 120) (T_vals ft2) (inb_in c8) dX0_turnRound_84 ?_
        obtain ⟨vr9, σ9, hq9, hf⟩ := wthn_some hf
        refine sRetC0 (g_runV (k := t3) (T := TX1) (N := 4) B h (ok_X1_add B.2.2.2.2.2.2.2.2 B.2.2.2.2.2.2.1 _ _ ft3 (112 : Int32) (σ (15 + 1) (v4).toNatClampNeg) (σ (t2 + 2) (vr6).toNatClampNeg) hq9) cw_X0_56 ⟨Nat.le_of_ble_eq_true rfl, Nat.le_of_ble_eq_true rfl⟩ (H_lt ft3) (H_row ft3 _) rfl rfl hl.1.symm rfl (Nat.le_of_ble_eq_true rfl) dX0_turnRound_85 ⟨Nat.zero_le _, Nat.zero_le _⟩) h (fun H locs h => ?_)
        refine lv_iinc (v := (v4 + 1)) (lv' := [(4, .int (v4 + 1)), (6, .int vr6), (5, .int (σ (15 + 1) (v4).toNatClampNeg)), (0, .ref (ad 4)), (2, .ref (ad t2)), (3, .ref (ad t3))]) hx hb dX0_turnRound_88 hl (k := 5) rfl rfl (by decide) rfl (fun ls hl => ?_)
        refine lv_goto (tgt := 24) hx hb dX0_turnRound_91 (by decide) ?_
        exact ih _ _ _ _ ft2 ft3 hf _ _ _ h (lv_sub hl [3, 4, 5, 0] rfl)
      · rw [if_neg c7] at hf
        refine lv_aload_n hx hb dX0_turnRound_61 rfl (lv_at hl 4 rfl) ?_
        refine lv_bipush (v := (114 : Int32)) hx hb dX0_turnRound_62 (by decide) ?_
        refine lv_iload hx hb dX0_turnRound_64 (lv_at hl 1 rfl) ?_
        refine lv_iconst (v := (0 : Int32)) hx hb dX0_turnRound_66 (by decide) ?_
        obtain ⟨vr10, σ10, hq10, hf⟩ := wthn_some hf
        refine sRetC0 (g_runV (k := t3) (T := TX1) (N := 4) B h (ok_X1_add B.2.2.2.2.2.2.2.2 B.2.2.2.2.2.2.1 _ _ ft3 (114 : Int32) (σ (15 + 1) (v4).toNatClampNeg) (0 : Int32) hq10) cw_X0_56 ⟨Nat.le_of_ble_eq_true rfl, Nat.le_of_ble_eq_true rfl⟩ (H_lt ft3) (H_row ft3 _) rfl rfl hl.1.symm rfl (Nat.le_of_ble_eq_true rfl) dX0_turnRound_67 ⟨Nat.zero_le _, Nat.zero_le _⟩) h (fun H locs h => ?_)
        refine lv_goto (tgt := 88) hx hb dX0_turnRound_70 (by decide) ?_
        refine lv_iinc (v := (v4 + 1)) (lv' := [(4, .int (v4 + 1)), (6, .int vr6), (5, .int (σ (15 + 1) (v4).toNatClampNeg)), (0, .ref (ad 4)), (2, .ref (ad t2)), (3, .ref (ad t3))]) hx hb dX0_turnRound_88 hl (k := 5) rfl rfl (by decide) rfl (fun ls hl => ?_)
        refine lv_goto (tgt := 24) hx hb dX0_turnRound_91 (by decide) ?_
        exact ih _ _ _ _ ft2 ft3 hf _ _ _ h (lv_sub hl [3, 4, 5, 0] rfl)
set_option maxHeartbeats 4000000 in
set_option maxRecDepth 100000 in
theorem k_X0_turnRound_0 {p : Program} {l : Launch} {e : Env} {s : State} {m : MethodId} {args : Array Value} {below : List Frame} {meth : Method} {c : Code} {D : va_G} {cy : Nat → ClassId} {ad : Nat → Nat} {X : sX} {r : Unit} {σ' : sM} (B : sB p l s m meth c args cX0_turnRound 7 RX0 D cy ad) (hr : meth.sig.returnType = none) (t1 : Nat) (t2 : Nat) (t3 : Nat) (σ : sM) (ft1 : isH t1) (ft2 : isT t2) (ft3 : isH t3) (hf : f_X0_turnRound t1 t2 t3 σ = some (r, σ')) : sGo p l e { frames := 3, cells := 0, slots := 0, locals := 154 } s m args below meth c D cy ad X 7 (sQ below args s 0 0 D cy ad (.inr none) X σ') σ 0 [(0, .ref (ad 4)), (1, .ref (ad t1)), (2, .ref (ad t2)), (3, .ref (ad t3))] [] := by
  replace hf : (stl (va_up σ 15 (upd (σ 15) 2 (0 : Int32))) (fun σ1 => wthn (f_X1_addKeysTo t1 15 σ1) (fun _ σ2 => stl (va_up σ2 t3 (upd (σ2 t3) 0 (0 : Int32))) (fun σ3 => b_X0_turnRound_24 FU t2 t3 (0 : Int32) σ3)))) = some (r, σ') := hf
  intro H locs ls h hl
  have hx := B.1
  have hb := B.2.1
  refine lv_aload_n hx hb dX0_turnRound_0 rfl (lv_at hl 0 rfl) ?_
  refine g_get B h 4 (by decide) (C := RX0) (T := TX0) (N := 4) (B_row _) rfl hin_X0 0 (by decide) hw86 rfl rfl dX0_turnRound_1 ?_
  refine lv_iconst (v := (0 : Int32)) hx hb dX0_turnRound_4 (by decide) ?_
  refine g_put B h 15 (T_lt ff15) (C := RX2) (T := TX2) (N := 3) (T_row ff15 _) rfl hin_X2 tyX2 tyX2_ok nmX2 2 (by decide) hw52 rfl rfl rfl rfl (upd (σ 15) 2 (0 : Int32)) (T_put2 ff15 _ _) (Nat.le_of_ble_eq_true rfl) dX0_turnRound_5 (fun H locs h => ?_)
  obtain ⟨σ1, e1, hf⟩ := stl_some hf
  rw [← e1] at h
  refine lv_aload_n hx hb dX0_turnRound_8 rfl (lv_at hl 1 rfl) ?_
  refine lv_aload_n hx hb dX0_turnRound_9 rfl (lv_at hl 0 rfl) ?_
  refine g_get B h 4 (by decide) (C := RX0) (T := TX0) (N := 4) (B_row _) rfl hin_X0 0 (by decide) hw86 rfl rfl dX0_turnRound_10 ?_
  obtain ⟨vr2, σ2, hq2, hf⟩ := wthn_some hf
  refine sRetC0 (g_runV (k := t1) (T := TX1) (N := 4) B h (ok_X1_addKeysTo B.2.2.2.2.2.2.2.2 B.2.2.2.2.2.2.1 _ _ ft1 ff15 hq2) cw_X0_35 ⟨Nat.le_of_ble_eq_true rfl, Nat.le_of_ble_eq_true rfl⟩ (H_lt ft1) (H_row ft1 _) rfl rfl hl.1.symm rfl (Nat.le_of_ble_eq_true rfl) dX0_turnRound_13 ⟨Nat.zero_le _, Nat.zero_le _⟩) h (fun H locs h => ?_)
  refine lv_aload_n hx hb dX0_turnRound_16 rfl (lv_at hl 3 rfl) ?_
  refine lv_iconst (v := (0 : Int32)) hx hb dX0_turnRound_17 (by decide) ?_
  refine g_put B h t3 (H_lt ft3) (C := RX1) (T := TX1) (N := 4) (H_row ft3 _) rfl hin_X1 tyX1 tyX1_ok nmX1 0 (by decide) hw71 rfl rfl rfl rfl (upd (σ2 t3) 0 (0 : Int32)) (H_put0 ft3 _ _) (Nat.le_of_ble_eq_true rfl) dX0_turnRound_18 (fun H locs h => ?_)
  obtain ⟨σ3, e3, hf⟩ := stl_some hf
  rw [← e3] at h
  refine lv_iconst (v := (0 : Int32)) hx hb dX0_turnRound_21 (by decide) ?_
  refine lv_istore (lv' := [(4, .int (0 : Int32)), (0, .ref (ad 4)), (1, .ref (ad t1)), (2, .ref (ad t2)), (3, .ref (ad t3))]) hx hb dX0_turnRound_22 hl (by decide) rfl (fun ls hl => ?_)
  exact k_X0_turnRound_24 B hr  _ _ _ _ _ ft2 ft3 hf _ _ _ h (lv_sub hl [1, 3, 4, 0] rfl)
set_option maxRecDepth 100000 in
theorem ok_X0_turnRound {l : Launch} (hl0 : l.stackTraces = false) {D : va_G} {cy : Nat → ClassId} {ad : Nat → Nat} (hap : sAp ad) (X : sX) (σ : sM) {t1 : Nat} (ft1 : isH t1) {t2 : Nat} (ft2 : isT t2) {t3 : Nat} (ft3 : isH t3) {r : Unit} {σ' : sM} (hf : f_X0_turnRound t1 t2 t3 σ = some (r, σ')) : sMet l yX0_turnRound (sWs yX0_turnRound cX0_turnRound 7 none) 3 154 0 0 D cy ad X σ [.ref (ad 4), .ref (ad t1), .ref (ad t2), .ref (ad t3)] (.inr none) X σ' := by
  refine sMet_of (by decide +kernel) (Nat.le_of_ble_eq_true rfl) hap hl0 ?_
  intro p e s m args below meth c ls B hr htab hl h
  exact k_X0_turnRound_0 B hr _ _ _ _ ft1 ft2 ft3 hf _ _ _ h hl
set_option maxHeartbeats 4000000 in
set_option maxRecDepth 100000 in
theorem k_X0_isUndone_0 {p : Program} {l : Launch} {e : Env} {s : State} {m : MethodId} {args : Array Value} {below : List Frame} {meth : Method} {c : Code} {D : va_G} {cy : Nat → ClassId} {ad : Nat → Nat} {X : sX} {r : Int32} {σ' : sM} (B : sB p l s m meth c args cX0_isUndone 3 RX0 D cy ad) (hr : meth.sig.returnType = (some .boolean)) (t1 : Nat) (t2 : Nat) (σ : sM) (ft1 : isH t1) (ft2 : isT t2) (hf : f_X0_isUndone t1 t2 σ = some (r, σ')) : sGo p l e { frames := 5, cells := 0, slots := 0, locals := 199 } s m args below meth c D cy ad X 3 (sQ below args s 0 0 D cy ad (.inr (some (.int r))) X σ') σ 0 [(0, .ref (ad 4)), (1, .ref (ad t1)), (2, .ref (ad t2))] [] := by
  replace hf : (wthn (f_X0_turnRound t1 t2 40 σ) (fun _ σ1 => wthn (f_X2_becomeCopy 18 t2 σ1) (fun _ σ2 => wthn (f_X1_playOn t1 18 σ2) (fun vr3 σ3 => wthn (f_X1_playOn 40 18 σ3) (fun vr4 σ4 => rthn (f_X2_isSame 18 t2 σ4) (fun vr5 => chk (isb vr5) (some (vr5, σ4)))))))) = some (r, σ') := hf
  intro H locs ls h hl
  have hx := B.1
  have hb := B.2.1
  refine lv_aload_n hx hb dX0_isUndone_0 rfl (lv_at hl 0 rfl) ?_
  refine lv_aload_n hx hb dX0_isUndone_1 rfl (lv_at hl 1 rfl) ?_
  refine lv_aload_n hx hb dX0_isUndone_2 rfl (lv_at hl 2 rfl) ?_
  refine lv_aload_n hx hb dX0_isUndone_3 rfl (lv_at hl 0 rfl) ?_
  refine g_get B h 4 (by decide) (C := RX0) (T := TX0) (N := 4) (B_row _) rfl hin_X0 3 (by decide) hw89 rfl rfl dX0_isUndone_4 ?_
  obtain ⟨vr1, σ1, hq1, hf⟩ := wthn_some hf
  refine sRetC0 (g_runV (k := 4) (T := TX0) (N := 4) B h (ok_X0_turnRound B.2.2.2.2.2.2.2.2 B.2.2.2.2.2.2.1 _ _ ft1 ft2 ff40 hq1) cw_X0_100 ⟨Nat.le_of_ble_eq_true rfl, Nat.le_of_ble_eq_true rfl⟩ (by decide) (B_row _) rfl rfl hl.1.symm rfl (Nat.le_of_ble_eq_true rfl) dX0_isUndone_7 ⟨Nat.zero_le _, Nat.zero_le _⟩) h (fun H locs h => ?_)
  refine lv_aload_n hx hb dX0_isUndone_10 rfl (lv_at hl 0 rfl) ?_
  refine g_get B h 4 (by decide) (C := RX0) (T := TX0) (N := 4) (B_row _) rfl hin_X0 1 (by decide) hw87 rfl rfl dX0_isUndone_11 ?_
  refine lv_aload_n hx hb dX0_isUndone_14 rfl (lv_at hl 2 rfl) ?_
  obtain ⟨vr2, σ2, hq2, hf⟩ := wthn_some hf
  refine sRetC0 (g_runV (k := 18) (T := TX2) (N := 3) B h (ok_X2_becomeCopy B.2.2.2.2.2.2.2.2 B.2.2.2.2.2.2.1 _ _ ff18 ft2 hq2) cw_X0_79 ⟨Nat.le_of_ble_eq_true rfl, Nat.le_of_ble_eq_true rfl⟩ (T_lt ff18) (T_row ff18 _) rfl rfl hl.1.symm rfl (Nat.le_of_ble_eq_true rfl) dX0_isUndone_15 ⟨Nat.zero_le _, Nat.zero_le _⟩) h (fun H locs h => ?_)
  refine lv_aload_n hx hb dX0_isUndone_18 rfl (lv_at hl 1 rfl) ?_
  refine lv_aload_n hx hb dX0_isUndone_19 rfl (lv_at hl 0 rfl) ?_
  refine g_get B h 4 (by decide) (C := RX0) (T := TX0) (N := 4) (B_row _) rfl hin_X0 1 (by decide) hw87 rfl rfl dX0_isUndone_20 ?_
  obtain ⟨vr3, σ3, hq3, hf⟩ := wthn_some hf
  refine sRetC1 (g_runV (k := t1) (T := TX1) (N := 4) B h (ok_X1_playOn B.2.2.2.2.2.2.2.2 B.2.2.2.2.2.2.1 _ _ ft1 ff18 hq3) cw_X0_93 ⟨Nat.le_of_ble_eq_true rfl, Nat.le_of_ble_eq_true rfl⟩ (H_lt ft1) (H_row ft1 _) rfl rfl hl.1.symm rfl (Nat.le_of_ble_eq_true rfl) dX0_isUndone_23 ⟨Nat.zero_le _, Nat.zero_le _⟩) h (fun H locs h => ?_)
  refine lv_pop hx hb dX0_isUndone_26 rfl ?_
  refine lv_aload_n hx hb dX0_isUndone_27 rfl (lv_at hl 0 rfl) ?_
  refine g_get B h 4 (by decide) (C := RX0) (T := TX0) (N := 4) (B_row _) rfl hin_X0 3 (by decide) hw89 rfl rfl dX0_isUndone_28 ?_
  refine lv_aload_n hx hb dX0_isUndone_31 rfl (lv_at hl 0 rfl) ?_
  refine g_get B h 4 (by decide) (C := RX0) (T := TX0) (N := 4) (B_row _) rfl hin_X0 1 (by decide) hw87 rfl rfl dX0_isUndone_32 ?_
  obtain ⟨vr4, σ4, hq4, hf⟩ := wthn_some hf
  refine sRetC1 (g_runV (k := 40) (T := TX1) (N := 4) B h (ok_X1_playOn B.2.2.2.2.2.2.2.2 B.2.2.2.2.2.2.1 _ _ ff40 ff18 hq4) cw_X0_93 ⟨Nat.le_of_ble_eq_true rfl, Nat.le_of_ble_eq_true rfl⟩ (H_lt ff40) (H_row ff40 _) rfl rfl hl.1.symm rfl (Nat.le_of_ble_eq_true rfl) dX0_isUndone_35 ⟨Nat.zero_le _, Nat.zero_le _⟩) h (fun H locs h => ?_)
  refine lv_pop hx hb dX0_isUndone_38 rfl ?_
  refine lv_aload_n hx hb dX0_isUndone_39 rfl (lv_at hl 0 rfl) ?_
  refine g_get B h 4 (by decide) (C := RX0) (T := TX0) (N := 4) (B_row _) rfl hin_X0 1 (by decide) hw87 rfl rfl dX0_isUndone_40 ?_
  refine lv_aload_n hx hb dX0_isUndone_43 rfl (lv_at hl 2 rfl) ?_
  obtain ⟨vr5, hq5, hf⟩ := rthn_some hf
  refine sRetC1 (g_runV (k := 18) (T := TX2) (N := 3) B h (ok_X2_isSame B.2.2.2.2.2.2.2.2 B.2.2.2.2.2.2.1 _ _ ff18 ft2 hq5) cw_X0_96 ⟨Nat.le_of_ble_eq_true rfl, Nat.le_of_ble_eq_true rfl⟩ (T_lt ff18) (T_row ff18 _) rfl rfl hl.1.symm rfl (Nat.le_of_ble_eq_true rfl) dX0_isUndone_44 ⟨Nat.zero_le _, Nat.zero_le _⟩) h (fun H locs h => ?_)
  obtain ⟨c6, hf⟩ := chk_some hf
  obtain ⟨rfl, rfl⟩ := Prod.mk.inj (Option.some.inj hf)
  exact sE_z B hr h (isb_n c6) dX0_isUndone_47
set_option maxRecDepth 100000 in
theorem ok_X0_isUndone {l : Launch} (hl0 : l.stackTraces = false) {D : va_G} {cy : Nat → ClassId} {ad : Nat → Nat} (hap : sAp ad) (X : sX) (σ : sM) {t1 : Nat} (ft1 : isH t1) {t2 : Nat} (ft2 : isT t2) {r : Int32} {σ' : sM} (hf : f_X0_isUndone t1 t2 σ = some (r, σ')) : sMet l yX0_isUndone (sWs yX0_isUndone cX0_isUndone 3 (some .boolean)) 5 199 0 0 D cy ad X σ [.ref (ad 4), .ref (ad t1), .ref (ad t2)] (.inr (some (.int r))) X σ' := by
  refine sMet_of (by decide +kernel) (Nat.le_of_ble_eq_true rfl) hap hl0 ?_
  intro p e s m args below meth c ls B hr htab hl h
  exact k_X0_isUndone_0 B hr _ _ _ ft1 ft2 hf _ _ _ h hl
