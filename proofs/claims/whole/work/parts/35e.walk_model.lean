set_option maxHeartbeats 4000000 in
set_option maxRecDepth 100000 in
theorem k_X5_isOnSide_0 {p : Program} {l : Launch} {e : Env} {s : State} {m : MethodId} {args : Array Value} {below : List Frame} {meth : Method} {c : Code} {D : va_G} {cy : Nat → ClassId} {ad : Nat → Nat} {X : sX} {r : Int32} (B : sB p l s m meth c args cX5_isOnSide 3 RX5 D cy ad) (hr : meth.sig.returnType = (some .boolean)) (v0 : Int32) (v1 : Int32) (v2 : Int32) (σ : sM) (hf : f_X5_isOnSide v0 v1 v2 σ = some r) : sGo p l e { frames := 0, cells := 0, slots := 0, locals := 0 } s m args below meth c D cy ad X 3 (sQ below args s 0 0 D cy ad (.inr (some (.int r))) X σ) σ 0 [(0, .int v0), (1, .int v1), (2, .int v2)] [] := by
  replace hf : (if v2 = (102 : Int32) then (if v1 < v0 then (some (0 : Int32)) else (some (1 : Int32))) else (if v2 = (99 : Int32) then (if v0 < v1 then (some (0 : Int32)) else (some (1 : Int32))) else (if v2 = (104 : Int32) then (if v0 ≤ v1 then (some (0 : Int32)) else (some (1 : Int32))) else (if v1 ≤ v0 then (some (0 : Int32)) else (some (1 : Int32)))))) = some r := hf
  intro H locs ls h hl
  have hx := B.1
  have hb := B.2.1
  refine lv_iload_n hx hb dX5_isOnSide_0 rfl (lv_at hl 2 rfl) ?_
  refine lv_bipush (v := (102 : Int32)) hx hb dX5_isOnSide_1 (by decide) ?_
  refine lv_icmp_ne (tgt := 19) hx hb dX5_isOnSide_3 (by decide) (fun c1 => ?_) (fun c1 => ?_)
  · rw [if_neg c1] at hf
    refine lv_iload_n hx hb dX5_isOnSide_19 rfl (lv_at hl 2 rfl) ?_
    refine lv_bipush (v := (99 : Int32)) hx hb dX5_isOnSide_20 (by decide) ?_
    refine lv_icmp_ne (tgt := 38) hx hb dX5_isOnSide_22 (by decide) (fun c2 => ?_) (fun c2 => ?_)
    · rw [if_neg c2] at hf
      refine lv_iload_n hx hb dX5_isOnSide_38 rfl (lv_at hl 2 rfl) ?_
      refine lv_bipush (v := (104 : Int32)) hx hb dX5_isOnSide_39 (by decide) ?_
      refine lv_icmp_ne (tgt := 57) hx hb dX5_isOnSide_41 (by decide) (fun c3 => ?_) (fun c3 => ?_)
      · rw [if_neg c3] at hf
        refine lv_iload_n hx hb dX5_isOnSide_57 rfl (lv_at hl 0 rfl) ?_
        refine lv_iload_n hx hb dX5_isOnSide_58 rfl (lv_at hl 1 rfl) ?_
        refine lv_icmp_ge (tgt := 66) hx hb dX5_isOnSide_59 (by decide) (fun c4 => ?_) (fun c4 => ?_)
        · rw [if_pos c4] at hf
          refine lv_iconst (v := (0 : Int32)) hx hb dX5_isOnSide_66 (by decide) ?_
          obtain rfl := Option.some.inj hf
          exact sE_z B hr h rfl dX5_isOnSide_67
        · rw [if_neg c4] at hf
          refine lv_iconst (v := (1 : Int32)) hx hb dX5_isOnSide_62 (by decide) ?_
          refine lv_goto (tgt := 67) hx hb dX5_isOnSide_63 (by decide) ?_
          obtain rfl := Option.some.inj hf
          exact sE_z B hr h rfl dX5_isOnSide_67
      · rw [if_pos c3] at hf
        refine lv_iload_n hx hb dX5_isOnSide_44 rfl (lv_at hl 0 rfl) ?_
        refine lv_iload_n hx hb dX5_isOnSide_45 rfl (lv_at hl 1 rfl) ?_
        refine lv_icmp_le (tgt := 53) hx hb dX5_isOnSide_46 (by decide) (fun c5 => ?_) (fun c5 => ?_)
        · rw [if_pos c5] at hf
          refine lv_iconst (v := (0 : Int32)) hx hb dX5_isOnSide_53 (by decide) ?_
          refine lv_goto (tgt := 67) hx hb dX5_isOnSide_54 (by decide) ?_
          obtain rfl := Option.some.inj hf
          exact sE_z B hr h rfl dX5_isOnSide_67
        · rw [if_neg c5] at hf
          refine lv_iconst (v := (1 : Int32)) hx hb dX5_isOnSide_49 (by decide) ?_
          refine lv_goto (tgt := 67) hx hb dX5_isOnSide_50 (by decide) ?_
          obtain rfl := Option.some.inj hf
          exact sE_z B hr h rfl dX5_isOnSide_67
    · rw [if_pos c2] at hf
      refine lv_iload_n hx hb dX5_isOnSide_25 rfl (lv_at hl 0 rfl) ?_
      refine lv_iload_n hx hb dX5_isOnSide_26 rfl (lv_at hl 1 rfl) ?_
      refine lv_icmp_lt (tgt := 34) hx hb dX5_isOnSide_27 (by decide) (fun c6 => ?_) (fun c6 => ?_)
      · rw [if_pos c6] at hf
        refine lv_iconst (v := (0 : Int32)) hx hb dX5_isOnSide_34 (by decide) ?_
        refine lv_goto (tgt := 67) hx hb dX5_isOnSide_35 (by decide) ?_
        obtain rfl := Option.some.inj hf
        exact sE_z B hr h rfl dX5_isOnSide_67
      · rw [if_neg c6] at hf
        refine lv_iconst (v := (1 : Int32)) hx hb dX5_isOnSide_30 (by decide) ?_
        refine lv_goto (tgt := 67) hx hb dX5_isOnSide_31 (by decide) ?_
        obtain rfl := Option.some.inj hf
        exact sE_z B hr h rfl dX5_isOnSide_67
  · rw [if_pos c1] at hf
    refine lv_iload_n hx hb dX5_isOnSide_6 rfl (lv_at hl 0 rfl) ?_
    refine lv_iload_n hx hb dX5_isOnSide_7 rfl (lv_at hl 1 rfl) ?_
    refine lv_icmp_gt (tgt := 15) hx hb dX5_isOnSide_8 (by decide) (fun c7 => ?_) (fun c7 => ?_)
    · rw [if_pos c7] at hf
      refine lv_iconst (v := (0 : Int32)) hx hb dX5_isOnSide_15 (by decide) ?_
      refine lv_goto (tgt := 67) hx hb dX5_isOnSide_16 (by decide) ?_
      obtain rfl := Option.some.inj hf
      exact sE_z B hr h rfl dX5_isOnSide_67
    · rw [if_neg c7] at hf
      refine lv_iconst (v := (1 : Int32)) hx hb dX5_isOnSide_11 (by decide) ?_
      refine lv_goto (tgt := 67) hx hb dX5_isOnSide_12 (by decide) ?_
      obtain rfl := Option.some.inj hf
      exact sE_z B hr h rfl dX5_isOnSide_67
set_option maxRecDepth 100000 in
theorem ok_X5_isOnSide {l : Launch} (hl0 : l.stackTraces = false) {D : va_G} {cy : Nat → ClassId} {ad : Nat → Nat} (hap : sAp ad) (X : sX) (σ : sM) (v0 : Int32) (v1 : Int32) (v2 : Int32) {r : Int32} (hf : f_X5_isOnSide v0 v1 v2 σ = some r) : sMet l yX5_isOnSide (sWs yX5_isOnSide cX5_isOnSide 3 (some .boolean)) 0 0 0 0 D cy ad X σ [.int v0, .int v1, .int v2] (.inr (some (.int r))) X σ := by
  refine sMet_of (by decide +kernel) (Nat.le_of_ble_eq_true rfl) hap hl0 ?_
  intro p e s m args below meth c ls B hr htab hl h
  exact k_X5_isOnSide_0 B hr _ _ _ _  hf _ _ _ h hl
set_option maxHeartbeats 4000000 in
set_option maxRecDepth 100000 in
theorem k_X5_isSound_0 {p : Program} {l : Launch} {e : Env} {s : State} {m : MethodId} {args : Array Value} {below : List Frame} {meth : Method} {c : Code} {D : va_G} {cy : Nat → ClassId} {ad : Nat → Nat} {X : sX} {r : Int32} {σ' : sM} (B : sB p l s m meth c args cX5_isSound 1 RX5 D cy ad) (hr : meth.sig.returnType = (some .boolean)) (σ : sM) (hf : f_X5_isSound σ = some (r, σ')) : sGo p l e { frames := 0, cells := 0, slots := 0, locals := 0 } s m args below meth c D cy ad X 1 (sQ below args s 0 0 D cy ad (.inr (some (.int r))) X σ') σ 0 [(0, .ref (ad 44))] [] := by
  replace hf : (stl (va_up σ 44 (upd (σ 44) 20 (0 : Int32))) (fun σ1 => some ((1 : Int32), σ1))) = some (r, σ') := hf
  intro H locs ls h hl
  have hx := B.1
  have hb := B.2.1
  refine lv_aload_n hx hb dX5_isSound_0 rfl (lv_at hl 0 rfl) ?_
  refine lv_iconst (v := (0 : Int32)) hx hb dX5_isSound_1 (by decide) ?_
  refine g_put B h 44 (by decide) (C := RX5) (T := TX5) (N := 21) (M_row _) rfl hin_X5 tyX5 tyX5_ok nmX5 20 (by decide) hw846 rfl rfl rfl rfl (upd (σ 44) 20 (0 : Int32)) (M_put20 _ _) (Nat.le_of_ble_eq_true rfl) dX5_isSound_2 (fun H locs h => ?_)
  obtain ⟨σ1, e1, hf⟩ := stl_some hf
  rw [← e1] at h
  refine lv_iconst (v := (1 : Int32)) hx hb dX5_isSound_5 (by decide) ?_
  obtain ⟨rfl, rfl⟩ := Prod.mk.inj (Option.some.inj hf)
  exact sE_z B hr h rfl dX5_isSound_6
set_option maxRecDepth 100000 in
theorem ok_X5_isSound {l : Launch} (hl0 : l.stackTraces = false) {D : va_G} {cy : Nat → ClassId} {ad : Nat → Nat} (hap : sAp ad) (X : sX) (σ : sM) {r : Int32} {σ' : sM} (hf : f_X5_isSound σ = some (r, σ')) : sMet l yX5_isSound (sWs yX5_isSound cX5_isSound 1 (some .boolean)) 0 0 0 0 D cy ad X σ [.ref (ad 44)] (.inr (some (.int r))) X σ' := by
  refine sMet_of (by decide +kernel) (Nat.le_of_ble_eq_true rfl) hap hl0 ?_
  intro p e s m args below meth c ls B hr htab hl h
  exact k_X5_isSound_0 B hr  _  hf _ _ _ h hl
set_option maxHeartbeats 4000000 in
set_option maxRecDepth 100000 in
theorem k_X5_isTooMuch_0 {p : Program} {l : Launch} {e : Env} {s : State} {m : MethodId} {args : Array Value} {below : List Frame} {meth : Method} {c : Code} {D : va_G} {cy : Nat → ClassId} {ad : Nat → Nat} {X : sX} {r : Int32} {σ' : sM} (B : sB p l s m meth c args cX5_isTooMuch 4 RX5 D cy ad) (hr : meth.sig.returnType = (some .boolean)) (v1 : Int32) (v2 : Int32) (v3 : Int32) (σ : sM) (hf : f_X5_isTooMuch v1 v2 v3 σ = some (r, σ')) : sGo p l e { frames := 3, cells := 0, slots := 0, locals := 72 } s m args below meth c D cy ad X 4 (sQ below args s 0 0 D cy ad (.inr (some (.int r))) X σ') σ 0 [(0, .ref (ad 44)), (1, .int v1), (2, .int v2), (3, .int v3)] [] := by
  replace hf : (stl (va_up σ 44 (upd (σ 44) 15 (0 : Int32))) (fun σ1 => wthn (f_X5_gathers v1 v3 σ1) (fun _ σ2 => wthn (f_X5_gathers v2 v3 σ2) (fun _ σ3 => chk (inb v3 3) (if ((σ3 47 (v3).toNatClampNeg) + (σ3 44 15)) ≤ (60 : Int32) then (some ((0 : Int32), σ3)) else (some ((1 : Int32), σ3))))))) = some (r, σ') := hf
  intro H locs ls h hl
  have hx := B.1
  have hb := B.2.1
  refine lv_aload_n hx hb dX5_isTooMuch_0 rfl (lv_at hl 0 rfl) ?_
  refine lv_iconst (v := (0 : Int32)) hx hb dX5_isTooMuch_1 (by decide) ?_
  refine g_put B h 44 (by decide) (C := RX5) (T := TX5) (N := 21) (M_row _) rfl hin_X5 tyX5 tyX5_ok nmX5 15 (by decide) hw841 rfl rfl rfl rfl (upd (σ 44) 15 (0 : Int32)) (M_put15 _ _) (Nat.le_of_ble_eq_true rfl) dX5_isTooMuch_2 (fun H locs h => ?_)
  obtain ⟨σ1, e1, hf⟩ := stl_some hf
  rw [← e1] at h
  refine lv_aload_n hx hb dX5_isTooMuch_5 rfl (lv_at hl 0 rfl) ?_
  refine lv_iload_n hx hb dX5_isTooMuch_6 rfl (lv_at hl 1 rfl) ?_
  refine lv_iload_n hx hb dX5_isTooMuch_7 rfl (lv_at hl 3 rfl) ?_
  obtain ⟨vr2, σ2, hq2, hf⟩ := wthn_some hf
  refine sRetC0 (g_runV (k := 44) (T := TX5) (N := 21) B h (ok_X5_gathers B.2.2.2.2.2.2.2.2 B.2.2.2.2.2.2.1 _ _ v1 v3 hq2) cw_X5_146 ⟨Nat.le_of_ble_eq_true rfl, Nat.le_of_ble_eq_true rfl⟩ (by decide) (M_row _) rfl rfl hl.1.symm rfl (Nat.le_of_ble_eq_true rfl) dX5_isTooMuch_8 ⟨Nat.zero_le _, Nat.zero_le _⟩) h (fun H locs h => ?_)
  refine lv_aload_n hx hb dX5_isTooMuch_11 rfl (lv_at hl 0 rfl) ?_
  refine lv_iload_n hx hb dX5_isTooMuch_12 rfl (lv_at hl 2 rfl) ?_
  refine lv_iload_n hx hb dX5_isTooMuch_13 rfl (lv_at hl 3 rfl) ?_
  obtain ⟨vr3, σ3, hq3, hf⟩ := wthn_some hf
  refine sRetC0 (g_runV (k := 44) (T := TX5) (N := 21) B h (ok_X5_gathers B.2.2.2.2.2.2.2.2 B.2.2.2.2.2.2.1 _ _ v2 v3 hq3) cw_X5_146 ⟨Nat.le_of_ble_eq_true rfl, Nat.le_of_ble_eq_true rfl⟩ (by decide) (M_row _) rfl rfl hl.1.symm rfl (Nat.le_of_ble_eq_true rfl) dX5_isTooMuch_14 ⟨Nat.zero_le _, Nat.zero_le _⟩) h (fun H locs h => ?_)
  refine lv_aload_n hx hb dX5_isTooMuch_17 rfl (lv_at hl 0 rfl) ?_
  refine g_get B h 44 (by decide) (C := RX5) (T := TX5) (N := 21) (M_row _) rfl hin_X5 2 (by decide) hw828 rfl rfl dX5_isTooMuch_18 ?_
  refine lv_iload_n hx hb dX5_isTooMuch_21 rfl (lv_at hl 3 rfl) ?_
  obtain ⟨c4, hf⟩ := chk_some hf
  refine g_iald B h 47 (by decide) (n := 3) (fun _ => rfl) (inb_in c4) dX5_isTooMuch_22 ?_
  refine lv_aload_n hx hb dX5_isTooMuch_23 rfl (lv_at hl 0 rfl) ?_
  refine g_get B h 44 (by decide) (C := RX5) (T := TX5) (N := 21) (M_row _) rfl hin_X5 15 (by decide) hw841 rfl rfl dX5_isTooMuch_24 ?_
  refine lv_iadd hx hb dX5_isTooMuch_27 ?_
  refine lv_bipush (v := (60 : Int32)) hx hb dX5_isTooMuch_28 (by decide) ?_
  refine lv_icmp_le (tgt := 37) hx hb dX5_isTooMuch_30 (by decide) (fun c5 => ?_) (fun c5 => ?_)
  · rw [if_pos c5] at hf
    refine lv_iconst (v := (0 : Int32)) hx hb dX5_isTooMuch_37 (by decide) ?_
    obtain ⟨rfl, rfl⟩ := Prod.mk.inj (Option.some.inj hf)
    exact sE_z B hr h rfl dX5_isTooMuch_38
  · rw [if_neg c5] at hf
    refine lv_iconst (v := (1 : Int32)) hx hb dX5_isTooMuch_33 (by decide) ?_
    refine lv_goto (tgt := 38) hx hb dX5_isTooMuch_34 (by decide) ?_
    obtain ⟨rfl, rfl⟩ := Prod.mk.inj (Option.some.inj hf)
    exact sE_z B hr h rfl dX5_isTooMuch_38
set_option maxRecDepth 100000 in
theorem ok_X5_isTooMuch {l : Launch} (hl0 : l.stackTraces = false) {D : va_G} {cy : Nat → ClassId} {ad : Nat → Nat} (hap : sAp ad) (X : sX) (σ : sM) (v1 : Int32) (v2 : Int32) (v3 : Int32) {r : Int32} {σ' : sM} (hf : f_X5_isTooMuch v1 v2 v3 σ = some (r, σ')) : sMet l yX5_isTooMuch (sWs yX5_isTooMuch cX5_isTooMuch 4 (some .boolean)) 3 72 0 0 D cy ad X σ [.ref (ad 44), .int v1, .int v2, .int v3] (.inr (some (.int r))) X σ' := by
  refine sMet_of (by decide +kernel) (Nat.le_of_ble_eq_true rfl) hap hl0 ?_
  intro p e s m args below meth c ls B hr htab hl h
  exact k_X5_isTooMuch_0 B hr _ _ _ _  hf _ _ _ h hl
set_option maxHeartbeats 4000000 in
set_option maxRecDepth 100000 in
theorem k_X5_isWay_0 {p : Program} {l : Launch} {e : Env} {s : State} {m : MethodId} {args : Array Value} {below : List Frame} {meth : Method} {c : Code} {D : va_G} {cy : Nat → ClassId} {ad : Nat → Nat} {X : sX} {r : Int32} (B : sB p l s m meth c args cX5_isWay 1 RX5 D cy ad) (hr : meth.sig.returnType = (some .boolean)) (v0 : Int32) (σ : sM) (hf : f_X5_isWay v0 σ = some r) : sGo p l e { frames := 0, cells := 0, slots := 0, locals := 0 } s m args below meth c D cy ad X 1 (sQ below args s 0 0 D cy ad (.inr (some (.int r))) X σ) σ 0 [(0, .int v0)] [] := by
  replace hf : (if v0 = (102 : Int32) then (some (1 : Int32)) else (if v0 = (99 : Int32) then (some (1 : Int32)) else (if v0 = (104 : Int32) then (some (1 : Int32)) else (if v0 = (108 : Int32) then (some (1 : Int32)) else (some (0 : Int32)))))) = some r := hf
  intro H locs ls h hl
  have hx := B.1
  have hb := B.2.1
  refine lv_iload_n hx hb dX5_isWay_0 rfl (lv_at hl 0 rfl) ?_
  refine lv_bipush (v := (102 : Int32)) hx hb dX5_isWay_1 (by decide) ?_
  refine lv_icmp_eq (tgt := 24) hx hb dX5_isWay_3 (by decide) (fun c1 => ?_) (fun c1 => ?_)
  · rw [if_pos c1] at hf
    refine lv_iconst (v := (1 : Int32)) hx hb dX5_isWay_24 (by decide) ?_
    refine lv_goto (tgt := 29) hx hb dX5_isWay_25 (by decide) ?_
    obtain rfl := Option.some.inj hf
    exact sE_z B hr h rfl dX5_isWay_29
  · rw [if_neg c1] at hf
    refine lv_iload_n hx hb dX5_isWay_6 rfl (lv_at hl 0 rfl) ?_
    refine lv_bipush (v := (99 : Int32)) hx hb dX5_isWay_7 (by decide) ?_
    refine lv_icmp_eq (tgt := 24) hx hb dX5_isWay_9 (by decide) (fun c2 => ?_) (fun c2 => ?_)
    · rw [if_pos c2] at hf
      refine lv_iconst (v := (1 : Int32)) hx hb dX5_isWay_24 (by decide) ?_
      refine lv_goto (tgt := 29) hx hb dX5_isWay_25 (by decide) ?_
      obtain rfl := Option.some.inj hf
      exact sE_z B hr h rfl dX5_isWay_29
    · rw [if_neg c2] at hf
      refine lv_iload_n hx hb dX5_isWay_12 rfl (lv_at hl 0 rfl) ?_
      refine lv_bipush (v := (104 : Int32)) hx hb dX5_isWay_13 (by decide) ?_
      refine lv_icmp_eq (tgt := 24) hx hb dX5_isWay_15 (by decide) (fun c3 => ?_) (fun c3 => ?_)
      · rw [if_pos c3] at hf
        refine lv_iconst (v := (1 : Int32)) hx hb dX5_isWay_24 (by decide) ?_
        refine lv_goto (tgt := 29) hx hb dX5_isWay_25 (by decide) ?_
        obtain rfl := Option.some.inj hf
        exact sE_z B hr h rfl dX5_isWay_29
      · rw [if_neg c3] at hf
        refine lv_iload_n hx hb dX5_isWay_18 rfl (lv_at hl 0 rfl) ?_
        refine lv_bipush (v := (108 : Int32)) hx hb dX5_isWay_19 (by decide) ?_
        refine lv_icmp_ne (tgt := 28) hx hb dX5_isWay_21 (by decide) (fun c4 => ?_) (fun c4 => ?_)
        · rw [if_neg c4] at hf
          refine lv_iconst (v := (0 : Int32)) hx hb dX5_isWay_28 (by decide) ?_
          obtain rfl := Option.some.inj hf
          exact sE_z B hr h rfl dX5_isWay_29
        · rw [if_pos c4] at hf
          refine lv_iconst (v := (1 : Int32)) hx hb dX5_isWay_24 (by decide) ?_
          refine lv_goto (tgt := 29) hx hb dX5_isWay_25 (by decide) ?_
          obtain rfl := Option.some.inj hf
          exact sE_z B hr h rfl dX5_isWay_29
set_option maxRecDepth 100000 in
theorem ok_X5_isWay {l : Launch} (hl0 : l.stackTraces = false) {D : va_G} {cy : Nat → ClassId} {ad : Nat → Nat} (hap : sAp ad) (X : sX) (σ : sM) (v0 : Int32) {r : Int32} (hf : f_X5_isWay v0 σ = some r) : sMet l yX5_isWay (sWs yX5_isWay cX5_isWay 1 (some .boolean)) 0 0 0 0 D cy ad X σ [.int v0] (.inr (some (.int r))) X σ := by
  refine sMet_of (by decide +kernel) (Nat.le_of_ble_eq_true rfl) hap hl0 ?_
  intro p e s m args below meth c ls B hr htab hl h
  exact k_X5_isWay_0 B hr _ _  hf _ _ _ h hl
set_option maxHeartbeats 4000000 in
set_option maxRecDepth 100000 in
theorem k_X5_keyAt_29 {p : Program} {l : Launch} {e : Env} {s : State} {m : MethodId} {args : Array Value} {below : List Frame} {meth : Method} {c : Code} {D : va_G} {cy : Nat → ClassId} {ad : Nat → Nat} {X : sX} {r : Int32} {σ' : sM} (B : sB p l s m meth c args cX5_keyAt 4 RX5 D cy ad) (hr : meth.sig.returnType = (some .int)) (v1 : Int32) (v2 : Int32) (v3 : Int32) (vs1 : Int32) (σ : sM) (hf : b_X5_keyAt_29 v1 v2 v3 vs1 σ = some (r, σ')) : sGo p l e { frames := 2, cells := 0, slots := 0, locals := 42 } s m args below meth c D cy ad X 4 (sQ below args s 0 0 D cy ad (.inr (some (.int r))) X σ') σ 29 [(0, .ref (ad 44)), (1, .int v1), (2, .int v2), (3, .int v3)] [.int vs1, .ref (ad 44)] := by
  replace hf : (wthn (f_X5_refused vs1 σ) (fun vr6 σ6 => if vr6 = 0 then (if v3 = 0 then (chk (inb (((60 : Int32) * v1) + v2) 180) (some ((σ6 45 ((((60 : Int32) * v1) + v2)).toNatClampNeg), σ6))) else (chk (inb v1 3) (chk (inb (((60 : Int32) * v1) + (((σ6 47 (v1).toNatClampNeg) - (1 : Int32)) - v2)) 180) (some ((σ6 45 ((((60 : Int32) * v1) + (((σ6 47 (v1).toNatClampNeg) - (1 : Int32)) - v2))).toNatClampNeg), σ6))))) else (some ((0 : Int32), σ6)))) = some (r, σ') := hf
  intro H locs ls h hl
  have hx := B.1
  have hb := B.2.1
  obtain ⟨vr6, σ6, hq6, hf⟩ := wthn_some hf
  refine sRetC1 (g_runV (k := 44) (T := TX5) (N := 21) B h (ok_X5_refused B.2.2.2.2.2.2.2.2 B.2.2.2.2.2.2.1 _ _ vs1 hq6) cw_X5_95 ⟨Nat.le_of_ble_eq_true rfl, Nat.le_of_ble_eq_true rfl⟩ (by decide) (M_row _) rfl rfl hl.1.symm rfl (Nat.le_of_ble_eq_true rfl) dX5_keyAt_29 ⟨Nat.zero_le _, Nat.zero_le _⟩) h (fun H locs h => ?_)
  refine lv_if_eq (tgt := 37) hx hb dX5_keyAt_32 (by decide) (fun c7 => ?_) (fun c7 => ?_)
  · rw [if_pos c7] at hf
    refine lv_aload_n hx hb dX5_keyAt_37 rfl (lv_at hl 0 rfl) ?_
    refine g_get B h 44 (by decide) (C := RX5) (T := TX5) (N := 21) (M_row _) rfl hin_X5 0 (by decide) hw826 rfl rfl dX5_keyAt_38 ?_
    refine lv_bipush (v := (60 : Int32)) hx hb dX5_keyAt_41 (by decide) ?_
    refine lv_iload_n hx hb dX5_keyAt_43 rfl (lv_at hl 1 rfl) ?_
    refine lv_imul hx hb dX5_keyAt_44 ?_
    refine lv_iload_n hx hb dX5_keyAt_45 rfl (lv_at hl 3 rfl) ?_
    refine lv_if_eq (tgt := 62) hx hb dX5_keyAt_46 (by decide) (fun c8 => ?_) (fun c8 => ?_)
    · rw [if_pos c8] at hf
      refine lv_iload_n hx hb dX5_keyAt_62 rfl (lv_at hl 2 rfl) ?_
      refine lv_iadd hx hb dX5_keyAt_63 ?_
      obtain ⟨c9, hf⟩ := chk_some hf
      refine g_iald B h 45 (by decide) (n := 180) (fun _ => rfl) (inb_in c9) dX5_keyAt_64 ?_
      obtain ⟨rfl, rfl⟩ := Prod.mk.inj (Option.some.inj hf)
      exact sE_i B hr h dX5_keyAt_65
    · rw [if_neg c8] at hf
      refine lv_aload_n hx hb dX5_keyAt_49 rfl (lv_at hl 0 rfl) ?_
      refine g_get B h 44 (by decide) (C := RX5) (T := TX5) (N := 21) (M_row _) rfl hin_X5 2 (by decide) hw828 rfl rfl dX5_keyAt_50 ?_
      refine lv_iload_n hx hb dX5_keyAt_53 rfl (lv_at hl 1 rfl) ?_
      obtain ⟨c10, hf⟩ := chk_some hf
      refine g_iald B h 47 (by decide) (n := 3) (fun _ => rfl) (inb_in c10) dX5_keyAt_54 ?_
      refine lv_iconst (v := (1 : Int32)) hx hb dX5_keyAt_55 (by decide) ?_
      refine lv_isub hx hb dX5_keyAt_56 ?_
      refine lv_iload_n hx hb dX5_keyAt_57 rfl (lv_at hl 2 rfl) ?_
      refine lv_isub hx hb dX5_keyAt_58 ?_
      refine lv_goto (tgt := 63) hx hb dX5_keyAt_59 (by decide) ?_
      refine lv_iadd hx hb dX5_keyAt_63 ?_
      obtain ⟨c11, hf⟩ := chk_some hf
      refine g_iald B h 45 (by decide) (n := 180) (fun _ => rfl) (inb_in c11) dX5_keyAt_64 ?_
      obtain ⟨rfl, rfl⟩ := Prod.mk.inj (Option.some.inj hf)
      exact sE_i B hr h dX5_keyAt_65
  · rw [if_neg c7] at hf
    refine lv_iconst (v := (0 : Int32)) hx hb dX5_keyAt_35 (by decide) ?_
    obtain ⟨rfl, rfl⟩ := Prod.mk.inj (Option.some.inj hf)
    exact sE_i B hr h dX5_keyAt_36
set_option maxHeartbeats 4000000 in
set_option maxRecDepth 100000 in
theorem k_X5_keyAt_0 {p : Program} {l : Launch} {e : Env} {s : State} {m : MethodId} {args : Array Value} {below : List Frame} {meth : Method} {c : Code} {D : va_G} {cy : Nat → ClassId} {ad : Nat → Nat} {X : sX} {r : Int32} {σ' : sM} (B : sB p l s m meth c args cX5_keyAt 4 RX5 D cy ad) (hr : meth.sig.returnType = (some .int)) (v1 : Int32) (v2 : Int32) (v3 : Int32) (σ : sM) (hf : f_X5_keyAt v1 v2 v3 σ = some (r, σ')) : sGo p l e { frames := 2, cells := 0, slots := 0, locals := 42 } s m args below meth c D cy ad X 4 (sQ below args s 0 0 D cy ad (.inr (some (.int r))) X σ') σ 0 [(0, .ref (ad 44)), (1, .int v1), (2, .int v2), (3, .int v3)] [] := by
  replace hf : (rthn (f_X5_isMap v1 σ) (fun vr1 => if vr1 = 0 then (b_X5_keyAt_29 v1 v2 v3 (1 : Int32) σ) else (chk (inb v1 3) (rthn (f_X5_in v2 (0 : Int32) ((σ 47 (v1).toNatClampNeg) - (1 : Int32)) σ) (fun vr4 => if vr4 = 0 then (b_X5_keyAt_29 v1 v2 v3 (1 : Int32) σ) else (b_X5_keyAt_29 v1 v2 v3 (0 : Int32) σ)))))) = some (r, σ') := hf
  intro H locs ls h hl
  have hx := B.1
  have hb := B.2.1
  refine lv_aload_n hx hb dX5_keyAt_0 rfl (lv_at hl 0 rfl) ?_
  refine lv_iload_n hx hb dX5_keyAt_1 rfl (lv_at hl 1 rfl) ?_
  obtain ⟨vr1, hq1, hf⟩ := rthn_some hf
  refine sRetC1 (g_runS B h (ok_X5_isMap B.2.2.2.2.2.2.2.2 B.2.2.2.2.2.2.1 _ _ v1 hq1) cw_X5_87 ⟨Nat.le_of_ble_eq_true rfl, Nat.le_of_ble_eq_true rfl⟩ rfl hl.1.symm rfl (Nat.le_of_ble_eq_true rfl) dX5_keyAt_2 ⟨Nat.zero_le _, Nat.zero_le _⟩) h (fun H locs h => ?_)
  refine lv_if_eq (tgt := 24) hx hb dX5_keyAt_5 (by decide) (fun c2 => ?_) (fun c2 => ?_)
  · rw [if_pos c2] at hf
    refine lv_iconst (v := (1 : Int32)) hx hb dX5_keyAt_24 (by decide) ?_
    refine lv_goto (tgt := 29) hx hb dX5_keyAt_25 (by decide) ?_
    exact k_X5_keyAt_29 B hr  _ _ _ _ _ hf _ _ _ h (lv_sub hl [0, 1, 2, 3] rfl)
  · rw [if_neg c2] at hf
    refine lv_iload_n hx hb dX5_keyAt_8 rfl (lv_at hl 2 rfl) ?_
    refine lv_iconst (v := (0 : Int32)) hx hb dX5_keyAt_9 (by decide) ?_
    refine lv_aload_n hx hb dX5_keyAt_10 rfl (lv_at hl 0 rfl) ?_
    refine g_get B h 44 (by decide) (C := RX5) (T := TX5) (N := 21) (M_row _) rfl hin_X5 2 (by decide) hw828 rfl rfl dX5_keyAt_11 ?_
    refine lv_iload_n hx hb dX5_keyAt_14 rfl (lv_at hl 1 rfl) ?_
    obtain ⟨c3, hf⟩ := chk_some hf
    refine g_iald B h 47 (by decide) (n := 3) (fun _ => rfl) (inb_in c3) dX5_keyAt_15 ?_
    refine lv_iconst (v := (1 : Int32)) hx hb dX5_keyAt_16 (by decide) ?_
    refine lv_isub hx hb dX5_keyAt_17 ?_
    obtain ⟨vr4, hq4, hf⟩ := rthn_some hf
    refine sRetC1 (g_runS B h (ok_X5_in B.2.2.2.2.2.2.2.2 B.2.2.2.2.2.2.1 _ _ v2 (0 : Int32) ((σ 47 (v1).toNatClampNeg) - (1 : Int32)) hq4) cw_X5_64 ⟨Nat.le_of_ble_eq_true rfl, Nat.le_of_ble_eq_true rfl⟩ rfl hl.1.symm rfl (Nat.le_of_ble_eq_true rfl) dX5_keyAt_18 ⟨Nat.zero_le _, Nat.zero_le _⟩) h (fun H locs h => ?_)
    refine lv_if_ne (tgt := 28) hx hb dX5_keyAt_21 (by decide) (fun c5 => ?_) (fun c5 => ?_)
    · rw [if_neg c5] at hf
      refine lv_iconst (v := (0 : Int32)) hx hb dX5_keyAt_28 (by decide) ?_
      exact k_X5_keyAt_29 B hr  _ _ _ _ _ hf _ _ _ h (lv_sub hl [0, 1, 2, 3] rfl)
    · rw [if_pos c5] at hf
      refine lv_iconst (v := (1 : Int32)) hx hb dX5_keyAt_24 (by decide) ?_
      refine lv_goto (tgt := 29) hx hb dX5_keyAt_25 (by decide) ?_
      exact k_X5_keyAt_29 B hr  _ _ _ _ _ hf _ _ _ h (lv_sub hl [0, 1, 2, 3] rfl)
set_option maxRecDepth 100000 in
theorem ok_X5_keyAt {l : Launch} (hl0 : l.stackTraces = false) {D : va_G} {cy : Nat → ClassId} {ad : Nat → Nat} (hap : sAp ad) (X : sX) (σ : sM) (v1 : Int32) (v2 : Int32) (v3 : Int32) {r : Int32} {σ' : sM} (hf : f_X5_keyAt v1 v2 v3 σ = some (r, σ')) : sMet l yX5_keyAt (sWs yX5_keyAt cX5_keyAt 4 (some .int)) 2 42 0 0 D cy ad X σ [.ref (ad 44), .int v1, .int v2, .int v3] (.inr (some (.int r))) X σ' := by
  refine sMet_of (by decide +kernel) (Nat.le_of_ble_eq_true rfl) hap hl0 ?_
  intro p e s m args below meth c ls B hr htab hl h
  exact k_X5_keyAt_0 B hr _ _ _ _  hf _ _ _ h hl
set_option maxHeartbeats 4000000 in
set_option maxRecDepth 100000 in
theorem k_X5_lies_0 {p : Program} {l : Launch} {e : Env} {s : State} {m : MethodId} {args : Array Value} {below : List Frame} {meth : Method} {c : Code} {D : va_G} {cy : Nat → ClassId} {ad : Nat → Nat} {X : sX} {r : Int32} {σ' : sM} (B : sB p l s m meth c args cX5_lies 3 RX5 D cy ad) (hr : meth.sig.returnType = (some .boolean)) (v1 : Int32) (v2 : Int32) (σ : sM) (hf : f_X5_lies v1 v2 σ = some (r, σ')) : sGo p l e { frames := 2, cells := 0, slots := 0, locals := 42 } s m args below meth c D cy ad X 3 (sQ below args s 0 0 D cy ad (.inr (some (.int r))) X σ') σ 0 [(0, .ref (ad 44)), (1, .int v1), (2, .int v2)] [] := by
  replace hf : (rthn (f_X5_isView v1 σ) (fun vr1 => if vr1 = 0 then (wthn (f_X5_refused (1 : Int32) σ) (fun vr13 σ13 => if vr13 = 0 then (rthn (f_X5_isIn v1 v2 σ13) (fun vr15 => if vr15 = 0 then (some ((0 : Int32), σ13)) else (some ((1 : Int32), σ13)))) else (some ((0 : Int32), σ13)))) else (chk (inb v1 4) (if (σ 48 (v1).toNatClampNeg) = 0 then (wthn (f_X5_refused (2 : Int32) σ) (fun vr9 σ9 => if vr9 = 0 then (rthn (f_X5_isIn v1 v2 σ9) (fun vr11 => if vr11 = 0 then (some ((0 : Int32), σ9)) else (some ((1 : Int32), σ9)))) else (some ((0 : Int32), σ9)))) else (wthn (f_X5_refused (0 : Int32) σ) (fun vr5 σ5 => if vr5 = 0 then (rthn (f_X5_isIn v1 v2 σ5) (fun vr7 => if vr7 = 0 then (some ((0 : Int32), σ5)) else (some ((1 : Int32), σ5)))) else (some ((0 : Int32), σ5)))))))) = some (r, σ') := hf
  intro H locs ls h hl
  have hx := B.1
  have hb := B.2.1
  refine lv_aload_n hx hb dX5_lies_0 rfl (lv_at hl 0 rfl) ?_
  refine lv_iload_n hx hb dX5_lies_1 rfl (lv_at hl 1 rfl) ?_
  obtain ⟨vr1, hq1, hf⟩ := rthn_some hf
  refine sRetC1 (g_runS B h (ok_X5_isView B.2.2.2.2.2.2.2.2 B.2.2.2.2.2.2.1 _ _ v1 hq1) cw_X5_126 ⟨Nat.le_of_ble_eq_true rfl, Nat.le_of_ble_eq_true rfl⟩ rfl hl.1.symm rfl (Nat.le_of_ble_eq_true rfl) dX5_lies_2 ⟨Nat.zero_le _, Nat.zero_le _⟩) h (fun H locs h => ?_)
  refine lv_if_ne (tgt := 12) hx hb dX5_lies_5 (by decide) (fun c2 => ?_) (fun c2 => ?_)
  · rw [if_neg c2] at hf
    refine lv_aload_n hx hb dX5_lies_12 rfl (lv_at hl 0 rfl) ?_
    refine g_get B h 44 (by decide) (C := RX5) (T := TX5) (N := 21) (M_row _) rfl hin_X5 3 (by decide) hw829 rfl rfl dX5_lies_13 ?_
    refine lv_iload_n hx hb dX5_lies_16 rfl (lv_at hl 1 rfl) ?_
    obtain ⟨c3, hf⟩ := chk_some hf
    refine g_zald B h 48 (by decide) (n := 4) (fun _ => rfl) (inb_in c3) dX5_lies_17 ?_
    refine lv_if_ne (tgt := 25) hx hb dX5_lies_18 (by decide) (fun c4 => ?_) (fun c4 => ?_)
    · rw [if_neg c4] at hf
      refine lv_iconst (v := (0 : Int32)) hx hb dX5_lies_25 (by decide) ?_
      obtain ⟨vr5, σ5, hq5, hf⟩ := wthn_some hf
      refine sRetC1 (g_runV (k := 44) (T := TX5) (N := 21) B h (ok_X5_refused B.2.2.2.2.2.2.2.2 B.2.2.2.2.2.2.1 _ _ (0 : Int32) hq5) cw_X5_95 ⟨Nat.le_of_ble_eq_true rfl, Nat.le_of_ble_eq_true rfl⟩ (by decide) (M_row _) rfl rfl hl.1.symm rfl (Nat.le_of_ble_eq_true rfl) dX5_lies_26 ⟨Nat.zero_le _, Nat.zero_le _⟩) h (fun H locs h => ?_)
      refine lv_if_ne (tgt := 45) hx hb dX5_lies_29 (by decide) (fun c6 => ?_) (fun c6 => ?_)
      · rw [if_neg c6] at hf
        refine lv_iconst (v := (0 : Int32)) hx hb dX5_lies_45 (by decide) ?_
        obtain ⟨rfl, rfl⟩ := Prod.mk.inj (Option.some.inj hf)
        exact sE_z B hr h rfl dX5_lies_46
      · rw [if_pos c6] at hf
        refine lv_aload_n hx hb dX5_lies_32 rfl (lv_at hl 0 rfl) ?_
        refine lv_iload_n hx hb dX5_lies_33 rfl (lv_at hl 1 rfl) ?_
        refine lv_iload_n hx hb dX5_lies_34 rfl (lv_at hl 2 rfl) ?_
        obtain ⟨vr7, hq7, hf⟩ := rthn_some hf
        refine sRetC1 (g_runV (k := 44) (T := TX5) (N := 21) B h (ok_X5_isIn B.2.2.2.2.2.2.2.2 B.2.2.2.2.2.2.1 _ _ v1 v2 hq7) cw_X5_120 ⟨Nat.le_of_ble_eq_true rfl, Nat.le_of_ble_eq_true rfl⟩ (by decide) (M_row _) rfl rfl hl.1.symm rfl (Nat.le_of_ble_eq_true rfl) dX5_lies_35 ⟨Nat.zero_le _, Nat.zero_le _⟩) h (fun H locs h => ?_)
        refine lv_if_eq (tgt := 45) hx hb dX5_lies_38 (by decide) (fun c8 => ?_) (fun c8 => ?_)
        · rw [if_pos c8] at hf
          refine lv_iconst (v := (0 : Int32)) hx hb dX5_lies_45 (by decide) ?_
          obtain ⟨rfl, rfl⟩ := Prod.mk.inj (Option.some.inj hf)
          exact sE_z B hr h rfl dX5_lies_46
        · rw [if_neg c8] at hf
          refine lv_iconst (v := (1 : Int32)) hx hb dX5_lies_41 (by decide) ?_
          refine lv_goto (tgt := 46) hx hb dX5_lies_42 (by decide) ?_
          obtain ⟨rfl, rfl⟩ := Prod.mk.inj (Option.some.inj hf)
          exact sE_z B hr h rfl dX5_lies_46
    · rw [if_pos c4] at hf
      refine lv_iconst (v := (2 : Int32)) hx hb dX5_lies_21 (by decide) ?_
      refine lv_goto (tgt := 26) hx hb dX5_lies_22 (by decide) ?_
      obtain ⟨vr9, σ9, hq9, hf⟩ := wthn_some hf
      refine sRetC1 (g_runV (k := 44) (T := TX5) (N := 21) B h (ok_X5_refused B.2.2.2.2.2.2.2.2 B.2.2.2.2.2.2.1 _ _ (2 : Int32) hq9) cw_X5_95 ⟨Nat.le_of_ble_eq_true rfl, Nat.le_of_ble_eq_true rfl⟩ (by decide) (M_row _) rfl rfl hl.1.symm rfl (Nat.le_of_ble_eq_true rfl) dX5_lies_26 ⟨Nat.zero_le _, Nat.zero_le _⟩) h (fun H locs h => ?_)
      refine lv_if_ne (tgt := 45) hx hb dX5_lies_29 (by decide) (fun c10 => ?_) (fun c10 => ?_)
      · rw [if_neg c10] at hf
        refine lv_iconst (v := (0 : Int32)) hx hb dX5_lies_45 (by decide) ?_
        obtain ⟨rfl, rfl⟩ := Prod.mk.inj (Option.some.inj hf)
        exact sE_z B hr h rfl dX5_lies_46
      · rw [if_pos c10] at hf
        refine lv_aload_n hx hb dX5_lies_32 rfl (lv_at hl 0 rfl) ?_
        refine lv_iload_n hx hb dX5_lies_33 rfl (lv_at hl 1 rfl) ?_
        refine lv_iload_n hx hb dX5_lies_34 rfl (lv_at hl 2 rfl) ?_
        obtain ⟨vr11, hq11, hf⟩ := rthn_some hf
        refine sRetC1 (g_runV (k := 44) (T := TX5) (N := 21) B h (ok_X5_isIn B.2.2.2.2.2.2.2.2 B.2.2.2.2.2.2.1 _ _ v1 v2 hq11) cw_X5_120 ⟨Nat.le_of_ble_eq_true rfl, Nat.le_of_ble_eq_true rfl⟩ (by decide) (M_row _) rfl rfl hl.1.symm rfl (Nat.le_of_ble_eq_true rfl) dX5_lies_35 ⟨Nat.zero_le _, Nat.zero_le _⟩) h (fun H locs h => ?_)
        refine lv_if_eq (tgt := 45) hx hb dX5_lies_38 (by decide) (fun c12 => ?_) (fun c12 => ?_)
        · rw [if_pos c12] at hf
          refine lv_iconst (v := (0 : Int32)) hx hb dX5_lies_45 (by decide) ?_
          obtain ⟨rfl, rfl⟩ := Prod.mk.inj (Option.some.inj hf)
          exact sE_z B hr h rfl dX5_lies_46
        · rw [if_neg c12] at hf
          refine lv_iconst (v := (1 : Int32)) hx hb dX5_lies_41 (by decide) ?_
          refine lv_goto (tgt := 46) hx hb dX5_lies_42 (by decide) ?_
          obtain ⟨rfl, rfl⟩ := Prod.mk.inj (Option.some.inj hf)
          exact sE_z B hr h rfl dX5_lies_46
  · rw [if_pos c2] at hf
    refine lv_iconst (v := (1 : Int32)) hx hb dX5_lies_8 (by decide) ?_
    refine lv_goto (tgt := 26) hx hb dX5_lies_9 (by decide) ?_
    obtain ⟨vr13, σ13, hq13, hf⟩ := wthn_some hf
    refine sRetC1 (g_runV (k := 44) (T := TX5) (N := 21) B h (ok_X5_refused B.2.2.2.2.2.2.2.2 B.2.2.2.2.2.2.1 _ _ (1 : Int32) hq13) cw_X5_95 ⟨Nat.le_of_ble_eq_true rfl, Nat.le_of_ble_eq_true rfl⟩ (by decide) (M_row _) rfl rfl hl.1.symm rfl (Nat.le_of_ble_eq_true rfl) dX5_lies_26 ⟨Nat.zero_le _, Nat.zero_le _⟩) h (fun H locs h => ?_)
    refine lv_if_ne (tgt := 45) hx hb dX5_lies_29 (by decide) (fun c14 => ?_) (fun c14 => ?_)
    · rw [if_neg c14] at hf
      refine lv_iconst (v := (0 : Int32)) hx hb dX5_lies_45 (by decide) ?_
      obtain ⟨rfl, rfl⟩ := Prod.mk.inj (Option.some.inj hf)
      exact sE_z B hr h rfl dX5_lies_46
    · rw [if_pos c14] at hf
      refine lv_aload_n hx hb dX5_lies_32 rfl (lv_at hl 0 rfl) ?_
      refine lv_iload_n hx hb dX5_lies_33 rfl (lv_at hl 1 rfl) ?_
      refine lv_iload_n hx hb dX5_lies_34 rfl (lv_at hl 2 rfl) ?_
      obtain ⟨vr15, hq15, hf⟩ := rthn_some hf
      refine sRetC1 (g_runV (k := 44) (T := TX5) (N := 21) B h (ok_X5_isIn B.2.2.2.2.2.2.2.2 B.2.2.2.2.2.2.1 _ _ v1 v2 hq15) cw_X5_120 ⟨Nat.le_of_ble_eq_true rfl, Nat.le_of_ble_eq_true rfl⟩ (by decide) (M_row _) rfl rfl hl.1.symm rfl (Nat.le_of_ble_eq_true rfl) dX5_lies_35 ⟨Nat.zero_le _, Nat.zero_le _⟩) h (fun H locs h => ?_)
      refine lv_if_eq (tgt := 45) hx hb dX5_lies_38 (by decide) (fun c16 => ?_) (fun c16 => ?_)
      · rw [if_pos c16] at hf
        refine lv_iconst (v := (0 : Int32)) hx hb dX5_lies_45 (by decide) ?_
        obtain ⟨rfl, rfl⟩ := Prod.mk.inj (Option.some.inj hf)
        exact sE_z B hr h rfl dX5_lies_46
      · rw [if_neg c16] at hf
        refine lv_iconst (v := (1 : Int32)) hx hb dX5_lies_41 (by decide) ?_
        refine lv_goto (tgt := 46) hx hb dX5_lies_42 (by decide) ?_
        obtain ⟨rfl, rfl⟩ := Prod.mk.inj (Option.some.inj hf)
        exact sE_z B hr h rfl dX5_lies_46
set_option maxRecDepth 100000 in
theorem ok_X5_lies {l : Launch} (hl0 : l.stackTraces = false) {D : va_G} {cy : Nat → ClassId} {ad : Nat → Nat} (hap : sAp ad) (X : sX) (σ : sM) (v1 : Int32) (v2 : Int32) {r : Int32} {σ' : sM} (hf : f_X5_lies v1 v2 σ = some (r, σ')) : sMet l yX5_lies (sWs yX5_lies cX5_lies 3 (some .boolean)) 2 42 0 0 D cy ad X σ [.ref (ad 44), .int v1, .int v2] (.inr (some (.int r))) X σ' := by
  refine sMet_of (by decide +kernel) (Nat.le_of_ble_eq_true rfl) hap hl0 ?_
  intro p e s m args below meth c ls B hr htab hl h
  exact k_X5_lies_0 B hr _ _ _  hf _ _ _ h hl
set_option maxHeartbeats 4000000 in
set_option maxRecDepth 100000 in
theorem k_X5_mark_25 {p : Program} {l : Launch} {e : Env} {s : State} {m : MethodId} {args : Array Value} {below : List Frame} {meth : Method} {c : Code} {D : va_G} {cy : Nat → ClassId} {ad : Nat → Nat} {X : sX} {r : Int32} {σ' : sM} (B : sB p l s m meth c args cX5_mark 4 RX5 D cy ad) (hr : meth.sig.returnType = (some .int)) : ∀ (n : Nat) (v1 : Int32) (v2 : Int32) (v3 : Int32) (σ : sM), b_X5_mark_25 n v1 v2 v3 σ = some (r, σ') → sGo p l e { frames := 2, cells := 0, slots := 0, locals := 42 } s m args below meth c D cy ad X 4 (sQ below args s 0 0 D cy ad (.inr (some (.int r))) X σ') σ 25 [(0, .ref (ad 44)), (1, .int v1), (2, .int v2), (3, .int v3)] [] := by
  intro n
  induction n with
  | zero =>
    intro v1 v2 v3 σ hf
    exact nomatch (show none = some (r, σ') from hf)
  | succ n ih =>
    intro v1 v2 v3 σ hf
    replace hf : (chk (inb v1 3) (if (σ 47 (v1).toNatClampNeg) ≤ v3 then (some (v2, σ)) else (chk (inb (((60 : Int32) * v1) + v3) 180) (chk (inb (((60 : Int32) * v1) + v3) 180) (b_X5_mark_25 n v1 (v2 + ((σ 45 ((((60 : Int32) * v1) + v3)).toNatClampNeg) ^^^ (σ 46 ((((60 : Int32) * v1) + v3)).toNatClampNeg))) (v3 + 1) σ))))) = some (r, σ') := hf
    intro H locs ls h hl
    have hx := B.1
    have hb := B.2.1
    refine lv_iload_n hx hb dX5_mark_25 rfl (lv_at hl 3 rfl) ?_
    refine lv_aload_n hx hb dX5_mark_26 rfl (lv_at hl 0 rfl) ?_
    refine g_get B h 44 (by decide) (C := RX5) (T := TX5) (N := 21) (M_row _) rfl hin_X5 2 (by decide) hw828 rfl rfl dX5_mark_27 ?_
    refine lv_iload_n hx hb dX5_mark_30 rfl (lv_at hl 1 rfl) ?_
    obtain ⟨c7, hf⟩ := chk_some hf
    refine g_iald B h 47 (by decide) (n := 3) (fun _ => rfl) (inb_in c7) dX5_mark_31 ?_
    refine lv_icmp_ge (tgt := 67) hx hb dX5_mark_32 (by decide) (fun c8 => ?_) (fun c8 => ?_)
    · rw [if_pos c8] at hf
      refine lv_iload_n hx hb dX5_mark_67 rfl (lv_at hl 2 rfl) ?_
      obtain ⟨rfl, rfl⟩ := Prod.mk.inj (Option.some.inj hf)
      exact sE_i B hr h dX5_mark_68
    · rw [if_neg c8] at hf
      refine lv_iload_n hx hb dX5_mark_35 rfl (lv_at hl 2 rfl) ?_
      refine lv_aload_n hx hb dX5_mark_36 rfl (lv_at hl 0 rfl) ?_
      refine g_get B h 44 (by decide) (C := RX5) (T := TX5) (N := 21) (M_row _) rfl hin_X5 0 (by decide) hw826 rfl rfl dX5_mark_37 ?_
      refine lv_bipush (v := (60 : Int32)) hx hb dX5_mark_40 (by decide) ?_
      refine lv_iload_n hx hb dX5_mark_42 rfl (lv_at hl 1 rfl) ?_
      refine lv_imul hx hb dX5_mark_43 ?_
      refine lv_iload_n hx hb dX5_mark_44 rfl (lv_at hl 3 rfl) ?_
      refine lv_iadd hx hb dX5_mark_45 ?_
      obtain ⟨c9, hf⟩ := chk_some hf
      refine g_iald B h 45 (by decide) (n := 180) (fun _ => rfl) (inb_in c9) dX5_mark_46 ?_
      refine lv_aload_n hx hb dX5_mark_47 rfl (lv_at hl 0 rfl) ?_
      refine g_get B h 44 (by decide) (C := RX5) (T := TX5) (N := 21) (M_row _) rfl hin_X5 1 (by decide) hw827 rfl rfl dX5_mark_48 ?_
      refine lv_bipush (v := (60 : Int32)) hx hb dX5_mark_51 (by decide) ?_
      refine lv_iload_n hx hb dX5_mark_53 rfl (lv_at hl 1 rfl) ?_
      refine lv_imul hx hb dX5_mark_54 ?_
      refine lv_iload_n hx hb dX5_mark_55 rfl (lv_at hl 3 rfl) ?_
      refine lv_iadd hx hb dX5_mark_56 ?_
      obtain ⟨c10, hf⟩ := chk_some hf
      refine g_iald B h 46 (by decide) (n := 180) (fun _ => rfl) (inb_in c10) dX5_mark_57 ?_
      refine lv_ixor hx hb dX5_mark_58 ?_
      refine lv_iadd hx hb dX5_mark_59 ?_
      refine lv_istore_n (lv' := [(2, .int (v2 + ((σ 45 ((((60 : Int32) * v1) + v3)).toNatClampNeg) ^^^ (σ 46 ((((60 : Int32) * v1) + v3)).toNatClampNeg)))), (0, .ref (ad 44)), (1, .int v1), (3, .int v3)]) hx hb dX5_mark_60 rfl hl (by decide) rfl (fun ls hl => ?_)
      refine lv_iinc (v := (v3 + 1)) (lv' := [(3, .int (v3 + 1)), (2, .int (v2 + ((σ 45 ((((60 : Int32) * v1) + v3)).toNatClampNeg) ^^^ (σ 46 ((((60 : Int32) * v1) + v3)).toNatClampNeg)))), (0, .ref (ad 44)), (1, .int v1)]) hx hb dX5_mark_61 hl (k := 3) rfl rfl (by decide) rfl (fun ls hl => ?_)
      refine lv_goto (tgt := 25) hx hb dX5_mark_64 (by decide) ?_
      exact ih _ _ _ _ hf _ _ _ h (lv_sub hl [2, 3, 1, 0] rfl)
set_option maxHeartbeats 4000000 in
set_option maxRecDepth 100000 in
theorem k_X5_mark_0 {p : Program} {l : Launch} {e : Env} {s : State} {m : MethodId} {args : Array Value} {below : List Frame} {meth : Method} {c : Code} {D : va_G} {cy : Nat → ClassId} {ad : Nat → Nat} {X : sX} {r : Int32} {σ' : sM} (B : sB p l s m meth c args cX5_mark 4 RX5 D cy ad) (hr : meth.sig.returnType = (some .int)) (v1 : Int32) (σ : sM) (hf : f_X5_mark v1 σ = some (r, σ')) : sGo p l e { frames := 2, cells := 0, slots := 0, locals := 42 } s m args below meth c D cy ad X 4 (sQ below args s 0 0 D cy ad (.inr (some (.int r))) X σ') σ 0 [(0, .ref (ad 44)), (1, .int v1)] [] := by
  replace hf : (rthn (f_X5_isMap v1 σ) (fun vr1 => if vr1 = 0 then (wthn (f_X5_refused (1 : Int32) σ) (fun vr5 σ5 => if vr5 = 0 then (b_X5_mark_25 FU v1 (0 : Int32) (0 : Int32) σ5) else (some ((0 : Int32), σ5)))) else (wthn (f_X5_refused (0 : Int32) σ) (fun vr3 σ3 => if vr3 = 0 then (b_X5_mark_25 FU v1 (0 : Int32) (0 : Int32) σ3) else (some ((0 : Int32), σ3)))))) = some (r, σ') := hf
  intro H locs ls h hl
  have hx := B.1
  have hb := B.2.1
  refine lv_aload_n hx hb dX5_mark_0 rfl (lv_at hl 0 rfl) ?_
  refine lv_iload_n hx hb dX5_mark_1 rfl (lv_at hl 1 rfl) ?_
  obtain ⟨vr1, hq1, hf⟩ := rthn_some hf
  refine sRetC1 (g_runS B h (ok_X5_isMap B.2.2.2.2.2.2.2.2 B.2.2.2.2.2.2.1 _ _ v1 hq1) cw_X5_87 ⟨Nat.le_of_ble_eq_true rfl, Nat.le_of_ble_eq_true rfl⟩ rfl hl.1.symm rfl (Nat.le_of_ble_eq_true rfl) dX5_mark_2 ⟨Nat.zero_le _, Nat.zero_le _⟩) h (fun H locs h => ?_)
  refine lv_if_ne (tgt := 12) hx hb dX5_mark_5 (by decide) (fun c2 => ?_) (fun c2 => ?_)
  · rw [if_neg c2] at hf
    refine lv_iconst (v := (0 : Int32)) hx hb dX5_mark_12 (by decide) ?_
    obtain ⟨vr3, σ3, hq3, hf⟩ := wthn_some hf
    refine sRetC1 (g_runV (k := 44) (T := TX5) (N := 21) B h (ok_X5_refused B.2.2.2.2.2.2.2.2 B.2.2.2.2.2.2.1 _ _ (0 : Int32) hq3) cw_X5_95 ⟨Nat.le_of_ble_eq_true rfl, Nat.le_of_ble_eq_true rfl⟩ (by decide) (M_row _) rfl rfl hl.1.symm rfl (Nat.le_of_ble_eq_true rfl) dX5_mark_13 ⟨Nat.zero_le _, Nat.zero_le _⟩) h (fun H locs h => ?_)
    refine lv_if_eq (tgt := 21) hx hb dX5_mark_16 (by decide) (fun c4 => ?_) (fun c4 => ?_)
    · rw [if_pos c4] at hf
      refine lv_iconst (v := (0 : Int32)) hx hb dX5_mark_21 (by decide) ?_
      refine lv_istore_n (lv' := [(2, .int (0 : Int32)), (0, .ref (ad 44)), (1, .int v1)]) hx hb dX5_mark_22 rfl hl (by decide) rfl (fun ls hl => ?_)
      refine lv_iconst (v := (0 : Int32)) hx hb dX5_mark_23 (by decide) ?_
      refine lv_istore_n (lv' := [(3, .int (0 : Int32)), (2, .int (0 : Int32)), (0, .ref (ad 44)), (1, .int v1)]) hx hb dX5_mark_24 rfl hl (by decide) rfl (fun ls hl => ?_)
      exact k_X5_mark_25 B hr  _ _ _ _ _ hf _ _ _ h (lv_sub hl [2, 3, 1, 0] rfl)
    · rw [if_neg c4] at hf
      refine lv_iconst (v := (0 : Int32)) hx hb dX5_mark_19 (by decide) ?_
      obtain ⟨rfl, rfl⟩ := Prod.mk.inj (Option.some.inj hf)
      exact sE_i B hr h dX5_mark_20
  · rw [if_pos c2] at hf
    refine lv_iconst (v := (1 : Int32)) hx hb dX5_mark_8 (by decide) ?_
    refine lv_goto (tgt := 13) hx hb dX5_mark_9 (by decide) ?_
    obtain ⟨vr5, σ5, hq5, hf⟩ := wthn_some hf
    refine sRetC1 (g_runV (k := 44) (T := TX5) (N := 21) B h (ok_X5_refused B.2.2.2.2.2.2.2.2 B.2.2.2.2.2.2.1 _ _ (1 : Int32) hq5) cw_X5_95 ⟨Nat.le_of_ble_eq_true rfl, Nat.le_of_ble_eq_true rfl⟩ (by decide) (M_row _) rfl rfl hl.1.symm rfl (Nat.le_of_ble_eq_true rfl) dX5_mark_13 ⟨Nat.zero_le _, Nat.zero_le _⟩) h (fun H locs h => ?_)
    refine lv_if_eq (tgt := 21) hx hb dX5_mark_16 (by decide) (fun c6 => ?_) (fun c6 => ?_)
    · rw [if_pos c6] at hf
      refine lv_iconst (v := (0 : Int32)) hx hb dX5_mark_21 (by decide) ?_
      refine lv_istore_n (lv' := [(2, .int (0 : Int32)), (0, .ref (ad 44)), (1, .int v1)]) hx hb dX5_mark_22 rfl hl (by decide) rfl (fun ls hl => ?_)
      refine lv_iconst (v := (0 : Int32)) hx hb dX5_mark_23 (by decide) ?_
      refine lv_istore_n (lv' := [(3, .int (0 : Int32)), (2, .int (0 : Int32)), (0, .ref (ad 44)), (1, .int v1)]) hx hb dX5_mark_24 rfl hl (by decide) rfl (fun ls hl => ?_)
      exact k_X5_mark_25 B hr  _ _ _ _ _ hf _ _ _ h (lv_sub hl [2, 3, 1, 0] rfl)
    · rw [if_neg c6] at hf
      refine lv_iconst (v := (0 : Int32)) hx hb dX5_mark_19 (by decide) ?_
      obtain ⟨rfl, rfl⟩ := Prod.mk.inj (Option.some.inj hf)
      exact sE_i B hr h dX5_mark_20
set_option maxRecDepth 100000 in
theorem ok_X5_mark {l : Launch} (hl0 : l.stackTraces = false) {D : va_G} {cy : Nat → ClassId} {ad : Nat → Nat} (hap : sAp ad) (X : sX) (σ : sM) (v1 : Int32) {r : Int32} {σ' : sM} (hf : f_X5_mark v1 σ = some (r, σ')) : sMet l yX5_mark (sWs yX5_mark cX5_mark 4 (some .int)) 2 42 0 0 D cy ad X σ [.ref (ad 44), .int v1] (.inr (some (.int r))) X σ' := by
  refine sMet_of (by decide +kernel) (Nat.le_of_ble_eq_true rfl) hap hl0 ?_
  intro p e s m args below meth c ls B hr htab hl h
  exact k_X5_mark_0 B hr _ _  hf _ _ _ h hl
set_option maxHeartbeats 4000000 in
set_option maxRecDepth 100000 in
theorem k_X5_meanKey_39 {p : Program} {l : Launch} {e : Env} {s : State} {m : MethodId} {args : Array Value} {below : List Frame} {meth : Method} {c : Code} {D : va_G} {cy : Nat → ClassId} {ad : Nat → Nat} {X : sX} {r : UInt64} {σ' : sM} (B : sB p l s m meth c args cX5_meanKey 5 RX5 D cy ad) (hr : meth.sig.returnType = (some .double)) : ∀ (n : Nat) (v1 : Int32) (v2 : Int64) (v4 : Int32) (σ : sM), b_X5_meanKey_39 n v1 v2 v4 σ = some (r, σ') → sGo p l e { frames := 2, cells := 0, slots := 0, locals := 42 } s m args below meth c D cy ad X 5 (sQ below args s 0 0 D cy ad (.inr (some (.double r))) X σ') σ 39 [(0, .ref (ad 44)), (1, .int v1), (2, .long v2), (4, .int v4)] [] := by
  intro n
  induction n with
  | zero =>
    intro v1 v2 v4 σ hf
    exact nomatch (show none = some (r, σ') from hf)
  | succ n ih =>
    intro v1 v2 v4 σ hf
    replace hf : (chk (inb v1 3) (if (σ 47 (v1).toNatClampNeg) ≤ v4 then (chk (inb v1 3) (chk (nn64 (FP.ddiv (FP.l2d v2) (FP.i2d (σ 47 (v1).toNatClampNeg)))) (some ((FP.ddiv (FP.l2d v2) (FP.i2d (σ 47 (v1).toNatClampNeg))), σ)))) else (chk (inb (((60 : Int32) * v1) + v4) 180) (b_X5_meanKey_39 n v1 (v2 + ((σ 45 ((((60 : Int32) * v1) + v4)).toNatClampNeg).toInt64)) (v4 + 1) σ)))) = some (r, σ') := hf
    intro H locs ls h hl
    have hx := B.1
    have hb := B.2.1
    refine lv_iload hx hb dX5_meanKey_39 (lv_at hl 3 rfl) ?_
    refine lv_aload_n hx hb dX5_meanKey_41 rfl (lv_at hl 0 rfl) ?_
    refine g_get B h 44 (by decide) (C := RX5) (T := TX5) (N := 21) (M_row _) rfl hin_X5 2 (by decide) hw828 rfl rfl dX5_meanKey_42 ?_
    refine lv_iload_n hx hb dX5_meanKey_45 rfl (lv_at hl 1 rfl) ?_
    obtain ⟨c11, hf⟩ := chk_some hf
    refine g_iald B h 47 (by decide) (n := 3) (fun _ => rfl) (inb_in c11) dX5_meanKey_46 ?_
    refine lv_icmp_ge (tgt := 72) hx hb dX5_meanKey_47 (by decide) (fun c12 => ?_) (fun c12 => ?_)
    · rw [if_pos c12] at hf
      refine lv_lload_n hx hb dX5_meanKey_72 rfl (lv_at hl 2 rfl) ?_
      refine lv_l2d hx hb dX5_meanKey_73 ?_
      refine lv_aload_n hx hb dX5_meanKey_74 rfl (lv_at hl 0 rfl) ?_
      refine g_get B h 44 (by decide) (C := RX5) (T := TX5) (N := 21) (M_row _) rfl hin_X5 2 (by decide) hw828 rfl rfl dX5_meanKey_75 ?_
      refine lv_iload_n hx hb dX5_meanKey_78 rfl (lv_at hl 1 rfl) ?_
      obtain ⟨c13, hf⟩ := chk_some hf
      refine g_iald B h 47 (by decide) (n := 3) (fun _ => rfl) (inb_in c13) dX5_meanKey_79 ?_
      refine lv_i2d hx hb dX5_meanKey_80 ?_
      obtain ⟨c14, hf⟩ := chk_some hf
      refine lv_ddiv hx hb dX5_meanKey_81 (nn64_n c14) ?_
      obtain ⟨rfl, rfl⟩ := Prod.mk.inj (Option.some.inj hf)
      exact sE_d B hr h dX5_meanKey_82
    · rw [if_neg c12] at hf
      refine lv_lload_n hx hb dX5_meanKey_50 rfl (lv_at hl 2 rfl) ?_
      refine lv_aload_n hx hb dX5_meanKey_51 rfl (lv_at hl 0 rfl) ?_
      refine g_get B h 44 (by decide) (C := RX5) (T := TX5) (N := 21) (M_row _) rfl hin_X5 0 (by decide) hw826 rfl rfl dX5_meanKey_52 ?_
      refine lv_bipush (v := (60 : Int32)) hx hb dX5_meanKey_55 (by decide) ?_
      refine lv_iload_n hx hb dX5_meanKey_57 rfl (lv_at hl 1 rfl) ?_
      refine lv_imul hx hb dX5_meanKey_58 ?_
      refine lv_iload hx hb dX5_meanKey_59 (lv_at hl 3 rfl) ?_
      refine lv_iadd hx hb dX5_meanKey_61 ?_
      obtain ⟨c15, hf⟩ := chk_some hf
      refine g_iald B h 45 (by decide) (n := 180) (fun _ => rfl) (inb_in c15) dX5_meanKey_62 ?_
      refine lv_i2l (v := ((σ 45 ((((60 : Int32) * v1) + v4)).toNatClampNeg).toInt64)) hx hb dX5_meanKey_63 rfl ?_
      refine lv_ladd hx hb dX5_meanKey_64 ?_
      refine lv_lstore_n (lv' := [(2, .long (v2 + ((σ 45 ((((60 : Int32) * v1) + v4)).toNatClampNeg).toInt64))), (0, .ref (ad 44)), (1, .int v1), (4, .int v4)]) hx hb dX5_meanKey_65 rfl hl (by decide) rfl (fun ls hl => ?_)
      refine lv_iinc (v := (v4 + 1)) (lv' := [(4, .int (v4 + 1)), (2, .long (v2 + ((σ 45 ((((60 : Int32) * v1) + v4)).toNatClampNeg).toInt64))), (0, .ref (ad 44)), (1, .int v1)]) hx hb dX5_meanKey_66 hl (k := 3) rfl rfl (by decide) rfl (fun ls hl => ?_)
      refine lv_goto (tgt := 39) hx hb dX5_meanKey_69 (by decide) ?_
      exact ih _ _ _ _ hf _ _ _ h (lv_sub hl [2, 3, 1, 0] rfl)
set_option maxHeartbeats 4000000 in
set_option maxRecDepth 100000 in
theorem k_X5_meanKey_0 {p : Program} {l : Launch} {e : Env} {s : State} {m : MethodId} {args : Array Value} {below : List Frame} {meth : Method} {c : Code} {D : va_G} {cy : Nat → ClassId} {ad : Nat → Nat} {X : sX} {r : UInt64} {σ' : sM} (B : sB p l s m meth c args cX5_meanKey 5 RX5 D cy ad) (hr : meth.sig.returnType = (some .double)) (v1 : Int32) (σ : sM) (hf : f_X5_meanKey v1 σ = some (r, σ')) : sGo p l e { frames := 2, cells := 0, slots := 0, locals := 42 } s m args below meth c D cy ad X 5 (sQ below args s 0 0 D cy ad (.inr (some (.double r))) X σ') σ 0 [(0, .ref (ad 44)), (1, .int v1)] [] := by
  replace hf : (rthn (f_X5_isMap v1 σ) (fun vr1 => if vr1 = 0 then (wthn (f_X5_refused (1 : Int32) σ) (fun vr9 σ9 => if vr9 = 0 then (b_X5_meanKey_39 FU v1 (0 : Int64) (0 : Int32) σ9) else (some (FP.dconst0, σ9)))) else (chk (inb v1 3) (if (σ 47 (v1).toNatClampNeg) = 0 then (wthn (f_X5_refused (2 : Int32) σ) (fun vr7 σ7 => if vr7 = 0 then (b_X5_meanKey_39 FU v1 (0 : Int64) (0 : Int32) σ7) else (some (FP.dconst0, σ7)))) else (wthn (f_X5_refused (0 : Int32) σ) (fun vr5 σ5 => if vr5 = 0 then (b_X5_meanKey_39 FU v1 (0 : Int64) (0 : Int32) σ5) else (some (FP.dconst0, σ5)))))))) = some (r, σ') := hf
  intro H locs ls h hl
  have hx := B.1
  have hb := B.2.1
  refine lv_aload_n hx hb dX5_meanKey_0 rfl (lv_at hl 0 rfl) ?_
  refine lv_iload_n hx hb dX5_meanKey_1 rfl (lv_at hl 1 rfl) ?_
  obtain ⟨vr1, hq1, hf⟩ := rthn_some hf
  refine sRetC1 (g_runS B h (ok_X5_isMap B.2.2.2.2.2.2.2.2 B.2.2.2.2.2.2.1 _ _ v1 hq1) cw_X5_87 ⟨Nat.le_of_ble_eq_true rfl, Nat.le_of_ble_eq_true rfl⟩ rfl hl.1.symm rfl (Nat.le_of_ble_eq_true rfl) dX5_meanKey_2 ⟨Nat.zero_le _, Nat.zero_le _⟩) h (fun H locs h => ?_)
  refine lv_if_ne (tgt := 12) hx hb dX5_meanKey_5 (by decide) (fun c2 => ?_) (fun c2 => ?_)
  · rw [if_neg c2] at hf
    refine lv_aload_n hx hb dX5_meanKey_12 rfl (lv_at hl 0 rfl) ?_
    refine g_get B h 44 (by decide) (C := RX5) (T := TX5) (N := 21) (M_row _) rfl hin_X5 2 (by decide) hw828 rfl rfl dX5_meanKey_13 ?_
    refine lv_iload_n hx hb dX5_meanKey_16 rfl (lv_at hl 1 rfl) ?_
    obtain ⟨c3, hf⟩ := chk_some hf
    refine g_iald B h 47 (by decide) (n := 3) (fun _ => rfl) (inb_in c3) dX5_meanKey_17 ?_
    refine lv_if_ne (tgt := 25) hx hb dX5_meanKey_18 (by decide) (fun c4 => ?_) (fun c4 => ?_)
    · rw [if_neg c4] at hf
      refine lv_iconst (v := (0 : Int32)) hx hb dX5_meanKey_25 (by decide) ?_
      obtain ⟨vr5, σ5, hq5, hf⟩ := wthn_some hf
      refine sRetC1 (g_runV (k := 44) (T := TX5) (N := 21) B h (ok_X5_refused B.2.2.2.2.2.2.2.2 B.2.2.2.2.2.2.1 _ _ (0 : Int32) hq5) cw_X5_95 ⟨Nat.le_of_ble_eq_true rfl, Nat.le_of_ble_eq_true rfl⟩ (by decide) (M_row _) rfl rfl hl.1.symm rfl (Nat.le_of_ble_eq_true rfl) dX5_meanKey_26 ⟨Nat.zero_le _, Nat.zero_le _⟩) h (fun H locs h => ?_)
      refine lv_if_eq (tgt := 34) hx hb dX5_meanKey_29 (by decide) (fun c6 => ?_) (fun c6 => ?_)
      · rw [if_pos c6] at hf
        refine lv_lconst (v := (0 : Int64)) hx hb dX5_meanKey_34 (by decide) ?_
        refine lv_lstore_n (lv' := [(2, .long (0 : Int64)), (0, .ref (ad 44)), (1, .int v1)]) hx hb dX5_meanKey_35 rfl hl (by decide) rfl (fun ls hl => ?_)
        refine lv_iconst (v := (0 : Int32)) hx hb dX5_meanKey_36 (by decide) ?_
        refine lv_istore (lv' := [(4, .int (0 : Int32)), (2, .long (0 : Int64)), (0, .ref (ad 44)), (1, .int v1)]) hx hb dX5_meanKey_37 hl (by decide) rfl (fun ls hl => ?_)
        exact k_X5_meanKey_39 B hr  _ _ _ _ _ hf _ _ _ h (lv_sub hl [2, 3, 1, 0] rfl)
      · rw [if_neg c6] at hf
        refine lv_dconst0 hx hb dX5_meanKey_32 ?_
        obtain ⟨rfl, rfl⟩ := Prod.mk.inj (Option.some.inj hf)
        exact sE_d B hr h dX5_meanKey_33
    · rw [if_pos c4] at hf
      refine lv_iconst (v := (2 : Int32)) hx hb dX5_meanKey_21 (by decide) ?_
      refine lv_goto (tgt := 26) hx hb dX5_meanKey_22 (by decide) ?_
      obtain ⟨vr7, σ7, hq7, hf⟩ := wthn_some hf
      refine sRetC1 (g_runV (k := 44) (T := TX5) (N := 21) B h (ok_X5_refused B.2.2.2.2.2.2.2.2 B.2.2.2.2.2.2.1 _ _ (2 : Int32) hq7) cw_X5_95 ⟨Nat.le_of_ble_eq_true rfl, Nat.le_of_ble_eq_true rfl⟩ (by decide) (M_row _) rfl rfl hl.1.symm rfl (Nat.le_of_ble_eq_true rfl) dX5_meanKey_26 ⟨Nat.zero_le _, Nat.zero_le _⟩) h (fun H locs h => ?_)
      refine lv_if_eq (tgt := 34) hx hb dX5_meanKey_29 (by decide) (fun c8 => ?_) (fun c8 => ?_)
      · rw [if_pos c8] at hf
        refine lv_lconst (v := (0 : Int64)) hx hb dX5_meanKey_34 (by decide) ?_
        refine lv_lstore_n (lv' := [(2, .long (0 : Int64)), (0, .ref (ad 44)), (1, .int v1)]) hx hb dX5_meanKey_35 rfl hl (by decide) rfl (fun ls hl => ?_)
        refine lv_iconst (v := (0 : Int32)) hx hb dX5_meanKey_36 (by decide) ?_
        refine lv_istore (lv' := [(4, .int (0 : Int32)), (2, .long (0 : Int64)), (0, .ref (ad 44)), (1, .int v1)]) hx hb dX5_meanKey_37 hl (by decide) rfl (fun ls hl => ?_)
        exact k_X5_meanKey_39 B hr  _ _ _ _ _ hf _ _ _ h (lv_sub hl [2, 3, 1, 0] rfl)
      · rw [if_neg c8] at hf
        refine lv_dconst0 hx hb dX5_meanKey_32 ?_
        obtain ⟨rfl, rfl⟩ := Prod.mk.inj (Option.some.inj hf)
        exact sE_d B hr h dX5_meanKey_33
  · rw [if_pos c2] at hf
    refine lv_iconst (v := (1 : Int32)) hx hb dX5_meanKey_8 (by decide) ?_
    refine lv_goto (tgt := 26) hx hb dX5_meanKey_9 (by decide) ?_
    obtain ⟨vr9, σ9, hq9, hf⟩ := wthn_some hf
    refine sRetC1 (g_runV (k := 44) (T := TX5) (N := 21) B h (ok_X5_refused B.2.2.2.2.2.2.2.2 B.2.2.2.2.2.2.1 _ _ (1 : Int32) hq9) cw_X5_95 ⟨Nat.le_of_ble_eq_true rfl, Nat.le_of_ble_eq_true rfl⟩ (by decide) (M_row _) rfl rfl hl.1.symm rfl (Nat.le_of_ble_eq_true rfl) dX5_meanKey_26 ⟨Nat.zero_le _, Nat.zero_le _⟩) h (fun H locs h => ?_)
    refine lv_if_eq (tgt := 34) hx hb dX5_meanKey_29 (by decide) (fun c10 => ?_) (fun c10 => ?_)
    · rw [if_pos c10] at hf
      refine lv_lconst (v := (0 : Int64)) hx hb dX5_meanKey_34 (by decide) ?_
      refine lv_lstore_n (lv' := [(2, .long (0 : Int64)), (0, .ref (ad 44)), (1, .int v1)]) hx hb dX5_meanKey_35 rfl hl (by decide) rfl (fun ls hl => ?_)
      refine lv_iconst (v := (0 : Int32)) hx hb dX5_meanKey_36 (by decide) ?_
      refine lv_istore (lv' := [(4, .int (0 : Int32)), (2, .long (0 : Int64)), (0, .ref (ad 44)), (1, .int v1)]) hx hb dX5_meanKey_37 hl (by decide) rfl (fun ls hl => ?_)
      exact k_X5_meanKey_39 B hr  _ _ _ _ _ hf _ _ _ h (lv_sub hl [2, 3, 1, 0] rfl)
    · rw [if_neg c10] at hf
      refine lv_dconst0 hx hb dX5_meanKey_32 ?_
      obtain ⟨rfl, rfl⟩ := Prod.mk.inj (Option.some.inj hf)
      exact sE_d B hr h dX5_meanKey_33
set_option maxRecDepth 100000 in
theorem ok_X5_meanKey {l : Launch} (hl0 : l.stackTraces = false) {D : va_G} {cy : Nat → ClassId} {ad : Nat → Nat} (hap : sAp ad) (X : sX) (σ : sM) (v1 : Int32) {r : UInt64} {σ' : sM} (hf : f_X5_meanKey v1 σ = some (r, σ')) : sMet l yX5_meanKey (sWs yX5_meanKey cX5_meanKey 5 (some .double)) 2 42 0 0 D cy ad X σ [.ref (ad 44), .int v1] (.inr (some (.double r))) X σ' := by
  refine sMet_of (by decide +kernel) (Nat.le_of_ble_eq_true rfl) hap hl0 ?_
  intro p e s m args below meth c ls B hr htab hl h
  exact k_X5_meanKey_0 B hr _ _  hf _ _ _ h hl
set_option maxHeartbeats 4000000 in
set_option maxRecDepth 100000 in
theorem k_X5_meet_44 {p : Program} {l : Launch} {e : Env} {s : State} {m : MethodId} {args : Array Value} {below : List Frame} {meth : Method} {c : Code} {D : va_G} {cy : Nat → ClassId} {ad : Nat → Nat} {X : sX} {r : Int32} {σ' : sM} (B : sB p l s m meth c args cX5_meet 5 RX5 D cy ad) (hr : meth.sig.returnType = (some .int)) : ∀ (n : Nat) (v2 : Int32) (v3 : Int32) (v4 : Int32) (σ : sM), b_X5_meet_44 n v2 v3 v4 σ = some (r, σ') → sGo p l e { frames := 3, cells := 0, slots := 0, locals := 72 } s m args below meth c D cy ad X 5 (sQ below args s 0 0 D cy ad (.inr (some (.int r))) X σ') σ 44 [(0, .ref (ad 44)), (2, .int v2), (3, .int v3), (4, .int v4)] [] := by
  intro n
  induction n with
  | zero =>
    intro v2 v3 v4 σ hf
    exact nomatch (show none = some (r, σ') from hf)
  | succ n ih =>
    intro v2 v3 v4 σ hf
    replace hf : (if (σ 44 15) ≤ v4 then (some (v3, σ)) else (chk (inb v4 60) (rthn (f_X5_hasKey v2 (σ 59 (v4).toNatClampNeg) σ) (fun vr11 => if vr11 = 0 then (b_X5_meet_44 n v2 (v3 + (0 : Int32)) (v4 + 1) σ) else (b_X5_meet_44 n v2 (v3 + (1 : Int32)) (v4 + 1) σ))))) = some (r, σ') := hf
    intro H locs ls h hl
    have hx := B.1
    have hb := B.2.1
    refine lv_iload hx hb dX5_meet_44 (lv_at hl 3 rfl) ?_
    refine lv_aload_n hx hb dX5_meet_46 rfl (lv_at hl 0 rfl) ?_
    refine g_get B h 44 (by decide) (C := RX5) (T := TX5) (N := 21) (M_row _) rfl hin_X5 15 (by decide) hw841 rfl rfl dX5_meet_47 ?_
    refine lv_icmp_ge (tgt := 82) hx hb dX5_meet_50 (by decide) (fun c9 => ?_) (fun c9 => ?_)
    · rw [if_pos c9] at hf
      refine lv_iload_n hx hb dX5_meet_82 rfl (lv_at hl 2 rfl) ?_
      obtain ⟨rfl, rfl⟩ := Prod.mk.inj (Option.some.inj hf)
      exact sE_i B hr h dX5_meet_83
    · rw [if_neg c9] at hf
      refine lv_iload_n hx hb dX5_meet_53 rfl (lv_at hl 2 rfl) ?_
      refine lv_aload_n hx hb dX5_meet_54 rfl (lv_at hl 0 rfl) ?_
      refine lv_iload_n hx hb dX5_meet_55 rfl (lv_at hl 1 rfl) ?_
      refine lv_aload_n hx hb dX5_meet_56 rfl (lv_at hl 0 rfl) ?_
      refine g_get B h 44 (by decide) (C := RX5) (T := TX5) (N := 21) (M_row _) rfl hin_X5 14 (by decide) hw840 rfl rfl dX5_meet_57 ?_
      refine lv_iload hx hb dX5_meet_60 (lv_at hl 3 rfl) ?_
      obtain ⟨c10, hf⟩ := chk_some hf
      refine g_iald B h 59 (by decide) (n := 60) (fun _ => rfl) (inb_in c10) dX5_meet_62 ?_
      obtain ⟨vr11, hq11, hf⟩ := rthn_some hf
      refine sRetC1 (g_runV (k := 44) (T := TX5) (N := 21) B h (ok_X5_hasKey B.2.2.2.2.2.2.2.2 B.2.2.2.2.2.2.1 _ _ v2 (σ 59 (v4).toNatClampNeg) hq11) cw_X5_155 ⟨Nat.le_of_ble_eq_true rfl, Nat.le_of_ble_eq_true rfl⟩ (by decide) (M_row _) rfl rfl hl.1.symm rfl (Nat.le_of_ble_eq_true rfl) dX5_meet_63 ⟨Nat.zero_le _, Nat.zero_le _⟩) h (fun H locs h => ?_)
      refine lv_if_eq (tgt := 73) hx hb dX5_meet_66 (by decide) (fun c12 => ?_) (fun c12 => ?_)
      · rw [if_pos c12] at hf
        refine lv_iconst (v := (0 : Int32)) hx hb dX5_meet_73 (by decide) ?_
        refine lv_iadd hx hb dX5_meet_74 ?_
        refine lv_istore_n (lv' := [(3, .int (v3 + (0 : Int32))), (0, .ref (ad 44)), (2, .int v2), (4, .int v4)]) hx hb dX5_meet_75 rfl hl (by decide) rfl (fun ls hl => ?_)
        refine lv_iinc (v := (v4 + 1)) (lv' := [(4, .int (v4 + 1)), (3, .int (v3 + (0 : Int32))), (0, .ref (ad 44)), (2, .int v2)]) hx hb dX5_meet_76 hl (k := 3) rfl rfl (by decide) rfl (fun ls hl => ?_)
        refine lv_goto (tgt := 44) hx hb dX5_meet_79 (by decide) ?_
        exact ih _ _ _ _ hf _ _ _ h (lv_sub hl [2, 3, 1, 0] rfl)
      · rw [if_neg c12] at hf
        refine lv_iconst (v := (1 : Int32)) hx hb dX5_meet_69 (by decide) ?_
        refine lv_goto (tgt := 74) hx hb dX5_meet_70 (by decide) ?_
        refine lv_iadd hx hb dX5_meet_74 ?_
        refine lv_istore_n (lv' := [(3, .int (v3 + (1 : Int32))), (0, .ref (ad 44)), (2, .int v2), (4, .int v4)]) hx hb dX5_meet_75 rfl hl (by decide) rfl (fun ls hl => ?_)
        refine lv_iinc (v := (v4 + 1)) (lv' := [(4, .int (v4 + 1)), (3, .int (v3 + (1 : Int32))), (0, .ref (ad 44)), (2, .int v2)]) hx hb dX5_meet_76 hl (k := 3) rfl rfl (by decide) rfl (fun ls hl => ?_)
        refine lv_goto (tgt := 44) hx hb dX5_meet_79 (by decide) ?_
        exact ih _ _ _ _ hf _ _ _ h (lv_sub hl [2, 3, 1, 0] rfl)
set_option maxHeartbeats 4000000 in
set_option maxRecDepth 100000 in
theorem k_X5_meet_20 {p : Program} {l : Launch} {e : Env} {s : State} {m : MethodId} {args : Array Value} {below : List Frame} {meth : Method} {c : Code} {D : va_G} {cy : Nat → ClassId} {ad : Nat → Nat} {X : sX} {r : Int32} {σ' : sM} (B : sB p l s m meth c args cX5_meet 5 RX5 D cy ad) (hr : meth.sig.returnType = (some .int)) (v1 : Int32) (v2 : Int32) (vs1 : Int32) (σ : sM) (hf : b_X5_meet_20 v1 v2 vs1 σ = some (r, σ')) : sGo p l e { frames := 3, cells := 0, slots := 0, locals := 72 } s m args below meth c D cy ad X 5 (sQ below args s 0 0 D cy ad (.inr (some (.int r))) X σ') σ 20 [(0, .ref (ad 44)), (1, .int v1), (2, .int v2)] [.int vs1, .ref (ad 44)] := by
  replace hf : (wthn (f_X5_refused vs1 σ) (fun vr5 σ5 => if vr5 = 0 then (stl (va_up σ5 44 (upd (σ5 44) 15 (0 : Int32))) (fun σ7 => wthn (f_X5_gathers v1 (-1 : Int32) σ7) (fun _ σ8 => b_X5_meet_44 FU v2 (0 : Int32) (0 : Int32) σ8))) else (some ((0 : Int32), σ5)))) = some (r, σ') := hf
  intro H locs ls h hl
  have hx := B.1
  have hb := B.2.1
  obtain ⟨vr5, σ5, hq5, hf⟩ := wthn_some hf
  refine sRetC1 (g_runV (k := 44) (T := TX5) (N := 21) B h (ok_X5_refused B.2.2.2.2.2.2.2.2 B.2.2.2.2.2.2.1 _ _ vs1 hq5) cw_X5_95 ⟨Nat.le_of_ble_eq_true rfl, Nat.le_of_ble_eq_true rfl⟩ (by decide) (M_row _) rfl rfl hl.1.symm rfl (Nat.le_of_ble_eq_true rfl) dX5_meet_20 ⟨Nat.zero_le _, Nat.zero_le _⟩) h (fun H locs h => ?_)
  refine lv_if_eq (tgt := 28) hx hb dX5_meet_23 (by decide) (fun c6 => ?_) (fun c6 => ?_)
  · rw [if_pos c6] at hf
    refine lv_aload_n hx hb dX5_meet_28 rfl (lv_at hl 0 rfl) ?_
    refine lv_iconst (v := (0 : Int32)) hx hb dX5_meet_29 (by decide) ?_
    refine g_put B h 44 (by decide) (C := RX5) (T := TX5) (N := 21) (M_row _) rfl hin_X5 tyX5 tyX5_ok nmX5 15 (by decide) hw841 rfl rfl rfl rfl (upd (σ5 44) 15 (0 : Int32)) (M_put15 _ _) (Nat.le_of_ble_eq_true rfl) dX5_meet_30 (fun H locs h => ?_)
    obtain ⟨σ7, e7, hf⟩ := stl_some hf
    rw [← e7] at h
    refine lv_aload_n hx hb dX5_meet_33 rfl (lv_at hl 0 rfl) ?_
    refine lv_iload_n hx hb dX5_meet_34 rfl (lv_at hl 1 rfl) ?_
    refine lv_iconst (v := (-1 : Int32)) hx hb dX5_meet_35 (by decide) ?_
    obtain ⟨vr8, σ8, hq8, hf⟩ := wthn_some hf
    refine sRetC0 (g_runV (k := 44) (T := TX5) (N := 21) B h (ok_X5_gathers B.2.2.2.2.2.2.2.2 B.2.2.2.2.2.2.1 _ _ v1 (-1 : Int32) hq8) cw_X5_146 ⟨Nat.le_of_ble_eq_true rfl, Nat.le_of_ble_eq_true rfl⟩ (by decide) (M_row _) rfl rfl hl.1.symm rfl (Nat.le_of_ble_eq_true rfl) dX5_meet_36 ⟨Nat.zero_le _, Nat.zero_le _⟩) h (fun H locs h => ?_)
    refine lv_iconst (v := (0 : Int32)) hx hb dX5_meet_39 (by decide) ?_
    refine lv_istore_n (lv' := [(3, .int (0 : Int32)), (0, .ref (ad 44)), (1, .int v1), (2, .int v2)]) hx hb dX5_meet_40 rfl hl (by decide) rfl (fun ls hl => ?_)
    refine lv_iconst (v := (0 : Int32)) hx hb dX5_meet_41 (by decide) ?_
    refine lv_istore (lv' := [(4, .int (0 : Int32)), (3, .int (0 : Int32)), (0, .ref (ad 44)), (1, .int v1), (2, .int v2)]) hx hb dX5_meet_42 hl (by decide) rfl (fun ls hl => ?_)
    exact k_X5_meet_44 B hr  _ _ _ _ _ hf _ _ _ h (lv_sub hl [2, 4, 1, 0] rfl)
  · rw [if_neg c6] at hf
    refine lv_iconst (v := (0 : Int32)) hx hb dX5_meet_26 (by decide) ?_
    obtain ⟨rfl, rfl⟩ := Prod.mk.inj (Option.some.inj hf)
    exact sE_i B hr h dX5_meet_27
set_option maxHeartbeats 4000000 in
set_option maxRecDepth 100000 in
theorem k_X5_meet_0 {p : Program} {l : Launch} {e : Env} {s : State} {m : MethodId} {args : Array Value} {below : List Frame} {meth : Method} {c : Code} {D : va_G} {cy : Nat → ClassId} {ad : Nat → Nat} {X : sX} {r : Int32} {σ' : sM} (B : sB p l s m meth c args cX5_meet 5 RX5 D cy ad) (hr : meth.sig.returnType = (some .int)) (v1 : Int32) (v2 : Int32) (σ : sM) (hf : f_X5_meet v1 v2 σ = some (r, σ')) : sGo p l e { frames := 3, cells := 0, slots := 0, locals := 72 } s m args below meth c D cy ad X 5 (sQ below args s 0 0 D cy ad (.inr (some (.int r))) X σ') σ 0 [(0, .ref (ad 44)), (1, .int v1), (2, .int v2)] [] := by
  replace hf : (rthn (f_X5_isHistory v1 σ) (fun vr1 => if vr1 = 0 then (b_X5_meet_20 v1 v2 (1 : Int32) σ) else (rthn (f_X5_isHistory v2 σ) (fun vr3 => if vr3 = 0 then (b_X5_meet_20 v1 v2 (1 : Int32) σ) else (b_X5_meet_20 v1 v2 (0 : Int32) σ))))) = some (r, σ') := hf
  intro H locs ls h hl
  have hx := B.1
  have hb := B.2.1
  refine lv_aload_n hx hb dX5_meet_0 rfl (lv_at hl 0 rfl) ?_
  refine lv_iload_n hx hb dX5_meet_1 rfl (lv_at hl 1 rfl) ?_
  obtain ⟨vr1, hq1, hf⟩ := rthn_some hf
  refine sRetC1 (g_runS B h (ok_X5_isHistory B.2.2.2.2.2.2.2.2 B.2.2.2.2.2.2.1 _ _ v1 hq1) cw_X5_136 ⟨Nat.le_of_ble_eq_true rfl, Nat.le_of_ble_eq_true rfl⟩ rfl hl.1.symm rfl (Nat.le_of_ble_eq_true rfl) dX5_meet_2 ⟨Nat.zero_le _, Nat.zero_le _⟩) h (fun H locs h => ?_)
  refine lv_if_eq (tgt := 15) hx hb dX5_meet_5 (by decide) (fun c2 => ?_) (fun c2 => ?_)
  · rw [if_pos c2] at hf
    refine lv_iconst (v := (1 : Int32)) hx hb dX5_meet_15 (by decide) ?_
    refine lv_goto (tgt := 20) hx hb dX5_meet_16 (by decide) ?_
    exact k_X5_meet_20 B hr  _ _ _ _ hf _ _ _ h (lv_sub hl [0, 1, 2] rfl)
  · rw [if_neg c2] at hf
    refine lv_iload_n hx hb dX5_meet_8 rfl (lv_at hl 2 rfl) ?_
    obtain ⟨vr3, hq3, hf⟩ := rthn_some hf
    refine sRetC1 (g_runS B h (ok_X5_isHistory B.2.2.2.2.2.2.2.2 B.2.2.2.2.2.2.1 _ _ v2 hq3) cw_X5_136 ⟨Nat.le_of_ble_eq_true rfl, Nat.le_of_ble_eq_true rfl⟩ rfl hl.1.symm rfl (Nat.le_of_ble_eq_true rfl) dX5_meet_9 ⟨Nat.zero_le _, Nat.zero_le _⟩) h (fun H locs h => ?_)
    refine lv_if_ne (tgt := 19) hx hb dX5_meet_12 (by decide) (fun c4 => ?_) (fun c4 => ?_)
    · rw [if_neg c4] at hf
      refine lv_iconst (v := (0 : Int32)) hx hb dX5_meet_19 (by decide) ?_
      exact k_X5_meet_20 B hr  _ _ _ _ hf _ _ _ h (lv_sub hl [0, 1, 2] rfl)
    · rw [if_pos c4] at hf
      refine lv_iconst (v := (1 : Int32)) hx hb dX5_meet_15 (by decide) ?_
      refine lv_goto (tgt := 20) hx hb dX5_meet_16 (by decide) ?_
      exact k_X5_meet_20 B hr  _ _ _ _ hf _ _ _ h (lv_sub hl [0, 1, 2] rfl)
set_option maxRecDepth 100000 in
theorem ok_X5_meet {l : Launch} (hl0 : l.stackTraces = false) {D : va_G} {cy : Nat → ClassId} {ad : Nat → Nat} (hap : sAp ad) (X : sX) (σ : sM) (v1 : Int32) (v2 : Int32) {r : Int32} {σ' : sM} (hf : f_X5_meet v1 v2 σ = some (r, σ')) : sMet l yX5_meet (sWs yX5_meet cX5_meet 5 (some .int)) 3 72 0 0 D cy ad X σ [.ref (ad 44), .int v1, .int v2] (.inr (some (.int r))) X σ' := by
  refine sMet_of (by decide +kernel) (Nat.le_of_ble_eq_true rfl) hap hl0 ?_
  intro p e s m args below meth c ls B hr htab hl h
  exact k_X5_meet_0 B hr _ _ _  hf _ _ _ h hl
