set_option maxHeartbeats 4000000 in
set_option maxRecDepth 100000 in
theorem k_X2_countBelow_5 {p : Program} {l : Launch} {e : Env} {s : State} {m : MethodId} {args : Array Value} {below : List Frame} {meth : Method} {c : Code} {D : va_G} {cy : Nat → ClassId} {ad : Nat → Nat} {X : sX} {r : Int32} (B : sB p l s m meth c args cX2_countBelow 5 RX2 D cy ad) (hr : meth.sig.returnType = (some .int)) : ∀ (n : Nat) (t0 : Nat) (v1 : Int32) (v2 : Int32) (v3 : Int32) (σ : sM) (ft0 : isT t0), b_X2_countBelow_5 n t0 v1 v2 v3 σ = some r → sGo p l e { frames := 0, cells := 0, slots := 0, locals := 0 } s m args below meth c D cy ad X 5 (sQ below args s 0 0 D cy ad (.inr (some (.int r))) X σ) σ 5 [(0, .ref (ad t0)), (1, .int v1), (2, .int v2), (3, .int v3)] [] := by
  intro n
  induction n with
  | zero =>
    intro t0 v1 v2 v3 σ ft0 hf
    exact nomatch (show none = some r from hf)
  | succ n ih =>
    intro t0 v1 v2 v3 σ ft0 hf
    replace hf : (if v3 ≤ 0 then (some v2) else (if (σ t0 2) < (v2 + v3) then (b_X2_countBelow_5 n t0 v1 v2 (v3 >>> ((1 : Int32) &&& 31)) σ) else (chk (inb ((v2 + v3) - (1 : Int32)) 120) (if v1 ≤ (σ (t0 + 1) (((v2 + v3) - (1 : Int32))).toNatClampNeg) then (b_X2_countBelow_5 n t0 v1 v2 (v3 >>> ((1 : Int32) &&& 31)) σ) else (b_X2_countBelow_5 n t0 v1 (v2 + v3) (v3 >>> ((1 : Int32) &&& 31)) σ))))) = some r := hf
    intro H locs ls h hl
    have hx := B.1
    have hb := B.2.1
    refine lv_iload_n hx hb dX2_countBelow_5 rfl (lv_at hl 3 rfl) ?_
    refine lv_if_le (tgt := 46) hx hb dX2_countBelow_6 (by decide) (fun c1 => ?_) (fun c1 => ?_)
    · rw [if_pos c1] at hf
      refine lv_iload_n hx hb dX2_countBelow_46 rfl (lv_at hl 2 rfl) ?_
      obtain rfl := Option.some.inj hf
      exact sE_i B hr h dX2_countBelow_47
    · rw [if_neg c1] at hf
      refine lv_iload_n hx hb dX2_countBelow_9 rfl (lv_at hl 2 rfl) ?_
      refine lv_iload_n hx hb dX2_countBelow_10 rfl (lv_at hl 3 rfl) ?_
      refine lv_iadd hx hb dX2_countBelow_11 ?_
      refine lv_istore (lv' := [(4, .int (v2 + v3)), (0, .ref (ad t0)), (1, .int v1), (2, .int v2), (3, .int v3)]) hx hb dX2_countBelow_12 hl (by decide) rfl (fun ls hl => ?_)
      refine lv_iload hx hb dX2_countBelow_14 (lv_at hl 0 rfl) ?_
      refine lv_aload_n hx hb dX2_countBelow_16 rfl (lv_at hl 1 rfl) ?_
      refine g_get B h t0 (T_lt ft0) (C := RX2) (T := TX2) (N := 3) (T_row ft0 _) rfl hin_X2 2 (by decide) hw54 rfl rfl dX2_countBelow_17 ?_
      refine lv_icmp_gt (tgt := 39) hx hb dX2_countBelow_20 (by decide) (fun c2 => ?_) (fun c2 => ?_)
      · rw [if_pos c2] at hf
        refine lv_iload_n hx hb dX2_countBelow_39 rfl (lv_at hl 4 rfl) ?_
        refine lv_iconst (v := (1 : Int32)) hx hb dX2_countBelow_40 (by decide) ?_
        refine lv_ishr hx hb dX2_countBelow_41 ?_
        refine lv_istore_n (lv' := [(3, .int (v3 >>> ((1 : Int32) &&& 31))), (4, .int (v2 + v3)), (0, .ref (ad t0)), (1, .int v1), (2, .int v2)]) hx hb dX2_countBelow_42 rfl hl (by decide) rfl (fun ls hl => ?_)
        refine lv_goto (tgt := 5) hx hb dX2_countBelow_43 (by decide) ?_
        exact ih _ _ _ _ _ ft0 hf _ _ _ h (lv_sub hl [2, 3, 4, 0] rfl)
      · rw [if_neg c2] at hf
        refine lv_aload_n hx hb dX2_countBelow_23 rfl (lv_at hl 1 rfl) ?_
        refine g_get B h t0 (T_lt ft0) (C := RX2) (T := TX2) (N := 3) (T_row ft0 _) rfl hin_X2 0 (by decide) hw45 rfl rfl dX2_countBelow_24 ?_
        refine lv_iload hx hb dX2_countBelow_27 (lv_at hl 0 rfl) ?_
        refine lv_iconst (v := (1 : Int32)) hx hb dX2_countBelow_29 (by decide) ?_
        refine lv_isub hx hb dX2_countBelow_30 ?_
        obtain ⟨c3, hf⟩ := chk_some hf
        refine g_iald B h (t0 + 1) (T_lt1 ft0) (n := 120) (T_keys ft0) (inb_in c3) dX2_countBelow_31 ?_
        refine lv_iload_n hx hb dX2_countBelow_32 rfl (lv_at hl 2 rfl) ?_
        refine lv_icmp_ge (tgt := 39) hx hb dX2_countBelow_33 (by decide) (fun c4 => ?_) (fun c4 => ?_)
        · rw [if_pos c4] at hf
          refine lv_iload_n hx hb dX2_countBelow_39 rfl (lv_at hl 4 rfl) ?_
          refine lv_iconst (v := (1 : Int32)) hx hb dX2_countBelow_40 (by decide) ?_
          refine lv_ishr hx hb dX2_countBelow_41 ?_
          refine lv_istore_n (lv' := [(3, .int (v3 >>> ((1 : Int32) &&& 31))), (4, .int (v2 + v3)), (0, .ref (ad t0)), (1, .int v1), (2, .int v2)]) hx hb dX2_countBelow_42 rfl hl (by decide) rfl (fun ls hl => ?_)
          refine lv_goto (tgt := 5) hx hb dX2_countBelow_43 (by decide) ?_
          exact ih _ _ _ _ _ ft0 hf _ _ _ h (lv_sub hl [2, 3, 4, 0] rfl)
        · rw [if_neg c4] at hf
          refine lv_iload hx hb dX2_countBelow_36 (lv_at hl 0 rfl) ?_
          refine lv_istore_n (lv' := [(2, .int (v2 + v3)), (4, .int (v2 + v3)), (0, .ref (ad t0)), (1, .int v1), (3, .int v3)]) hx hb dX2_countBelow_38 rfl hl (by decide) rfl (fun ls hl => ?_)
          refine lv_iload_n hx hb dX2_countBelow_39 rfl (lv_at hl 4 rfl) ?_
          refine lv_iconst (v := (1 : Int32)) hx hb dX2_countBelow_40 (by decide) ?_
          refine lv_ishr hx hb dX2_countBelow_41 ?_
          refine lv_istore_n (lv' := [(3, .int (v3 >>> ((1 : Int32) &&& 31))), (2, .int (v2 + v3)), (4, .int (v2 + v3)), (0, .ref (ad t0)), (1, .int v1)]) hx hb dX2_countBelow_42 rfl hl (by decide) rfl (fun ls hl => ?_)
          refine lv_goto (tgt := 5) hx hb dX2_countBelow_43 (by decide) ?_
          exact ih _ _ _ _ _ ft0 hf _ _ _ h (lv_sub hl [3, 4, 1, 0] rfl)
set_option maxHeartbeats 4000000 in
set_option maxRecDepth 100000 in
theorem k_X2_countBelow_0 {p : Program} {l : Launch} {e : Env} {s : State} {m : MethodId} {args : Array Value} {below : List Frame} {meth : Method} {c : Code} {D : va_G} {cy : Nat → ClassId} {ad : Nat → Nat} {X : sX} {r : Int32} (B : sB p l s m meth c args cX2_countBelow 5 RX2 D cy ad) (hr : meth.sig.returnType = (some .int)) (t0 : Nat) (v1 : Int32) (σ : sM) (ft0 : isT t0) (hf : f_X2_countBelow t0 v1 σ = some r) : sGo p l e { frames := 0, cells := 0, slots := 0, locals := 0 } s m args below meth c D cy ad X 5 (sQ below args s 0 0 D cy ad (.inr (some (.int r))) X σ) σ 0 [(0, .ref (ad t0)), (1, .int v1)] [] := by
  replace hf : (b_X2_countBelow_5 FU t0 v1 (0 : Int32) (64 : Int32) σ) = some r := hf
  intro H locs ls h hl
  have hx := B.1
  have hb := B.2.1
  refine lv_iconst (v := (0 : Int32)) hx hb dX2_countBelow_0 (by decide) ?_
  refine lv_istore_n (lv' := [(2, .int (0 : Int32)), (0, .ref (ad t0)), (1, .int v1)]) hx hb dX2_countBelow_1 rfl hl (by decide) rfl (fun ls hl => ?_)
  refine lv_bipush (v := (64 : Int32)) hx hb dX2_countBelow_2 (by decide) ?_
  refine lv_istore_n (lv' := [(3, .int (64 : Int32)), (2, .int (0 : Int32)), (0, .ref (ad t0)), (1, .int v1)]) hx hb dX2_countBelow_4 rfl hl (by decide) rfl (fun ls hl => ?_)
  exact k_X2_countBelow_5 B hr  _ _ _ _ _ _ ft0 hf _ _ _ h (lv_sub hl [2, 3, 1, 0] rfl)
set_option maxRecDepth 100000 in
theorem ok_X2_countBelow {l : Launch} (hl0 : l.stackTraces = false) {D : va_G} {cy : Nat → ClassId} {ad : Nat → Nat} (hap : sAp ad) (X : sX) (σ : sM) {t0 : Nat} (ft0 : isT t0) (v1 : Int32) {r : Int32} (hf : f_X2_countBelow t0 v1 σ = some r) : sMet l yX2_countBelow (sWs yX2_countBelow cX2_countBelow 5 (some .int)) 0 0 0 0 D cy ad X σ [.ref (ad t0), .int v1] (.inr (some (.int r))) X σ := by
  refine sMet_of (by decide +kernel) (Nat.le_of_ble_eq_true rfl) hap hl0 ?_
  intro p e s m args below meth c ls B hr htab hl h
  exact k_X2_countBelow_0 B hr _ _ _ ft0 hf _ _ _ h hl
set_option maxHeartbeats 4000000 in
set_option maxRecDepth 100000 in
theorem k_X2_countUpTo_0 {p : Program} {l : Launch} {e : Env} {s : State} {m : MethodId} {args : Array Value} {below : List Frame} {meth : Method} {c : Code} {D : va_G} {cy : Nat → ClassId} {ad : Nat → Nat} {X : sX} {r : Int32} (B : sB p l s m meth c args cX2_countUpTo 3 RX2 D cy ad) (hr : meth.sig.returnType = (some .int)) (t0 : Nat) (v1 : Int32) (σ : sM) (ft0 : isT t0) (hf : f_X2_countUpTo t0 v1 σ = some r) : sGo p l e { frames := 1, cells := 0, slots := 0, locals := 24 } s m args below meth c D cy ad X 3 (sQ below args s 0 0 D cy ad (.inr (some (.int r))) X σ) σ 0 [(0, .ref (ad t0)), (1, .int v1)] [] := by
  replace hf : (rthn (f_X2_countBelow t0 v1 σ) (fun vr1 => if (σ t0 2) ≤ vr1 then (some vr1) else (chk (inb vr1 120) (if (σ (t0 + 1) (vr1).toNatClampNeg) = v1 then (some (vr1 + (1 : Int32))) else (some vr1))))) = some r := hf
  intro H locs ls h hl
  have hx := B.1
  have hb := B.2.1
  refine lv_aload_n hx hb dX2_countUpTo_0 rfl (lv_at hl 0 rfl) ?_
  refine lv_iload_n hx hb dX2_countUpTo_1 rfl (lv_at hl 1 rfl) ?_
  obtain ⟨vr1, hq1, hf⟩ := rthn_some hf
  refine sRetC1 (g_runV (k := t0) (T := TX2) (N := 3) B h (ok_X2_countBelow B.2.2.2.2.2.2.2.2 B.2.2.2.2.2.2.1 _ _ ft0 v1 hq1) cw_X2_22 ⟨Nat.le_of_ble_eq_true rfl, Nat.le_of_ble_eq_true rfl⟩ (T_lt ft0) (T_row ft0 _) rfl rfl hl.1.symm rfl (Nat.le_of_ble_eq_true rfl) dX2_countUpTo_2 ⟨Nat.zero_le _, Nat.zero_le _⟩) h (fun H locs h => ?_)
  refine lv_istore_n (lv' := [(2, .int vr1), (0, .ref (ad t0)), (1, .int v1)]) hx hb dX2_countUpTo_5 rfl hl (by decide) rfl (fun ls hl => ?_)
  refine lv_iload_n hx hb dX2_countUpTo_6 rfl (lv_at hl 0 rfl) ?_
  refine lv_aload_n hx hb dX2_countUpTo_7 rfl (lv_at hl 1 rfl) ?_
  refine g_get B h t0 (T_lt ft0) (C := RX2) (T := TX2) (N := 3) (T_row ft0 _) rfl hin_X2 2 (by decide) hw54 rfl rfl dX2_countUpTo_8 ?_
  refine lv_icmp_ge (tgt := 30) hx hb dX2_countUpTo_11 (by decide) (fun c2 => ?_) (fun c2 => ?_)
  · rw [if_pos c2] at hf
    refine lv_iload_n hx hb dX2_countUpTo_30 rfl (lv_at hl 0 rfl) ?_
    obtain rfl := Option.some.inj hf
    exact sE_i B hr h dX2_countUpTo_31
  · rw [if_neg c2] at hf
    refine lv_aload_n hx hb dX2_countUpTo_14 rfl (lv_at hl 1 rfl) ?_
    refine g_get B h t0 (T_lt ft0) (C := RX2) (T := TX2) (N := 3) (T_row ft0 _) rfl hin_X2 0 (by decide) hw45 rfl rfl dX2_countUpTo_15 ?_
    refine lv_iload_n hx hb dX2_countUpTo_18 rfl (lv_at hl 0 rfl) ?_
    obtain ⟨c3, hf⟩ := chk_some hf
    refine g_iald B h (t0 + 1) (T_lt1 ft0) (n := 120) (T_keys ft0) (inb_in c3) dX2_countUpTo_19 ?_
    refine lv_iload_n hx hb dX2_countUpTo_20 rfl (lv_at hl 2 rfl) ?_
    refine lv_icmp_ne (tgt := 30) hx hb dX2_countUpTo_21 (by decide) (fun c4 => ?_) (fun c4 => ?_)
    · rw [if_neg c4] at hf
      refine lv_iload_n hx hb dX2_countUpTo_30 rfl (lv_at hl 0 rfl) ?_
      obtain rfl := Option.some.inj hf
      exact sE_i B hr h dX2_countUpTo_31
    · rw [if_pos c4] at hf
      refine lv_iload_n hx hb dX2_countUpTo_24 rfl (lv_at hl 0 rfl) ?_
      refine lv_iconst (v := (1 : Int32)) hx hb dX2_countUpTo_25 (by decide) ?_
      refine lv_iadd hx hb dX2_countUpTo_26 ?_
      refine lv_goto (tgt := 31) hx hb dX2_countUpTo_27 (by decide) ?_
      obtain rfl := Option.some.inj hf
      exact sE_i B hr h dX2_countUpTo_31
set_option maxRecDepth 100000 in
theorem ok_X2_countUpTo {l : Launch} (hl0 : l.stackTraces = false) {D : va_G} {cy : Nat → ClassId} {ad : Nat → Nat} (hap : sAp ad) (X : sX) (σ : sM) {t0 : Nat} (ft0 : isT t0) (v1 : Int32) {r : Int32} (hf : f_X2_countUpTo t0 v1 σ = some r) : sMet l yX2_countUpTo (sWs yX2_countUpTo cX2_countUpTo 3 (some .int)) 1 24 0 0 D cy ad X σ [.ref (ad t0), .int v1] (.inr (some (.int r))) X σ := by
  refine sMet_of (by decide +kernel) (Nat.le_of_ble_eq_true rfl) hap hl0 ?_
  intro p e s m args below meth c ls B hr htab hl h
  exact k_X2_countUpTo_0 B hr _ _ _ ft0 hf _ _ _ h hl
set_option maxHeartbeats 4000000 in
set_option maxRecDepth 100000 in
theorem k_X2_placeNear_25 {p : Program} {l : Launch} {e : Env} {s : State} {m : MethodId} {args : Array Value} {below : List Frame} {meth : Method} {c : Code} {D : va_G} {cy : Nat → ClassId} {ad : Nat → Nat} {X : sX} {r : Int32} (B : sB p l s m meth c args cX2_placeNear 7 RX2 D cy ad) (hr : meth.sig.returnType = (some .int)) (v2 : Int32) (v3 : Int32) (v4 : Int32) (vs0 : Int32) (σ : sM) (hf : b_X2_placeNear_25 v2 v3 v4 vs0 σ = some r) : sGo p l e { frames := 2, cells := 0, slots := 0, locals := 46 } s m args below meth c D cy ad X 7 (sQ below args s 0 0 D cy ad (.inr (some (.int r))) X σ) σ 25 [(2, .int v2), (3, .int v3), (4, .int v4)] [.int vs0] := by
  replace hf : (if v2 = (102 : Int32) then (if ((if v4 < vs0 then v4 else vs0) - (1 : Int32)) < v3 then (some (-1 : Int32)) else (some ((if v4 < vs0 then v4 else vs0) - (1 : Int32)))) else (if v2 = (108 : Int32) then (if ((if v4 < vs0 then v4 else vs0) - (1 : Int32)) < v3 then (some (-1 : Int32)) else (some ((if v4 < vs0 then v4 else vs0) - (1 : Int32)))) else (if v4 ≤ (if vs0 < v3 then v3 else vs0) then (some (-1 : Int32)) else (some (if vs0 < v3 then v3 else vs0))))) = some r := hf
  intro H locs ls h hl
  have hx := B.1
  have hb := B.2.1
  refine lv_istore (lv' := [(5, .int vs0), (2, .int v2), (3, .int v3), (4, .int v4)]) hx hb dX2_placeNear_25 hl (by decide) rfl (fun ls hl => ?_)
  refine lv_iload_n hx hb dX2_placeNear_27 rfl (lv_at hl 1 rfl) ?_
  refine lv_bipush (v := (102 : Int32)) hx hb dX2_placeNear_28 (by decide) ?_
  refine lv_icmp_eq (tgt := 39) hx hb dX2_placeNear_30 (by decide) (fun c6 => ?_) (fun c6 => ?_)
  · rw [if_pos c6] at hf
    refine lv_iload hx hb dX2_placeNear_39 (lv_at hl 0 rfl) ?_
    refine lv_iload hx hb dX2_placeNear_41 (lv_at hl 3 rfl) ?_
    refine g_min B hl.1.symm hw219 hw220 hw17 hw221 (Nat.le_of_ble_eq_true rfl) (Nat.le_of_ble_eq_true rfl) (Nat.zero_le _) (Nat.zero_le _) dX2_placeNear_43 ?_
    refine lv_iconst (v := (1 : Int32)) hx hb dX2_placeNear_46 (by decide) ?_
    refine lv_isub hx hb dX2_placeNear_47 ?_
    refine lv_istore (lv' := [(6, .int ((if v4 < vs0 then v4 else vs0) - (1 : Int32))), (5, .int vs0), (2, .int v2), (3, .int v3), (4, .int v4)]) hx hb dX2_placeNear_48 hl (by decide) rfl (fun ls hl => ?_)
    refine lv_iload hx hb dX2_placeNear_50 (lv_at hl 0 rfl) ?_
    refine lv_iload_n hx hb dX2_placeNear_52 rfl (lv_at hl 3 rfl) ?_
    refine lv_icmp_lt (tgt := 61) hx hb dX2_placeNear_53 (by decide) (fun c7 => ?_) (fun c7 => ?_)
    · rw [if_pos c7] at hf
      refine lv_iconst (v := (-1 : Int32)) hx hb dX2_placeNear_61 (by decide) ?_
      obtain rfl := Option.some.inj hf
      exact sE_i B hr h dX2_placeNear_62
    · rw [if_neg c7] at hf
      refine lv_iload hx hb dX2_placeNear_56 (lv_at hl 0 rfl) ?_
      refine lv_goto (tgt := 62) hx hb dX2_placeNear_58 (by decide) ?_
      obtain rfl := Option.some.inj hf
      exact sE_i B hr h dX2_placeNear_62
  · rw [if_neg c6] at hf
    refine lv_iload_n hx hb dX2_placeNear_33 rfl (lv_at hl 1 rfl) ?_
    refine lv_bipush (v := (108 : Int32)) hx hb dX2_placeNear_34 (by decide) ?_
    refine lv_icmp_ne (tgt := 63) hx hb dX2_placeNear_36 (by decide) (fun c8 => ?_) (fun c8 => ?_)
    · rw [if_neg c8] at hf
      refine lv_iload hx hb dX2_placeNear_63 (lv_at hl 0 rfl) ?_
      refine lv_iload_n hx hb dX2_placeNear_65 rfl (lv_at hl 2 rfl) ?_
      refine g_max B hl.1.symm hw222 hw188 hw17 hw189 (Nat.le_of_ble_eq_true rfl) (Nat.le_of_ble_eq_true rfl) (Nat.zero_le _) (Nat.zero_le _) dX2_placeNear_66 ?_
      refine lv_istore (lv' := [(6, .int (if vs0 < v3 then v3 else vs0)), (5, .int vs0), (2, .int v2), (3, .int v3), (4, .int v4)]) hx hb dX2_placeNear_69 hl (by decide) rfl (fun ls hl => ?_)
      refine lv_iload hx hb dX2_placeNear_71 (lv_at hl 0 rfl) ?_
      refine lv_iload hx hb dX2_placeNear_73 (lv_at hl 4 rfl) ?_
      refine lv_icmp_ge (tgt := 83) hx hb dX2_placeNear_75 (by decide) (fun c9 => ?_) (fun c9 => ?_)
      · rw [if_pos c9] at hf
        refine lv_iconst (v := (-1 : Int32)) hx hb dX2_placeNear_83 (by decide) ?_
        obtain rfl := Option.some.inj hf
        exact sE_i B hr h dX2_placeNear_84
      · rw [if_neg c9] at hf
        refine lv_iload hx hb dX2_placeNear_78 (lv_at hl 0 rfl) ?_
        refine lv_goto (tgt := 84) hx hb dX2_placeNear_80 (by decide) ?_
        obtain rfl := Option.some.inj hf
        exact sE_i B hr h dX2_placeNear_84
    · rw [if_pos c8] at hf
      refine lv_iload hx hb dX2_placeNear_39 (lv_at hl 0 rfl) ?_
      refine lv_iload hx hb dX2_placeNear_41 (lv_at hl 3 rfl) ?_
      refine g_min B hl.1.symm hw219 hw220 hw17 hw221 (Nat.le_of_ble_eq_true rfl) (Nat.le_of_ble_eq_true rfl) (Nat.zero_le _) (Nat.zero_le _) dX2_placeNear_43 ?_
      refine lv_iconst (v := (1 : Int32)) hx hb dX2_placeNear_46 (by decide) ?_
      refine lv_isub hx hb dX2_placeNear_47 ?_
      refine lv_istore (lv' := [(6, .int ((if v4 < vs0 then v4 else vs0) - (1 : Int32))), (5, .int vs0), (2, .int v2), (3, .int v3), (4, .int v4)]) hx hb dX2_placeNear_48 hl (by decide) rfl (fun ls hl => ?_)
      refine lv_iload hx hb dX2_placeNear_50 (lv_at hl 0 rfl) ?_
      refine lv_iload_n hx hb dX2_placeNear_52 rfl (lv_at hl 3 rfl) ?_
      refine lv_icmp_lt (tgt := 61) hx hb dX2_placeNear_53 (by decide) (fun c10 => ?_) (fun c10 => ?_)
      · rw [if_pos c10] at hf
        refine lv_iconst (v := (-1 : Int32)) hx hb dX2_placeNear_61 (by decide) ?_
        obtain rfl := Option.some.inj hf
        exact sE_i B hr h dX2_placeNear_62
      · rw [if_neg c10] at hf
        refine lv_iload hx hb dX2_placeNear_56 (lv_at hl 0 rfl) ?_
        refine lv_goto (tgt := 62) hx hb dX2_placeNear_58 (by decide) ?_
        obtain rfl := Option.some.inj hf
        exact sE_i B hr h dX2_placeNear_62
set_option maxHeartbeats 4000000 in
set_option maxRecDepth 100000 in
theorem k_X2_placeNear_0 {p : Program} {l : Launch} {e : Env} {s : State} {m : MethodId} {args : Array Value} {below : List Frame} {meth : Method} {c : Code} {D : va_G} {cy : Nat → ClassId} {ad : Nat → Nat} {X : sX} {r : Int32} (B : sB p l s m meth c args cX2_placeNear 7 RX2 D cy ad) (hr : meth.sig.returnType = (some .int)) (t0 : Nat) (v1 : Int32) (v2 : Int32) (v3 : Int32) (v4 : Int32) (σ : sM) (ft0 : isT t0) (hf : f_X2_placeNear t0 v1 v2 v3 v4 σ = some r) : sGo p l e { frames := 2, cells := 0, slots := 0, locals := 46 } s m args below meth c D cy ad X 7 (sQ below args s 0 0 D cy ad (.inr (some (.int r))) X σ) σ 0 [(0, .ref (ad t0)), (1, .int v1), (2, .int v2), (3, .int v3), (4, .int v4)] [] := by
  replace hf : (if v2 = (102 : Int32) then (rthn (f_X2_countUpTo t0 v1 σ) (fun vr2 => b_X2_placeNear_25 v2 v3 v4 vr2 σ)) else (if v2 = (104 : Int32) then (rthn (f_X2_countUpTo t0 v1 σ) (fun vr5 => b_X2_placeNear_25 v2 v3 v4 vr5 σ)) else (rthn (f_X2_countBelow t0 v1 σ) (fun vr4 => b_X2_placeNear_25 v2 v3 v4 vr4 σ)))) = some r := hf
  intro H locs ls h hl
  have hx := B.1
  have hb := B.2.1
  refine lv_iload_n hx hb dX2_placeNear_0 rfl (lv_at hl 2 rfl) ?_
  refine lv_bipush (v := (102 : Int32)) hx hb dX2_placeNear_1 (by decide) ?_
  refine lv_icmp_eq (tgt := 12) hx hb dX2_placeNear_3 (by decide) (fun c1 => ?_) (fun c1 => ?_)
  · rw [if_pos c1] at hf
    refine lv_aload_n hx hb dX2_placeNear_12 rfl (lv_at hl 0 rfl) ?_
    refine lv_iload_n hx hb dX2_placeNear_13 rfl (lv_at hl 1 rfl) ?_
    obtain ⟨vr2, hq2, hf⟩ := rthn_some hf
    refine sRetC1 (g_runV (k := t0) (T := TX2) (N := 3) B h (ok_X2_countUpTo B.2.2.2.2.2.2.2.2 B.2.2.2.2.2.2.1 _ _ ft0 v1 hq2) cw_X2_26 ⟨Nat.le_of_ble_eq_true rfl, Nat.le_of_ble_eq_true rfl⟩ (T_lt ft0) (T_row ft0 _) rfl rfl hl.1.symm rfl (Nat.le_of_ble_eq_true rfl) dX2_placeNear_14 ⟨Nat.zero_le _, Nat.zero_le _⟩) h (fun H locs h => ?_)
    refine lv_goto (tgt := 25) hx hb dX2_placeNear_17 (by decide) ?_
    exact k_X2_placeNear_25 B hr  _ _ _ _ _ hf _ _ _ h (lv_sub hl [2, 3, 4] rfl)
  · rw [if_neg c1] at hf
    refine lv_iload_n hx hb dX2_placeNear_6 rfl (lv_at hl 2 rfl) ?_
    refine lv_bipush (v := (104 : Int32)) hx hb dX2_placeNear_7 (by decide) ?_
    refine lv_icmp_ne (tgt := 20) hx hb dX2_placeNear_9 (by decide) (fun c3 => ?_) (fun c3 => ?_)
    · rw [if_neg c3] at hf
      refine lv_aload_n hx hb dX2_placeNear_20 rfl (lv_at hl 0 rfl) ?_
      refine lv_iload_n hx hb dX2_placeNear_21 rfl (lv_at hl 1 rfl) ?_
      obtain ⟨vr4, hq4, hf⟩ := rthn_some hf
      refine sRetC1 (g_runV (k := t0) (T := TX2) (N := 3) B h (ok_X2_countBelow B.2.2.2.2.2.2.2.2 B.2.2.2.2.2.2.1 _ _ ft0 v1 hq4) cw_X2_22 ⟨Nat.le_of_ble_eq_true rfl, Nat.le_of_ble_eq_true rfl⟩ (T_lt ft0) (T_row ft0 _) rfl rfl hl.1.symm rfl (Nat.le_of_ble_eq_true rfl) dX2_placeNear_22 ⟨Nat.zero_le _, Nat.zero_le _⟩) h (fun H locs h => ?_)
      exact k_X2_placeNear_25 B hr  _ _ _ _ _ hf _ _ _ h (lv_sub hl [2, 3, 4] rfl)
    · rw [if_pos c3] at hf
      refine lv_aload_n hx hb dX2_placeNear_12 rfl (lv_at hl 0 rfl) ?_
      refine lv_iload_n hx hb dX2_placeNear_13 rfl (lv_at hl 1 rfl) ?_
      obtain ⟨vr5, hq5, hf⟩ := rthn_some hf
      refine sRetC1 (g_runV (k := t0) (T := TX2) (N := 3) B h (ok_X2_countUpTo B.2.2.2.2.2.2.2.2 B.2.2.2.2.2.2.1 _ _ ft0 v1 hq5) cw_X2_26 ⟨Nat.le_of_ble_eq_true rfl, Nat.le_of_ble_eq_true rfl⟩ (T_lt ft0) (T_row ft0 _) rfl rfl hl.1.symm rfl (Nat.le_of_ble_eq_true rfl) dX2_placeNear_14 ⟨Nat.zero_le _, Nat.zero_le _⟩) h (fun H locs h => ?_)
      refine lv_goto (tgt := 25) hx hb dX2_placeNear_17 (by decide) ?_
      exact k_X2_placeNear_25 B hr  _ _ _ _ _ hf _ _ _ h (lv_sub hl [2, 3, 4] rfl)
set_option maxRecDepth 100000 in
theorem ok_X2_placeNear {l : Launch} (hl0 : l.stackTraces = false) {D : va_G} {cy : Nat → ClassId} {ad : Nat → Nat} (hap : sAp ad) (X : sX) (σ : sM) {t0 : Nat} (ft0 : isT t0) (v1 : Int32) (v2 : Int32) (v3 : Int32) (v4 : Int32) {r : Int32} (hf : f_X2_placeNear t0 v1 v2 v3 v4 σ = some r) : sMet l yX2_placeNear (sWs yX2_placeNear cX2_placeNear 7 (some .int)) 2 46 0 0 D cy ad X σ [.ref (ad t0), .int v1, .int v2, .int v3, .int v4] (.inr (some (.int r))) X σ := by
  refine sMet_of (by decide +kernel) (Nat.le_of_ble_eq_true rfl) hap hl0 ?_
  intro p e s m args below meth c ls B hr htab hl h
  exact k_X2_placeNear_0 B hr _ _ _ _ _ _ ft0 hf _ _ _ h hl
set_option maxHeartbeats 4000000 in
set_option maxRecDepth 100000 in
theorem k_X2_becomeCopy_0 {p : Program} {l : Launch} {e : Env} {s : State} {m : MethodId} {args : Array Value} {below : List Frame} {meth : Method} {c : Code} {D : va_G} {cy : Nat → ClassId} {ad : Nat → Nat} {X : sX} {r : Unit} {σ' : sM} (B : sB p l s m meth c args cX2_becomeCopy 2 RX2 D cy ad) (hr : meth.sig.returnType = none) (t0 : Nat) (t1 : Nat) (σ : sM) (ft0 : isT t0) (ft1 : isT t1) (hf : f_X2_becomeCopy t0 t1 σ = some (r, σ')) : sGo p l e { frames := 1, cells := 0, slots := 0, locals := 108 } s m args below meth c D cy ad X 2 (sQ below args s 0 0 D cy ad (.inr none) X σ') σ 0 [(0, .ref (ad t0)), (1, .ref (ad t1))] [] := by
  replace hf : (stl (va_up σ t0 (upd (σ t0) 2 (σ t1 2))) (fun σ1 => chk (cpb (0 : Int32) (0 : Int32) (σ1 t0 2) 120 120) (stl (va_up σ1 (t0 + 1) (va_cpy (σ1 (t1 + 1)) (σ1 (t0 + 1)) ((0 : Int32)).toNatClampNeg ((0 : Int32)).toNatClampNeg ((σ1 t0 2)).toNatClampNeg)) (fun σ3 => chk (cpb (0 : Int32) (0 : Int32) (σ3 t0 2) 120 120) (stl (va_up σ3 (t0 + 2) (va_cpy (σ3 (t1 + 2)) (σ3 (t0 + 2)) ((0 : Int32)).toNatClampNeg ((0 : Int32)).toNatClampNeg ((σ3 t0 2)).toNatClampNeg)) (fun σ5 => some ((), σ5))))))) = some (r, σ') := hf
  intro H locs ls h hl
  have hx := B.1
  have hb := B.2.1
  refine lv_aload_n hx hb dX2_becomeCopy_0 rfl (lv_at hl 0 rfl) ?_
  refine lv_aload_n hx hb dX2_becomeCopy_1 rfl (lv_at hl 1 rfl) ?_
  refine g_get B h t1 (T_lt ft1) (C := RX2) (T := TX2) (N := 3) (T_row ft1 _) rfl hin_X2 2 (by decide) hw54 rfl rfl dX2_becomeCopy_2 ?_
  refine g_put B h t0 (T_lt ft0) (C := RX2) (T := TX2) (N := 3) (T_row ft0 _) rfl hin_X2 tyX2 tyX2_ok nmX2 2 (by decide) hw54 rfl rfl rfl rfl (upd (σ t0) 2 (σ t1 2)) (T_put2 ft0 _ _) (Nat.le_of_ble_eq_true rfl) dX2_becomeCopy_5 (fun H locs h => ?_)
  obtain ⟨σ1, e1, hf⟩ := stl_some hf
  rw [← e1] at h
  refine lv_aload_n hx hb dX2_becomeCopy_8 rfl (lv_at hl 1 rfl) ?_
  refine g_get B h t1 (T_lt ft1) (C := RX2) (T := TX2) (N := 3) (T_row ft1 _) rfl hin_X2 0 (by decide) hw45 rfl rfl dX2_becomeCopy_9 ?_
  refine lv_iconst (v := (0 : Int32)) hx hb dX2_becomeCopy_12 (by decide) ?_
  refine lv_aload_n hx hb dX2_becomeCopy_13 rfl (lv_at hl 0 rfl) ?_
  refine g_get B h t0 (T_lt ft0) (C := RX2) (T := TX2) (N := 3) (T_row ft0 _) rfl hin_X2 0 (by decide) hw45 rfl rfl dX2_becomeCopy_14 ?_
  refine lv_iconst (v := (0 : Int32)) hx hb dX2_becomeCopy_17 (by decide) ?_
  refine lv_aload_n hx hb dX2_becomeCopy_18 rfl (lv_at hl 0 rfl) ?_
  refine g_get B h t0 (T_lt ft0) (C := RX2) (T := TX2) (N := 3) (T_row ft0 _) rfl hin_X2 2 (by decide) hw54 rfl rfl dX2_becomeCopy_19 ?_
  obtain ⟨c2, hf⟩ := chk_some hf
  refine g_copy B h hl.1.symm (t1 + 1) (t0 + 1) (T_lt1 ft1) (T_lt1 ft0) (n0 := 120) (n1 := 120) (T_keys ft1) (T_keys ft0) hw238 hw240 hw239 hw14 (cpb_in c2) (Nat.le_of_ble_eq_true rfl) (Nat.le_of_ble_eq_true rfl) dX2_becomeCopy_22 (fun H locs h => ?_)
  obtain ⟨σ3, e3, hf⟩ := stl_some hf
  rw [← e3] at h
  refine lv_aload_n hx hb dX2_becomeCopy_25 rfl (lv_at hl 1 rfl) ?_
  refine g_get B h t1 (T_lt ft1) (C := RX2) (T := TX2) (N := 3) (T_row ft1 _) rfl hin_X2 1 (by decide) hw49 rfl rfl dX2_becomeCopy_26 ?_
  refine lv_iconst (v := (0 : Int32)) hx hb dX2_becomeCopy_29 (by decide) ?_
  refine lv_aload_n hx hb dX2_becomeCopy_30 rfl (lv_at hl 0 rfl) ?_
  refine g_get B h t0 (T_lt ft0) (C := RX2) (T := TX2) (N := 3) (T_row ft0 _) rfl hin_X2 1 (by decide) hw49 rfl rfl dX2_becomeCopy_31 ?_
  refine lv_iconst (v := (0 : Int32)) hx hb dX2_becomeCopy_34 (by decide) ?_
  refine lv_aload_n hx hb dX2_becomeCopy_35 rfl (lv_at hl 0 rfl) ?_
  refine g_get B h t0 (T_lt ft0) (C := RX2) (T := TX2) (N := 3) (T_row ft0 _) rfl hin_X2 2 (by decide) hw54 rfl rfl dX2_becomeCopy_36 ?_
  obtain ⟨c4, hf⟩ := chk_some hf
  refine g_copy B h hl.1.symm (t1 + 2) (t0 + 2) (T_lt2 ft1) (T_lt2 ft0) (n0 := 120) (n1 := 120) (T_vals ft1) (T_vals ft0) hw238 hw240 hw239 hw14 (cpb_in c4) (Nat.le_of_ble_eq_true rfl) (Nat.le_of_ble_eq_true rfl) dX2_becomeCopy_39 (fun H locs h => ?_)
  obtain ⟨σ5, e5, hf⟩ := stl_some hf
  rw [← e5] at h
  obtain ⟨rfl, rfl⟩ := Prod.mk.inj (Option.some.inj hf)
  exact sE_v B hr h dX2_becomeCopy_42
set_option maxRecDepth 100000 in
theorem ok_X2_becomeCopy {l : Launch} (hl0 : l.stackTraces = false) {D : va_G} {cy : Nat → ClassId} {ad : Nat → Nat} (hap : sAp ad) (X : sX) (σ : sM) {t0 : Nat} (ft0 : isT t0) {t1 : Nat} (ft1 : isT t1) {r : Unit} {σ' : sM} (hf : f_X2_becomeCopy t0 t1 σ = some (r, σ')) : sMet l yX2_becomeCopy (sWs yX2_becomeCopy cX2_becomeCopy 2 none) 1 108 0 0 D cy ad X σ [.ref (ad t0), .ref (ad t1)] (.inr none) X σ' := by
  refine sMet_of (by decide +kernel) (Nat.le_of_ble_eq_true rfl) hap hl0 ?_
  intro p e s m args below meth c ls B hr htab hl h
  exact k_X2_becomeCopy_0 B hr _ _ _ ft0 ft1 hf _ _ _ h hl
set_option maxHeartbeats 4000000 in
set_option maxRecDepth 100000 in
theorem k_X2_hasSameAt_0 {p : Program} {l : Launch} {e : Env} {s : State} {m : MethodId} {args : Array Value} {below : List Frame} {meth : Method} {c : Code} {D : va_G} {cy : Nat → ClassId} {ad : Nat → Nat} {X : sX} {r : Int32} (B : sB p l s m meth c args cX2_hasSameAt 4 RX2 D cy ad) (hr : meth.sig.returnType = (some .boolean)) (t0 : Nat) (v1 : Int32) (t2 : Nat) (v3 : Int32) (σ : sM) (ft0 : isT t0) (ft2 : isT t2) (hf : f_X2_hasSameAt t0 v1 t2 v3 σ = some r) : sGo p l e { frames := 0, cells := 0, slots := 0, locals := 0 } s m args below meth c D cy ad X 4 (sQ below args s 0 0 D cy ad (.inr (some (.int r))) X σ) σ 0 [(0, .ref (ad t0)), (1, .int v1), (2, .ref (ad t2)), (3, .int v3)] [] := by
  replace hf : (chk (inb v1 120) (chk (inb v3 120) (if (σ (t0 + 1) (v1).toNatClampNeg) = (σ (t2 + 1) (v3).toNatClampNeg) then (chk (inb v1 120) (chk (inb v3 120) (if (σ (t0 + 2) (v1).toNatClampNeg) = (σ (t2 + 2) (v3).toNatClampNeg) then (some (1 : Int32)) else (some (0 : Int32))))) else (some (0 : Int32))))) = some r := hf
  intro H locs ls h hl
  have hx := B.1
  have hb := B.2.1
  refine lv_aload_n hx hb dX2_hasSameAt_0 rfl (lv_at hl 0 rfl) ?_
  refine g_get B h t0 (T_lt ft0) (C := RX2) (T := TX2) (N := 3) (T_row ft0 _) rfl hin_X2 0 (by decide) hw45 rfl rfl dX2_hasSameAt_1 ?_
  refine lv_iload_n hx hb dX2_hasSameAt_4 rfl (lv_at hl 1 rfl) ?_
  obtain ⟨c1, hf⟩ := chk_some hf
  refine g_iald B h (t0 + 1) (T_lt1 ft0) (n := 120) (T_keys ft0) (inb_in c1) dX2_hasSameAt_5 ?_
  refine lv_aload_n hx hb dX2_hasSameAt_6 rfl (lv_at hl 2 rfl) ?_
  refine g_get B h t2 (T_lt ft2) (C := RX2) (T := TX2) (N := 3) (T_row ft2 _) rfl hin_X2 0 (by decide) hw45 rfl rfl dX2_hasSameAt_7 ?_
  refine lv_iload_n hx hb dX2_hasSameAt_10 rfl (lv_at hl 3 rfl) ?_
  obtain ⟨c2, hf⟩ := chk_some hf
  refine g_iald B h (t2 + 1) (T_lt1 ft2) (n := 120) (T_keys ft2) (inb_in c2) dX2_hasSameAt_11 ?_
  refine lv_icmp_ne (tgt := 34) hx hb dX2_hasSameAt_12 (by decide) (fun c3 => ?_) (fun c3 => ?_)
  · rw [if_neg c3] at hf
    refine lv_iconst (v := (0 : Int32)) hx hb dX2_hasSameAt_34 (by decide) ?_
    obtain rfl := Option.some.inj hf
    exact sE_z B hr h rfl dX2_hasSameAt_35
  · rw [if_pos c3] at hf
    refine lv_aload_n hx hb dX2_hasSameAt_15 rfl (lv_at hl 0 rfl) ?_
    refine g_get B h t0 (T_lt ft0) (C := RX2) (T := TX2) (N := 3) (T_row ft0 _) rfl hin_X2 1 (by decide) hw49 rfl rfl dX2_hasSameAt_16 ?_
    refine lv_iload_n hx hb dX2_hasSameAt_19 rfl (lv_at hl 1 rfl) ?_
    obtain ⟨c4, hf⟩ := chk_some hf
    refine g_iald B h (t0 + 2) (T_lt2 ft0) (n := 120) (T_vals ft0) (inb_in c4) dX2_hasSameAt_20 ?_
    refine lv_aload_n hx hb dX2_hasSameAt_21 rfl (lv_at hl 2 rfl) ?_
    refine g_get B h t2 (T_lt ft2) (C := RX2) (T := TX2) (N := 3) (T_row ft2 _) rfl hin_X2 1 (by decide) hw49 rfl rfl dX2_hasSameAt_22 ?_
    refine lv_iload_n hx hb dX2_hasSameAt_25 rfl (lv_at hl 3 rfl) ?_
    obtain ⟨c5, hf⟩ := chk_some hf
    refine g_iald B h (t2 + 2) (T_lt2 ft2) (n := 120) (T_vals ft2) (inb_in c5) dX2_hasSameAt_26 ?_
    refine lv_icmp_ne (tgt := 34) hx hb dX2_hasSameAt_27 (by decide) (fun c6 => ?_) (fun c6 => ?_)
    · rw [if_neg c6] at hf
      refine lv_iconst (v := (0 : Int32)) hx hb dX2_hasSameAt_34 (by decide) ?_
      obtain rfl := Option.some.inj hf
      exact sE_z B hr h rfl dX2_hasSameAt_35
    · rw [if_pos c6] at hf
      refine lv_iconst (v := (1 : Int32)) hx hb dX2_hasSameAt_30 (by decide) ?_
      refine lv_goto (tgt := 35) hx hb dX2_hasSameAt_31 (by decide) ?_
      obtain rfl := Option.some.inj hf
      exact sE_z B hr h rfl dX2_hasSameAt_35
set_option maxRecDepth 100000 in
theorem ok_X2_hasSameAt {l : Launch} (hl0 : l.stackTraces = false) {D : va_G} {cy : Nat → ClassId} {ad : Nat → Nat} (hap : sAp ad) (X : sX) (σ : sM) {t0 : Nat} (ft0 : isT t0) (v1 : Int32) {t2 : Nat} (ft2 : isT t2) (v3 : Int32) {r : Int32} (hf : f_X2_hasSameAt t0 v1 t2 v3 σ = some r) : sMet l yX2_hasSameAt (sWs yX2_hasSameAt cX2_hasSameAt 4 (some .boolean)) 0 0 0 0 D cy ad X σ [.ref (ad t0), .int v1, .ref (ad t2), .int v3] (.inr (some (.int r))) X σ := by
  refine sMet_of (by decide +kernel) (Nat.le_of_ble_eq_true rfl) hap hl0 ?_
  intro p e s m args below meth c ls B hr htab hl h
  exact k_X2_hasSameAt_0 B hr _ _ _ _ _ ft0 ft2 hf _ _ _ h hl
set_option maxHeartbeats 4000000 in
set_option maxRecDepth 100000 in
theorem k_X2_dropPlaces_0 {p : Program} {l : Launch} {e : Env} {s : State} {m : MethodId} {args : Array Value} {below : List Frame} {meth : Method} {c : Code} {D : va_G} {cy : Nat → ClassId} {ad : Nat → Nat} {X : sX} {r : Unit} {σ' : sM} (B : sB p l s m meth c args cX2_dropPlaces 3 RX2 D cy ad) (hr : meth.sig.returnType = none) (t0 : Nat) (v1 : Int32) (v2 : Int32) (σ : sM) (ft0 : isT t0) (hf : f_X2_dropPlaces t0 v1 v2 σ = some (r, σ')) : sGo p l e { frames := 1, cells := 0, slots := 0, locals := 108 } s m args below meth c D cy ad X 3 (sQ below args s 0 0 D cy ad (.inr none) X σ') σ 0 [(0, .ref (ad t0)), (1, .int v1), (2, .int v2)] [] := by
  replace hf : (if v1 < 0 then (some ((), σ)) else (if v2 ≤ v1 then (some ((), σ)) else (if v2 ≤ (σ t0 2) then (chk (cpb v2 v1 ((σ t0 2) - v2) 120 120) (stl (va_up σ (t0 + 1) (va_cpy (σ (t0 + 1)) (σ (t0 + 1)) (v2).toNatClampNeg (v1).toNatClampNeg (((σ t0 2) - v2)).toNatClampNeg)) (fun σ5 => chk (cpb v2 v1 ((σ5 t0 2) - v2) 120 120) (stl (va_up σ5 (t0 + 2) (va_cpy (σ5 (t0 + 2)) (σ5 (t0 + 2)) (v2).toNatClampNeg (v1).toNatClampNeg (((σ5 t0 2) - v2)).toNatClampNeg)) (fun σ7 => stl (va_up σ7 t0 (upd (σ7 t0) 2 ((σ7 t0 2) - (v2 - v1)))) (fun σ8 => some ((), σ8))))))) else (some ((), σ))))) = some (r, σ') := hf
  intro H locs ls h hl
  have hx := B.1
  have hb := B.2.1
  refine lv_iload_n hx hb dX2_dropPlaces_0 rfl (lv_at hl 1 rfl) ?_
  refine lv_if_lt (tgt := 17) hx hb dX2_dropPlaces_1 (by decide) (fun c1 => ?_) (fun c1 => ?_)
  · rw [if_pos c1] at hf
    obtain ⟨rfl, rfl⟩ := Prod.mk.inj (Option.some.inj hf)
    exact sE_v B hr h dX2_dropPlaces_17
  · rw [if_neg c1] at hf
    refine lv_iload_n hx hb dX2_dropPlaces_4 rfl (lv_at hl 1 rfl) ?_
    refine lv_iload_n hx hb dX2_dropPlaces_5 rfl (lv_at hl 2 rfl) ?_
    refine lv_icmp_ge (tgt := 17) hx hb dX2_dropPlaces_6 (by decide) (fun c2 => ?_) (fun c2 => ?_)
    · rw [if_pos c2] at hf
      obtain ⟨rfl, rfl⟩ := Prod.mk.inj (Option.some.inj hf)
      exact sE_v B hr h dX2_dropPlaces_17
    · rw [if_neg c2] at hf
      refine lv_iload_n hx hb dX2_dropPlaces_9 rfl (lv_at hl 2 rfl) ?_
      refine lv_aload_n hx hb dX2_dropPlaces_10 rfl (lv_at hl 0 rfl) ?_
      refine g_get B h t0 (T_lt ft0) (C := RX2) (T := TX2) (N := 3) (T_row ft0 _) rfl hin_X2 2 (by decide) hw54 rfl rfl dX2_dropPlaces_11 ?_
      refine lv_icmp_le (tgt := 18) hx hb dX2_dropPlaces_14 (by decide) (fun c3 => ?_) (fun c3 => ?_)
      · rw [if_pos c3] at hf
        refine lv_aload_n hx hb dX2_dropPlaces_18 rfl (lv_at hl 0 rfl) ?_
        refine g_get B h t0 (T_lt ft0) (C := RX2) (T := TX2) (N := 3) (T_row ft0 _) rfl hin_X2 0 (by decide) hw45 rfl rfl dX2_dropPlaces_19 ?_
        refine lv_iload_n hx hb dX2_dropPlaces_22 rfl (lv_at hl 2 rfl) ?_
        refine lv_aload_n hx hb dX2_dropPlaces_23 rfl (lv_at hl 0 rfl) ?_
        refine g_get B h t0 (T_lt ft0) (C := RX2) (T := TX2) (N := 3) (T_row ft0 _) rfl hin_X2 0 (by decide) hw45 rfl rfl dX2_dropPlaces_24 ?_
        refine lv_iload_n hx hb dX2_dropPlaces_27 rfl (lv_at hl 1 rfl) ?_
        refine lv_aload_n hx hb dX2_dropPlaces_28 rfl (lv_at hl 0 rfl) ?_
        refine g_get B h t0 (T_lt ft0) (C := RX2) (T := TX2) (N := 3) (T_row ft0 _) rfl hin_X2 2 (by decide) hw54 rfl rfl dX2_dropPlaces_29 ?_
        refine lv_iload_n hx hb dX2_dropPlaces_32 rfl (lv_at hl 2 rfl) ?_
        refine lv_isub hx hb dX2_dropPlaces_33 ?_
        obtain ⟨c4, hf⟩ := chk_some hf
        refine g_copy B h hl.1.symm (t0 + 1) (t0 + 1) (T_lt1 ft0) (T_lt1 ft0) (n0 := 120) (n1 := 120) (T_keys ft0) (T_keys ft0) hw238 hw240 hw239 hw14 (cpb_in c4) (Nat.le_of_ble_eq_true rfl) (Nat.le_of_ble_eq_true rfl) dX2_dropPlaces_34 (fun H locs h => ?_)
        obtain ⟨σ5, e5, hf⟩ := stl_some hf
        rw [← e5] at h
        refine lv_aload_n hx hb dX2_dropPlaces_37 rfl (lv_at hl 0 rfl) ?_
        refine g_get B h t0 (T_lt ft0) (C := RX2) (T := TX2) (N := 3) (T_row ft0 _) rfl hin_X2 1 (by decide) hw49 rfl rfl dX2_dropPlaces_38 ?_
        refine lv_iload_n hx hb dX2_dropPlaces_41 rfl (lv_at hl 2 rfl) ?_
        refine lv_aload_n hx hb dX2_dropPlaces_42 rfl (lv_at hl 0 rfl) ?_
        refine g_get B h t0 (T_lt ft0) (C := RX2) (T := TX2) (N := 3) (T_row ft0 _) rfl hin_X2 1 (by decide) hw49 rfl rfl dX2_dropPlaces_43 ?_
        refine lv_iload_n hx hb dX2_dropPlaces_46 rfl (lv_at hl 1 rfl) ?_
        refine lv_aload_n hx hb dX2_dropPlaces_47 rfl (lv_at hl 0 rfl) ?_
        refine g_get B h t0 (T_lt ft0) (C := RX2) (T := TX2) (N := 3) (T_row ft0 _) rfl hin_X2 2 (by decide) hw54 rfl rfl dX2_dropPlaces_48 ?_
        refine lv_iload_n hx hb dX2_dropPlaces_51 rfl (lv_at hl 2 rfl) ?_
        refine lv_isub hx hb dX2_dropPlaces_52 ?_
        obtain ⟨c6, hf⟩ := chk_some hf
        refine g_copy B h hl.1.symm (t0 + 2) (t0 + 2) (T_lt2 ft0) (T_lt2 ft0) (n0 := 120) (n1 := 120) (T_vals ft0) (T_vals ft0) hw238 hw240 hw239 hw14 (cpb_in c6) (Nat.le_of_ble_eq_true rfl) (Nat.le_of_ble_eq_true rfl) dX2_dropPlaces_53 (fun H locs h => ?_)
        obtain ⟨σ7, e7, hf⟩ := stl_some hf
        rw [← e7] at h
        refine lv_aload_n hx hb dX2_dropPlaces_56 rfl (lv_at hl 0 rfl) ?_
        refine lv_dup hx hb dX2_dropPlaces_57 rfl ?_
        refine g_get B h t0 (T_lt ft0) (C := RX2) (T := TX2) (N := 3) (T_row ft0 _) rfl hin_X2 2 (by decide) hw54 rfl rfl dX2_dropPlaces_58 ?_
        refine lv_iload_n hx hb dX2_dropPlaces_61 rfl (lv_at hl 2 rfl) ?_
        refine lv_iload_n hx hb dX2_dropPlaces_62 rfl (lv_at hl 1 rfl) ?_
        refine lv_isub hx hb dX2_dropPlaces_63 ?_
        refine lv_isub hx hb dX2_dropPlaces_64 ?_
        refine g_put B h t0 (T_lt ft0) (C := RX2) (T := TX2) (N := 3) (T_row ft0 _) rfl hin_X2 tyX2 tyX2_ok nmX2 2 (by decide) hw54 rfl rfl rfl rfl (upd (σ7 t0) 2 ((σ7 t0 2) - (v2 - v1))) (T_put2 ft0 _ _) (Nat.le_of_ble_eq_true rfl) dX2_dropPlaces_65 (fun H locs h => ?_)
        obtain ⟨σ8, e8, hf⟩ := stl_some hf
        rw [← e8] at h
        obtain ⟨rfl, rfl⟩ := Prod.mk.inj (Option.some.inj hf)
        exact sE_v B hr h dX2_dropPlaces_68
      · rw [if_neg c3] at hf
        obtain ⟨rfl, rfl⟩ := Prod.mk.inj (Option.some.inj hf)
        exact sE_v B hr h dX2_dropPlaces_17
set_option maxRecDepth 100000 in
theorem ok_X2_dropPlaces {l : Launch} (hl0 : l.stackTraces = false) {D : va_G} {cy : Nat → ClassId} {ad : Nat → Nat} (hap : sAp ad) (X : sX) (σ : sM) {t0 : Nat} (ft0 : isT t0) (v1 : Int32) (v2 : Int32) {r : Unit} {σ' : sM} (hf : f_X2_dropPlaces t0 v1 v2 σ = some (r, σ')) : sMet l yX2_dropPlaces (sWs yX2_dropPlaces cX2_dropPlaces 3 none) 1 108 0 0 D cy ad X σ [.ref (ad t0), .int v1, .int v2] (.inr none) X σ' := by
  refine sMet_of (by decide +kernel) (Nat.le_of_ble_eq_true rfl) hap hl0 ?_
  intro p e s m args below meth c ls B hr htab hl h
  exact k_X2_dropPlaces_0 B hr _ _ _ _ ft0 hf _ _ _ h hl
set_option maxHeartbeats 4000000 in
set_option maxRecDepth 100000 in
theorem k_X2_set_51 {p : Program} {l : Launch} {e : Env} {s : State} {m : MethodId} {args : Array Value} {below : List Frame} {meth : Method} {c : Code} {D : va_G} {cy : Nat → ClassId} {ad : Nat → Nat} {X : sX} {r : Int32} {σ' : sM} (B : sB p l s m meth c args cX2_set 5 RX2 D cy ad) (hr : meth.sig.returnType = (some .boolean)) (t0 : Nat) (v1 : Int32) (v2 : Int32) (v3 : Int32) (σ : sM) (ft0 : isT t0) (hf : b_X2_set_51 t0 v1 v2 v3 σ = some (r, σ')) : sGo p l e { frames := 1, cells := 0, slots := 0, locals := 108 } s m args below meth c D cy ad X 5 (sQ below args s 0 0 D cy ad (.inr (some (.int r))) X σ') σ 51 [(0, .ref (ad t0)), (1, .int v1), (2, .int v2), (3, .int v3)] [] := by
  replace hf : (if (σ t0 2) < (120 : Int32) then (chk (cpb v3 (v3 + (1 : Int32)) ((σ t0 2) - v3) 120 120) (stl (va_up σ (t0 + 1) (va_cpy (σ (t0 + 1)) (σ (t0 + 1)) (v3).toNatClampNeg ((v3 + (1 : Int32))).toNatClampNeg (((σ t0 2) - v3)).toNatClampNeg)) (fun σ13 => chk (cpb v3 (v3 + (1 : Int32)) ((σ13 t0 2) - v3) 120 120) (stl (va_up σ13 (t0 + 2) (va_cpy (σ13 (t0 + 2)) (σ13 (t0 + 2)) (v3).toNatClampNeg ((v3 + (1 : Int32))).toNatClampNeg (((σ13 t0 2) - v3)).toNatClampNeg)) (fun σ15 => chk (inb v3 120) (stl (va_up σ15 (t0 + 1) (upd (σ15 (t0 + 1)) (v3).toNatClampNeg v1)) (fun σ17 => chk (inb v3 120) (stl (va_up σ17 (t0 + 2) (upd (σ17 (t0 + 2)) (v3).toNatClampNeg v2)) (fun σ19 => stl (va_up σ19 t0 (upd (σ19 t0) 2 ((σ19 t0 2) + (1 : Int32)))) (fun σ20 => some ((1 : Int32), σ20))))))))))) else (some ((0 : Int32), σ))) = some (r, σ') := hf
  intro H locs ls h hl
  have hx := B.1
  have hb := B.2.1
  refine lv_aload_n hx hb dX2_set_51 rfl (lv_at hl 0 rfl) ?_
  refine g_get B h t0 (T_lt ft0) (C := RX2) (T := TX2) (N := 3) (T_row ft0 _) rfl hin_X2 2 (by decide) hw54 rfl rfl dX2_set_52 ?_
  refine lv_aload_n hx hb dX2_set_55 rfl (lv_at hl 0 rfl) ?_
  refine g_get B h t0 (T_lt ft0) (C := RX2) (T := TX2) (N := 3) (T_row ft0 _) rfl hin_X2 0 (by decide) hw45 rfl rfl dX2_set_56 ?_
  refine g_alen B h (t0 + 1) (T_lt1 ft0) 0 ((T_keys ft0) _) rfl (v := (120 : Int32)) rfl dX2_set_59 ?_
  refine lv_icmp_lt (tgt := 65) hx hb dX2_set_60 (by decide) (fun c11 => ?_) (fun c11 => ?_)
  · rw [if_pos c11] at hf
    refine lv_aload_n hx hb dX2_set_65 rfl (lv_at hl 0 rfl) ?_
    refine g_get B h t0 (T_lt ft0) (C := RX2) (T := TX2) (N := 3) (T_row ft0 _) rfl hin_X2 0 (by decide) hw45 rfl rfl dX2_set_66 ?_
    refine lv_iload_n hx hb dX2_set_69 rfl (lv_at hl 3 rfl) ?_
    refine lv_aload_n hx hb dX2_set_70 rfl (lv_at hl 0 rfl) ?_
    refine g_get B h t0 (T_lt ft0) (C := RX2) (T := TX2) (N := 3) (T_row ft0 _) rfl hin_X2 0 (by decide) hw45 rfl rfl dX2_set_71 ?_
    refine lv_iload_n hx hb dX2_set_74 rfl (lv_at hl 3 rfl) ?_
    refine lv_iconst (v := (1 : Int32)) hx hb dX2_set_75 (by decide) ?_
    refine lv_iadd hx hb dX2_set_76 ?_
    refine lv_aload_n hx hb dX2_set_77 rfl (lv_at hl 0 rfl) ?_
    refine g_get B h t0 (T_lt ft0) (C := RX2) (T := TX2) (N := 3) (T_row ft0 _) rfl hin_X2 2 (by decide) hw54 rfl rfl dX2_set_78 ?_
    refine lv_iload_n hx hb dX2_set_81 rfl (lv_at hl 3 rfl) ?_
    refine lv_isub hx hb dX2_set_82 ?_
    obtain ⟨c12, hf⟩ := chk_some hf
    refine g_copy B h hl.1.symm (t0 + 1) (t0 + 1) (T_lt1 ft0) (T_lt1 ft0) (n0 := 120) (n1 := 120) (T_keys ft0) (T_keys ft0) hw238 hw240 hw239 hw14 (cpb_in c12) (Nat.le_of_ble_eq_true rfl) (Nat.le_of_ble_eq_true rfl) dX2_set_83 (fun H locs h => ?_)
    obtain ⟨σ13, e13, hf⟩ := stl_some hf
    rw [← e13] at h
    refine lv_aload_n hx hb dX2_set_86 rfl (lv_at hl 0 rfl) ?_
    refine g_get B h t0 (T_lt ft0) (C := RX2) (T := TX2) (N := 3) (T_row ft0 _) rfl hin_X2 1 (by decide) hw49 rfl rfl dX2_set_87 ?_
    refine lv_iload_n hx hb dX2_set_90 rfl (lv_at hl 3 rfl) ?_
    refine lv_aload_n hx hb dX2_set_91 rfl (lv_at hl 0 rfl) ?_
    refine g_get B h t0 (T_lt ft0) (C := RX2) (T := TX2) (N := 3) (T_row ft0 _) rfl hin_X2 1 (by decide) hw49 rfl rfl dX2_set_92 ?_
    refine lv_iload_n hx hb dX2_set_95 rfl (lv_at hl 3 rfl) ?_
    refine lv_iconst (v := (1 : Int32)) hx hb dX2_set_96 (by decide) ?_
    refine lv_iadd hx hb dX2_set_97 ?_
    refine lv_aload_n hx hb dX2_set_98 rfl (lv_at hl 0 rfl) ?_
    refine g_get B h t0 (T_lt ft0) (C := RX2) (T := TX2) (N := 3) (T_row ft0 _) rfl hin_X2 2 (by decide) hw54 rfl rfl dX2_set_99 ?_
    refine lv_iload_n hx hb dX2_set_102 rfl (lv_at hl 3 rfl) ?_
    refine lv_isub hx hb dX2_set_103 ?_
    obtain ⟨c14, hf⟩ := chk_some hf
    refine g_copy B h hl.1.symm (t0 + 2) (t0 + 2) (T_lt2 ft0) (T_lt2 ft0) (n0 := 120) (n1 := 120) (T_vals ft0) (T_vals ft0) hw238 hw240 hw239 hw14 (cpb_in c14) (Nat.le_of_ble_eq_true rfl) (Nat.le_of_ble_eq_true rfl) dX2_set_104 (fun H locs h => ?_)
    obtain ⟨σ15, e15, hf⟩ := stl_some hf
    rw [← e15] at h
    refine lv_aload_n hx hb dX2_set_107 rfl (lv_at hl 0 rfl) ?_
    refine g_get B h t0 (T_lt ft0) (C := RX2) (T := TX2) (N := 3) (T_row ft0 _) rfl hin_X2 0 (by decide) hw45 rfl rfl dX2_set_108 ?_
    refine lv_iload_n hx hb dX2_set_111 rfl (lv_at hl 3 rfl) ?_
    refine lv_iload_n hx hb dX2_set_112 rfl (lv_at hl 1 rfl) ?_
    obtain ⟨c16, hf⟩ := chk_some hf
    refine g_iast B h (t0 + 1) (T_lt1 ft0) (n := 120) (T_keys ft0) (inb_in c16) dX2_set_113 (fun H locs h => ?_)
    obtain ⟨σ17, e17, hf⟩ := stl_some hf
    rw [← e17] at h
    refine lv_aload_n hx hb dX2_set_114 rfl (lv_at hl 0 rfl) ?_
    refine g_get B h t0 (T_lt ft0) (C := RX2) (T := TX2) (N := 3) (T_row ft0 _) rfl hin_X2 1 (by decide) hw49 rfl rfl dX2_set_115 ?_
    refine lv_iload_n hx hb dX2_set_118 rfl (lv_at hl 3 rfl) ?_
    refine lv_iload_n hx hb dX2_set_119 rfl (lv_at hl 2 rfl) ?_
    obtain ⟨c18, hf⟩ := chk_some hf
    refine g_iast B h (t0 + 2) (T_lt2 ft0) (n := 120) (T_vals ft0) (inb_in c18) dX2_set_120 (fun H locs h => ?_)
    obtain ⟨σ19, e19, hf⟩ := stl_some hf
    rw [← e19] at h
    refine lv_aload_n hx hb dX2_set_121 rfl (lv_at hl 0 rfl) ?_
    refine lv_dup hx hb dX2_set_122 rfl ?_
    refine g_get B h t0 (T_lt ft0) (C := RX2) (T := TX2) (N := 3) (T_row ft0 _) rfl hin_X2 2 (by decide) hw54 rfl rfl dX2_set_123 ?_
    refine lv_iconst (v := (1 : Int32)) hx hb dX2_set_126 (by decide) ?_
    refine lv_iadd hx hb dX2_set_127 ?_
    refine g_put B h t0 (T_lt ft0) (C := RX2) (T := TX2) (N := 3) (T_row ft0 _) rfl hin_X2 tyX2 tyX2_ok nmX2 2 (by decide) hw54 rfl rfl rfl rfl (upd (σ19 t0) 2 ((σ19 t0 2) + (1 : Int32))) (T_put2 ft0 _ _) (Nat.le_of_ble_eq_true rfl) dX2_set_128 (fun H locs h => ?_)
    obtain ⟨σ20, e20, hf⟩ := stl_some hf
    rw [← e20] at h
    refine lv_iconst (v := (1 : Int32)) hx hb dX2_set_131 (by decide) ?_
    obtain ⟨rfl, rfl⟩ := Prod.mk.inj (Option.some.inj hf)
    exact sE_z B hr h rfl dX2_set_132
  · rw [if_neg c11] at hf
    refine lv_iconst (v := (0 : Int32)) hx hb dX2_set_63 (by decide) ?_
    obtain ⟨rfl, rfl⟩ := Prod.mk.inj (Option.some.inj hf)
    exact sE_z B hr h rfl dX2_set_64
set_option maxHeartbeats 4000000 in
set_option maxRecDepth 100000 in
theorem k_X2_set_0 {p : Program} {l : Launch} {e : Env} {s : State} {m : MethodId} {args : Array Value} {below : List Frame} {meth : Method} {c : Code} {D : va_G} {cy : Nat → ClassId} {ad : Nat → Nat} {X : sX} {r : Int32} {σ' : sM} (B : sB p l s m meth c args cX2_set 5 RX2 D cy ad) (hr : meth.sig.returnType = (some .boolean)) (t0 : Nat) (v1 : Int32) (v2 : Int32) (σ : sM) (ft0 : isT t0) (hf : f_X2_set t0 v1 v2 σ = some (r, σ')) : sGo p l e { frames := 1, cells := 0, slots := 0, locals := 108 } s m args below meth c D cy ad X 5 (sQ below args s 0 0 D cy ad (.inr (some (.int r))) X σ') σ 0 [(0, .ref (ad t0)), (1, .int v1), (2, .int v2)] [] := by
  replace hf : (rthn (f_X2_countBelow t0 v1 σ) (fun vr1 => if (σ t0 2) ≤ vr1 then (b_X2_set_51 t0 v1 v2 vr1 σ) else (chk (inb vr1 120) (if (σ (t0 + 1) (vr1).toNatClampNeg) = v1 then (chk (inb vr1 120) (if (σ (t0 + 2) (vr1).toNatClampNeg) = v2 then (chk (inb vr1 120) (stl (va_up σ (t0 + 2) (upd (σ (t0 + 2)) (vr1).toNatClampNeg v2)) (fun σ8 => some ((0 : Int32), σ8)))) else (chk (inb vr1 120) (stl (va_up σ (t0 + 2) (upd (σ (t0 + 2)) (vr1).toNatClampNeg v2)) (fun σ10 => some ((1 : Int32), σ10)))))) else (b_X2_set_51 t0 v1 v2 vr1 σ))))) = some (r, σ') := hf
  intro H locs ls h hl
  have hx := B.1
  have hb := B.2.1
  refine lv_aload_n hx hb dX2_set_0 rfl (lv_at hl 0 rfl) ?_
  refine lv_iload_n hx hb dX2_set_1 rfl (lv_at hl 1 rfl) ?_
  obtain ⟨vr1, hq1, hf⟩ := rthn_some hf
  refine sRetC1 (g_runV (k := t0) (T := TX2) (N := 3) B h (ok_X2_countBelow B.2.2.2.2.2.2.2.2 B.2.2.2.2.2.2.1 _ _ ft0 v1 hq1) cw_X2_22 ⟨Nat.le_of_ble_eq_true rfl, Nat.le_of_ble_eq_true rfl⟩ (T_lt ft0) (T_row ft0 _) rfl rfl hl.1.symm rfl (Nat.le_of_ble_eq_true rfl) dX2_set_2 ⟨Nat.zero_le _, Nat.zero_le _⟩) h (fun H locs h => ?_)
  refine lv_istore_n (lv' := [(3, .int vr1), (0, .ref (ad t0)), (1, .int v1), (2, .int v2)]) hx hb dX2_set_5 rfl hl (by decide) rfl (fun ls hl => ?_)
  refine lv_iload_n hx hb dX2_set_6 rfl (lv_at hl 0 rfl) ?_
  refine lv_aload_n hx hb dX2_set_7 rfl (lv_at hl 1 rfl) ?_
  refine g_get B h t0 (T_lt ft0) (C := RX2) (T := TX2) (N := 3) (T_row ft0 _) rfl hin_X2 2 (by decide) hw54 rfl rfl dX2_set_8 ?_
  refine lv_icmp_ge (tgt := 51) hx hb dX2_set_11 (by decide) (fun c2 => ?_) (fun c2 => ?_)
  · rw [if_pos c2] at hf
    exact k_X2_set_51 B hr  _ _ _ _ _ ft0 hf _ _ _ h (lv_sub hl [1, 2, 3, 0] rfl)
  · rw [if_neg c2] at hf
    refine lv_aload_n hx hb dX2_set_14 rfl (lv_at hl 1 rfl) ?_
    refine g_get B h t0 (T_lt ft0) (C := RX2) (T := TX2) (N := 3) (T_row ft0 _) rfl hin_X2 0 (by decide) hw45 rfl rfl dX2_set_15 ?_
    refine lv_iload_n hx hb dX2_set_18 rfl (lv_at hl 0 rfl) ?_
    obtain ⟨c3, hf⟩ := chk_some hf
    refine g_iald B h (t0 + 1) (T_lt1 ft0) (n := 120) (T_keys ft0) (inb_in c3) dX2_set_19 ?_
    refine lv_iload_n hx hb dX2_set_20 rfl (lv_at hl 2 rfl) ?_
    refine lv_icmp_ne (tgt := 51) hx hb dX2_set_21 (by decide) (fun c4 => ?_) (fun c4 => ?_)
    · rw [if_neg c4] at hf
      exact k_X2_set_51 B hr  _ _ _ _ _ ft0 hf _ _ _ h (lv_sub hl [1, 2, 3, 0] rfl)
    · rw [if_pos c4] at hf
      refine lv_aload_n hx hb dX2_set_24 rfl (lv_at hl 1 rfl) ?_
      refine g_get B h t0 (T_lt ft0) (C := RX2) (T := TX2) (N := 3) (T_row ft0 _) rfl hin_X2 1 (by decide) hw49 rfl rfl dX2_set_25 ?_
      refine lv_iload_n hx hb dX2_set_28 rfl (lv_at hl 0 rfl) ?_
      obtain ⟨c5, hf⟩ := chk_some hf
      refine g_iald B h (t0 + 2) (T_lt2 ft0) (n := 120) (T_vals ft0) (inb_in c5) dX2_set_29 ?_
      refine lv_iload_n hx hb dX2_set_30 rfl (lv_at hl 3 rfl) ?_
      refine lv_icmp_eq (tgt := 38) hx hb dX2_set_31 (by decide) (fun c6 => ?_) (fun c6 => ?_)
      · rw [if_pos c6] at hf
        refine lv_iconst (v := (0 : Int32)) hx hb dX2_set_38 (by decide) ?_
        refine lv_istore (lv' := [(4, .int (0 : Int32)), (3, .int vr1), (0, .ref (ad t0)), (1, .int v1), (2, .int v2)]) hx hb dX2_set_39 hl (by decide) rfl (fun ls hl => ?_)
        refine lv_aload_n hx hb dX2_set_41 rfl (lv_at hl 2 rfl) ?_
        refine g_get B h t0 (T_lt ft0) (C := RX2) (T := TX2) (N := 3) (T_row ft0 _) rfl hin_X2 1 (by decide) hw49 rfl rfl dX2_set_42 ?_
        refine lv_iload_n hx hb dX2_set_45 rfl (lv_at hl 1 rfl) ?_
        refine lv_iload_n hx hb dX2_set_46 rfl (lv_at hl 4 rfl) ?_
        obtain ⟨c7, hf⟩ := chk_some hf
        refine g_iast B h (t0 + 2) (T_lt2 ft0) (n := 120) (T_vals ft0) (inb_in c7) dX2_set_47 (fun H locs h => ?_)
        obtain ⟨σ8, e8, hf⟩ := stl_some hf
        rw [← e8] at h
        refine lv_iload hx hb dX2_set_48 (lv_at hl 0 rfl) ?_
        obtain ⟨rfl, rfl⟩ := Prod.mk.inj (Option.some.inj hf)
        exact sE_z B hr h rfl dX2_set_50
      · rw [if_neg c6] at hf
        refine lv_iconst (v := (1 : Int32)) hx hb dX2_set_34 (by decide) ?_
        refine lv_goto (tgt := 39) hx hb dX2_set_35 (by decide) ?_
        refine lv_istore (lv' := [(4, .int (1 : Int32)), (3, .int vr1), (0, .ref (ad t0)), (1, .int v1), (2, .int v2)]) hx hb dX2_set_39 hl (by decide) rfl (fun ls hl => ?_)
        refine lv_aload_n hx hb dX2_set_41 rfl (lv_at hl 2 rfl) ?_
        refine g_get B h t0 (T_lt ft0) (C := RX2) (T := TX2) (N := 3) (T_row ft0 _) rfl hin_X2 1 (by decide) hw49 rfl rfl dX2_set_42 ?_
        refine lv_iload_n hx hb dX2_set_45 rfl (lv_at hl 1 rfl) ?_
        refine lv_iload_n hx hb dX2_set_46 rfl (lv_at hl 4 rfl) ?_
        obtain ⟨c9, hf⟩ := chk_some hf
        refine g_iast B h (t0 + 2) (T_lt2 ft0) (n := 120) (T_vals ft0) (inb_in c9) dX2_set_47 (fun H locs h => ?_)
        obtain ⟨σ10, e10, hf⟩ := stl_some hf
        rw [← e10] at h
        refine lv_iload hx hb dX2_set_48 (lv_at hl 0 rfl) ?_
        obtain ⟨rfl, rfl⟩ := Prod.mk.inj (Option.some.inj hf)
        exact sE_z B hr h rfl dX2_set_50
set_option maxRecDepth 100000 in
theorem ok_X2_set {l : Launch} (hl0 : l.stackTraces = false) {D : va_G} {cy : Nat → ClassId} {ad : Nat → Nat} (hap : sAp ad) (X : sX) (σ : sM) {t0 : Nat} (ft0 : isT t0) (v1 : Int32) (v2 : Int32) {r : Int32} {σ' : sM} (hf : f_X2_set t0 v1 v2 σ = some (r, σ')) : sMet l yX2_set (sWs yX2_set cX2_set 5 (some .boolean)) 1 108 0 0 D cy ad X σ [.ref (ad t0), .int v1, .int v2] (.inr (some (.int r))) X σ' := by
  refine sMet_of (by decide +kernel) (Nat.le_of_ble_eq_true rfl) hap hl0 ?_
  intro p e s m args below meth c ls B hr htab hl h
  exact k_X2_set_0 B hr _ _ _ _ ft0 hf _ _ _ h hl
set_option maxHeartbeats 4000000 in
set_option maxRecDepth 100000 in
theorem k_X2_placeOf_0 {p : Program} {l : Launch} {e : Env} {s : State} {m : MethodId} {args : Array Value} {below : List Frame} {meth : Method} {c : Code} {D : va_G} {cy : Nat → ClassId} {ad : Nat → Nat} {X : sX} {r : Int32} (B : sB p l s m meth c args cX2_placeOf 3 RX2 D cy ad) (hr : meth.sig.returnType = (some .int)) (t0 : Nat) (v1 : Int32) (σ : sM) (ft0 : isT t0) (hf : f_X2_placeOf t0 v1 σ = some r) : sGo p l e { frames := 1, cells := 0, slots := 0, locals := 24 } s m args below meth c D cy ad X 3 (sQ below args s 0 0 D cy ad (.inr (some (.int r))) X σ) σ 0 [(0, .ref (ad t0)), (1, .int v1)] [] := by
  replace hf : (rthn (f_X2_countBelow t0 v1 σ) (fun vr1 => if (σ t0 2) ≤ vr1 then (some (-1 : Int32)) else (chk (inb vr1 120) (if (σ (t0 + 1) (vr1).toNatClampNeg) = v1 then (some vr1) else (some (-1 : Int32)))))) = some r := hf
  intro H locs ls h hl
  have hx := B.1
  have hb := B.2.1
  refine lv_aload_n hx hb dX2_placeOf_0 rfl (lv_at hl 0 rfl) ?_
  refine lv_iload_n hx hb dX2_placeOf_1 rfl (lv_at hl 1 rfl) ?_
  obtain ⟨vr1, hq1, hf⟩ := rthn_some hf
  refine sRetC1 (g_runV (k := t0) (T := TX2) (N := 3) B h (ok_X2_countBelow B.2.2.2.2.2.2.2.2 B.2.2.2.2.2.2.1 _ _ ft0 v1 hq1) cw_X2_22 ⟨Nat.le_of_ble_eq_true rfl, Nat.le_of_ble_eq_true rfl⟩ (T_lt ft0) (T_row ft0 _) rfl rfl hl.1.symm rfl (Nat.le_of_ble_eq_true rfl) dX2_placeOf_2 ⟨Nat.zero_le _, Nat.zero_le _⟩) h (fun H locs h => ?_)
  refine lv_istore_n (lv' := [(2, .int vr1), (0, .ref (ad t0)), (1, .int v1)]) hx hb dX2_placeOf_5 rfl hl (by decide) rfl (fun ls hl => ?_)
  refine lv_iload_n hx hb dX2_placeOf_6 rfl (lv_at hl 0 rfl) ?_
  refine lv_aload_n hx hb dX2_placeOf_7 rfl (lv_at hl 1 rfl) ?_
  refine g_get B h t0 (T_lt ft0) (C := RX2) (T := TX2) (N := 3) (T_row ft0 _) rfl hin_X2 2 (by decide) hw54 rfl rfl dX2_placeOf_8 ?_
  refine lv_icmp_ge (tgt := 28) hx hb dX2_placeOf_11 (by decide) (fun c2 => ?_) (fun c2 => ?_)
  · rw [if_pos c2] at hf
    refine lv_iconst (v := (-1 : Int32)) hx hb dX2_placeOf_28 (by decide) ?_
    obtain rfl := Option.some.inj hf
    exact sE_i B hr h dX2_placeOf_29
  · rw [if_neg c2] at hf
    refine lv_aload_n hx hb dX2_placeOf_14 rfl (lv_at hl 1 rfl) ?_
    refine g_get B h t0 (T_lt ft0) (C := RX2) (T := TX2) (N := 3) (T_row ft0 _) rfl hin_X2 0 (by decide) hw45 rfl rfl dX2_placeOf_15 ?_
    refine lv_iload_n hx hb dX2_placeOf_18 rfl (lv_at hl 0 rfl) ?_
    obtain ⟨c3, hf⟩ := chk_some hf
    refine g_iald B h (t0 + 1) (T_lt1 ft0) (n := 120) (T_keys ft0) (inb_in c3) dX2_placeOf_19 ?_
    refine lv_iload_n hx hb dX2_placeOf_20 rfl (lv_at hl 2 rfl) ?_
    refine lv_icmp_ne (tgt := 28) hx hb dX2_placeOf_21 (by decide) (fun c4 => ?_) (fun c4 => ?_)
    · rw [if_neg c4] at hf
      refine lv_iconst (v := (-1 : Int32)) hx hb dX2_placeOf_28 (by decide) ?_
      obtain rfl := Option.some.inj hf
      exact sE_i B hr h dX2_placeOf_29
    · rw [if_pos c4] at hf
      refine lv_iload_n hx hb dX2_placeOf_24 rfl (lv_at hl 0 rfl) ?_
      refine lv_goto (tgt := 29) hx hb dX2_placeOf_25 (by decide) ?_
      obtain rfl := Option.some.inj hf
      exact sE_i B hr h dX2_placeOf_29
set_option maxRecDepth 100000 in
theorem ok_X2_placeOf {l : Launch} (hl0 : l.stackTraces = false) {D : va_G} {cy : Nat → ClassId} {ad : Nat → Nat} (hap : sAp ad) (X : sX) (σ : sM) {t0 : Nat} (ft0 : isT t0) (v1 : Int32) {r : Int32} (hf : f_X2_placeOf t0 v1 σ = some r) : sMet l yX2_placeOf (sWs yX2_placeOf cX2_placeOf 3 (some .int)) 1 24 0 0 D cy ad X σ [.ref (ad t0), .int v1] (.inr (some (.int r))) X σ := by
  refine sMet_of (by decide +kernel) (Nat.le_of_ble_eq_true rfl) hap hl0 ?_
  intro p e s m args below meth c ls B hr htab hl h
  exact k_X2_placeOf_0 B hr _ _ _ ft0 hf _ _ _ h hl
set_option maxHeartbeats 4000000 in
set_option maxRecDepth 100000 in
theorem k_X2_countMissingIn_4 {p : Program} {l : Launch} {e : Env} {s : State} {m : MethodId} {args : Array Value} {below : List Frame} {meth : Method} {c : Code} {D : va_G} {cy : Nat → ClassId} {ad : Nat → Nat} {X : sX} {r : Int32} (B : sB p l s m meth c args cX2_countMissingIn 4 RX2 D cy ad) (hr : meth.sig.returnType = (some .int)) : ∀ (n : Nat) (t0 : Nat) (t1 : Nat) (v2 : Int32) (v3 : Int32) (σ : sM) (ft0 : isT t0) (ft1 : isT t1), b_X2_countMissingIn_4 n t0 t1 v2 v3 σ = some r → sGo p l e { frames := 2, cells := 0, slots := 0, locals := 46 } s m args below meth c D cy ad X 4 (sQ below args s 0 0 D cy ad (.inr (some (.int r))) X σ) σ 4 [(0, .ref (ad t0)), (1, .ref (ad t1)), (2, .int v2), (3, .int v3)] [] := by
  intro n
  induction n with
  | zero =>
    intro t0 t1 v2 v3 σ ft0 ft1 hf
    exact nomatch (show none = some r from hf)
  | succ n ih =>
    intro t0 t1 v2 v3 σ ft0 ft1 hf
    replace hf : (if (σ t0 2) ≤ v3 then (some v2) else (chk (inb v3 120) (rthn (f_X2_placeOf t1 (σ (t0 + 1) (v3).toNatClampNeg) σ) (fun vr3 => if 0 ≤ vr3 then (b_X2_countMissingIn_4 n t0 t1 v2 (v3 + 1) σ) else (b_X2_countMissingIn_4 n t0 t1 (v2 + 1) (v3 + 1) σ))))) = some r := hf
    intro H locs ls h hl
    have hx := B.1
    have hb := B.2.1
    refine lv_iload_n hx hb dX2_countMissingIn_4 rfl (lv_at hl 3 rfl) ?_
    refine lv_aload_n hx hb dX2_countMissingIn_5 rfl (lv_at hl 0 rfl) ?_
    refine g_get B h t0 (T_lt ft0) (C := RX2) (T := TX2) (N := 3) (T_row ft0 _) rfl hin_X2 2 (by decide) hw54 rfl rfl dX2_countMissingIn_6 ?_
    refine lv_icmp_ge (tgt := 34) hx hb dX2_countMissingIn_9 (by decide) (fun c1 => ?_) (fun c1 => ?_)
    · rw [if_pos c1] at hf
      refine lv_iload_n hx hb dX2_countMissingIn_34 rfl (lv_at hl 2 rfl) ?_
      obtain rfl := Option.some.inj hf
      exact sE_i B hr h dX2_countMissingIn_35
    · rw [if_neg c1] at hf
      refine lv_aload_n hx hb dX2_countMissingIn_12 rfl (lv_at hl 1 rfl) ?_
      refine lv_aload_n hx hb dX2_countMissingIn_13 rfl (lv_at hl 0 rfl) ?_
      refine g_get B h t0 (T_lt ft0) (C := RX2) (T := TX2) (N := 3) (T_row ft0 _) rfl hin_X2 0 (by decide) hw45 rfl rfl dX2_countMissingIn_14 ?_
      refine lv_iload_n hx hb dX2_countMissingIn_17 rfl (lv_at hl 3 rfl) ?_
      obtain ⟨c2, hf⟩ := chk_some hf
      refine g_iald B h (t0 + 1) (T_lt1 ft0) (n := 120) (T_keys ft0) (inb_in c2) dX2_countMissingIn_18 ?_
      obtain ⟨vr3, hq3, hf⟩ := rthn_some hf
      refine sRetC1 (g_runV (k := t1) (T := TX2) (N := 3) B h (ok_X2_placeOf B.2.2.2.2.2.2.2.2 B.2.2.2.2.2.2.1 _ _ ft1 (σ (t0 + 1) (v3).toNatClampNeg) hq3) cw_X2_52 ⟨Nat.le_of_ble_eq_true rfl, Nat.le_of_ble_eq_true rfl⟩ (T_lt ft1) (T_row ft1 _) rfl rfl hl.1.symm rfl (Nat.le_of_ble_eq_true rfl) dX2_countMissingIn_19 ⟨Nat.zero_le _, Nat.zero_le _⟩) h (fun H locs h => ?_)
      refine lv_if_ge (tgt := 28) hx hb dX2_countMissingIn_22 (by decide) (fun c4 => ?_) (fun c4 => ?_)
      · rw [if_pos c4] at hf
        refine lv_iinc (v := (v3 + 1)) (lv' := [(3, .int (v3 + 1)), (0, .ref (ad t0)), (1, .ref (ad t1)), (2, .int v2)]) hx hb dX2_countMissingIn_28 hl (k := 3) rfl rfl (by decide) rfl (fun ls hl => ?_)
        refine lv_goto (tgt := 4) hx hb dX2_countMissingIn_31 (by decide) ?_
        exact ih _ _ _ _ _ ft0 ft1 hf _ _ _ h (lv_sub hl [1, 2, 3, 0] rfl)
      · rw [if_neg c4] at hf
        refine lv_iinc (v := (v2 + 1)) (lv' := [(2, .int (v2 + 1)), (0, .ref (ad t0)), (1, .ref (ad t1)), (3, .int v3)]) hx hb dX2_countMissingIn_25 hl (k := 2) rfl rfl (by decide) rfl (fun ls hl => ?_)
        refine lv_iinc (v := (v3 + 1)) (lv' := [(3, .int (v3 + 1)), (2, .int (v2 + 1)), (0, .ref (ad t0)), (1, .ref (ad t1))]) hx hb dX2_countMissingIn_28 hl (k := 3) rfl rfl (by decide) rfl (fun ls hl => ?_)
        refine lv_goto (tgt := 4) hx hb dX2_countMissingIn_31 (by decide) ?_
        exact ih _ _ _ _ _ ft0 ft1 hf _ _ _ h (lv_sub hl [2, 3, 1, 0] rfl)
set_option maxHeartbeats 4000000 in
set_option maxRecDepth 100000 in
theorem k_X2_countMissingIn_0 {p : Program} {l : Launch} {e : Env} {s : State} {m : MethodId} {args : Array Value} {below : List Frame} {meth : Method} {c : Code} {D : va_G} {cy : Nat → ClassId} {ad : Nat → Nat} {X : sX} {r : Int32} (B : sB p l s m meth c args cX2_countMissingIn 4 RX2 D cy ad) (hr : meth.sig.returnType = (some .int)) (t0 : Nat) (t1 : Nat) (σ : sM) (ft0 : isT t0) (ft1 : isT t1) (hf : f_X2_countMissingIn t0 t1 σ = some r) : sGo p l e { frames := 2, cells := 0, slots := 0, locals := 46 } s m args below meth c D cy ad X 4 (sQ below args s 0 0 D cy ad (.inr (some (.int r))) X σ) σ 0 [(0, .ref (ad t0)), (1, .ref (ad t1))] [] := by
  replace hf : (b_X2_countMissingIn_4 FU t0 t1 (0 : Int32) (0 : Int32) σ) = some r := hf
  intro H locs ls h hl
  have hx := B.1
  have hb := B.2.1
  refine lv_iconst (v := (0 : Int32)) hx hb dX2_countMissingIn_0 (by decide) ?_
  refine lv_istore_n (lv' := [(2, .int (0 : Int32)), (0, .ref (ad t0)), (1, .ref (ad t1))]) hx hb dX2_countMissingIn_1 rfl hl (by decide) rfl (fun ls hl => ?_)
  refine lv_iconst (v := (0 : Int32)) hx hb dX2_countMissingIn_2 (by decide) ?_
  refine lv_istore_n (lv' := [(3, .int (0 : Int32)), (2, .int (0 : Int32)), (0, .ref (ad t0)), (1, .ref (ad t1))]) hx hb dX2_countMissingIn_3 rfl hl (by decide) rfl (fun ls hl => ?_)
  exact k_X2_countMissingIn_4 B hr  _ _ _ _ _ _ ft0 ft1 hf _ _ _ h (lv_sub hl [2, 3, 1, 0] rfl)
set_option maxRecDepth 100000 in
theorem ok_X2_countMissingIn {l : Launch} (hl0 : l.stackTraces = false) {D : va_G} {cy : Nat → ClassId} {ad : Nat → Nat} (hap : sAp ad) (X : sX) (σ : sM) {t0 : Nat} (ft0 : isT t0) {t1 : Nat} (ft1 : isT t1) {r : Int32} (hf : f_X2_countMissingIn t0 t1 σ = some r) : sMet l yX2_countMissingIn (sWs yX2_countMissingIn cX2_countMissingIn 4 (some .int)) 2 46 0 0 D cy ad X σ [.ref (ad t0), .ref (ad t1)] (.inr (some (.int r))) X σ := by
  refine sMet_of (by decide +kernel) (Nat.le_of_ble_eq_true rfl) hap hl0 ?_
  intro p e s m args below meth c ls B hr htab hl h
  exact k_X2_countMissingIn_0 B hr _ _ _ ft0 ft1 hf _ _ _ h hl
set_option maxHeartbeats 4000000 in
set_option maxRecDepth 100000 in
theorem k_X2_mix_0 {p : Program} {l : Launch} {e : Env} {s : State} {m : MethodId} {args : Array Value} {below : List Frame} {meth : Method} {c : Code} {D : va_G} {cy : Nat → ClassId} {ad : Nat → Nat} {X : sX} {r : Int32} (B : sB p l s m meth c args cX2_mix 3 RX2 D cy ad) (hr : meth.sig.returnType = (some .int)) (v0 : Int32) (v1 : Int32) (v2 : Int32) (σ : sM) (hf : f_X2_mix v0 v1 v2 σ = some r) : sGo p l e { frames := 1, cells := 0, slots := 0, locals := 21 } s m args below meth c D cy ad X 3 (sQ below args s 0 0 D cy ad (.inr (some (.int r))) X σ) σ 0 [(0, .int v0), (1, .int v1), (2, .int v2)] [] := by
  replace hf : (if v2 = (115 : Int32) then (some (v0 + v1)) else (if v2 = (103 : Int32) then (some (if v0 < v1 then v1 else v0)) else (some (if v1 < v0 then v1 else v0)))) = some r := hf
  intro H locs ls h hl
  have hx := B.1
  have hb := B.2.1
  refine lv_iload_n hx hb dX2_mix_0 rfl (lv_at hl 2 rfl) ?_
  refine lv_bipush (v := (115 : Int32)) hx hb dX2_mix_1 (by decide) ?_
  refine lv_icmp_ne (tgt := 10) hx hb dX2_mix_3 (by decide) (fun c1 => ?_) (fun c1 => ?_)
  · rw [if_neg c1] at hf
    refine lv_iload_n hx hb dX2_mix_10 rfl (lv_at hl 2 rfl) ?_
    refine lv_bipush (v := (103 : Int32)) hx hb dX2_mix_11 (by decide) ?_
    refine lv_icmp_ne (tgt := 24) hx hb dX2_mix_13 (by decide) (fun c2 => ?_) (fun c2 => ?_)
    · rw [if_neg c2] at hf
      refine lv_iload_n hx hb dX2_mix_24 rfl (lv_at hl 0 rfl) ?_
      refine lv_iload_n hx hb dX2_mix_25 rfl (lv_at hl 1 rfl) ?_
      refine g_min B hl.1.symm hw219 hw220 hw17 hw221 (Nat.le_of_ble_eq_true rfl) (Nat.le_of_ble_eq_true rfl) (Nat.zero_le _) (Nat.zero_le _) dX2_mix_26 ?_
      obtain rfl := Option.some.inj hf
      exact sE_i B hr h dX2_mix_29
    · rw [if_pos c2] at hf
      refine lv_iload_n hx hb dX2_mix_16 rfl (lv_at hl 0 rfl) ?_
      refine lv_iload_n hx hb dX2_mix_17 rfl (lv_at hl 1 rfl) ?_
      refine g_max B hl.1.symm hw222 hw188 hw17 hw189 (Nat.le_of_ble_eq_true rfl) (Nat.le_of_ble_eq_true rfl) (Nat.zero_le _) (Nat.zero_le _) dX2_mix_18 ?_
      refine lv_goto (tgt := 29) hx hb dX2_mix_21 (by decide) ?_
      obtain rfl := Option.some.inj hf
      exact sE_i B hr h dX2_mix_29
  · rw [if_pos c1] at hf
    refine lv_iload_n hx hb dX2_mix_6 rfl (lv_at hl 0 rfl) ?_
    refine lv_iload_n hx hb dX2_mix_7 rfl (lv_at hl 1 rfl) ?_
    refine lv_iadd hx hb dX2_mix_8 ?_
    obtain rfl := Option.some.inj hf
    exact sE_i B hr h dX2_mix_9
set_option maxRecDepth 100000 in
theorem ok_X2_mix {l : Launch} (hl0 : l.stackTraces = false) {D : va_G} {cy : Nat → ClassId} {ad : Nat → Nat} (hap : sAp ad) (X : sX) (σ : sM) (v0 : Int32) (v1 : Int32) (v2 : Int32) {r : Int32} (hf : f_X2_mix v0 v1 v2 σ = some r) : sMet l yX2_mix (sWs yX2_mix cX2_mix 3 (some .int)) 1 21 0 0 D cy ad X σ [.int v0, .int v1, .int v2] (.inr (some (.int r))) X σ := by
  refine sMet_of (by decide +kernel) (Nat.le_of_ble_eq_true rfl) hap hl0 ?_
  intro p e s m args below meth c ls B hr htab hl h
  exact k_X2_mix_0 B hr _ _ _ _  hf _ _ _ h hl
set_option maxHeartbeats 4000000 in
set_option maxRecDepth 100000 in
theorem k_X2_takeIn_2 {p : Program} {l : Launch} {e : Env} {s : State} {m : MethodId} {args : Array Value} {below : List Frame} {meth : Method} {c : Code} {D : va_G} {cy : Nat → ClassId} {ad : Nat → Nat} {X : sX} {r : Unit} {σ' : sM} (B : sB p l s m meth c args cX2_takeIn 7 RX2 D cy ad) (hr : meth.sig.returnType = none) : ∀ (n : Nat) (t0 : Nat) (t1 : Nat) (v2 : Int32) (v3 : Int32) (σ : sM) (ft0 : isT t0) (ft1 : isT t1), b_X2_takeIn_2 n t0 t1 v2 v3 σ = some (r, σ') → sGo p l e { frames := 2, cells := 0, slots := 0, locals := 132 } s m args below meth c D cy ad X 7 (sQ below args s 0 0 D cy ad (.inr none) X σ') σ 2 [(0, .ref (ad t0)), (1, .ref (ad t1)), (2, .int v2), (3, .int v3)] [] := by
  intro n
  induction n with
  | zero =>
    intro t0 t1 v2 v3 σ ft0 ft1 hf
    exact nomatch (show none = some (r, σ') from hf)
  | succ n ih =>
    intro t0 t1 v2 v3 σ ft0 ft1 hf
    replace hf : (if (σ t1 2) ≤ v3 then (some ((), σ)) else (chk (inb v3 120) (chk (inb v3 120) (rthn (f_X2_placeOf t0 (σ (t1 + 1) (v3).toNatClampNeg) σ) (fun vr4 => if 0 ≤ vr4 then (chk (inb vr4 120) (rthn (f_X2_mix (σ (t0 + 2) (vr4).toNatClampNeg) (σ (t1 + 2) (v3).toNatClampNeg) v2 σ) (fun vr7 => wthn (f_X2_set t0 (σ (t1 + 1) (v3).toNatClampNeg) vr7 σ) (fun vr8 σ8 => b_X2_takeIn_2 n t0 t1 v2 (v3 + 1) σ8)))) else (wthn (f_X2_set t0 (σ (t1 + 1) (v3).toNatClampNeg) (σ (t1 + 2) (v3).toNatClampNeg) σ) (fun vr9 σ9 => b_X2_takeIn_2 n t0 t1 v2 (v3 + 1) σ9))))))) = some (r, σ') := hf
    intro H locs ls h hl
    have hx := B.1
    have hb := B.2.1
    refine lv_iload_n hx hb dX2_takeIn_2 rfl (lv_at hl 3 rfl) ?_
    refine lv_aload_n hx hb dX2_takeIn_3 rfl (lv_at hl 1 rfl) ?_
    refine g_get B h t1 (T_lt ft1) (C := RX2) (T := TX2) (N := 3) (T_row ft1 _) rfl hin_X2 2 (by decide) hw54 rfl rfl dX2_takeIn_4 ?_
    refine lv_icmp_ge (tgt := 70) hx hb dX2_takeIn_7 (by decide) (fun c1 => ?_) (fun c1 => ?_)
    · rw [if_pos c1] at hf
      obtain ⟨rfl, rfl⟩ := Prod.mk.inj (Option.some.inj hf)
      exact sE_v B hr h dX2_takeIn_70
    · rw [if_neg c1] at hf
      refine lv_aload_n hx hb dX2_takeIn_10 rfl (lv_at hl 1 rfl) ?_
      refine g_get B h t1 (T_lt ft1) (C := RX2) (T := TX2) (N := 3) (T_row ft1 _) rfl hin_X2 0 (by decide) hw45 rfl rfl dX2_takeIn_11 ?_
      refine lv_iload_n hx hb dX2_takeIn_14 rfl (lv_at hl 3 rfl) ?_
      obtain ⟨c2, hf⟩ := chk_some hf
      refine g_iald B h (t1 + 1) (T_lt1 ft1) (n := 120) (T_keys ft1) (inb_in c2) dX2_takeIn_15 ?_
      refine lv_istore (lv' := [(4, .int (σ (t1 + 1) (v3).toNatClampNeg)), (0, .ref (ad t0)), (1, .ref (ad t1)), (2, .int v2), (3, .int v3)]) hx hb dX2_takeIn_16 hl (by decide) rfl (fun ls hl => ?_)
      refine lv_aload_n hx hb dX2_takeIn_18 rfl (lv_at hl 2 rfl) ?_
      refine g_get B h t1 (T_lt ft1) (C := RX2) (T := TX2) (N := 3) (T_row ft1 _) rfl hin_X2 1 (by decide) hw49 rfl rfl dX2_takeIn_19 ?_
      refine lv_iload_n hx hb dX2_takeIn_22 rfl (lv_at hl 4 rfl) ?_
      obtain ⟨c3, hf⟩ := chk_some hf
      refine g_iald B h (t1 + 2) (T_lt2 ft1) (n := 120) (T_vals ft1) (inb_in c3) dX2_takeIn_23 ?_
      refine lv_istore (lv' := [(5, .int (σ (t1 + 2) (v3).toNatClampNeg)), (4, .int (σ (t1 + 1) (v3).toNatClampNeg)), (0, .ref (ad t0)), (1, .ref (ad t1)), (2, .int v2), (3, .int v3)]) hx hb dX2_takeIn_24 hl (by decide) rfl (fun ls hl => ?_)
      refine lv_aload_n hx hb dX2_takeIn_26 rfl (lv_at hl 2 rfl) ?_
      refine lv_iload hx hb dX2_takeIn_27 (lv_at hl 1 rfl) ?_
      obtain ⟨vr4, hq4, hf⟩ := rthn_some hf
      refine sRetC1 (g_runV (k := t0) (T := TX2) (N := 3) B h (ok_X2_placeOf B.2.2.2.2.2.2.2.2 B.2.2.2.2.2.2.1 _ _ ft0 (σ (t1 + 1) (v3).toNatClampNeg) hq4) cw_X2_52 ⟨Nat.le_of_ble_eq_true rfl, Nat.le_of_ble_eq_true rfl⟩ (T_lt ft0) (T_row ft0 _) rfl rfl hl.1.symm rfl (Nat.le_of_ble_eq_true rfl) dX2_takeIn_29 ⟨Nat.zero_le _, Nat.zero_le _⟩) h (fun H locs h => ?_)
      refine lv_istore (lv' := [(6, .int vr4), (5, .int (σ (t1 + 2) (v3).toNatClampNeg)), (4, .int (σ (t1 + 1) (v3).toNatClampNeg)), (0, .ref (ad t0)), (1, .ref (ad t1)), (2, .int v2), (3, .int v3)]) hx hb dX2_takeIn_32 hl (by decide) rfl (fun ls hl => ?_)
      refine lv_aload_n hx hb dX2_takeIn_34 rfl (lv_at hl 3 rfl) ?_
      refine lv_iload hx hb dX2_takeIn_35 (lv_at hl 2 rfl) ?_
      refine lv_iload hx hb dX2_takeIn_37 (lv_at hl 0 rfl) ?_
      refine lv_if_ge (tgt := 47) hx hb dX2_takeIn_39 (by decide) (fun c5 => ?_) (fun c5 => ?_)
      · rw [if_pos c5] at hf
        refine lv_aload_n hx hb dX2_takeIn_47 rfl (lv_at hl 3 rfl) ?_
        refine g_get B h t0 (T_lt ft0) (C := RX2) (T := TX2) (N := 3) (T_row ft0 _) rfl hin_X2 1 (by decide) hw49 rfl rfl dX2_takeIn_48 ?_
        refine lv_iload hx hb dX2_takeIn_51 (lv_at hl 0 rfl) ?_
        obtain ⟨c6, hf⟩ := chk_some hf
        refine g_iald B h (t0 + 2) (T_lt2 ft0) (n := 120) (T_vals ft0) (inb_in c6) dX2_takeIn_53 ?_
        refine lv_iload hx hb dX2_takeIn_54 (lv_at hl 1 rfl) ?_
        refine lv_iload_n hx hb dX2_takeIn_56 rfl (lv_at hl 5 rfl) ?_
        obtain ⟨vr7, hq7, hf⟩ := rthn_some hf
        refine sRetC1 (g_runS B h (ok_X2_mix B.2.2.2.2.2.2.2.2 B.2.2.2.2.2.2.1 _ _ (σ (t0 + 2) (vr4).toNatClampNeg) (σ (t1 + 2) (v3).toNatClampNeg) v2 hq7) cw_X2_59 ⟨Nat.le_of_ble_eq_true rfl, Nat.le_of_ble_eq_true rfl⟩ rfl hl.1.symm rfl (Nat.le_of_ble_eq_true rfl) dX2_takeIn_57 ⟨Nat.zero_le _, Nat.zero_le _⟩) h (fun H locs h => ?_)
        obtain ⟨vr8, σ8, hq8, hf⟩ := wthn_some hf
        refine sRetC1 (g_runV (k := t0) (T := TX2) (N := 3) B h (ok_X2_set B.2.2.2.2.2.2.2.2 B.2.2.2.2.2.2.1 _ _ ft0 (σ (t1 + 1) (v3).toNatClampNeg) vr7 hq8) cw_X2_55 ⟨Nat.le_of_ble_eq_true rfl, Nat.le_of_ble_eq_true rfl⟩ (T_lt ft0) (T_row ft0 _) rfl rfl hl.1.symm rfl (Nat.le_of_ble_eq_true rfl) dX2_takeIn_60 ⟨Nat.zero_le _, Nat.zero_le _⟩) h (fun H locs h => ?_)
        refine lv_pop hx hb dX2_takeIn_63 rfl ?_
        refine lv_iinc (v := (v3 + 1)) (lv' := [(3, .int (v3 + 1)), (6, .int vr4), (5, .int (σ (t1 + 2) (v3).toNatClampNeg)), (4, .int (σ (t1 + 1) (v3).toNatClampNeg)), (0, .ref (ad t0)), (1, .ref (ad t1)), (2, .int v2)]) hx hb dX2_takeIn_64 hl (k := 6) rfl rfl (by decide) rfl (fun ls hl => ?_)
        refine lv_goto (tgt := 2) hx hb dX2_takeIn_67 (by decide) ?_
        exact ih _ _ _ _ _ ft0 ft1 hf _ _ _ h (lv_sub hl [4, 5, 6, 0] rfl)
      · rw [if_neg c5] at hf
        refine lv_iload hx hb dX2_takeIn_42 (lv_at hl 1 rfl) ?_
        refine lv_goto (tgt := 60) hx hb dX2_takeIn_44 (by decide) ?_
        obtain ⟨vr9, σ9, hq9, hf⟩ := wthn_some hf
        refine sRetC1 (g_runV (k := t0) (T := TX2) (N := 3) B h (ok_X2_set B.2.2.2.2.2.2.2.2 B.2.2.2.2.2.2.1 _ _ ft0 (σ (t1 + 1) (v3).toNatClampNeg) (σ (t1 + 2) (v3).toNatClampNeg) hq9) cw_X2_55 ⟨Nat.le_of_ble_eq_true rfl, Nat.le_of_ble_eq_true rfl⟩ (T_lt ft0) (T_row ft0 _) rfl rfl hl.1.symm rfl (Nat.le_of_ble_eq_true rfl) dX2_takeIn_60 ⟨Nat.zero_le _, Nat.zero_le _⟩) h (fun H locs h => ?_)
        refine lv_pop hx hb dX2_takeIn_63 rfl ?_
        refine lv_iinc (v := (v3 + 1)) (lv' := [(3, .int (v3 + 1)), (6, .int vr4), (5, .int (σ (t1 + 2) (v3).toNatClampNeg)), (4, .int (σ (t1 + 1) (v3).toNatClampNeg)), (0, .ref (ad t0)), (1, .ref (ad t1)), (2, .int v2)]) hx hb dX2_takeIn_64 hl (k := 6) rfl rfl (by decide) rfl (fun ls hl => ?_)
        refine lv_goto (tgt := 2) hx hb dX2_takeIn_67 (by decide) ?_
        exact ih _ _ _ _ _ ft0 ft1 hf _ _ _ h (lv_sub hl [4, 5, 6, 0] rfl)
set_option maxHeartbeats 4000000 in
set_option maxRecDepth 100000 in
theorem k_X2_takeIn_0 {p : Program} {l : Launch} {e : Env} {s : State} {m : MethodId} {args : Array Value} {below : List Frame} {meth : Method} {c : Code} {D : va_G} {cy : Nat → ClassId} {ad : Nat → Nat} {X : sX} {r : Unit} {σ' : sM} (B : sB p l s m meth c args cX2_takeIn 7 RX2 D cy ad) (hr : meth.sig.returnType = none) (t0 : Nat) (t1 : Nat) (v2 : Int32) (σ : sM) (ft0 : isT t0) (ft1 : isT t1) (hf : f_X2_takeIn t0 t1 v2 σ = some (r, σ')) : sGo p l e { frames := 2, cells := 0, slots := 0, locals := 132 } s m args below meth c D cy ad X 7 (sQ below args s 0 0 D cy ad (.inr none) X σ') σ 0 [(0, .ref (ad t0)), (1, .ref (ad t1)), (2, .int v2)] [] := by
  replace hf : (b_X2_takeIn_2 FU t0 t1 v2 (0 : Int32) σ) = some (r, σ') := hf
  intro H locs ls h hl
  have hx := B.1
  have hb := B.2.1
  refine lv_iconst (v := (0 : Int32)) hx hb dX2_takeIn_0 (by decide) ?_
  refine lv_istore_n (lv' := [(3, .int (0 : Int32)), (0, .ref (ad t0)), (1, .ref (ad t1)), (2, .int v2)]) hx hb dX2_takeIn_1 rfl hl (by decide) rfl (fun ls hl => ?_)
  exact k_X2_takeIn_2 B hr  _ _ _ _ _ _ ft0 ft1 hf _ _ _ h (lv_sub hl [1, 2, 3, 0] rfl)
set_option maxRecDepth 100000 in
theorem ok_X2_takeIn {l : Launch} (hl0 : l.stackTraces = false) {D : va_G} {cy : Nat → ClassId} {ad : Nat → Nat} (hap : sAp ad) (X : sX) (σ : sM) {t0 : Nat} (ft0 : isT t0) {t1 : Nat} (ft1 : isT t1) (v2 : Int32) {r : Unit} {σ' : sM} (hf : f_X2_takeIn t0 t1 v2 σ = some (r, σ')) : sMet l yX2_takeIn (sWs yX2_takeIn cX2_takeIn 7 none) 2 132 0 0 D cy ad X σ [.ref (ad t0), .ref (ad t1), .int v2] (.inr none) X σ' := by
  refine sMet_of (by decide +kernel) (Nat.le_of_ble_eq_true rfl) hap hl0 ?_
  intro p e s m args below meth c ls B hr htab hl h
  exact k_X2_takeIn_0 B hr _ _ _ _ ft0 ft1 hf _ _ _ h hl
set_option maxHeartbeats 4000000 in
set_option maxRecDepth 100000 in
theorem k_X2_isSame_15 {p : Program} {l : Launch} {e : Env} {s : State} {m : MethodId} {args : Array Value} {below : List Frame} {meth : Method} {c : Code} {D : va_G} {cy : Nat → ClassId} {ad : Nat → Nat} {X : sX} {r : Int32} (B : sB p l s m meth c args cX2_isSame 3 RX2 D cy ad) (hr : meth.sig.returnType = (some .boolean)) : ∀ (n : Nat) (t0 : Nat) (t1 : Nat) (v2 : Int32) (σ : sM) (ft0 : isT t0) (ft1 : isT t1), b_X2_isSame_15 n t0 t1 v2 σ = some r → sGo p l e { frames := 1, cells := 0, slots := 0, locals := 23 } s m args below meth c D cy ad X 3 (sQ below args s 0 0 D cy ad (.inr (some (.int r))) X σ) σ 15 [(0, .ref (ad t0)), (1, .ref (ad t1)), (2, .int v2)] [] := by
  intro n
  induction n with
  | zero =>
    intro t0 t1 v2 σ ft0 ft1 hf
    exact nomatch (show none = some r from hf)
  | succ n ih =>
    intro t0 t1 v2 σ ft0 ft1 hf
    replace hf : (if (σ t0 2) ≤ v2 then (some (1 : Int32)) else (rthn (f_X2_hasSameAt t0 v2 t1 v2 σ) (fun vr3 => if vr3 = 0 then (some (0 : Int32)) else (b_X2_isSame_15 n t0 t1 (v2 + 1) σ)))) = some r := hf
    intro H locs ls h hl
    have hx := B.1
    have hb := B.2.1
    refine lv_iload_n hx hb dX2_isSame_15 rfl (lv_at hl 2 rfl) ?_
    refine lv_aload_n hx hb dX2_isSame_16 rfl (lv_at hl 0 rfl) ?_
    refine g_get B h t0 (T_lt ft0) (C := RX2) (T := TX2) (N := 3) (T_row ft0 _) rfl hin_X2 2 (by decide) hw54 rfl rfl dX2_isSame_17 ?_
    refine lv_icmp_ge (tgt := 41) hx hb dX2_isSame_20 (by decide) (fun c2 => ?_) (fun c2 => ?_)
    · rw [if_pos c2] at hf
      refine lv_iconst (v := (1 : Int32)) hx hb dX2_isSame_41 (by decide) ?_
      obtain rfl := Option.some.inj hf
      exact sE_z B hr h rfl dX2_isSame_42
    · rw [if_neg c2] at hf
      refine lv_aload_n hx hb dX2_isSame_23 rfl (lv_at hl 0 rfl) ?_
      refine lv_iload_n hx hb dX2_isSame_24 rfl (lv_at hl 2 rfl) ?_
      refine lv_aload_n hx hb dX2_isSame_25 rfl (lv_at hl 1 rfl) ?_
      refine lv_iload_n hx hb dX2_isSame_26 rfl (lv_at hl 2 rfl) ?_
      obtain ⟨vr3, hq3, hf⟩ := rthn_some hf
      refine sRetC1 (g_runV (k := t0) (T := TX2) (N := 3) B h (ok_X2_hasSameAt B.2.2.2.2.2.2.2.2 B.2.2.2.2.2.2.1 _ _ ft0 v2 ft1 v2 hq3) cw_X2_63 ⟨Nat.le_of_ble_eq_true rfl, Nat.le_of_ble_eq_true rfl⟩ (T_lt ft0) (T_row ft0 _) rfl rfl hl.1.symm rfl (Nat.le_of_ble_eq_true rfl) dX2_isSame_27 ⟨Nat.zero_le _, Nat.zero_le _⟩) h (fun H locs h => ?_)
      refine lv_if_ne (tgt := 35) hx hb dX2_isSame_30 (by decide) (fun c4 => ?_) (fun c4 => ?_)
      · rw [if_neg c4] at hf
        refine lv_iinc (v := (v2 + 1)) (lv' := [(2, .int (v2 + 1)), (0, .ref (ad t0)), (1, .ref (ad t1))]) hx hb dX2_isSame_35 hl (k := 2) rfl rfl (by decide) rfl (fun ls hl => ?_)
        refine lv_goto (tgt := 15) hx hb dX2_isSame_38 (by decide) ?_
        exact ih _ _ _ _ ft0 ft1 hf _ _ _ h (lv_sub hl [1, 2, 0] rfl)
      · rw [if_pos c4] at hf
        refine lv_iconst (v := (0 : Int32)) hx hb dX2_isSame_33 (by decide) ?_
        obtain rfl := Option.some.inj hf
        exact sE_z B hr h rfl dX2_isSame_34
set_option maxHeartbeats 4000000 in
set_option maxRecDepth 100000 in
theorem k_X2_isSame_0 {p : Program} {l : Launch} {e : Env} {s : State} {m : MethodId} {args : Array Value} {below : List Frame} {meth : Method} {c : Code} {D : va_G} {cy : Nat → ClassId} {ad : Nat → Nat} {X : sX} {r : Int32} (B : sB p l s m meth c args cX2_isSame 3 RX2 D cy ad) (hr : meth.sig.returnType = (some .boolean)) (t0 : Nat) (t1 : Nat) (σ : sM) (ft0 : isT t0) (ft1 : isT t1) (hf : f_X2_isSame t0 t1 σ = some r) : sGo p l e { frames := 1, cells := 0, slots := 0, locals := 23 } s m args below meth c D cy ad X 3 (sQ below args s 0 0 D cy ad (.inr (some (.int r))) X σ) σ 0 [(0, .ref (ad t0)), (1, .ref (ad t1))] [] := by
  replace hf : (if (σ t0 2) = (σ t1 2) then (b_X2_isSame_15 FU t0 t1 (0 : Int32) σ) else (some (0 : Int32))) = some r := hf
  intro H locs ls h hl
  have hx := B.1
  have hb := B.2.1
  refine lv_aload_n hx hb dX2_isSame_0 rfl (lv_at hl 0 rfl) ?_
  refine g_get B h t0 (T_lt ft0) (C := RX2) (T := TX2) (N := 3) (T_row ft0 _) rfl hin_X2 2 (by decide) hw54 rfl rfl dX2_isSame_1 ?_
  refine lv_aload_n hx hb dX2_isSame_4 rfl (lv_at hl 1 rfl) ?_
  refine g_get B h t1 (T_lt ft1) (C := RX2) (T := TX2) (N := 3) (T_row ft1 _) rfl hin_X2 2 (by decide) hw54 rfl rfl dX2_isSame_5 ?_
  refine lv_icmp_eq (tgt := 13) hx hb dX2_isSame_8 (by decide) (fun c1 => ?_) (fun c1 => ?_)
  · rw [if_pos c1] at hf
    refine lv_iconst (v := (0 : Int32)) hx hb dX2_isSame_13 (by decide) ?_
    refine lv_istore_n (lv' := [(2, .int (0 : Int32)), (0, .ref (ad t0)), (1, .ref (ad t1))]) hx hb dX2_isSame_14 rfl hl (by decide) rfl (fun ls hl => ?_)
    exact k_X2_isSame_15 B hr  _ _ _ _ _ ft0 ft1 hf _ _ _ h (lv_sub hl [1, 2, 0] rfl)
  · rw [if_neg c1] at hf
    refine lv_iconst (v := (0 : Int32)) hx hb dX2_isSame_11 (by decide) ?_
    obtain rfl := Option.some.inj hf
    exact sE_z B hr h rfl dX2_isSame_12
set_option maxRecDepth 100000 in
theorem ok_X2_isSame {l : Launch} (hl0 : l.stackTraces = false) {D : va_G} {cy : Nat → ClassId} {ad : Nat → Nat} (hap : sAp ad) (X : sX) (σ : sM) {t0 : Nat} (ft0 : isT t0) {t1 : Nat} (ft1 : isT t1) {r : Int32} (hf : f_X2_isSame t0 t1 σ = some r) : sMet l yX2_isSame (sWs yX2_isSame cX2_isSame 3 (some .boolean)) 1 23 0 0 D cy ad X σ [.ref (ad t0), .ref (ad t1)] (.inr (some (.int r))) X σ := by
  refine sMet_of (by decide +kernel) (Nat.le_of_ble_eq_true rfl) hap hl0 ?_
  intro p e s m args below meth c ls B hr htab hl h
  exact k_X2_isSame_0 B hr _ _ _ ft0 ft1 hf _ _ _ h hl
set_option maxHeartbeats 4000000 in
set_option maxRecDepth 100000 in
theorem k_X2_drop_0 {p : Program} {l : Launch} {e : Env} {s : State} {m : MethodId} {args : Array Value} {below : List Frame} {meth : Method} {c : Code} {D : va_G} {cy : Nat → ClassId} {ad : Nat → Nat} {X : sX} {r : Int32} {σ' : sM} (B : sB p l s m meth c args cX2_drop 3 RX2 D cy ad) (hr : meth.sig.returnType = (some .boolean)) (t0 : Nat) (v1 : Int32) (σ : sM) (ft0 : isT t0) (hf : f_X2_drop t0 v1 σ = some (r, σ')) : sGo p l e { frames := 2, cells := 0, slots := 0, locals := 130 } s m args below meth c D cy ad X 3 (sQ below args s 0 0 D cy ad (.inr (some (.int r))) X σ') σ 0 [(0, .ref (ad t0)), (1, .int v1)] [] := by
  replace hf : (rthn (f_X2_countBelow t0 v1 σ) (fun vr1 => if (σ t0 2) ≤ vr1 then (some ((0 : Int32), σ)) else (chk (inb vr1 120) (if (σ (t0 + 1) (vr1).toNatClampNeg) = v1 then (wthn (f_X2_dropPlaces t0 vr1 (vr1 + (1 : Int32)) σ) (fun _ σ5 => some ((1 : Int32), σ5))) else (some ((0 : Int32), σ)))))) = some (r, σ') := hf
  intro H locs ls h hl
  have hx := B.1
  have hb := B.2.1
  refine lv_aload_n hx hb dX2_drop_0 rfl (lv_at hl 0 rfl) ?_
  refine lv_iload_n hx hb dX2_drop_1 rfl (lv_at hl 1 rfl) ?_
  obtain ⟨vr1, hq1, hf⟩ := rthn_some hf
  refine sRetC1 (g_runV (k := t0) (T := TX2) (N := 3) B h (ok_X2_countBelow B.2.2.2.2.2.2.2.2 B.2.2.2.2.2.2.1 _ _ ft0 v1 hq1) cw_X2_22 ⟨Nat.le_of_ble_eq_true rfl, Nat.le_of_ble_eq_true rfl⟩ (T_lt ft0) (T_row ft0 _) rfl rfl hl.1.symm rfl (Nat.le_of_ble_eq_true rfl) dX2_drop_2 ⟨Nat.zero_le _, Nat.zero_le _⟩) h (fun H locs h => ?_)
  refine lv_istore_n (lv' := [(2, .int vr1), (0, .ref (ad t0)), (1, .int v1)]) hx hb dX2_drop_5 rfl hl (by decide) rfl (fun ls hl => ?_)
  refine lv_iload_n hx hb dX2_drop_6 rfl (lv_at hl 0 rfl) ?_
  refine lv_aload_n hx hb dX2_drop_7 rfl (lv_at hl 1 rfl) ?_
  refine g_get B h t0 (T_lt ft0) (C := RX2) (T := TX2) (N := 3) (T_row ft0 _) rfl hin_X2 2 (by decide) hw54 rfl rfl dX2_drop_8 ?_
  refine lv_icmp_ge (tgt := 24) hx hb dX2_drop_11 (by decide) (fun c2 => ?_) (fun c2 => ?_)
  · rw [if_pos c2] at hf
    refine lv_iconst (v := (0 : Int32)) hx hb dX2_drop_24 (by decide) ?_
    obtain ⟨rfl, rfl⟩ := Prod.mk.inj (Option.some.inj hf)
    exact sE_z B hr h rfl dX2_drop_25
  · rw [if_neg c2] at hf
    refine lv_aload_n hx hb dX2_drop_14 rfl (lv_at hl 1 rfl) ?_
    refine g_get B h t0 (T_lt ft0) (C := RX2) (T := TX2) (N := 3) (T_row ft0 _) rfl hin_X2 0 (by decide) hw45 rfl rfl dX2_drop_15 ?_
    refine lv_iload_n hx hb dX2_drop_18 rfl (lv_at hl 0 rfl) ?_
    obtain ⟨c3, hf⟩ := chk_some hf
    refine g_iald B h (t0 + 1) (T_lt1 ft0) (n := 120) (T_keys ft0) (inb_in c3) dX2_drop_19 ?_
    refine lv_iload_n hx hb dX2_drop_20 rfl (lv_at hl 2 rfl) ?_
    refine lv_icmp_eq (tgt := 26) hx hb dX2_drop_21 (by decide) (fun c4 => ?_) (fun c4 => ?_)
    · rw [if_pos c4] at hf
      refine lv_aload_n hx hb dX2_drop_26 rfl (lv_at hl 1 rfl) ?_
      refine lv_iload_n hx hb dX2_drop_27 rfl (lv_at hl 0 rfl) ?_
      refine lv_iload_n hx hb dX2_drop_28 rfl (lv_at hl 0 rfl) ?_
      refine lv_iconst (v := (1 : Int32)) hx hb dX2_drop_29 (by decide) ?_
      refine lv_iadd hx hb dX2_drop_30 ?_
      obtain ⟨vr5, σ5, hq5, hf⟩ := wthn_some hf
      refine sRetC0 (g_runV (k := t0) (T := TX2) (N := 3) B h (ok_X2_dropPlaces B.2.2.2.2.2.2.2.2 B.2.2.2.2.2.2.1 _ _ ft0 vr1 (vr1 + (1 : Int32)) hq5) cw_X2_44 ⟨Nat.le_of_ble_eq_true rfl, Nat.le_of_ble_eq_true rfl⟩ (T_lt ft0) (T_row ft0 _) rfl rfl hl.1.symm rfl (Nat.le_of_ble_eq_true rfl) dX2_drop_31 ⟨Nat.zero_le _, Nat.zero_le _⟩) h (fun H locs h => ?_)
      refine lv_iconst (v := (1 : Int32)) hx hb dX2_drop_34 (by decide) ?_
      obtain ⟨rfl, rfl⟩ := Prod.mk.inj (Option.some.inj hf)
      exact sE_z B hr h rfl dX2_drop_35
    · rw [if_neg c4] at hf
      refine lv_iconst (v := (0 : Int32)) hx hb dX2_drop_24 (by decide) ?_
      obtain ⟨rfl, rfl⟩ := Prod.mk.inj (Option.some.inj hf)
      exact sE_z B hr h rfl dX2_drop_25
set_option maxRecDepth 100000 in
theorem ok_X2_drop {l : Launch} (hl0 : l.stackTraces = false) {D : va_G} {cy : Nat → ClassId} {ad : Nat → Nat} (hap : sAp ad) (X : sX) (σ : sM) {t0 : Nat} (ft0 : isT t0) (v1 : Int32) {r : Int32} {σ' : sM} (hf : f_X2_drop t0 v1 σ = some (r, σ')) : sMet l yX2_drop (sWs yX2_drop cX2_drop 3 (some .boolean)) 2 130 0 0 D cy ad X σ [.ref (ad t0), .int v1] (.inr (some (.int r))) X σ' := by
  refine sMet_of (by decide +kernel) (Nat.le_of_ble_eq_true rfl) hap hl0 ?_
  intro p e s m args below meth c ls B hr htab hl h
  exact k_X2_drop_0 B hr _ _ _ ft0 hf _ _ _ h hl
set_option maxHeartbeats 4000000 in
set_option maxRecDepth 100000 in
theorem k_X2_change_56 {p : Program} {l : Launch} {e : Env} {s : State} {m : MethodId} {args : Array Value} {below : List Frame} {meth : Method} {c : Code} {D : va_G} {cy : Nat → ClassId} {ad : Nat → Nat} {X : sX} {r : Int32} {σ' : sM} (B : sB p l s m meth c args cX2_change 5 RX2 D cy ad) (hr : meth.sig.returnType = (some .boolean)) (t0 : Nat) (v1 : Int32) (v2 : Int32) (v3 : Int32) (v4 : Int32) (σ : sM) (ft0 : isT t0) (hf : b_X2_change_56 t0 v1 v2 v3 v4 σ = some (r, σ')) : sGo p l e { frames := 3, cells := 0, slots := 0, locals := 152 } s m args below meth c D cy ad X 5 (sQ below args s 0 0 D cy ad (.inr (some (.int r))) X σ') σ 56 [(0, .ref (ad t0)), (1, .int v1), (2, .int v2), (3, .int v3), (4, .int v4)] [] := by
  replace hf : (if v1 = (120 : Int32) then (if 0 ≤ v4 then (wthn (f_X2_set t0 v2 v3 σ) (fun vr18 σ18 => chk (isb vr18) (some (vr18, σ18)))) else (some ((0 : Int32), σ))) else (wthn (f_X2_set t0 v2 v3 σ) (fun vr15 σ15 => chk (isb vr15) (some (vr15, σ15))))) = some (r, σ') := hf
  intro H locs ls h hl
  have hx := B.1
  have hb := B.2.1
  refine lv_iload_n hx hb dX2_change_56 rfl (lv_at hl 1 rfl) ?_
  refine lv_bipush (v := (120 : Int32)) hx hb dX2_change_57 (by decide) ?_
  refine lv_icmp_ne (tgt := 69) hx hb dX2_change_59 (by decide) (fun c14 => ?_) (fun c14 => ?_)
  · rw [if_neg c14] at hf
    refine lv_aload_n hx hb dX2_change_69 rfl (lv_at hl 0 rfl) ?_
    refine lv_iload_n hx hb dX2_change_70 rfl (lv_at hl 2 rfl) ?_
    refine lv_iload_n hx hb dX2_change_71 rfl (lv_at hl 3 rfl) ?_
    obtain ⟨vr15, σ15, hq15, hf⟩ := wthn_some hf
    refine sRetC1 (g_runV (k := t0) (T := TX2) (N := 3) B h (ok_X2_set B.2.2.2.2.2.2.2.2 B.2.2.2.2.2.2.1 _ _ ft0 v2 v3 hq15) cw_X2_55 ⟨Nat.le_of_ble_eq_true rfl, Nat.le_of_ble_eq_true rfl⟩ (T_lt ft0) (T_row ft0 _) rfl rfl hl.1.symm rfl (Nat.le_of_ble_eq_true rfl) dX2_change_72 ⟨Nat.zero_le _, Nat.zero_le _⟩) h (fun H locs h => ?_)
    obtain ⟨c16, hf⟩ := chk_some hf
    obtain ⟨rfl, rfl⟩ := Prod.mk.inj (Option.some.inj hf)
    exact sE_z B hr h (isb_n c16) dX2_change_75
  · rw [if_pos c14] at hf
    refine lv_iload hx hb dX2_change_62 (lv_at hl 4 rfl) ?_
    refine lv_if_ge (tgt := 69) hx hb dX2_change_64 (by decide) (fun c17 => ?_) (fun c17 => ?_)
    · rw [if_pos c17] at hf
      refine lv_aload_n hx hb dX2_change_69 rfl (lv_at hl 0 rfl) ?_
      refine lv_iload_n hx hb dX2_change_70 rfl (lv_at hl 2 rfl) ?_
      refine lv_iload_n hx hb dX2_change_71 rfl (lv_at hl 3 rfl) ?_
      obtain ⟨vr18, σ18, hq18, hf⟩ := wthn_some hf
      refine sRetC1 (g_runV (k := t0) (T := TX2) (N := 3) B h (ok_X2_set B.2.2.2.2.2.2.2.2 B.2.2.2.2.2.2.1 _ _ ft0 v2 v3 hq18) cw_X2_55 ⟨Nat.le_of_ble_eq_true rfl, Nat.le_of_ble_eq_true rfl⟩ (T_lt ft0) (T_row ft0 _) rfl rfl hl.1.symm rfl (Nat.le_of_ble_eq_true rfl) dX2_change_72 ⟨Nat.zero_le _, Nat.zero_le _⟩) h (fun H locs h => ?_)
      obtain ⟨c19, hf⟩ := chk_some hf
      obtain ⟨rfl, rfl⟩ := Prod.mk.inj (Option.some.inj hf)
      exact sE_z B hr h (isb_n c19) dX2_change_75
    · rw [if_neg c17] at hf
      refine lv_iconst (v := (0 : Int32)) hx hb dX2_change_67 (by decide) ?_
      obtain ⟨rfl, rfl⟩ := Prod.mk.inj (Option.some.inj hf)
      exact sE_z B hr h rfl dX2_change_68
set_option maxHeartbeats 4000000 in
set_option maxRecDepth 100000 in
theorem k_X2_change_0 {p : Program} {l : Launch} {e : Env} {s : State} {m : MethodId} {args : Array Value} {below : List Frame} {meth : Method} {c : Code} {D : va_G} {cy : Nat → ClassId} {ad : Nat → Nat} {X : sX} {r : Int32} {σ' : sM} (B : sB p l s m meth c args cX2_change 5 RX2 D cy ad) (hr : meth.sig.returnType = (some .boolean)) (t0 : Nat) (v1 : Int32) (v2 : Int32) (v3 : Int32) (σ : sM) (ft0 : isT t0) (hf : f_X2_change t0 v1 v2 v3 σ = some (r, σ')) : sGo p l e { frames := 3, cells := 0, slots := 0, locals := 152 } s m args below meth c D cy ad X 5 (sQ below args s 0 0 D cy ad (.inr (some (.int r))) X σ') σ 0 [(0, .ref (ad t0)), (1, .int v1), (2, .int v2), (3, .int v3)] [] := by
  replace hf : (if v1 = (114 : Int32) then (wthn (f_X2_drop t0 v2 σ) (fun vr12 σ12 => chk (isb vr12) (some (vr12, σ12)))) else (rthn (f_X2_placeOf t0 v2 σ) (fun vr2 => if v1 = (115 : Int32) then (if vr2 < 0 then (if v1 = (97 : Int32) then (if 0 ≤ vr2 then (some ((0 : Int32), σ)) else (b_X2_change_56 t0 v1 v2 v3 vr2 σ)) else (b_X2_change_56 t0 v1 v2 v3 vr2 σ)) else (chk (inb vr2 120) (wthn (f_X2_set t0 v2 ((σ (t0 + 2) (vr2).toNatClampNeg) + v3) σ) (fun vr10 σ10 => chk (isb vr10) (some (vr10, σ10)))))) else (if v1 = (97 : Int32) then (if 0 ≤ vr2 then (some ((0 : Int32), σ)) else (b_X2_change_56 t0 v1 v2 v3 vr2 σ)) else (b_X2_change_56 t0 v1 v2 v3 vr2 σ))))) = some (r, σ') := hf
  intro H locs ls h hl
  have hx := B.1
  have hb := B.2.1
  refine lv_iload_n hx hb dX2_change_0 rfl (lv_at hl 1 rfl) ?_
  refine lv_bipush (v := (114 : Int32)) hx hb dX2_change_1 (by decide) ?_
  refine lv_icmp_ne (tgt := 12) hx hb dX2_change_3 (by decide) (fun c1 => ?_) (fun c1 => ?_)
  · rw [if_neg c1] at hf
    refine lv_aload_n hx hb dX2_change_12 rfl (lv_at hl 0 rfl) ?_
    refine lv_iload_n hx hb dX2_change_13 rfl (lv_at hl 2 rfl) ?_
    obtain ⟨vr2, hq2, hf⟩ := rthn_some hf
    refine sRetC1 (g_runV (k := t0) (T := TX2) (N := 3) B h (ok_X2_placeOf B.2.2.2.2.2.2.2.2 B.2.2.2.2.2.2.1 _ _ ft0 v2 hq2) cw_X2_52 ⟨Nat.le_of_ble_eq_true rfl, Nat.le_of_ble_eq_true rfl⟩ (T_lt ft0) (T_row ft0 _) rfl rfl hl.1.symm rfl (Nat.le_of_ble_eq_true rfl) dX2_change_14 ⟨Nat.zero_le _, Nat.zero_le _⟩) h (fun H locs h => ?_)
    refine lv_istore (lv' := [(4, .int vr2), (0, .ref (ad t0)), (1, .int v1), (2, .int v2), (3, .int v3)]) hx hb dX2_change_17 hl (by decide) rfl (fun ls hl => ?_)
    refine lv_iload_n hx hb dX2_change_19 rfl (lv_at hl 2 rfl) ?_
    refine lv_bipush (v := (115 : Int32)) hx hb dX2_change_20 (by decide) ?_
    refine lv_icmp_ne (tgt := 45) hx hb dX2_change_22 (by decide) (fun c3 => ?_) (fun c3 => ?_)
    · rw [if_neg c3] at hf
      refine lv_iload_n hx hb dX2_change_45 rfl (lv_at hl 2 rfl) ?_
      refine lv_bipush (v := (97 : Int32)) hx hb dX2_change_46 (by decide) ?_
      refine lv_icmp_ne (tgt := 56) hx hb dX2_change_48 (by decide) (fun c4 => ?_) (fun c4 => ?_)
      · rw [if_neg c4] at hf
        exact k_X2_change_56 B hr  _ _ _ _ _ _ ft0 hf _ _ _ h (lv_sub hl [1, 2, 3, 4, 0] rfl)
      · rw [if_pos c4] at hf
        refine lv_iload hx hb dX2_change_51 (lv_at hl 0 rfl) ?_
        refine lv_if_ge (tgt := 67) hx hb dX2_change_53 (by decide) (fun c5 => ?_) (fun c5 => ?_)
        · rw [if_pos c5] at hf
          refine lv_iconst (v := (0 : Int32)) hx hb dX2_change_67 (by decide) ?_
          obtain ⟨rfl, rfl⟩ := Prod.mk.inj (Option.some.inj hf)
          exact sE_z B hr h rfl dX2_change_68
        · rw [if_neg c5] at hf
          exact k_X2_change_56 B hr  _ _ _ _ _ _ ft0 hf _ _ _ h (lv_sub hl [1, 2, 3, 4, 0] rfl)
    · rw [if_pos c3] at hf
      refine lv_iload hx hb dX2_change_25 (lv_at hl 0 rfl) ?_
      refine lv_if_lt (tgt := 45) hx hb dX2_change_27 (by decide) (fun c6 => ?_) (fun c6 => ?_)
      · rw [if_pos c6] at hf
        refine lv_iload_n hx hb dX2_change_45 rfl (lv_at hl 2 rfl) ?_
        refine lv_bipush (v := (97 : Int32)) hx hb dX2_change_46 (by decide) ?_
        refine lv_icmp_ne (tgt := 56) hx hb dX2_change_48 (by decide) (fun c7 => ?_) (fun c7 => ?_)
        · rw [if_neg c7] at hf
          exact k_X2_change_56 B hr  _ _ _ _ _ _ ft0 hf _ _ _ h (lv_sub hl [1, 2, 3, 4, 0] rfl)
        · rw [if_pos c7] at hf
          refine lv_iload hx hb dX2_change_51 (lv_at hl 0 rfl) ?_
          refine lv_if_ge (tgt := 67) hx hb dX2_change_53 (by decide) (fun c8 => ?_) (fun c8 => ?_)
          · rw [if_pos c8] at hf
            refine lv_iconst (v := (0 : Int32)) hx hb dX2_change_67 (by decide) ?_
            obtain ⟨rfl, rfl⟩ := Prod.mk.inj (Option.some.inj hf)
            exact sE_z B hr h rfl dX2_change_68
          · rw [if_neg c8] at hf
            exact k_X2_change_56 B hr  _ _ _ _ _ _ ft0 hf _ _ _ h (lv_sub hl [1, 2, 3, 4, 0] rfl)
      · rw [if_neg c6] at hf
        refine lv_aload_n hx hb dX2_change_30 rfl (lv_at hl 1 rfl) ?_
        refine lv_iload_n hx hb dX2_change_31 rfl (lv_at hl 3 rfl) ?_
        refine lv_aload_n hx hb dX2_change_32 rfl (lv_at hl 1 rfl) ?_
        refine g_get B h t0 (T_lt ft0) (C := RX2) (T := TX2) (N := 3) (T_row ft0 _) rfl hin_X2 1 (by decide) hw49 rfl rfl dX2_change_33 ?_
        refine lv_iload hx hb dX2_change_36 (lv_at hl 0 rfl) ?_
        obtain ⟨c9, hf⟩ := chk_some hf
        refine g_iald B h (t0 + 2) (T_lt2 ft0) (n := 120) (T_vals ft0) (inb_in c9) dX2_change_38 ?_
        refine lv_iload_n hx hb dX2_change_39 rfl (lv_at hl 4 rfl) ?_
        refine lv_iadd hx hb dX2_change_40 ?_
        obtain ⟨vr10, σ10, hq10, hf⟩ := wthn_some hf
        refine sRetC1 (g_runV (k := t0) (T := TX2) (N := 3) B h (ok_X2_set B.2.2.2.2.2.2.2.2 B.2.2.2.2.2.2.1 _ _ ft0 v2 ((σ (t0 + 2) (vr2).toNatClampNeg) + v3) hq10) cw_X2_55 ⟨Nat.le_of_ble_eq_true rfl, Nat.le_of_ble_eq_true rfl⟩ (T_lt ft0) (T_row ft0 _) rfl rfl hl.1.symm rfl (Nat.le_of_ble_eq_true rfl) dX2_change_41 ⟨Nat.zero_le _, Nat.zero_le _⟩) h (fun H locs h => ?_)
        obtain ⟨c11, hf⟩ := chk_some hf
        obtain ⟨rfl, rfl⟩ := Prod.mk.inj (Option.some.inj hf)
        exact sE_z B hr h (isb_n c11) dX2_change_44
  · rw [if_pos c1] at hf
    refine lv_aload_n hx hb dX2_change_6 rfl (lv_at hl 0 rfl) ?_
    refine lv_iload_n hx hb dX2_change_7 rfl (lv_at hl 2 rfl) ?_
    obtain ⟨vr12, σ12, hq12, hf⟩ := wthn_some hf
    refine sRetC1 (g_runV (k := t0) (T := TX2) (N := 3) B h (ok_X2_drop B.2.2.2.2.2.2.2.2 B.2.2.2.2.2.2.1 _ _ ft0 v2 hq12) cw_X2_48 ⟨Nat.le_of_ble_eq_true rfl, Nat.le_of_ble_eq_true rfl⟩ (T_lt ft0) (T_row ft0 _) rfl rfl hl.1.symm rfl (Nat.le_of_ble_eq_true rfl) dX2_change_8 ⟨Nat.zero_le _, Nat.zero_le _⟩) h (fun H locs h => ?_)
    obtain ⟨c13, hf⟩ := chk_some hf
    obtain ⟨rfl, rfl⟩ := Prod.mk.inj (Option.some.inj hf)
    exact sE_z B hr h (isb_n c13) dX2_change_11
set_option maxRecDepth 100000 in
theorem ok_X2_change {l : Launch} (hl0 : l.stackTraces = false) {D : va_G} {cy : Nat → ClassId} {ad : Nat → Nat} (hap : sAp ad) (X : sX) (σ : sM) {t0 : Nat} (ft0 : isT t0) (v1 : Int32) (v2 : Int32) (v3 : Int32) {r : Int32} {σ' : sM} (hf : f_X2_change t0 v1 v2 v3 σ = some (r, σ')) : sMet l yX2_change (sWs yX2_change cX2_change 5 (some .boolean)) 3 152 0 0 D cy ad X σ [.ref (ad t0), .int v1, .int v2, .int v3] (.inr (some (.int r))) X σ' := by
  refine sMet_of (by decide +kernel) (Nat.le_of_ble_eq_true rfl) hap hl0 ?_
  intro p e s m args below meth c ls B hr htab hl h
  exact k_X2_change_0 B hr _ _ _ _ _ ft0 hf _ _ _ h hl
set_option maxHeartbeats 4000000 in
set_option maxRecDepth 100000 in
theorem k_X4_chain_0 {p : Program} {l : Launch} {e : Env} {s : State} {m : MethodId} {args : Array Value} {below : List Frame} {meth : Method} {c : Code} {D : va_G} {cy : Nat → ClassId} {ad : Nat → Nat} {X : sX} {r : Int64} (B : sB p l s m meth c args cX4_chain 3 RX4 D cy ad) (hr : meth.sig.returnType = (some .long)) (v0 : Int64) (v2 : Int32) (σ : sM) (hf : f_X4_chain v0 v2 σ = some r) : sGo p l e { frames := 0, cells := 0, slots := 0, locals := 0 } s m args below meth c D cy ad X 3 (sQ below args s 0 0 D cy ad (.inr (some (.long r))) X σ) σ 0 [(0, .long v0), (2, .int v2)] [] := by
  replace hf : (some (((31 : Int64) * v0) + (v2.toInt64))) = some r := hf
  intro H locs ls h hl
  have hx := B.1
  have hb := B.2.1
  refine lv_ldc2 (own := RX4) (v := (31 : Int64)) hx hb B.2.2.2.1 (B.2.2.2.2.1 _ hw164) dX4_chain_0 ?_
  refine lv_lload_n hx hb dX4_chain_3 rfl (lv_at hl 0 rfl) ?_
  refine lv_lmul hx hb dX4_chain_4 ?_
  refine lv_iload_n hx hb dX4_chain_5 rfl (lv_at hl 1 rfl) ?_
  refine lv_i2l (v := (v2.toInt64)) hx hb dX4_chain_6 rfl ?_
  refine lv_ladd hx hb dX4_chain_7 ?_
  obtain rfl := Option.some.inj hf
  exact sE_l B hr h dX4_chain_8
set_option maxRecDepth 100000 in
theorem ok_X4_chain {l : Launch} (hl0 : l.stackTraces = false) {D : va_G} {cy : Nat → ClassId} {ad : Nat → Nat} (hap : sAp ad) (X : sX) (σ : sM) (v0 : Int64) (v2 : Int32) {r : Int64} (hf : f_X4_chain v0 v2 σ = some r) : sMet l yX4_chain (sWs yX4_chain cX4_chain 3 (some .long)) 0 0 0 0 D cy ad X σ [.long v0, .int v2] (.inr (some (.long r))) X σ := by
  refine sMet_of (by decide +kernel) (Nat.le_of_ble_eq_true rfl) hap hl0 ?_
  intro p e s m args below meth c ls B hr htab hl h
  exact k_X4_chain_0 B hr _ _ _  hf _ _ _ h hl
set_option maxHeartbeats 4000000 in
set_option maxRecDepth 100000 in
theorem k_X2_addTo_11 {p : Program} {l : Launch} {e : Env} {s : State} {m : MethodId} {args : Array Value} {below : List Frame} {meth : Method} {c : Code} {D : va_G} {cy : Nat → ClassId} {ad : Nat → Nat} {X : sX} {r : Int64} (B : sB p l s m meth c args cX2_addTo 4 RX2 D cy ad) (hr : meth.sig.returnType = (some .long)) : ∀ (n : Nat) (t0 : Nat) (v1 : Int64) (v3 : Int32) (σ : sM) (ft0 : isT t0), b_X2_addTo_11 n t0 v1 v3 σ = some r → sGo p l e { frames := 1, cells := 0, slots := 0, locals := 22 } s m args below meth c D cy ad X 4 (sQ below args s 0 0 D cy ad (.inr (some (.long r))) X σ) σ 11 [(0, .ref (ad t0)), (1, .long v1), (3, .int v3)] [] := by
  intro n
  induction n with
  | zero =>
    intro t0 v1 v3 σ ft0 hf
    exact nomatch (show none = some r from hf)
  | succ n ih =>
    intro t0 v1 v3 σ ft0 hf
    replace hf : (if (σ t0 2) ≤ v3 then (some v1) else (chk (inb v3 120) (rthn (f_X4_chain v1 (σ (t0 + 1) (v3).toNatClampNeg) σ) (fun vr4 => chk (inb v3 120) (rthn (f_X4_chain vr4 (σ (t0 + 2) (v3).toNatClampNeg) σ) (fun vr6 => b_X2_addTo_11 n t0 vr6 (v3 + 1) σ)))))) = some r := hf
    intro H locs ls h hl
    have hx := B.1
    have hb := B.2.1
    refine lv_iload_n hx hb dX2_addTo_11 rfl (lv_at hl 2 rfl) ?_
    refine lv_aload_n hx hb dX2_addTo_12 rfl (lv_at hl 0 rfl) ?_
    refine g_get B h t0 (T_lt ft0) (C := RX2) (T := TX2) (N := 3) (T_row ft0 _) rfl hin_X2 2 (by decide) hw54 rfl rfl dX2_addTo_13 ?_
    refine lv_icmp_ge (tgt := 45) hx hb dX2_addTo_16 (by decide) (fun c2 => ?_) (fun c2 => ?_)
    · rw [if_pos c2] at hf
      refine lv_lload_n hx hb dX2_addTo_45 rfl (lv_at hl 1 rfl) ?_
      obtain rfl := Option.some.inj hf
      exact sE_l B hr h dX2_addTo_46
    · rw [if_neg c2] at hf
      refine lv_lload_n hx hb dX2_addTo_19 rfl (lv_at hl 1 rfl) ?_
      refine lv_aload_n hx hb dX2_addTo_20 rfl (lv_at hl 0 rfl) ?_
      refine g_get B h t0 (T_lt ft0) (C := RX2) (T := TX2) (N := 3) (T_row ft0 _) rfl hin_X2 0 (by decide) hw45 rfl rfl dX2_addTo_21 ?_
      refine lv_iload_n hx hb dX2_addTo_24 rfl (lv_at hl 2 rfl) ?_
      obtain ⟨c3, hf⟩ := chk_some hf
      refine g_iald B h (t0 + 1) (T_lt1 ft0) (n := 120) (T_keys ft0) (inb_in c3) dX2_addTo_25 ?_
      obtain ⟨vr4, hq4, hf⟩ := rthn_some hf
      refine sRetC1 (g_runSN (host := RX4) (n := 2) B h (ok_X4_chain B.2.2.2.2.2.2.2.2 B.2.2.2.2.2.2.1 _ _ v1 (σ (t0 + 1) (v3).toNatClampNeg) hq4) hw163 (by decide +kernel) hw1 hw162 (by decide +kernel) ⟨Nat.le_of_ble_eq_true rfl, Nat.le_of_ble_eq_true rfl⟩ rfl hl.1.symm rfl (Nat.le_of_ble_eq_true rfl) dX2_addTo_26 ⟨Nat.zero_le _, Nat.zero_le _⟩) h (fun H locs h => ?_)
      refine lv_aload_n hx hb dX2_addTo_29 rfl (lv_at hl 0 rfl) ?_
      refine g_get B h t0 (T_lt ft0) (C := RX2) (T := TX2) (N := 3) (T_row ft0 _) rfl hin_X2 1 (by decide) hw49 rfl rfl dX2_addTo_30 ?_
      refine lv_iload_n hx hb dX2_addTo_33 rfl (lv_at hl 2 rfl) ?_
      obtain ⟨c5, hf⟩ := chk_some hf
      refine g_iald B h (t0 + 2) (T_lt2 ft0) (n := 120) (T_vals ft0) (inb_in c5) dX2_addTo_34 ?_
      obtain ⟨vr6, hq6, hf⟩ := rthn_some hf
      refine sRetC1 (g_runSN (host := RX4) (n := 2) B h (ok_X4_chain B.2.2.2.2.2.2.2.2 B.2.2.2.2.2.2.1 _ _ vr4 (σ (t0 + 2) (v3).toNatClampNeg) hq6) hw163 (by decide +kernel) hw1 hw162 (by decide +kernel) ⟨Nat.le_of_ble_eq_true rfl, Nat.le_of_ble_eq_true rfl⟩ rfl hl.1.symm rfl (Nat.le_of_ble_eq_true rfl) dX2_addTo_35 ⟨Nat.zero_le _, Nat.zero_le _⟩) h (fun H locs h => ?_)
      refine lv_lstore_n (lv' := [(1, .long vr6), (0, .ref (ad t0)), (3, .int v3)]) hx hb dX2_addTo_38 rfl hl (by decide) rfl (fun ls hl => ?_)
      refine lv_iinc (v := (v3 + 1)) (lv' := [(3, .int (v3 + 1)), (1, .long vr6), (0, .ref (ad t0))]) hx hb dX2_addTo_39 hl (k := 2) rfl rfl (by decide) rfl (fun ls hl => ?_)
      refine lv_goto (tgt := 11) hx hb dX2_addTo_42 (by decide) ?_
      exact ih _ _ _ _ ft0 hf _ _ _ h (lv_sub hl [2, 1, 0] rfl)
set_option maxHeartbeats 4000000 in
set_option maxRecDepth 100000 in
theorem k_X2_addTo_0 {p : Program} {l : Launch} {e : Env} {s : State} {m : MethodId} {args : Array Value} {below : List Frame} {meth : Method} {c : Code} {D : va_G} {cy : Nat → ClassId} {ad : Nat → Nat} {X : sX} {r : Int64} (B : sB p l s m meth c args cX2_addTo 4 RX2 D cy ad) (hr : meth.sig.returnType = (some .long)) (t0 : Nat) (v1 : Int64) (σ : sM) (ft0 : isT t0) (hf : f_X2_addTo t0 v1 σ = some r) : sGo p l e { frames := 1, cells := 0, slots := 0, locals := 22 } s m args below meth c D cy ad X 4 (sQ below args s 0 0 D cy ad (.inr (some (.long r))) X σ) σ 0 [(0, .ref (ad t0)), (1, .long v1)] [] := by
  replace hf : (rthn (f_X4_chain v1 (σ t0 2) σ) (fun vr1 => b_X2_addTo_11 FU t0 vr1 (0 : Int32) σ)) = some r := hf
  intro H locs ls h hl
  have hx := B.1
  have hb := B.2.1
  refine lv_lload_n hx hb dX2_addTo_0 rfl (lv_at hl 1 rfl) ?_
  refine lv_aload_n hx hb dX2_addTo_1 rfl (lv_at hl 0 rfl) ?_
  refine g_get B h t0 (T_lt ft0) (C := RX2) (T := TX2) (N := 3) (T_row ft0 _) rfl hin_X2 2 (by decide) hw54 rfl rfl dX2_addTo_2 ?_
  obtain ⟨vr1, hq1, hf⟩ := rthn_some hf
  refine sRetC1 (g_runSN (host := RX4) (n := 2) B h (ok_X4_chain B.2.2.2.2.2.2.2.2 B.2.2.2.2.2.2.1 _ _ v1 (σ t0 2) hq1) hw163 (by decide +kernel) hw1 hw162 (by decide +kernel) ⟨Nat.le_of_ble_eq_true rfl, Nat.le_of_ble_eq_true rfl⟩ rfl hl.1.symm rfl (Nat.le_of_ble_eq_true rfl) dX2_addTo_5 ⟨Nat.zero_le _, Nat.zero_le _⟩) h (fun H locs h => ?_)
  refine lv_lstore_n (lv' := [(1, .long vr1), (0, .ref (ad t0))]) hx hb dX2_addTo_8 rfl hl (by decide) rfl (fun ls hl => ?_)
  refine lv_iconst (v := (0 : Int32)) hx hb dX2_addTo_9 (by decide) ?_
  refine lv_istore_n (lv' := [(3, .int (0 : Int32)), (1, .long vr1), (0, .ref (ad t0))]) hx hb dX2_addTo_10 rfl hl (by decide) rfl (fun ls hl => ?_)
  exact k_X2_addTo_11 B hr  _ _ _ _ _ ft0 hf _ _ _ h (lv_sub hl [2, 1, 0] rfl)
set_option maxRecDepth 100000 in
theorem ok_X2_addTo {l : Launch} (hl0 : l.stackTraces = false) {D : va_G} {cy : Nat → ClassId} {ad : Nat → Nat} (hap : sAp ad) (X : sX) (σ : sM) {t0 : Nat} (ft0 : isT t0) (v1 : Int64) {r : Int64} (hf : f_X2_addTo t0 v1 σ = some r) : sMet l yX2_addTo (sWs yX2_addTo cX2_addTo 4 (some .long)) 1 22 0 0 D cy ad X σ [.ref (ad t0), .long v1] (.inr (some (.long r))) X σ := by
  refine sMet_of (by decide +kernel) (Nat.le_of_ble_eq_true rfl) hap hl0 ?_
  intro p e s m args below meth c ls B hr htab hl h
  exact k_X2_addTo_0 B hr _ _ _ ft0 hf _ _ _ h hl
