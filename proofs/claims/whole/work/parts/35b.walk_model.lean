set_option maxHeartbeats 4000000 in
set_option maxRecDepth 100000 in
theorem k_X5_in_0 {p : Program} {l : Launch} {e : Env} {s : State} {m : MethodId} {args : Array Value} {below : List Frame} {meth : Method} {c : Code} {D : va_G} {cy : Nat → ClassId} {ad : Nat → Nat} {X : sX} {r : Int32} (B : sB p l s m meth c args cX5_in 3 RX5 D cy ad) (hr : meth.sig.returnType = (some .boolean)) (v0 : Int32) (v1 : Int32) (v2 : Int32) (σ : sM) (hf : f_X5_in v0 v1 v2 σ = some r) : sGo p l e { frames := 0, cells := 0, slots := 0, locals := 0 } s m args below meth c D cy ad X 3 (sQ below args s 0 0 D cy ad (.inr (some (.int r))) X σ) σ 0 [(0, .int v0), (1, .int v1), (2, .int v2)] [] := by
  replace hf : (if v0 < v1 then (some (0 : Int32)) else (if v2 < v0 then (some (0 : Int32)) else (some (1 : Int32)))) = some r := hf
  intro H locs ls h hl
  have hx := B.1
  have hb := B.2.1
  refine lv_iload_n hx hb dX5_in_0 rfl (lv_at hl 0 rfl) ?_
  refine lv_iload_n hx hb dX5_in_1 rfl (lv_at hl 1 rfl) ?_
  refine lv_icmp_lt (tgt := 14) hx hb dX5_in_2 (by decide) (fun c1 => ?_) (fun c1 => ?_)
  · rw [if_pos c1] at hf
    refine lv_iconst (v := (0 : Int32)) hx hb dX5_in_14 (by decide) ?_
    obtain rfl := Option.some.inj hf
    exact sE_z B hr h rfl dX5_in_15
  · rw [if_neg c1] at hf
    refine lv_iload_n hx hb dX5_in_5 rfl (lv_at hl 0 rfl) ?_
    refine lv_iload_n hx hb dX5_in_6 rfl (lv_at hl 2 rfl) ?_
    refine lv_icmp_gt (tgt := 14) hx hb dX5_in_7 (by decide) (fun c2 => ?_) (fun c2 => ?_)
    · rw [if_pos c2] at hf
      refine lv_iconst (v := (0 : Int32)) hx hb dX5_in_14 (by decide) ?_
      obtain rfl := Option.some.inj hf
      exact sE_z B hr h rfl dX5_in_15
    · rw [if_neg c2] at hf
      refine lv_iconst (v := (1 : Int32)) hx hb dX5_in_10 (by decide) ?_
      refine lv_goto (tgt := 15) hx hb dX5_in_11 (by decide) ?_
      obtain rfl := Option.some.inj hf
      exact sE_z B hr h rfl dX5_in_15
set_option maxRecDepth 100000 in
theorem ok_X5_in {l : Launch} (hl0 : l.stackTraces = false) {D : va_G} {cy : Nat → ClassId} {ad : Nat → Nat} (hap : sAp ad) (X : sX) (σ : sM) (v0 : Int32) (v1 : Int32) (v2 : Int32) {r : Int32} (hf : f_X5_in v0 v1 v2 σ = some r) : sMet l yX5_in (sWs yX5_in cX5_in 3 (some .boolean)) 0 0 0 0 D cy ad X σ [.int v0, .int v1, .int v2] (.inr (some (.int r))) X σ := by
  refine sMet_of (by decide +kernel) (Nat.le_of_ble_eq_true rfl) hap hl0 ?_
  intro p e s m args below meth c ls B hr htab hl h
  exact k_X5_in_0 B hr _ _ _ _  hf _ _ _ h hl
set_option maxHeartbeats 4000000 in
set_option maxRecDepth 100000 in
theorem k_X5_isMap_0 {p : Program} {l : Launch} {e : Env} {s : State} {m : MethodId} {args : Array Value} {below : List Frame} {meth : Method} {c : Code} {D : va_G} {cy : Nat → ClassId} {ad : Nat → Nat} {X : sX} {r : Int32} (B : sB p l s m meth c args cX5_isMap 1 RX5 D cy ad) (hr : meth.sig.returnType = (some .boolean)) (v0 : Int32) (σ : sM) (hf : f_X5_isMap v0 σ = some r) : sGo p l e { frames := 1, cells := 0, slots := 0, locals := 22 } s m args below meth c D cy ad X 1 (sQ below args s 0 0 D cy ad (.inr (some (.int r))) X σ) σ 0 [(0, .int v0)] [] := by
  replace hf : (rthn (f_X5_in v0 (0 : Int32) (2 : Int32) σ) (fun vr1 => chk (isb vr1) (some vr1))) = some r := hf
  intro H locs ls h hl
  have hx := B.1
  have hb := B.2.1
  refine lv_iload_n hx hb dX5_isMap_0 rfl (lv_at hl 0 rfl) ?_
  refine lv_iconst (v := (0 : Int32)) hx hb dX5_isMap_1 (by decide) ?_
  refine lv_iconst (v := (2 : Int32)) hx hb dX5_isMap_2 (by decide) ?_
  obtain ⟨vr1, hq1, hf⟩ := rthn_some hf
  refine sRetC1 (g_runS B h (ok_X5_in B.2.2.2.2.2.2.2.2 B.2.2.2.2.2.2.1 _ _ v0 (0 : Int32) (2 : Int32) hq1) cw_X5_64 ⟨Nat.le_of_ble_eq_true rfl, Nat.le_of_ble_eq_true rfl⟩ rfl hl.1.symm rfl (Nat.le_of_ble_eq_true rfl) dX5_isMap_3 ⟨Nat.zero_le _, Nat.zero_le _⟩) h (fun H locs h => ?_)
  obtain ⟨c2, hf⟩ := chk_some hf
  obtain rfl := Option.some.inj hf
  exact sE_z B hr h (isb_n c2) dX5_isMap_6
set_option maxRecDepth 100000 in
theorem ok_X5_isMap {l : Launch} (hl0 : l.stackTraces = false) {D : va_G} {cy : Nat → ClassId} {ad : Nat → Nat} (hap : sAp ad) (X : sX) (σ : sM) (v0 : Int32) {r : Int32} (hf : f_X5_isMap v0 σ = some r) : sMet l yX5_isMap (sWs yX5_isMap cX5_isMap 1 (some .boolean)) 1 22 0 0 D cy ad X σ [.int v0] (.inr (some (.int r))) X σ := by
  refine sMet_of (by decide +kernel) (Nat.le_of_ble_eq_true rfl) hap hl0 ?_
  intro p e s m args below meth c ls B hr htab hl h
  exact k_X5_isMap_0 B hr _ _  hf _ _ _ h hl
set_option maxHeartbeats 4000000 in
set_option maxRecDepth 100000 in
theorem k_X5_placeOf_33 {p : Program} {l : Launch} {e : Env} {s : State} {m : MethodId} {args : Array Value} {below : List Frame} {meth : Method} {c : Code} {D : va_G} {cy : Nat → ClassId} {ad : Nat → Nat} {X : sX} {r : Int32} (B : sB p l s m meth c args cX5_placeOf 4 RX5 D cy ad) (hr : meth.sig.returnType = (some .int)) (v1 : Int32) (v2 : Int32) (v3 : Int32) (σ : sM) (hf : b_X5_placeOf_33 v1 v2 v3 σ = some r) : sGo p l e { frames := 0, cells := 0, slots := 0, locals := 0 } s m args below meth c D cy ad X 4 (sQ below args s 0 0 D cy ad (.inr (some (.int r))) X σ) σ 33 [(0, .ref (ad 44)), (1, .int v1), (2, .int v2), (3, .int v3)] [] := by
  replace hf : (chk (inb v1 3) (if (σ 47 (v1).toNatClampNeg) ≤ v3 then (some ((-1 : Int32) - v3)) else (chk (inb (((60 : Int32) * v1) + v3) 180) (if (σ 45 ((((60 : Int32) * v1) + v3)).toNatClampNeg) = v2 then (some v3) else (some ((-1 : Int32) - v3)))))) = some r := hf
  intro H locs ls h hl
  have hx := B.1
  have hb := B.2.1
  refine lv_iload_n hx hb dX5_placeOf_33 rfl (lv_at hl 3 rfl) ?_
  refine lv_aload_n hx hb dX5_placeOf_34 rfl (lv_at hl 0 rfl) ?_
  refine g_get B h 44 (by decide) (C := RX5) (T := TX5) (N := 21) (M_row _) rfl hin_X5 2 (by decide) hw828 rfl rfl dX5_placeOf_35 ?_
  refine lv_iload_n hx hb dX5_placeOf_38 rfl (lv_at hl 1 rfl) ?_
  obtain ⟨c5, hf⟩ := chk_some hf
  refine g_iald B h 47 (by decide) (n := 3) (fun _ => rfl) (inb_in c5) dX5_placeOf_39 ?_
  refine lv_icmp_ge (tgt := 62) hx hb dX5_placeOf_40 (by decide) (fun c6 => ?_) (fun c6 => ?_)
  · rw [if_pos c6] at hf
    refine lv_iconst (v := (-1 : Int32)) hx hb dX5_placeOf_62 (by decide) ?_
    refine lv_iload_n hx hb dX5_placeOf_63 rfl (lv_at hl 3 rfl) ?_
    refine lv_isub hx hb dX5_placeOf_64 ?_
    obtain rfl := Option.some.inj hf
    exact sE_i B hr h dX5_placeOf_65
  · rw [if_neg c6] at hf
    refine lv_aload_n hx hb dX5_placeOf_43 rfl (lv_at hl 0 rfl) ?_
    refine g_get B h 44 (by decide) (C := RX5) (T := TX5) (N := 21) (M_row _) rfl hin_X5 0 (by decide) hw826 rfl rfl dX5_placeOf_44 ?_
    refine lv_bipush (v := (60 : Int32)) hx hb dX5_placeOf_47 (by decide) ?_
    refine lv_iload_n hx hb dX5_placeOf_49 rfl (lv_at hl 1 rfl) ?_
    refine lv_imul hx hb dX5_placeOf_50 ?_
    refine lv_iload_n hx hb dX5_placeOf_51 rfl (lv_at hl 3 rfl) ?_
    refine lv_iadd hx hb dX5_placeOf_52 ?_
    obtain ⟨c7, hf⟩ := chk_some hf
    refine g_iald B h 45 (by decide) (n := 180) (fun _ => rfl) (inb_in c7) dX5_placeOf_53 ?_
    refine lv_iload_n hx hb dX5_placeOf_54 rfl (lv_at hl 2 rfl) ?_
    refine lv_icmp_ne (tgt := 62) hx hb dX5_placeOf_55 (by decide) (fun c8 => ?_) (fun c8 => ?_)
    · rw [if_neg c8] at hf
      refine lv_iconst (v := (-1 : Int32)) hx hb dX5_placeOf_62 (by decide) ?_
      refine lv_iload_n hx hb dX5_placeOf_63 rfl (lv_at hl 3 rfl) ?_
      refine lv_isub hx hb dX5_placeOf_64 ?_
      obtain rfl := Option.some.inj hf
      exact sE_i B hr h dX5_placeOf_65
    · rw [if_pos c8] at hf
      refine lv_iload_n hx hb dX5_placeOf_58 rfl (lv_at hl 3 rfl) ?_
      refine lv_goto (tgt := 65) hx hb dX5_placeOf_59 (by decide) ?_
      obtain rfl := Option.some.inj hf
      exact sE_i B hr h dX5_placeOf_65
set_option maxHeartbeats 4000000 in
set_option maxRecDepth 100000 in
theorem k_X5_placeOf_2 {p : Program} {l : Launch} {e : Env} {s : State} {m : MethodId} {args : Array Value} {below : List Frame} {meth : Method} {c : Code} {D : va_G} {cy : Nat → ClassId} {ad : Nat → Nat} {X : sX} {r : Int32} (B : sB p l s m meth c args cX5_placeOf 4 RX5 D cy ad) (hr : meth.sig.returnType = (some .int)) : ∀ (n : Nat) (v1 : Int32) (v2 : Int32) (v3 : Int32) (σ : sM), b_X5_placeOf_2 n v1 v2 v3 σ = some r → sGo p l e { frames := 0, cells := 0, slots := 0, locals := 0 } s m args below meth c D cy ad X 4 (sQ below args s 0 0 D cy ad (.inr (some (.int r))) X σ) σ 2 [(0, .ref (ad 44)), (1, .int v1), (2, .int v2), (3, .int v3)] [] := by
  intro n
  induction n with
  | zero =>
    intro v1 v2 v3 σ hf
    exact nomatch (show none = some r from hf)
  | succ n ih =>
    intro v1 v2 v3 σ hf
    replace hf : (chk (inb v1 3) (if (σ 47 (v1).toNatClampNeg) ≤ v3 then (b_X5_placeOf_33 v1 v2 v3 σ) else (chk (inb (((60 : Int32) * v1) + v3) 180) (if v2 ≤ (σ 45 ((((60 : Int32) * v1) + v3)).toNatClampNeg) then (b_X5_placeOf_33 v1 v2 v3 σ) else (b_X5_placeOf_2 n v1 v2 (v3 + 1) σ))))) = some r := hf
    intro H locs ls h hl
    have hx := B.1
    have hb := B.2.1
    refine lv_iload_n hx hb dX5_placeOf_2 rfl (lv_at hl 3 rfl) ?_
    refine lv_aload_n hx hb dX5_placeOf_3 rfl (lv_at hl 0 rfl) ?_
    refine g_get B h 44 (by decide) (C := RX5) (T := TX5) (N := 21) (M_row _) rfl hin_X5 2 (by decide) hw828 rfl rfl dX5_placeOf_4 ?_
    refine lv_iload_n hx hb dX5_placeOf_7 rfl (lv_at hl 1 rfl) ?_
    obtain ⟨c1, hf⟩ := chk_some hf
    refine g_iald B h 47 (by decide) (n := 3) (fun _ => rfl) (inb_in c1) dX5_placeOf_8 ?_
    refine lv_icmp_ge (tgt := 33) hx hb dX5_placeOf_9 (by decide) (fun c2 => ?_) (fun c2 => ?_)
    · rw [if_pos c2] at hf
      exact k_X5_placeOf_33 B hr  _ _ _ _ hf _ _ _ h (lv_sub hl [0, 1, 2, 3] rfl)
    · rw [if_neg c2] at hf
      refine lv_aload_n hx hb dX5_placeOf_12 rfl (lv_at hl 0 rfl) ?_
      refine g_get B h 44 (by decide) (C := RX5) (T := TX5) (N := 21) (M_row _) rfl hin_X5 0 (by decide) hw826 rfl rfl dX5_placeOf_13 ?_
      refine lv_bipush (v := (60 : Int32)) hx hb dX5_placeOf_16 (by decide) ?_
      refine lv_iload_n hx hb dX5_placeOf_18 rfl (lv_at hl 1 rfl) ?_
      refine lv_imul hx hb dX5_placeOf_19 ?_
      refine lv_iload_n hx hb dX5_placeOf_20 rfl (lv_at hl 3 rfl) ?_
      refine lv_iadd hx hb dX5_placeOf_21 ?_
      obtain ⟨c3, hf⟩ := chk_some hf
      refine g_iald B h 45 (by decide) (n := 180) (fun _ => rfl) (inb_in c3) dX5_placeOf_22 ?_
      refine lv_iload_n hx hb dX5_placeOf_23 rfl (lv_at hl 2 rfl) ?_
      refine lv_icmp_ge (tgt := 33) hx hb dX5_placeOf_24 (by decide) (fun c4 => ?_) (fun c4 => ?_)
      · rw [if_pos c4] at hf
        exact k_X5_placeOf_33 B hr  _ _ _ _ hf _ _ _ h (lv_sub hl [0, 1, 2, 3] rfl)
      · rw [if_neg c4] at hf
        refine lv_iinc (v := (v3 + 1)) (lv' := [(3, .int (v3 + 1)), (0, .ref (ad 44)), (1, .int v1), (2, .int v2)]) hx hb dX5_placeOf_27 hl (k := 3) rfl rfl (by decide) rfl (fun ls hl => ?_)
        refine lv_goto (tgt := 2) hx hb dX5_placeOf_30 (by decide) ?_
        exact ih _ _ _ _ hf _ _ _ h (lv_sub hl [1, 2, 3, 0] rfl)
set_option maxHeartbeats 4000000 in
set_option maxRecDepth 100000 in
theorem k_X5_placeOf_0 {p : Program} {l : Launch} {e : Env} {s : State} {m : MethodId} {args : Array Value} {below : List Frame} {meth : Method} {c : Code} {D : va_G} {cy : Nat → ClassId} {ad : Nat → Nat} {X : sX} {r : Int32} (B : sB p l s m meth c args cX5_placeOf 4 RX5 D cy ad) (hr : meth.sig.returnType = (some .int)) (v1 : Int32) (v2 : Int32) (σ : sM) (hf : f_X5_placeOf v1 v2 σ = some r) : sGo p l e { frames := 0, cells := 0, slots := 0, locals := 0 } s m args below meth c D cy ad X 4 (sQ below args s 0 0 D cy ad (.inr (some (.int r))) X σ) σ 0 [(0, .ref (ad 44)), (1, .int v1), (2, .int v2)] [] := by
  replace hf : (b_X5_placeOf_2 FU v1 v2 (0 : Int32) σ) = some r := hf
  intro H locs ls h hl
  have hx := B.1
  have hb := B.2.1
  refine lv_iconst (v := (0 : Int32)) hx hb dX5_placeOf_0 (by decide) ?_
  refine lv_istore_n (lv' := [(3, .int (0 : Int32)), (0, .ref (ad 44)), (1, .int v1), (2, .int v2)]) hx hb dX5_placeOf_1 rfl hl (by decide) rfl (fun ls hl => ?_)
  exact k_X5_placeOf_2 B hr  _ _ _ _ _ hf _ _ _ h (lv_sub hl [1, 2, 3, 0] rfl)
set_option maxRecDepth 100000 in
theorem ok_X5_placeOf {l : Launch} (hl0 : l.stackTraces = false) {D : va_G} {cy : Nat → ClassId} {ad : Nat → Nat} (hap : sAp ad) (X : sX) (σ : sM) (v1 : Int32) (v2 : Int32) {r : Int32} (hf : f_X5_placeOf v1 v2 σ = some r) : sMet l yX5_placeOf (sWs yX5_placeOf cX5_placeOf 4 (some .int)) 0 0 0 0 D cy ad X σ [.ref (ad 44), .int v1, .int v2] (.inr (some (.int r))) X σ := by
  refine sMet_of (by decide +kernel) (Nat.le_of_ble_eq_true rfl) hap hl0 ?_
  intro p e s m args below meth c ls B hr htab hl h
  exact k_X5_placeOf_0 B hr _ _ _  hf _ _ _ h hl
set_option maxHeartbeats 4000000 in
set_option maxRecDepth 100000 in
theorem k_X5_has_0 {p : Program} {l : Launch} {e : Env} {s : State} {m : MethodId} {args : Array Value} {below : List Frame} {meth : Method} {c : Code} {D : va_G} {cy : Nat → ClassId} {ad : Nat → Nat} {X : sX} {r : Int32} (B : sB p l s m meth c args cX5_has 3 RX5 D cy ad) (hr : meth.sig.returnType = (some .boolean)) (v1 : Int32) (v2 : Int32) (σ : sM) (hf : f_X5_has v1 v2 σ = some r) : sGo p l e { frames := 1, cells := 0, slots := 0, locals := 23 } s m args below meth c D cy ad X 3 (sQ below args s 0 0 D cy ad (.inr (some (.int r))) X σ) σ 0 [(0, .ref (ad 44)), (1, .int v1), (2, .int v2)] [] := by
  replace hf : (rthn (f_X5_placeOf v1 v2 σ) (fun vr1 => if vr1 < 0 then (some (0 : Int32)) else (some (1 : Int32)))) = some r := hf
  intro H locs ls h hl
  have hx := B.1
  have hb := B.2.1
  refine lv_aload_n hx hb dX5_has_0 rfl (lv_at hl 0 rfl) ?_
  refine lv_iload_n hx hb dX5_has_1 rfl (lv_at hl 1 rfl) ?_
  refine lv_iload_n hx hb dX5_has_2 rfl (lv_at hl 2 rfl) ?_
  obtain ⟨vr1, hq1, hf⟩ := rthn_some hf
  refine sRetC1 (g_runV (k := 44) (T := TX5) (N := 21) B h (ok_X5_placeOf B.2.2.2.2.2.2.2.2 B.2.2.2.2.2.2.1 _ _ v1 v2 hq1) cw_X5_68 ⟨Nat.le_of_ble_eq_true rfl, Nat.le_of_ble_eq_true rfl⟩ (by decide) (M_row _) rfl rfl hl.1.symm rfl (Nat.le_of_ble_eq_true rfl) dX5_has_3 ⟨Nat.zero_le _, Nat.zero_le _⟩) h (fun H locs h => ?_)
  refine lv_if_lt (tgt := 13) hx hb dX5_has_6 (by decide) (fun c2 => ?_) (fun c2 => ?_)
  · rw [if_pos c2] at hf
    refine lv_iconst (v := (0 : Int32)) hx hb dX5_has_13 (by decide) ?_
    obtain rfl := Option.some.inj hf
    exact sE_z B hr h rfl dX5_has_14
  · rw [if_neg c2] at hf
    refine lv_iconst (v := (1 : Int32)) hx hb dX5_has_9 (by decide) ?_
    refine lv_goto (tgt := 14) hx hb dX5_has_10 (by decide) ?_
    obtain rfl := Option.some.inj hf
    exact sE_z B hr h rfl dX5_has_14
set_option maxRecDepth 100000 in
theorem ok_X5_has {l : Launch} (hl0 : l.stackTraces = false) {D : va_G} {cy : Nat → ClassId} {ad : Nat → Nat} (hap : sAp ad) (X : sX) (σ : sM) (v1 : Int32) (v2 : Int32) {r : Int32} (hf : f_X5_has v1 v2 σ = some r) : sMet l yX5_has (sWs yX5_has cX5_has 3 (some .boolean)) 1 23 0 0 D cy ad X σ [.ref (ad 44), .int v1, .int v2] (.inr (some (.int r))) X σ := by
  refine sMet_of (by decide +kernel) (Nat.le_of_ble_eq_true rfl) hap hl0 ?_
  intro p e s m args below meth c ls B hr htab hl h
  exact k_X5_has_0 B hr _ _ _  hf _ _ _ h hl
set_option maxHeartbeats 4000000 in
set_option maxRecDepth 100000 in
theorem k_X5_manyTogether_10 {p : Program} {l : Launch} {e : Env} {s : State} {m : MethodId} {args : Array Value} {below : List Frame} {meth : Method} {c : Code} {D : va_G} {cy : Nat → ClassId} {ad : Nat → Nat} {X : sX} {r : Int32} (B : sB p l s m meth c args cX5_manyTogether 5 RX5 D cy ad) (hr : meth.sig.returnType = (some .int)) : ∀ (n : Nat) (v1 : Int32) (v2 : Int32) (v3 : Int32) (v4 : Int32) (σ : sM), b_X5_manyTogether_10 n v1 v2 v3 v4 σ = some r → sGo p l e { frames := 2, cells := 0, slots := 0, locals := 45 } s m args below meth c D cy ad X 5 (sQ below args s 0 0 D cy ad (.inr (some (.int r))) X σ) σ 10 [(0, .ref (ad 44)), (1, .int v1), (2, .int v2), (3, .int v3), (4, .int v4)] [] := by
  intro n
  induction n with
  | zero =>
    intro v1 v2 v3 v4 σ hf
    exact nomatch (show none = some r from hf)
  | succ n ih =>
    intro v1 v2 v3 v4 σ hf
    replace hf : (chk (inb v1 3) (if (σ 47 (v1).toNatClampNeg) ≤ v4 then (some v3) else (chk (inb (((60 : Int32) * v1) + v4) 180) (rthn (f_X5_has v2 (σ 45 ((((60 : Int32) * v1) + v4)).toNatClampNeg) σ) (fun vr5 => if vr5 = 0 then (b_X5_manyTogether_10 n v1 v2 (v3 + (1 : Int32)) (v4 + 1) σ) else (b_X5_manyTogether_10 n v1 v2 (v3 + (0 : Int32)) (v4 + 1) σ)))))) = some r := hf
    intro H locs ls h hl
    have hx := B.1
    have hb := B.2.1
    refine lv_iload hx hb dX5_manyTogether_10 (lv_at hl 4 rfl) ?_
    refine lv_aload_n hx hb dX5_manyTogether_12 rfl (lv_at hl 0 rfl) ?_
    refine g_get B h 44 (by decide) (C := RX5) (T := TX5) (N := 21) (M_row _) rfl hin_X5 2 (by decide) hw828 rfl rfl dX5_manyTogether_13 ?_
    refine lv_iload_n hx hb dX5_manyTogether_16 rfl (lv_at hl 1 rfl) ?_
    obtain ⟨c2, hf⟩ := chk_some hf
    refine g_iald B h 47 (by decide) (n := 3) (fun _ => rfl) (inb_in c2) dX5_manyTogether_17 ?_
    refine lv_icmp_ge (tgt := 55) hx hb dX5_manyTogether_18 (by decide) (fun c3 => ?_) (fun c3 => ?_)
    · rw [if_pos c3] at hf
      refine lv_iload_n hx hb dX5_manyTogether_55 rfl (lv_at hl 3 rfl) ?_
      obtain rfl := Option.some.inj hf
      exact sE_i B hr h dX5_manyTogether_56
    · rw [if_neg c3] at hf
      refine lv_iload_n hx hb dX5_manyTogether_21 rfl (lv_at hl 3 rfl) ?_
      refine lv_aload_n hx hb dX5_manyTogether_22 rfl (lv_at hl 0 rfl) ?_
      refine lv_iload_n hx hb dX5_manyTogether_23 rfl (lv_at hl 2 rfl) ?_
      refine lv_aload_n hx hb dX5_manyTogether_24 rfl (lv_at hl 0 rfl) ?_
      refine g_get B h 44 (by decide) (C := RX5) (T := TX5) (N := 21) (M_row _) rfl hin_X5 0 (by decide) hw826 rfl rfl dX5_manyTogether_25 ?_
      refine lv_bipush (v := (60 : Int32)) hx hb dX5_manyTogether_28 (by decide) ?_
      refine lv_iload_n hx hb dX5_manyTogether_30 rfl (lv_at hl 1 rfl) ?_
      refine lv_imul hx hb dX5_manyTogether_31 ?_
      refine lv_iload hx hb dX5_manyTogether_32 (lv_at hl 4 rfl) ?_
      refine lv_iadd hx hb dX5_manyTogether_34 ?_
      obtain ⟨c4, hf⟩ := chk_some hf
      refine g_iald B h 45 (by decide) (n := 180) (fun _ => rfl) (inb_in c4) dX5_manyTogether_35 ?_
      obtain ⟨vr5, hq5, hf⟩ := rthn_some hf
      refine sRetC1 (g_runV (k := 44) (T := TX5) (N := 21) B h (ok_X5_has B.2.2.2.2.2.2.2.2 B.2.2.2.2.2.2.1 _ _ v2 (σ 45 ((((60 : Int32) * v1) + v4)).toNatClampNeg) hq5) cw_X5_91 ⟨Nat.le_of_ble_eq_true rfl, Nat.le_of_ble_eq_true rfl⟩ (by decide) (M_row _) rfl rfl hl.1.symm rfl (Nat.le_of_ble_eq_true rfl) dX5_manyTogether_36 ⟨Nat.zero_le _, Nat.zero_le _⟩) h (fun H locs h => ?_)
      refine lv_if_eq (tgt := 46) hx hb dX5_manyTogether_39 (by decide) (fun c6 => ?_) (fun c6 => ?_)
      · rw [if_pos c6] at hf
        refine lv_iconst (v := (1 : Int32)) hx hb dX5_manyTogether_46 (by decide) ?_
        refine lv_iadd hx hb dX5_manyTogether_47 ?_
        refine lv_istore_n (lv' := [(3, .int (v3 + (1 : Int32))), (0, .ref (ad 44)), (1, .int v1), (2, .int v2), (4, .int v4)]) hx hb dX5_manyTogether_48 rfl hl (by decide) rfl (fun ls hl => ?_)
        refine lv_iinc (v := (v4 + 1)) (lv' := [(4, .int (v4 + 1)), (3, .int (v3 + (1 : Int32))), (0, .ref (ad 44)), (1, .int v1), (2, .int v2)]) hx hb dX5_manyTogether_49 hl (k := 4) rfl rfl (by decide) rfl (fun ls hl => ?_)
        refine lv_goto (tgt := 10) hx hb dX5_manyTogether_52 (by decide) ?_
        exact ih _ _ _ _ _ hf _ _ _ h (lv_sub hl [2, 3, 4, 1, 0] rfl)
      · rw [if_neg c6] at hf
        refine lv_iconst (v := (0 : Int32)) hx hb dX5_manyTogether_42 (by decide) ?_
        refine lv_goto (tgt := 47) hx hb dX5_manyTogether_43 (by decide) ?_
        refine lv_iadd hx hb dX5_manyTogether_47 ?_
        refine lv_istore_n (lv' := [(3, .int (v3 + (0 : Int32))), (0, .ref (ad 44)), (1, .int v1), (2, .int v2), (4, .int v4)]) hx hb dX5_manyTogether_48 rfl hl (by decide) rfl (fun ls hl => ?_)
        refine lv_iinc (v := (v4 + 1)) (lv' := [(4, .int (v4 + 1)), (3, .int (v3 + (0 : Int32))), (0, .ref (ad 44)), (1, .int v1), (2, .int v2)]) hx hb dX5_manyTogether_49 hl (k := 4) rfl rfl (by decide) rfl (fun ls hl => ?_)
        refine lv_goto (tgt := 10) hx hb dX5_manyTogether_52 (by decide) ?_
        exact ih _ _ _ _ _ hf _ _ _ h (lv_sub hl [2, 3, 4, 1, 0] rfl)
set_option maxHeartbeats 4000000 in
set_option maxRecDepth 100000 in
theorem k_X5_manyTogether_0 {p : Program} {l : Launch} {e : Env} {s : State} {m : MethodId} {args : Array Value} {below : List Frame} {meth : Method} {c : Code} {D : va_G} {cy : Nat → ClassId} {ad : Nat → Nat} {X : sX} {r : Int32} (B : sB p l s m meth c args cX5_manyTogether 5 RX5 D cy ad) (hr : meth.sig.returnType = (some .int)) (v1 : Int32) (v2 : Int32) (σ : sM) (hf : f_X5_manyTogether v1 v2 σ = some r) : sGo p l e { frames := 2, cells := 0, slots := 0, locals := 45 } s m args below meth c D cy ad X 5 (sQ below args s 0 0 D cy ad (.inr (some (.int r))) X σ) σ 0 [(0, .ref (ad 44)), (1, .int v1), (2, .int v2)] [] := by
  replace hf : (chk (inb v2 3) (b_X5_manyTogether_10 FU v1 v2 (σ 47 (v2).toNatClampNeg) (0 : Int32) σ)) = some r := hf
  intro H locs ls h hl
  have hx := B.1
  have hb := B.2.1
  refine lv_aload_n hx hb dX5_manyTogether_0 rfl (lv_at hl 0 rfl) ?_
  refine g_get B h 44 (by decide) (C := RX5) (T := TX5) (N := 21) (M_row _) rfl hin_X5 2 (by decide) hw828 rfl rfl dX5_manyTogether_1 ?_
  refine lv_iload_n hx hb dX5_manyTogether_4 rfl (lv_at hl 2 rfl) ?_
  obtain ⟨c1, hf⟩ := chk_some hf
  refine g_iald B h 47 (by decide) (n := 3) (fun _ => rfl) (inb_in c1) dX5_manyTogether_5 ?_
  refine lv_istore_n (lv' := [(3, .int (σ 47 (v2).toNatClampNeg)), (0, .ref (ad 44)), (1, .int v1), (2, .int v2)]) hx hb dX5_manyTogether_6 rfl hl (by decide) rfl (fun ls hl => ?_)
  refine lv_iconst (v := (0 : Int32)) hx hb dX5_manyTogether_7 (by decide) ?_
  refine lv_istore (lv' := [(4, .int (0 : Int32)), (3, .int (σ 47 (v2).toNatClampNeg)), (0, .ref (ad 44)), (1, .int v1), (2, .int v2)]) hx hb dX5_manyTogether_8 hl (by decide) rfl (fun ls hl => ?_)
  exact k_X5_manyTogether_10 B hr  _ _ _ _ _ _ hf _ _ _ h (lv_sub hl [2, 3, 4, 1, 0] rfl)
set_option maxRecDepth 100000 in
theorem ok_X5_manyTogether {l : Launch} (hl0 : l.stackTraces = false) {D : va_G} {cy : Nat → ClassId} {ad : Nat → Nat} (hap : sAp ad) (X : sX) (σ : sM) (v1 : Int32) (v2 : Int32) {r : Int32} (hf : f_X5_manyTogether v1 v2 σ = some r) : sMet l yX5_manyTogether (sWs yX5_manyTogether cX5_manyTogether 5 (some .int)) 2 45 0 0 D cy ad X σ [.ref (ad 44), .int v1, .int v2] (.inr (some (.int r))) X σ := by
  refine sMet_of (by decide +kernel) (Nat.le_of_ble_eq_true rfl) hap hl0 ?_
  intro p e s m args below meth c ls B hr htab hl h
  exact k_X5_manyTogether_0 B hr _ _ _  hf _ _ _ h hl
set_option maxHeartbeats 4000000 in
set_option maxRecDepth 100000 in
theorem k_X5_refused_0 {p : Program} {l : Launch} {e : Env} {s : State} {m : MethodId} {args : Array Value} {below : List Frame} {meth : Method} {c : Code} {D : va_G} {cy : Nat → ClassId} {ad : Nat → Nat} {X : sX} {r : Int32} {σ' : sM} (B : sB p l s m meth c args cX5_refused 2 RX5 D cy ad) (hr : meth.sig.returnType = (some .boolean)) (v1 : Int32) (σ : sM) (hf : f_X5_refused v1 σ = some (r, σ')) : sGo p l e { frames := 0, cells := 0, slots := 0, locals := 0 } s m args below meth c D cy ad X 2 (sQ below args s 0 0 D cy ad (.inr (some (.int r))) X σ') σ 0 [(0, .ref (ad 44)), (1, .int v1)] [] := by
  replace hf : (stl (va_up σ 44 (upd (σ 44) 20 v1)) (fun σ1 => if v1 = 0 then (some ((0 : Int32), σ1)) else (some ((1 : Int32), σ1)))) = some (r, σ') := hf
  intro H locs ls h hl
  have hx := B.1
  have hb := B.2.1
  refine lv_aload_n hx hb dX5_refused_0 rfl (lv_at hl 0 rfl) ?_
  refine lv_iload_n hx hb dX5_refused_1 rfl (lv_at hl 1 rfl) ?_
  refine g_put B h 44 (by decide) (C := RX5) (T := TX5) (N := 21) (M_row _) rfl hin_X5 tyX5 tyX5_ok nmX5 20 (by decide) hw846 rfl rfl rfl rfl (upd (σ 44) 20 v1) (M_put20 _ _) (Nat.le_of_ble_eq_true rfl) dX5_refused_2 (fun H locs h => ?_)
  obtain ⟨σ1, e1, hf⟩ := stl_some hf
  rw [← e1] at h
  refine lv_iload_n hx hb dX5_refused_5 rfl (lv_at hl 1 rfl) ?_
  refine lv_if_eq (tgt := 13) hx hb dX5_refused_6 (by decide) (fun c2 => ?_) (fun c2 => ?_)
  · rw [if_pos c2] at hf
    refine lv_iconst (v := (0 : Int32)) hx hb dX5_refused_13 (by decide) ?_
    obtain ⟨rfl, rfl⟩ := Prod.mk.inj (Option.some.inj hf)
    exact sE_z B hr h rfl dX5_refused_14
  · rw [if_neg c2] at hf
    refine lv_iconst (v := (1 : Int32)) hx hb dX5_refused_9 (by decide) ?_
    refine lv_goto (tgt := 14) hx hb dX5_refused_10 (by decide) ?_
    obtain ⟨rfl, rfl⟩ := Prod.mk.inj (Option.some.inj hf)
    exact sE_z B hr h rfl dX5_refused_14
set_option maxRecDepth 100000 in
theorem ok_X5_refused {l : Launch} (hl0 : l.stackTraces = false) {D : va_G} {cy : Nat → ClassId} {ad : Nat → Nat} (hap : sAp ad) (X : sX) (σ : sM) (v1 : Int32) {r : Int32} {σ' : sM} (hf : f_X5_refused v1 σ = some (r, σ')) : sMet l yX5_refused (sWs yX5_refused cX5_refused 2 (some .boolean)) 0 0 0 0 D cy ad X σ [.ref (ad 44), .int v1] (.inr (some (.int r))) X σ' := by
  refine sMet_of (by decide +kernel) (Nat.le_of_ble_eq_true rfl) hap hl0 ?_
  intro p e s m args below meth c ls B hr htab hl h
  exact k_X5_refused_0 B hr _ _  hf _ _ _ h hl
set_option maxHeartbeats 4000000 in
set_option maxRecDepth 100000 in
theorem k_X5_puts_27 {p : Program} {l : Launch} {e : Env} {s : State} {m : MethodId} {args : Array Value} {below : List Frame} {meth : Method} {c : Code} {D : va_G} {cy : Nat → ClassId} {ad : Nat → Nat} {X : sX} {r : Unit} {σ' : sM} (B : sB p l s m meth c args cX5_puts 6 RX5 D cy ad) (hr : meth.sig.returnType = none) : ∀ (n : Nat) (v1 : Int32) (v2 : Int32) (v3 : Int32) (v4 : Int32) (v5 : Int32) (σ : sM), b_X5_puts_27 n v1 v2 v3 v4 v5 σ = some (r, σ') → sGo p l e { frames := 1, cells := 0, slots := 0, locals := 23 } s m args below meth c D cy ad X 6 (sQ below args s 0 0 D cy ad (.inr none) X σ') σ 27 [(0, .ref (ad 44)), (1, .int v1), (2, .int v2), (3, .int v3), (4, .int v4), (5, .int v5)] [] := by
  intro n
  induction n with
  | zero =>
    intro v1 v2 v3 v4 v5 σ hf
    exact nomatch (show none = some (r, σ') from hf)
  | succ n ih =>
    intro v1 v2 v3 v4 v5 σ hf
    replace hf : (if v5 ≤ v4 then (chk (inb v1 3) (chk (inb v1 3) (stl (va_up σ 47 (upd (σ 47) (v1).toNatClampNeg ((σ 47 (v1).toNatClampNeg) + (1 : Int32)))) (fun σ9 => chk (inb (((60 : Int32) * v1) + v4) 180) (stl (va_up σ9 45 (upd (σ9 45) ((((60 : Int32) * v1) + v4)).toNatClampNeg v2)) (fun σ11 => chk (inb (((60 : Int32) * v1) + v4) 180) (stl (va_up σ11 46 (upd (σ11 46) ((((60 : Int32) * v1) + v4)).toNatClampNeg v3)) (fun σ13 => some ((), σ13))))))))) else (chk (inb ((((60 : Int32) * v1) + v5) - (1 : Int32)) 180) (chk (inb (((60 : Int32) * v1) + v5) 180) (stl (va_up σ 45 (upd (σ 45) ((((60 : Int32) * v1) + v5)).toNatClampNeg (σ 45 (((((60 : Int32) * v1) + v5) - (1 : Int32))).toNatClampNeg))) (fun σ16 => chk (inb ((((60 : Int32) * v1) + v5) - (1 : Int32)) 180) (chk (inb (((60 : Int32) * v1) + v5) 180) (stl (va_up σ16 46 (upd (σ16 46) ((((60 : Int32) * v1) + v5)).toNatClampNeg (σ16 46 (((((60 : Int32) * v1) + v5) - (1 : Int32))).toNatClampNeg))) (fun σ19 => b_X5_puts_27 n v1 v2 v3 v4 (v5 + (-1)) σ19)))))))) = some (r, σ') := hf
    intro H locs ls h hl
    have hx := B.1
    have hb := B.2.1
    refine lv_iload hx hb dX5_puts_27 (lv_at hl 5 rfl) ?_
    refine lv_iload hx hb dX5_puts_29 (lv_at hl 4 rfl) ?_
    refine lv_icmp_le (tgt := 92) hx hb dX5_puts_31 (by decide) (fun c6 => ?_) (fun c6 => ?_)
    · rw [if_pos c6] at hf
      refine lv_aload_n hx hb dX5_puts_92 rfl (lv_at hl 0 rfl) ?_
      refine g_get B h 44 (by decide) (C := RX5) (T := TX5) (N := 21) (M_row _) rfl hin_X5 2 (by decide) hw828 rfl rfl dX5_puts_93 ?_
      refine lv_iload_n hx hb dX5_puts_96 rfl (lv_at hl 1 rfl) ?_
      refine lv_dup2_11 hx hb dX5_puts_97 rfl rfl ?_
      obtain ⟨c7, hf⟩ := chk_some hf
      refine g_iald B h 47 (by decide) (n := 3) (fun _ => rfl) (inb_in c7) dX5_puts_98 ?_
      refine lv_iconst (v := (1 : Int32)) hx hb dX5_puts_99 (by decide) ?_
      refine lv_iadd hx hb dX5_puts_100 ?_
      obtain ⟨c8, hf⟩ := chk_some hf
      refine g_iast B h 47 (by decide) (n := 3) (fun _ => rfl) (inb_in c8) dX5_puts_101 (fun H locs h => ?_)
      obtain ⟨σ9, e9, hf⟩ := stl_some hf
      rw [← e9] at h
      refine lv_aload_n hx hb dX5_puts_102 rfl (lv_at hl 0 rfl) ?_
      refine g_get B h 44 (by decide) (C := RX5) (T := TX5) (N := 21) (M_row _) rfl hin_X5 0 (by decide) hw826 rfl rfl dX5_puts_103 ?_
      refine lv_bipush (v := (60 : Int32)) hx hb dX5_puts_106 (by decide) ?_
      refine lv_iload_n hx hb dX5_puts_108 rfl (lv_at hl 1 rfl) ?_
      refine lv_imul hx hb dX5_puts_109 ?_
      refine lv_iload hx hb dX5_puts_110 (lv_at hl 4 rfl) ?_
      refine lv_iadd hx hb dX5_puts_112 ?_
      refine lv_iload_n hx hb dX5_puts_113 rfl (lv_at hl 2 rfl) ?_
      obtain ⟨c10, hf⟩ := chk_some hf
      refine g_iast B h 45 (by decide) (n := 180) (fun _ => rfl) (inb_in c10) dX5_puts_114 (fun H locs h => ?_)
      obtain ⟨σ11, e11, hf⟩ := stl_some hf
      rw [← e11] at h
      refine lv_aload_n hx hb dX5_puts_115 rfl (lv_at hl 0 rfl) ?_
      refine g_get B h 44 (by decide) (C := RX5) (T := TX5) (N := 21) (M_row _) rfl hin_X5 1 (by decide) hw827 rfl rfl dX5_puts_116 ?_
      refine lv_bipush (v := (60 : Int32)) hx hb dX5_puts_119 (by decide) ?_
      refine lv_iload_n hx hb dX5_puts_121 rfl (lv_at hl 1 rfl) ?_
      refine lv_imul hx hb dX5_puts_122 ?_
      refine lv_iload hx hb dX5_puts_123 (lv_at hl 4 rfl) ?_
      refine lv_iadd hx hb dX5_puts_125 ?_
      refine lv_iload_n hx hb dX5_puts_126 rfl (lv_at hl 3 rfl) ?_
      obtain ⟨c12, hf⟩ := chk_some hf
      refine g_iast B h 46 (by decide) (n := 180) (fun _ => rfl) (inb_in c12) dX5_puts_127 (fun H locs h => ?_)
      obtain ⟨σ13, e13, hf⟩ := stl_some hf
      rw [← e13] at h
      obtain ⟨rfl, rfl⟩ := Prod.mk.inj (Option.some.inj hf)
      exact sE_v B hr h dX5_puts_128
    · rw [if_neg c6] at hf
      refine lv_aload_n hx hb dX5_puts_34 rfl (lv_at hl 0 rfl) ?_
      refine g_get B h 44 (by decide) (C := RX5) (T := TX5) (N := 21) (M_row _) rfl hin_X5 0 (by decide) hw826 rfl rfl dX5_puts_35 ?_
      refine lv_bipush (v := (60 : Int32)) hx hb dX5_puts_38 (by decide) ?_
      refine lv_iload_n hx hb dX5_puts_40 rfl (lv_at hl 1 rfl) ?_
      refine lv_imul hx hb dX5_puts_41 ?_
      refine lv_iload hx hb dX5_puts_42 (lv_at hl 5 rfl) ?_
      refine lv_iadd hx hb dX5_puts_44 ?_
      refine lv_aload_n hx hb dX5_puts_45 rfl (lv_at hl 0 rfl) ?_
      refine g_get B h 44 (by decide) (C := RX5) (T := TX5) (N := 21) (M_row _) rfl hin_X5 0 (by decide) hw826 rfl rfl dX5_puts_46 ?_
      refine lv_bipush (v := (60 : Int32)) hx hb dX5_puts_49 (by decide) ?_
      refine lv_iload_n hx hb dX5_puts_51 rfl (lv_at hl 1 rfl) ?_
      refine lv_imul hx hb dX5_puts_52 ?_
      refine lv_iload hx hb dX5_puts_53 (lv_at hl 5 rfl) ?_
      refine lv_iadd hx hb dX5_puts_55 ?_
      refine lv_iconst (v := (1 : Int32)) hx hb dX5_puts_56 (by decide) ?_
      refine lv_isub hx hb dX5_puts_57 ?_
      obtain ⟨c14, hf⟩ := chk_some hf
      refine g_iald B h 45 (by decide) (n := 180) (fun _ => rfl) (inb_in c14) dX5_puts_58 ?_
      obtain ⟨c15, hf⟩ := chk_some hf
      refine g_iast B h 45 (by decide) (n := 180) (fun _ => rfl) (inb_in c15) dX5_puts_59 (fun H locs h => ?_)
      obtain ⟨σ16, e16, hf⟩ := stl_some hf
      rw [← e16] at h
      refine lv_aload_n hx hb dX5_puts_60 rfl (lv_at hl 0 rfl) ?_
      refine g_get B h 44 (by decide) (C := RX5) (T := TX5) (N := 21) (M_row _) rfl hin_X5 1 (by decide) hw827 rfl rfl dX5_puts_61 ?_
      refine lv_bipush (v := (60 : Int32)) hx hb dX5_puts_64 (by decide) ?_
      refine lv_iload_n hx hb dX5_puts_66 rfl (lv_at hl 1 rfl) ?_
      refine lv_imul hx hb dX5_puts_67 ?_
      refine lv_iload hx hb dX5_puts_68 (lv_at hl 5 rfl) ?_
      refine lv_iadd hx hb dX5_puts_70 ?_
      refine lv_aload_n hx hb dX5_puts_71 rfl (lv_at hl 0 rfl) ?_
      refine g_get B h 44 (by decide) (C := RX5) (T := TX5) (N := 21) (M_row _) rfl hin_X5 1 (by decide) hw827 rfl rfl dX5_puts_72 ?_
      refine lv_bipush (v := (60 : Int32)) hx hb dX5_puts_75 (by decide) ?_
      refine lv_iload_n hx hb dX5_puts_77 rfl (lv_at hl 1 rfl) ?_
      refine lv_imul hx hb dX5_puts_78 ?_
      refine lv_iload hx hb dX5_puts_79 (lv_at hl 5 rfl) ?_
      refine lv_iadd hx hb dX5_puts_81 ?_
      refine lv_iconst (v := (1 : Int32)) hx hb dX5_puts_82 (by decide) ?_
      refine lv_isub hx hb dX5_puts_83 ?_
      obtain ⟨c17, hf⟩ := chk_some hf
      refine g_iald B h 46 (by decide) (n := 180) (fun _ => rfl) (inb_in c17) dX5_puts_84 ?_
      obtain ⟨c18, hf⟩ := chk_some hf
      refine g_iast B h 46 (by decide) (n := 180) (fun _ => rfl) (inb_in c18) dX5_puts_85 (fun H locs h => ?_)
      obtain ⟨σ19, e19, hf⟩ := stl_some hf
      rw [← e19] at h
      refine lv_iinc (v := (v5 + (-1))) (lv' := [(5, .int (v5 + (-1))), (0, .ref (ad 44)), (1, .int v1), (2, .int v2), (3, .int v3), (4, .int v4)]) hx hb dX5_puts_86 hl (k := 5) rfl rfl (by decide) rfl (fun ls hl => ?_)
      refine lv_goto (tgt := 27) hx hb dX5_puts_89 (by decide) ?_
      exact ih _ _ _ _ _ _ hf _ _ _ h (lv_sub hl [1, 2, 3, 4, 5, 0] rfl)
set_option maxHeartbeats 4000000 in
set_option maxRecDepth 100000 in
theorem k_X5_puts_0 {p : Program} {l : Launch} {e : Env} {s : State} {m : MethodId} {args : Array Value} {below : List Frame} {meth : Method} {c : Code} {D : va_G} {cy : Nat → ClassId} {ad : Nat → Nat} {X : sX} {r : Unit} {σ' : sM} (B : sB p l s m meth c args cX5_puts 6 RX5 D cy ad) (hr : meth.sig.returnType = none) (v1 : Int32) (v2 : Int32) (v3 : Int32) (σ : sM) (hf : f_X5_puts v1 v2 v3 σ = some (r, σ')) : sGo p l e { frames := 1, cells := 0, slots := 0, locals := 23 } s m args below meth c D cy ad X 6 (sQ below args s 0 0 D cy ad (.inr none) X σ') σ 0 [(0, .ref (ad 44)), (1, .int v1), (2, .int v2), (3, .int v3)] [] := by
  replace hf : (rthn (f_X5_placeOf v1 v2 σ) (fun vr1 => if 0 ≤ vr1 then (chk (inb (((60 : Int32) * v1) + vr1) 180) (stl (va_up σ 46 (upd (σ 46) ((((60 : Int32) * v1) + vr1)).toNatClampNeg v3)) (fun σ4 => some ((), σ4)))) else (chk (inb v1 3) (b_X5_puts_27 FU v1 v2 v3 ((-1 : Int32) - vr1) (σ 47 (v1).toNatClampNeg) σ)))) = some (r, σ') := hf
  intro H locs ls h hl
  have hx := B.1
  have hb := B.2.1
  refine lv_aload_n hx hb dX5_puts_0 rfl (lv_at hl 0 rfl) ?_
  refine lv_iload_n hx hb dX5_puts_1 rfl (lv_at hl 1 rfl) ?_
  refine lv_iload_n hx hb dX5_puts_2 rfl (lv_at hl 2 rfl) ?_
  obtain ⟨vr1, hq1, hf⟩ := rthn_some hf
  refine sRetC1 (g_runV (k := 44) (T := TX5) (N := 21) B h (ok_X5_placeOf B.2.2.2.2.2.2.2.2 B.2.2.2.2.2.2.1 _ _ v1 v2 hq1) cw_X5_68 ⟨Nat.le_of_ble_eq_true rfl, Nat.le_of_ble_eq_true rfl⟩ (by decide) (M_row _) rfl rfl hl.1.symm rfl (Nat.le_of_ble_eq_true rfl) dX5_puts_3 ⟨Nat.zero_le _, Nat.zero_le _⟩) h (fun H locs h => ?_)
  refine lv_istore (lv' := [(4, .int vr1), (0, .ref (ad 44)), (1, .int v1), (2, .int v2), (3, .int v3)]) hx hb dX5_puts_6 hl (by decide) rfl (fun ls hl => ?_)
  refine lv_iload hx hb dX5_puts_8 (lv_at hl 0 rfl) ?_
  refine lv_if_ge (tgt := 115) hx hb dX5_puts_10 (by decide) (fun c2 => ?_) (fun c2 => ?_)
  · rw [if_pos c2] at hf
    refine lv_aload_n hx hb dX5_puts_115 rfl (lv_at hl 1 rfl) ?_
    refine g_get B h 44 (by decide) (C := RX5) (T := TX5) (N := 21) (M_row _) rfl hin_X5 1 (by decide) hw827 rfl rfl dX5_puts_116 ?_
    refine lv_bipush (v := (60 : Int32)) hx hb dX5_puts_119 (by decide) ?_
    refine lv_iload_n hx hb dX5_puts_121 rfl (lv_at hl 2 rfl) ?_
    refine lv_imul hx hb dX5_puts_122 ?_
    refine lv_iload hx hb dX5_puts_123 (lv_at hl 0 rfl) ?_
    refine lv_iadd hx hb dX5_puts_125 ?_
    refine lv_iload_n hx hb dX5_puts_126 rfl (lv_at hl 4 rfl) ?_
    obtain ⟨c3, hf⟩ := chk_some hf
    refine g_iast B h 46 (by decide) (n := 180) (fun _ => rfl) (inb_in c3) dX5_puts_127 (fun H locs h => ?_)
    obtain ⟨σ4, e4, hf⟩ := stl_some hf
    rw [← e4] at h
    obtain ⟨rfl, rfl⟩ := Prod.mk.inj (Option.some.inj hf)
    exact sE_v B hr h dX5_puts_128
  · rw [if_neg c2] at hf
    refine lv_iconst (v := (-1 : Int32)) hx hb dX5_puts_13 (by decide) ?_
    refine lv_iload hx hb dX5_puts_14 (lv_at hl 0 rfl) ?_
    refine lv_isub hx hb dX5_puts_16 ?_
    refine lv_istore (lv' := [(4, .int ((-1 : Int32) - vr1)), (0, .ref (ad 44)), (1, .int v1), (2, .int v2), (3, .int v3)]) hx hb dX5_puts_17 hl (by decide) rfl (fun ls hl => ?_)
    refine lv_aload_n hx hb dX5_puts_19 rfl (lv_at hl 1 rfl) ?_
    refine g_get B h 44 (by decide) (C := RX5) (T := TX5) (N := 21) (M_row _) rfl hin_X5 2 (by decide) hw828 rfl rfl dX5_puts_20 ?_
    refine lv_iload_n hx hb dX5_puts_23 rfl (lv_at hl 2 rfl) ?_
    obtain ⟨c5, hf⟩ := chk_some hf
    refine g_iald B h 47 (by decide) (n := 3) (fun _ => rfl) (inb_in c5) dX5_puts_24 ?_
    refine lv_istore (lv' := [(5, .int (σ 47 (v1).toNatClampNeg)), (4, .int ((-1 : Int32) - vr1)), (0, .ref (ad 44)), (1, .int v1), (2, .int v2), (3, .int v3)]) hx hb dX5_puts_25 hl (by decide) rfl (fun ls hl => ?_)
    exact k_X5_puts_27 B hr  _ _ _ _ _ _ _ hf _ _ _ h (lv_sub hl [2, 3, 4, 5, 1, 0] rfl)
set_option maxRecDepth 100000 in
theorem ok_X5_puts {l : Launch} (hl0 : l.stackTraces = false) {D : va_G} {cy : Nat → ClassId} {ad : Nat → Nat} (hap : sAp ad) (X : sX) (σ : sM) (v1 : Int32) (v2 : Int32) (v3 : Int32) {r : Unit} {σ' : sM} (hf : f_X5_puts v1 v2 v3 σ = some (r, σ')) : sMet l yX5_puts (sWs yX5_puts cX5_puts 6 none) 1 23 0 0 D cy ad X σ [.ref (ad 44), .int v1, .int v2, .int v3] (.inr none) X σ' := by
  refine sMet_of (by decide +kernel) (Nat.le_of_ble_eq_true rfl) hap hl0 ?_
  intro p e s m args below meth c ls B hr htab hl h
  exact k_X5_puts_0 B hr _ _ _ _  hf _ _ _ h hl
set_option maxHeartbeats 4000000 in
set_option maxRecDepth 100000 in
theorem k_X5_combine_190 {p : Program} {l : Launch} {e : Env} {s : State} {m : MethodId} {args : Array Value} {below : List Frame} {meth : Method} {c : Code} {D : va_G} {cy : Nat → ClassId} {ad : Nat → Nat} {X : sX} {r : Int32} {σ' : sM} (B : sB p l s m meth c args cX5_combine 11 RX5 D cy ad) (hr : meth.sig.returnType = (some .int)) {K85 : Int32 → Int32 → Int32 → Int32 → sM → Option (Int32 × sM)} (hK85 : ∀ (v1 : Int32) (v2 : Int32) (v3 : Int32) (v5 : Int32) (σ : sM), K85 v1 v2 v3 v5 σ = some (r, σ') → sGo p l e { frames := 3, cells := 0, slots := 0, locals := 69 } s m args below meth c D cy ad X 11 (sQ below args s 0 0 D cy ad (.inr (some (.int r))) X σ') σ 85 [(0, .ref (ad 44)), (1, .int v1), (2, .int v2), (3, .int v3), (5, .int v5)] []) (v1 : Int32) (v2 : Int32) (v3 : Int32) (v5 : Int32) (v6 : Int32) (v7 : Int32) (v8 : Int32) (v9 : Int32) (vs0 : Int32) (σ : sM) (hf : b_X5_combine_190 K85 v1 v2 v3 v5 v6 v7 v8 v9 vs0 σ = some (r, σ')) : sGo p l e { frames := 3, cells := 0, slots := 0, locals := 69 } s m args below meth c D cy ad X 11 (sQ below args s 0 0 D cy ad (.inr (some (.int r))) X σ') σ 190 [(0, .ref (ad 44)), (1, .int v1), (2, .int v2), (3, .int v3), (5, .int v5), (6, .int v6), (7, .int v7), (8, .int v8), (9, .int v9)] [.int vs0] := by
  replace hf : (if v8 < 0 then (if vs0 = 0 then (wthn (f_X5_puts v2 v6 v9 σ) (fun _ σ38 => K85 v1 v2 v3 (v5 + 1) σ38)) else (wthn (f_X5_puts v2 v6 v7 σ) (fun _ σ39 => K85 v1 v2 v3 (v5 + 1) σ39))) else (if v3 = (115 : Int32) then (wthn (f_X5_puts v2 v6 (v7 + v9) σ) (fun _ σ44 => K85 v1 v2 v3 (v5 + 1) σ44)) else (if vs0 = 0 then (wthn (f_X5_puts v2 v6 v9 σ) (fun _ σ42 => K85 v1 v2 v3 (v5 + 1) σ42)) else (wthn (f_X5_puts v2 v6 v7 σ) (fun _ σ43 => K85 v1 v2 v3 (v5 + 1) σ43))))) = some (r, σ') := hf
  intro H locs ls h hl
  have hx := B.1
  have hb := B.2.1
  refine lv_istore (lv' := [(10, .int vs0), (0, .ref (ad 44)), (1, .int v1), (2, .int v2), (3, .int v3), (5, .int v5), (6, .int v6), (7, .int v7), (8, .int v8), (9, .int v9)]) hx hb dX5_combine_190 hl (by decide) rfl (fun ls hl => ?_)
  refine lv_aload_n hx hb dX5_combine_192 rfl (lv_at hl 1 rfl) ?_
  refine lv_iload_n hx hb dX5_combine_193 rfl (lv_at hl 3 rfl) ?_
  refine lv_iload hx hb dX5_combine_194 (lv_at hl 6 rfl) ?_
  refine lv_iload hx hb dX5_combine_196 (lv_at hl 8 rfl) ?_
  refine lv_if_lt (tgt := 215) hx hb dX5_combine_198 (by decide) (fun c36 => ?_) (fun c36 => ?_)
  · rw [if_pos c36] at hf
    refine lv_iload hx hb dX5_combine_215 (lv_at hl 0 rfl) ?_
    refine lv_if_eq (tgt := 225) hx hb dX5_combine_217 (by decide) (fun c37 => ?_) (fun c37 => ?_)
    · rw [if_pos c37] at hf
      refine lv_iload hx hb dX5_combine_225 (lv_at hl 9 rfl) ?_
      obtain ⟨vr38, σ38, hq38, hf⟩ := wthn_some hf
      refine sRetC0 (g_runV (k := 44) (T := TX5) (N := 21) B h (ok_X5_puts B.2.2.2.2.2.2.2.2 B.2.2.2.2.2.2.1 _ _ v2 v6 v9 hq38) cw_X5_98 ⟨Nat.le_of_ble_eq_true rfl, Nat.le_of_ble_eq_true rfl⟩ (by decide) (M_row _) rfl rfl hl.1.symm rfl (Nat.le_of_ble_eq_true rfl) dX5_combine_227 ⟨Nat.zero_le _, Nat.zero_le _⟩) h (fun H locs h => ?_)
      refine lv_iinc (v := (v5 + 1)) (lv' := [(5, .int (v5 + 1)), (10, .int vs0), (0, .ref (ad 44)), (1, .int v1), (2, .int v2), (3, .int v3), (6, .int v6), (7, .int v7), (8, .int v8), (9, .int v9)]) hx hb dX5_combine_230 hl (k := 5) rfl rfl (by decide) rfl (fun ls hl => ?_)
      refine lv_goto (tgt := 85) hx hb dX5_combine_233 (by decide) ?_
      exact hK85 _ _ _ _ _ hf _ _ _ h (lv_sub hl [2, 3, 4, 5, 0] rfl)
    · rw [if_neg c37] at hf
      refine lv_iload hx hb dX5_combine_220 (lv_at hl 7 rfl) ?_
      refine lv_goto (tgt := 227) hx hb dX5_combine_222 (by decide) ?_
      obtain ⟨vr39, σ39, hq39, hf⟩ := wthn_some hf
      refine sRetC0 (g_runV (k := 44) (T := TX5) (N := 21) B h (ok_X5_puts B.2.2.2.2.2.2.2.2 B.2.2.2.2.2.2.1 _ _ v2 v6 v7 hq39) cw_X5_98 ⟨Nat.le_of_ble_eq_true rfl, Nat.le_of_ble_eq_true rfl⟩ (by decide) (M_row _) rfl rfl hl.1.symm rfl (Nat.le_of_ble_eq_true rfl) dX5_combine_227 ⟨Nat.zero_le _, Nat.zero_le _⟩) h (fun H locs h => ?_)
      refine lv_iinc (v := (v5 + 1)) (lv' := [(5, .int (v5 + 1)), (10, .int vs0), (0, .ref (ad 44)), (1, .int v1), (2, .int v2), (3, .int v3), (6, .int v6), (7, .int v7), (8, .int v8), (9, .int v9)]) hx hb dX5_combine_230 hl (k := 5) rfl rfl (by decide) rfl (fun ls hl => ?_)
      refine lv_goto (tgt := 85) hx hb dX5_combine_233 (by decide) ?_
      exact hK85 _ _ _ _ _ hf _ _ _ h (lv_sub hl [2, 3, 4, 5, 0] rfl)
  · rw [if_neg c36] at hf
    refine lv_iload_n hx hb dX5_combine_201 rfl (lv_at hl 4 rfl) ?_
    refine lv_bipush (v := (115 : Int32)) hx hb dX5_combine_202 (by decide) ?_
    refine lv_icmp_ne (tgt := 215) hx hb dX5_combine_204 (by decide) (fun c40 => ?_) (fun c40 => ?_)
    · rw [if_neg c40] at hf
      refine lv_iload hx hb dX5_combine_215 (lv_at hl 0 rfl) ?_
      refine lv_if_eq (tgt := 225) hx hb dX5_combine_217 (by decide) (fun c41 => ?_) (fun c41 => ?_)
      · rw [if_pos c41] at hf
        refine lv_iload hx hb dX5_combine_225 (lv_at hl 9 rfl) ?_
        obtain ⟨vr42, σ42, hq42, hf⟩ := wthn_some hf
        refine sRetC0 (g_runV (k := 44) (T := TX5) (N := 21) B h (ok_X5_puts B.2.2.2.2.2.2.2.2 B.2.2.2.2.2.2.1 _ _ v2 v6 v9 hq42) cw_X5_98 ⟨Nat.le_of_ble_eq_true rfl, Nat.le_of_ble_eq_true rfl⟩ (by decide) (M_row _) rfl rfl hl.1.symm rfl (Nat.le_of_ble_eq_true rfl) dX5_combine_227 ⟨Nat.zero_le _, Nat.zero_le _⟩) h (fun H locs h => ?_)
        refine lv_iinc (v := (v5 + 1)) (lv' := [(5, .int (v5 + 1)), (10, .int vs0), (0, .ref (ad 44)), (1, .int v1), (2, .int v2), (3, .int v3), (6, .int v6), (7, .int v7), (8, .int v8), (9, .int v9)]) hx hb dX5_combine_230 hl (k := 5) rfl rfl (by decide) rfl (fun ls hl => ?_)
        refine lv_goto (tgt := 85) hx hb dX5_combine_233 (by decide) ?_
        exact hK85 _ _ _ _ _ hf _ _ _ h (lv_sub hl [2, 3, 4, 5, 0] rfl)
      · rw [if_neg c41] at hf
        refine lv_iload hx hb dX5_combine_220 (lv_at hl 7 rfl) ?_
        refine lv_goto (tgt := 227) hx hb dX5_combine_222 (by decide) ?_
        obtain ⟨vr43, σ43, hq43, hf⟩ := wthn_some hf
        refine sRetC0 (g_runV (k := 44) (T := TX5) (N := 21) B h (ok_X5_puts B.2.2.2.2.2.2.2.2 B.2.2.2.2.2.2.1 _ _ v2 v6 v7 hq43) cw_X5_98 ⟨Nat.le_of_ble_eq_true rfl, Nat.le_of_ble_eq_true rfl⟩ (by decide) (M_row _) rfl rfl hl.1.symm rfl (Nat.le_of_ble_eq_true rfl) dX5_combine_227 ⟨Nat.zero_le _, Nat.zero_le _⟩) h (fun H locs h => ?_)
        refine lv_iinc (v := (v5 + 1)) (lv' := [(5, .int (v5 + 1)), (10, .int vs0), (0, .ref (ad 44)), (1, .int v1), (2, .int v2), (3, .int v3), (6, .int v6), (7, .int v7), (8, .int v8), (9, .int v9)]) hx hb dX5_combine_230 hl (k := 5) rfl rfl (by decide) rfl (fun ls hl => ?_)
        refine lv_goto (tgt := 85) hx hb dX5_combine_233 (by decide) ?_
        exact hK85 _ _ _ _ _ hf _ _ _ h (lv_sub hl [2, 3, 4, 5, 0] rfl)
    · rw [if_pos c40] at hf
      refine lv_iload hx hb dX5_combine_207 (lv_at hl 7 rfl) ?_
      refine lv_iload hx hb dX5_combine_209 (lv_at hl 9 rfl) ?_
      refine lv_iadd hx hb dX5_combine_211 ?_
      refine lv_goto (tgt := 227) hx hb dX5_combine_212 (by decide) ?_
      obtain ⟨vr44, σ44, hq44, hf⟩ := wthn_some hf
      refine sRetC0 (g_runV (k := 44) (T := TX5) (N := 21) B h (ok_X5_puts B.2.2.2.2.2.2.2.2 B.2.2.2.2.2.2.1 _ _ v2 v6 (v7 + v9) hq44) cw_X5_98 ⟨Nat.le_of_ble_eq_true rfl, Nat.le_of_ble_eq_true rfl⟩ (by decide) (M_row _) rfl rfl hl.1.symm rfl (Nat.le_of_ble_eq_true rfl) dX5_combine_227 ⟨Nat.zero_le _, Nat.zero_le _⟩) h (fun H locs h => ?_)
      refine lv_iinc (v := (v5 + 1)) (lv' := [(5, .int (v5 + 1)), (10, .int vs0), (0, .ref (ad 44)), (1, .int v1), (2, .int v2), (3, .int v3), (6, .int v6), (7, .int v7), (8, .int v8), (9, .int v9)]) hx hb dX5_combine_230 hl (k := 5) rfl rfl (by decide) rfl (fun ls hl => ?_)
      refine lv_goto (tgt := 85) hx hb dX5_combine_233 (by decide) ?_
      exact hK85 _ _ _ _ _ hf _ _ _ h (lv_sub hl [2, 3, 4, 5, 0] rfl)
set_option maxHeartbeats 4000000 in
set_option maxRecDepth 100000 in
theorem k_X5_combine_155 {p : Program} {l : Launch} {e : Env} {s : State} {m : MethodId} {args : Array Value} {below : List Frame} {meth : Method} {c : Code} {D : va_G} {cy : Nat → ClassId} {ad : Nat → Nat} {X : sX} {r : Int32} {σ' : sM} (B : sB p l s m meth c args cX5_combine 11 RX5 D cy ad) (hr : meth.sig.returnType = (some .int)) {K85 : Int32 → Int32 → Int32 → Int32 → sM → Option (Int32 × sM)} (hK85 : ∀ (v1 : Int32) (v2 : Int32) (v3 : Int32) (v5 : Int32) (σ : sM), K85 v1 v2 v3 v5 σ = some (r, σ') → sGo p l e { frames := 3, cells := 0, slots := 0, locals := 69 } s m args below meth c D cy ad X 11 (sQ below args s 0 0 D cy ad (.inr (some (.int r))) X σ') σ 85 [(0, .ref (ad 44)), (1, .int v1), (2, .int v2), (3, .int v3), (5, .int v5)] []) (v1 : Int32) (v2 : Int32) (v3 : Int32) (v5 : Int32) (v6 : Int32) (v7 : Int32) (v8 : Int32) (vs0 : Int32) (σ : sM) (hf : b_X5_combine_155 K85 v1 v2 v3 v5 v6 v7 v8 vs0 σ = some (r, σ')) : sGo p l e { frames := 3, cells := 0, slots := 0, locals := 69 } s m args below meth c D cy ad X 11 (sQ below args s 0 0 D cy ad (.inr (some (.int r))) X σ') σ 155 [(0, .ref (ad 44)), (1, .int v1), (2, .int v2), (3, .int v3), (5, .int v5), (6, .int v6), (7, .int v7), (8, .int v8)] [.int vs0] := by
  replace hf : (if v8 < 0 then (b_X5_combine_190 K85 v1 v2 v3 v5 v6 v7 v8 vs0 (1 : Int32) σ) else (if v3 = (103 : Int32) then (if v7 ≤ vs0 then (b_X5_combine_190 K85 v1 v2 v3 v5 v6 v7 v8 vs0 (0 : Int32) σ) else (b_X5_combine_190 K85 v1 v2 v3 v5 v6 v7 v8 vs0 (1 : Int32) σ)) else (if vs0 ≤ v7 then (b_X5_combine_190 K85 v1 v2 v3 v5 v6 v7 v8 vs0 (0 : Int32) σ) else (b_X5_combine_190 K85 v1 v2 v3 v5 v6 v7 v8 vs0 (1 : Int32) σ)))) = some (r, σ') := hf
  intro H locs ls h hl
  have hx := B.1
  have hb := B.2.1
  refine lv_istore (lv' := [(9, .int vs0), (0, .ref (ad 44)), (1, .int v1), (2, .int v2), (3, .int v3), (5, .int v5), (6, .int v6), (7, .int v7), (8, .int v8)]) hx hb dX5_combine_155 hl (by decide) rfl (fun ls hl => ?_)
  refine lv_iload hx hb dX5_combine_157 (lv_at hl 8 rfl) ?_
  refine lv_if_lt (tgt := 185) hx hb dX5_combine_159 (by decide) (fun c32 => ?_) (fun c32 => ?_)
  · rw [if_pos c32] at hf
    refine lv_iconst (v := (1 : Int32)) hx hb dX5_combine_185 (by decide) ?_
    refine lv_goto (tgt := 190) hx hb dX5_combine_186 (by decide) ?_
    exact k_X5_combine_190 B hr hK85 _ _ _ _ _ _ _ _ _ _ hf _ _ _ h (lv_sub hl [1, 2, 3, 4, 5, 6, 7, 8, 0] rfl)
  · rw [if_neg c32] at hf
    refine lv_iload_n hx hb dX5_combine_162 rfl (lv_at hl 4 rfl) ?_
    refine lv_bipush (v := (103 : Int32)) hx hb dX5_combine_163 (by decide) ?_
    refine lv_icmp_ne (tgt := 178) hx hb dX5_combine_165 (by decide) (fun c33 => ?_) (fun c33 => ?_)
    · rw [if_neg c33] at hf
      refine lv_iload hx hb dX5_combine_178 (lv_at hl 7 rfl) ?_
      refine lv_iload hx hb dX5_combine_180 (lv_at hl 0 rfl) ?_
      refine lv_icmp_ge (tgt := 189) hx hb dX5_combine_182 (by decide) (fun c34 => ?_) (fun c34 => ?_)
      · rw [if_pos c34] at hf
        refine lv_iconst (v := (0 : Int32)) hx hb dX5_combine_189 (by decide) ?_
        exact k_X5_combine_190 B hr hK85 _ _ _ _ _ _ _ _ _ _ hf _ _ _ h (lv_sub hl [1, 2, 3, 4, 5, 6, 7, 8, 0] rfl)
      · rw [if_neg c34] at hf
        refine lv_iconst (v := (1 : Int32)) hx hb dX5_combine_185 (by decide) ?_
        refine lv_goto (tgt := 190) hx hb dX5_combine_186 (by decide) ?_
        exact k_X5_combine_190 B hr hK85 _ _ _ _ _ _ _ _ _ _ hf _ _ _ h (lv_sub hl [1, 2, 3, 4, 5, 6, 7, 8, 0] rfl)
    · rw [if_pos c33] at hf
      refine lv_iload hx hb dX5_combine_168 (lv_at hl 7 rfl) ?_
      refine lv_iload hx hb dX5_combine_170 (lv_at hl 0 rfl) ?_
      refine lv_icmp_le (tgt := 189) hx hb dX5_combine_172 (by decide) (fun c35 => ?_) (fun c35 => ?_)
      · rw [if_pos c35] at hf
        refine lv_iconst (v := (0 : Int32)) hx hb dX5_combine_189 (by decide) ?_
        exact k_X5_combine_190 B hr hK85 _ _ _ _ _ _ _ _ _ _ hf _ _ _ h (lv_sub hl [1, 2, 3, 4, 5, 6, 7, 8, 0] rfl)
      · rw [if_neg c35] at hf
        refine lv_goto (tgt := 185) hx hb dX5_combine_175 (by decide) ?_
        refine lv_iconst (v := (1 : Int32)) hx hb dX5_combine_185 (by decide) ?_
        refine lv_goto (tgt := 190) hx hb dX5_combine_186 (by decide) ?_
        exact k_X5_combine_190 B hr hK85 _ _ _ _ _ _ _ _ _ _ hf _ _ _ h (lv_sub hl [1, 2, 3, 4, 5, 6, 7, 8, 0] rfl)
set_option maxHeartbeats 4000000 in
set_option maxRecDepth 100000 in
theorem k_X5_combine_85 {p : Program} {l : Launch} {e : Env} {s : State} {m : MethodId} {args : Array Value} {below : List Frame} {meth : Method} {c : Code} {D : va_G} {cy : Nat → ClassId} {ad : Nat → Nat} {X : sX} {r : Int32} {σ' : sM} (B : sB p l s m meth c args cX5_combine 11 RX5 D cy ad) (hr : meth.sig.returnType = (some .int)) : ∀ (n : Nat) (v1 : Int32) (v2 : Int32) (v3 : Int32) (v5 : Int32) (σ : sM), b_X5_combine_85 n v1 v2 v3 v5 σ = some (r, σ') → sGo p l e { frames := 3, cells := 0, slots := 0, locals := 69 } s m args below meth c D cy ad X 11 (sQ below args s 0 0 D cy ad (.inr (some (.int r))) X σ') σ 85 [(0, .ref (ad 44)), (1, .int v1), (2, .int v2), (3, .int v3), (5, .int v5)] [] := by
  intro n
  induction n with
  | zero =>
    intro v1 v2 v3 v5 σ hf
    exact nomatch (show none = some (r, σ') from hf)
  | succ n ih =>
    intro v1 v2 v3 v5 σ hf
    replace hf : (chk (inb v1 3) (if (σ 47 (v1).toNatClampNeg) ≤ v5 then (chk (inb v2 3) (some ((σ 47 (v2).toNatClampNeg), σ))) else (chk (inb (((60 : Int32) * v1) + v5) 180) (chk (inb (((60 : Int32) * v1) + v5) 180) (rthn (f_X5_placeOf v2 (σ 45 ((((60 : Int32) * v1) + v5)).toNatClampNeg) σ) (fun vr29 => if 0 ≤ vr29 then (chk (inb (((60 : Int32) * v2) + vr29) 180) (b_X5_combine_155 (b_X5_combine_85 n) v1 v2 v3 v5 (σ 45 ((((60 : Int32) * v1) + v5)).toNatClampNeg) (σ 46 ((((60 : Int32) * v1) + v5)).toNatClampNeg) vr29 (σ 46 ((((60 : Int32) * v2) + vr29)).toNatClampNeg) σ)) else (b_X5_combine_155 (b_X5_combine_85 n) v1 v2 v3 v5 (σ 45 ((((60 : Int32) * v1) + v5)).toNatClampNeg) (σ 46 ((((60 : Int32) * v1) + v5)).toNatClampNeg) vr29 (σ 46 ((((60 : Int32) * v1) + v5)).toNatClampNeg) σ))))))) = some (r, σ') := hf
    intro H locs ls h hl
    have hx := B.1
    have hb := B.2.1
    refine lv_iload hx hb dX5_combine_85 (lv_at hl 4 rfl) ?_
    refine lv_aload_n hx hb dX5_combine_87 rfl (lv_at hl 0 rfl) ?_
    refine g_get B h 44 (by decide) (C := RX5) (T := TX5) (N := 21) (M_row _) rfl hin_X5 2 (by decide) hw828 rfl rfl dX5_combine_88 ?_
    refine lv_iload_n hx hb dX5_combine_91 rfl (lv_at hl 1 rfl) ?_
    obtain ⟨c24, hf⟩ := chk_some hf
    refine g_iald B h 47 (by decide) (n := 3) (fun _ => rfl) (inb_in c24) dX5_combine_92 ?_
    refine lv_icmp_ge (tgt := 236) hx hb dX5_combine_93 (by decide) (fun c25 => ?_) (fun c25 => ?_)
    · rw [if_pos c25] at hf
      refine lv_aload_n hx hb dX5_combine_236 rfl (lv_at hl 0 rfl) ?_
      refine g_get B h 44 (by decide) (C := RX5) (T := TX5) (N := 21) (M_row _) rfl hin_X5 2 (by decide) hw828 rfl rfl dX5_combine_237 ?_
      refine lv_iload_n hx hb dX5_combine_240 rfl (lv_at hl 2 rfl) ?_
      obtain ⟨c26, hf⟩ := chk_some hf
      refine g_iald B h 47 (by decide) (n := 3) (fun _ => rfl) (inb_in c26) dX5_combine_241 ?_
      obtain ⟨rfl, rfl⟩ := Prod.mk.inj (Option.some.inj hf)
      exact sE_i B hr h dX5_combine_242
    · rw [if_neg c25] at hf
      refine lv_aload_n hx hb dX5_combine_96 rfl (lv_at hl 0 rfl) ?_
      refine g_get B h 44 (by decide) (C := RX5) (T := TX5) (N := 21) (M_row _) rfl hin_X5 0 (by decide) hw826 rfl rfl dX5_combine_97 ?_
      refine lv_bipush (v := (60 : Int32)) hx hb dX5_combine_100 (by decide) ?_
      refine lv_iload_n hx hb dX5_combine_102 rfl (lv_at hl 1 rfl) ?_
      refine lv_imul hx hb dX5_combine_103 ?_
      refine lv_iload hx hb dX5_combine_104 (lv_at hl 4 rfl) ?_
      refine lv_iadd hx hb dX5_combine_106 ?_
      obtain ⟨c27, hf⟩ := chk_some hf
      refine g_iald B h 45 (by decide) (n := 180) (fun _ => rfl) (inb_in c27) dX5_combine_107 ?_
      refine lv_istore (lv' := [(6, .int (σ 45 ((((60 : Int32) * v1) + v5)).toNatClampNeg)), (0, .ref (ad 44)), (1, .int v1), (2, .int v2), (3, .int v3), (5, .int v5)]) hx hb dX5_combine_108 hl (by decide) rfl (fun ls hl => ?_)
      refine lv_aload_n hx hb dX5_combine_110 rfl (lv_at hl 1 rfl) ?_
      refine g_get B h 44 (by decide) (C := RX5) (T := TX5) (N := 21) (M_row _) rfl hin_X5 1 (by decide) hw827 rfl rfl dX5_combine_111 ?_
      refine lv_bipush (v := (60 : Int32)) hx hb dX5_combine_114 (by decide) ?_
      refine lv_iload_n hx hb dX5_combine_116 rfl (lv_at hl 2 rfl) ?_
      refine lv_imul hx hb dX5_combine_117 ?_
      refine lv_iload hx hb dX5_combine_118 (lv_at hl 5 rfl) ?_
      refine lv_iadd hx hb dX5_combine_120 ?_
      obtain ⟨c28, hf⟩ := chk_some hf
      refine g_iald B h 46 (by decide) (n := 180) (fun _ => rfl) (inb_in c28) dX5_combine_121 ?_
      refine lv_istore (lv' := [(7, .int (σ 46 ((((60 : Int32) * v1) + v5)).toNatClampNeg)), (6, .int (σ 45 ((((60 : Int32) * v1) + v5)).toNatClampNeg)), (0, .ref (ad 44)), (1, .int v1), (2, .int v2), (3, .int v3), (5, .int v5)]) hx hb dX5_combine_122 hl (by decide) rfl (fun ls hl => ?_)
      refine lv_aload_n hx hb dX5_combine_124 rfl (lv_at hl 2 rfl) ?_
      refine lv_iload_n hx hb dX5_combine_125 rfl (lv_at hl 4 rfl) ?_
      refine lv_iload hx hb dX5_combine_126 (lv_at hl 1 rfl) ?_
      obtain ⟨vr29, hq29, hf⟩ := rthn_some hf
      refine sRetC1 (g_runV (k := 44) (T := TX5) (N := 21) B h (ok_X5_placeOf B.2.2.2.2.2.2.2.2 B.2.2.2.2.2.2.1 _ _ v2 (σ 45 ((((60 : Int32) * v1) + v5)).toNatClampNeg) hq29) cw_X5_68 ⟨Nat.le_of_ble_eq_true rfl, Nat.le_of_ble_eq_true rfl⟩ (by decide) (M_row _) rfl rfl hl.1.symm rfl (Nat.le_of_ble_eq_true rfl) dX5_combine_128 ⟨Nat.zero_le _, Nat.zero_le _⟩) h (fun H locs h => ?_)
      refine lv_istore (lv' := [(8, .int vr29), (7, .int (σ 46 ((((60 : Int32) * v1) + v5)).toNatClampNeg)), (6, .int (σ 45 ((((60 : Int32) * v1) + v5)).toNatClampNeg)), (0, .ref (ad 44)), (1, .int v1), (2, .int v2), (3, .int v3), (5, .int v5)]) hx hb dX5_combine_131 hl (by decide) rfl (fun ls hl => ?_)
      refine lv_iload hx hb dX5_combine_133 (lv_at hl 0 rfl) ?_
      refine lv_if_ge (tgt := 143) hx hb dX5_combine_135 (by decide) (fun c30 => ?_) (fun c30 => ?_)
      · rw [if_pos c30] at hf
        refine lv_aload_n hx hb dX5_combine_143 rfl (lv_at hl 3 rfl) ?_
        refine g_get B h 44 (by decide) (C := RX5) (T := TX5) (N := 21) (M_row _) rfl hin_X5 1 (by decide) hw827 rfl rfl dX5_combine_144 ?_
        refine lv_bipush (v := (60 : Int32)) hx hb dX5_combine_147 (by decide) ?_
        refine lv_iload_n hx hb dX5_combine_149 rfl (lv_at hl 5 rfl) ?_
        refine lv_imul hx hb dX5_combine_150 ?_
        refine lv_iload hx hb dX5_combine_151 (lv_at hl 0 rfl) ?_
        refine lv_iadd hx hb dX5_combine_153 ?_
        obtain ⟨c31, hf⟩ := chk_some hf
        refine g_iald B h 46 (by decide) (n := 180) (fun _ => rfl) (inb_in c31) dX5_combine_154 ?_
        exact k_X5_combine_155 B hr ih _ _ _ _ _ _ _ _ _ hf _ _ _ h (lv_sub hl [3, 4, 5, 6, 7, 2, 1, 0] rfl)
      · rw [if_neg c30] at hf
        refine lv_iload hx hb dX5_combine_138 (lv_at hl 1 rfl) ?_
        refine lv_goto (tgt := 155) hx hb dX5_combine_140 (by decide) ?_
        exact k_X5_combine_155 B hr ih _ _ _ _ _ _ _ _ _ hf _ _ _ h (lv_sub hl [3, 4, 5, 6, 7, 2, 1, 0] rfl)
set_option maxHeartbeats 4000000 in
set_option maxRecDepth 100000 in
theorem k_X5_combine_23 {p : Program} {l : Launch} {e : Env} {s : State} {m : MethodId} {args : Array Value} {below : List Frame} {meth : Method} {c : Code} {D : va_G} {cy : Nat → ClassId} {ad : Nat → Nat} {X : sX} {r : Int32} {σ' : sM} (B : sB p l s m meth c args cX5_combine 11 RX5 D cy ad) (hr : meth.sig.returnType = (some .int)) (v1 : Int32) (v2 : Int32) (v3 : Int32) (vs0 : Int32) (σ : sM) (hf : b_X5_combine_23 v1 v2 v3 vs0 σ = some (r, σ')) : sGo p l e { frames := 3, cells := 0, slots := 0, locals := 69 } s m args below meth c D cy ad X 11 (sQ below args s 0 0 D cy ad (.inr (some (.int r))) X σ') σ 23 [(0, .ref (ad 44)), (1, .int v1), (2, .int v2), (3, .int v3)] [.int vs0] := by
  replace hf : (rthn (f_X5_isMap v1 σ) (fun vr4 => if vr4 = 0 then (wthn (f_X5_refused (1 : Int32) σ) (fun vr6 σ6 => if vr6 = 0 then (b_X5_combine_85 FU v1 v2 v3 (0 : Int32) σ6) else (some ((0 : Int32), σ6)))) else (rthn (f_X5_isMap v2 σ) (fun vr8 => if vr8 = 0 then (wthn (f_X5_refused (1 : Int32) σ) (fun vr22 σ22 => if vr22 = 0 then (b_X5_combine_85 FU v1 v2 v3 (0 : Int32) σ22) else (some ((0 : Int32), σ22)))) else (if vs0 = 0 then (wthn (f_X5_refused (2 : Int32) σ) (fun vr11 σ11 => if vr11 = 0 then (b_X5_combine_85 FU v1 v2 v3 (0 : Int32) σ11) else (some ((0 : Int32), σ11)))) else (if v1 = v2 then (wthn (f_X5_refused (2 : Int32) σ) (fun vr20 σ20 => if vr20 = 0 then (b_X5_combine_85 FU v1 v2 v3 (0 : Int32) σ20) else (some ((0 : Int32), σ20)))) else (rthn (f_X5_manyTogether v1 v2 σ) (fun vr14 => if vr14 ≤ (60 : Int32) then (wthn (f_X5_refused (0 : Int32) σ) (fun vr16 σ16 => if vr16 = 0 then (b_X5_combine_85 FU v1 v2 v3 (0 : Int32) σ16) else (some ((0 : Int32), σ16)))) else (wthn (f_X5_refused (3 : Int32) σ) (fun vr18 σ18 => if vr18 = 0 then (b_X5_combine_85 FU v1 v2 v3 (0 : Int32) σ18) else (some ((0 : Int32), σ18)))))))))))) = some (r, σ') := hf
  intro H locs ls h hl
  have hx := B.1
  have hb := B.2.1
  refine lv_istore (lv' := [(4, .int vs0), (0, .ref (ad 44)), (1, .int v1), (2, .int v2), (3, .int v3)]) hx hb dX5_combine_23 hl (by decide) rfl (fun ls hl => ?_)
  refine lv_aload_n hx hb dX5_combine_25 rfl (lv_at hl 1 rfl) ?_
  refine lv_iload_n hx hb dX5_combine_26 rfl (lv_at hl 2 rfl) ?_
  obtain ⟨vr4, hq4, hf⟩ := rthn_some hf
  refine sRetC1 (g_runS B h (ok_X5_isMap B.2.2.2.2.2.2.2.2 B.2.2.2.2.2.2.1 _ _ v1 hq4) cw_X5_87 ⟨Nat.le_of_ble_eq_true rfl, Nat.le_of_ble_eq_true rfl⟩ rfl hl.1.symm rfl (Nat.le_of_ble_eq_true rfl) dX5_combine_27 ⟨Nat.zero_le _, Nat.zero_le _⟩) h (fun H locs h => ?_)
  refine lv_if_eq (tgt := 40) hx hb dX5_combine_30 (by decide) (fun c5 => ?_) (fun c5 => ?_)
  · rw [if_pos c5] at hf
    refine lv_iconst (v := (1 : Int32)) hx hb dX5_combine_40 (by decide) ?_
    refine lv_goto (tgt := 74) hx hb dX5_combine_41 (by decide) ?_
    obtain ⟨vr6, σ6, hq6, hf⟩ := wthn_some hf
    refine sRetC1 (g_runV (k := 44) (T := TX5) (N := 21) B h (ok_X5_refused B.2.2.2.2.2.2.2.2 B.2.2.2.2.2.2.1 _ _ (1 : Int32) hq6) cw_X5_95 ⟨Nat.le_of_ble_eq_true rfl, Nat.le_of_ble_eq_true rfl⟩ (by decide) (M_row _) rfl rfl hl.1.symm rfl (Nat.le_of_ble_eq_true rfl) dX5_combine_74 ⟨Nat.zero_le _, Nat.zero_le _⟩) h (fun H locs h => ?_)
    refine lv_if_eq (tgt := 82) hx hb dX5_combine_77 (by decide) (fun c7 => ?_) (fun c7 => ?_)
    · rw [if_pos c7] at hf
      refine lv_iconst (v := (0 : Int32)) hx hb dX5_combine_82 (by decide) ?_
      refine lv_istore (lv' := [(5, .int (0 : Int32)), (4, .int vs0), (0, .ref (ad 44)), (1, .int v1), (2, .int v2), (3, .int v3)]) hx hb dX5_combine_83 hl (by decide) rfl (fun ls hl => ?_)
      exact k_X5_combine_85 B hr  _ _ _ _ _ _ hf _ _ _ h (lv_sub hl [2, 3, 4, 5, 0] rfl)
    · rw [if_neg c7] at hf
      refine lv_iconst (v := (0 : Int32)) hx hb dX5_combine_80 (by decide) ?_
      obtain ⟨rfl, rfl⟩ := Prod.mk.inj (Option.some.inj hf)
      exact sE_i B hr h dX5_combine_81
  · rw [if_neg c5] at hf
    refine lv_iload_n hx hb dX5_combine_33 rfl (lv_at hl 3 rfl) ?_
    obtain ⟨vr8, hq8, hf⟩ := rthn_some hf
    refine sRetC1 (g_runS B h (ok_X5_isMap B.2.2.2.2.2.2.2.2 B.2.2.2.2.2.2.1 _ _ v2 hq8) cw_X5_87 ⟨Nat.le_of_ble_eq_true rfl, Nat.le_of_ble_eq_true rfl⟩ rfl hl.1.symm rfl (Nat.le_of_ble_eq_true rfl) dX5_combine_34 ⟨Nat.zero_le _, Nat.zero_le _⟩) h (fun H locs h => ?_)
    refine lv_if_ne (tgt := 44) hx hb dX5_combine_37 (by decide) (fun c9 => ?_) (fun c9 => ?_)
    · rw [if_neg c9] at hf
      refine lv_iload hx hb dX5_combine_44 (lv_at hl 0 rfl) ?_
      refine lv_if_eq (tgt := 54) hx hb dX5_combine_46 (by decide) (fun c10 => ?_) (fun c10 => ?_)
      · rw [if_pos c10] at hf
        refine lv_iconst (v := (2 : Int32)) hx hb dX5_combine_54 (by decide) ?_
        refine lv_goto (tgt := 74) hx hb dX5_combine_55 (by decide) ?_
        obtain ⟨vr11, σ11, hq11, hf⟩ := wthn_some hf
        refine sRetC1 (g_runV (k := 44) (T := TX5) (N := 21) B h (ok_X5_refused B.2.2.2.2.2.2.2.2 B.2.2.2.2.2.2.1 _ _ (2 : Int32) hq11) cw_X5_95 ⟨Nat.le_of_ble_eq_true rfl, Nat.le_of_ble_eq_true rfl⟩ (by decide) (M_row _) rfl rfl hl.1.symm rfl (Nat.le_of_ble_eq_true rfl) dX5_combine_74 ⟨Nat.zero_le _, Nat.zero_le _⟩) h (fun H locs h => ?_)
        refine lv_if_eq (tgt := 82) hx hb dX5_combine_77 (by decide) (fun c12 => ?_) (fun c12 => ?_)
        · rw [if_pos c12] at hf
          refine lv_iconst (v := (0 : Int32)) hx hb dX5_combine_82 (by decide) ?_
          refine lv_istore (lv' := [(5, .int (0 : Int32)), (4, .int vs0), (0, .ref (ad 44)), (1, .int v1), (2, .int v2), (3, .int v3)]) hx hb dX5_combine_83 hl (by decide) rfl (fun ls hl => ?_)
          exact k_X5_combine_85 B hr  _ _ _ _ _ _ hf _ _ _ h (lv_sub hl [2, 3, 4, 5, 0] rfl)
        · rw [if_neg c12] at hf
          refine lv_iconst (v := (0 : Int32)) hx hb dX5_combine_80 (by decide) ?_
          obtain ⟨rfl, rfl⟩ := Prod.mk.inj (Option.some.inj hf)
          exact sE_i B hr h dX5_combine_81
      · rw [if_neg c10] at hf
        refine lv_iload_n hx hb dX5_combine_49 rfl (lv_at hl 2 rfl) ?_
        refine lv_iload_n hx hb dX5_combine_50 rfl (lv_at hl 3 rfl) ?_
        refine lv_icmp_ne (tgt := 58) hx hb dX5_combine_51 (by decide) (fun c13 => ?_) (fun c13 => ?_)
        · rw [if_neg c13] at hf
          refine lv_aload_n hx hb dX5_combine_58 rfl (lv_at hl 1 rfl) ?_
          refine lv_iload_n hx hb dX5_combine_59 rfl (lv_at hl 2 rfl) ?_
          refine lv_iload_n hx hb dX5_combine_60 rfl (lv_at hl 3 rfl) ?_
          obtain ⟨vr14, hq14, hf⟩ := rthn_some hf
          refine sRetC1 (g_runV (k := 44) (T := TX5) (N := 21) B h (ok_X5_manyTogether B.2.2.2.2.2.2.2.2 B.2.2.2.2.2.2.1 _ _ v1 v2 hq14) cw_X5_158 ⟨Nat.le_of_ble_eq_true rfl, Nat.le_of_ble_eq_true rfl⟩ (by decide) (M_row _) rfl rfl hl.1.symm rfl (Nat.le_of_ble_eq_true rfl) dX5_combine_61 ⟨Nat.zero_le _, Nat.zero_le _⟩) h (fun H locs h => ?_)
          refine lv_bipush (v := (60 : Int32)) hx hb dX5_combine_64 (by decide) ?_
          refine lv_icmp_le (tgt := 73) hx hb dX5_combine_66 (by decide) (fun c15 => ?_) (fun c15 => ?_)
          · rw [if_pos c15] at hf
            refine lv_iconst (v := (0 : Int32)) hx hb dX5_combine_73 (by decide) ?_
            obtain ⟨vr16, σ16, hq16, hf⟩ := wthn_some hf
            refine sRetC1 (g_runV (k := 44) (T := TX5) (N := 21) B h (ok_X5_refused B.2.2.2.2.2.2.2.2 B.2.2.2.2.2.2.1 _ _ (0 : Int32) hq16) cw_X5_95 ⟨Nat.le_of_ble_eq_true rfl, Nat.le_of_ble_eq_true rfl⟩ (by decide) (M_row _) rfl rfl hl.1.symm rfl (Nat.le_of_ble_eq_true rfl) dX5_combine_74 ⟨Nat.zero_le _, Nat.zero_le _⟩) h (fun H locs h => ?_)
            refine lv_if_eq (tgt := 82) hx hb dX5_combine_77 (by decide) (fun c17 => ?_) (fun c17 => ?_)
            · rw [if_pos c17] at hf
              refine lv_iconst (v := (0 : Int32)) hx hb dX5_combine_82 (by decide) ?_
              refine lv_istore (lv' := [(5, .int (0 : Int32)), (4, .int vs0), (0, .ref (ad 44)), (1, .int v1), (2, .int v2), (3, .int v3)]) hx hb dX5_combine_83 hl (by decide) rfl (fun ls hl => ?_)
              exact k_X5_combine_85 B hr  _ _ _ _ _ _ hf _ _ _ h (lv_sub hl [2, 3, 4, 5, 0] rfl)
            · rw [if_neg c17] at hf
              refine lv_iconst (v := (0 : Int32)) hx hb dX5_combine_80 (by decide) ?_
              obtain ⟨rfl, rfl⟩ := Prod.mk.inj (Option.some.inj hf)
              exact sE_i B hr h dX5_combine_81
          · rw [if_neg c15] at hf
            refine lv_iconst (v := (3 : Int32)) hx hb dX5_combine_69 (by decide) ?_
            refine lv_goto (tgt := 74) hx hb dX5_combine_70 (by decide) ?_
            obtain ⟨vr18, σ18, hq18, hf⟩ := wthn_some hf
            refine sRetC1 (g_runV (k := 44) (T := TX5) (N := 21) B h (ok_X5_refused B.2.2.2.2.2.2.2.2 B.2.2.2.2.2.2.1 _ _ (3 : Int32) hq18) cw_X5_95 ⟨Nat.le_of_ble_eq_true rfl, Nat.le_of_ble_eq_true rfl⟩ (by decide) (M_row _) rfl rfl hl.1.symm rfl (Nat.le_of_ble_eq_true rfl) dX5_combine_74 ⟨Nat.zero_le _, Nat.zero_le _⟩) h (fun H locs h => ?_)
            refine lv_if_eq (tgt := 82) hx hb dX5_combine_77 (by decide) (fun c19 => ?_) (fun c19 => ?_)
            · rw [if_pos c19] at hf
              refine lv_iconst (v := (0 : Int32)) hx hb dX5_combine_82 (by decide) ?_
              refine lv_istore (lv' := [(5, .int (0 : Int32)), (4, .int vs0), (0, .ref (ad 44)), (1, .int v1), (2, .int v2), (3, .int v3)]) hx hb dX5_combine_83 hl (by decide) rfl (fun ls hl => ?_)
              exact k_X5_combine_85 B hr  _ _ _ _ _ _ hf _ _ _ h (lv_sub hl [2, 3, 4, 5, 0] rfl)
            · rw [if_neg c19] at hf
              refine lv_iconst (v := (0 : Int32)) hx hb dX5_combine_80 (by decide) ?_
              obtain ⟨rfl, rfl⟩ := Prod.mk.inj (Option.some.inj hf)
              exact sE_i B hr h dX5_combine_81
        · rw [if_pos c13] at hf
          refine lv_iconst (v := (2 : Int32)) hx hb dX5_combine_54 (by decide) ?_
          refine lv_goto (tgt := 74) hx hb dX5_combine_55 (by decide) ?_
          obtain ⟨vr20, σ20, hq20, hf⟩ := wthn_some hf
          refine sRetC1 (g_runV (k := 44) (T := TX5) (N := 21) B h (ok_X5_refused B.2.2.2.2.2.2.2.2 B.2.2.2.2.2.2.1 _ _ (2 : Int32) hq20) cw_X5_95 ⟨Nat.le_of_ble_eq_true rfl, Nat.le_of_ble_eq_true rfl⟩ (by decide) (M_row _) rfl rfl hl.1.symm rfl (Nat.le_of_ble_eq_true rfl) dX5_combine_74 ⟨Nat.zero_le _, Nat.zero_le _⟩) h (fun H locs h => ?_)
          refine lv_if_eq (tgt := 82) hx hb dX5_combine_77 (by decide) (fun c21 => ?_) (fun c21 => ?_)
          · rw [if_pos c21] at hf
            refine lv_iconst (v := (0 : Int32)) hx hb dX5_combine_82 (by decide) ?_
            refine lv_istore (lv' := [(5, .int (0 : Int32)), (4, .int vs0), (0, .ref (ad 44)), (1, .int v1), (2, .int v2), (3, .int v3)]) hx hb dX5_combine_83 hl (by decide) rfl (fun ls hl => ?_)
            exact k_X5_combine_85 B hr  _ _ _ _ _ _ hf _ _ _ h (lv_sub hl [2, 3, 4, 5, 0] rfl)
          · rw [if_neg c21] at hf
            refine lv_iconst (v := (0 : Int32)) hx hb dX5_combine_80 (by decide) ?_
            obtain ⟨rfl, rfl⟩ := Prod.mk.inj (Option.some.inj hf)
            exact sE_i B hr h dX5_combine_81
    · rw [if_pos c9] at hf
      refine lv_iconst (v := (1 : Int32)) hx hb dX5_combine_40 (by decide) ?_
      refine lv_goto (tgt := 74) hx hb dX5_combine_41 (by decide) ?_
      obtain ⟨vr22, σ22, hq22, hf⟩ := wthn_some hf
      refine sRetC1 (g_runV (k := 44) (T := TX5) (N := 21) B h (ok_X5_refused B.2.2.2.2.2.2.2.2 B.2.2.2.2.2.2.1 _ _ (1 : Int32) hq22) cw_X5_95 ⟨Nat.le_of_ble_eq_true rfl, Nat.le_of_ble_eq_true rfl⟩ (by decide) (M_row _) rfl rfl hl.1.symm rfl (Nat.le_of_ble_eq_true rfl) dX5_combine_74 ⟨Nat.zero_le _, Nat.zero_le _⟩) h (fun H locs h => ?_)
      refine lv_if_eq (tgt := 82) hx hb dX5_combine_77 (by decide) (fun c23 => ?_) (fun c23 => ?_)
      · rw [if_pos c23] at hf
        refine lv_iconst (v := (0 : Int32)) hx hb dX5_combine_82 (by decide) ?_
        refine lv_istore (lv' := [(5, .int (0 : Int32)), (4, .int vs0), (0, .ref (ad 44)), (1, .int v1), (2, .int v2), (3, .int v3)]) hx hb dX5_combine_83 hl (by decide) rfl (fun ls hl => ?_)
        exact k_X5_combine_85 B hr  _ _ _ _ _ _ hf _ _ _ h (lv_sub hl [2, 3, 4, 5, 0] rfl)
      · rw [if_neg c23] at hf
        refine lv_iconst (v := (0 : Int32)) hx hb dX5_combine_80 (by decide) ?_
        obtain ⟨rfl, rfl⟩ := Prod.mk.inj (Option.some.inj hf)
        exact sE_i B hr h dX5_combine_81
set_option maxHeartbeats 4000000 in
set_option maxRecDepth 100000 in
theorem k_X5_combine_0 {p : Program} {l : Launch} {e : Env} {s : State} {m : MethodId} {args : Array Value} {below : List Frame} {meth : Method} {c : Code} {D : va_G} {cy : Nat → ClassId} {ad : Nat → Nat} {X : sX} {r : Int32} {σ' : sM} (B : sB p l s m meth c args cX5_combine 11 RX5 D cy ad) (hr : meth.sig.returnType = (some .int)) (v1 : Int32) (v2 : Int32) (v3 : Int32) (σ : sM) (hf : f_X5_combine v1 v2 v3 σ = some (r, σ')) : sGo p l e { frames := 3, cells := 0, slots := 0, locals := 69 } s m args below meth c D cy ad X 11 (sQ below args s 0 0 D cy ad (.inr (some (.int r))) X σ') σ 0 [(0, .ref (ad 44)), (1, .int v1), (2, .int v2), (3, .int v3)] [] := by
  replace hf : (if v3 = (115 : Int32) then (b_X5_combine_23 v1 v2 v3 (1 : Int32) σ) else (if v3 = (103 : Int32) then (b_X5_combine_23 v1 v2 v3 (1 : Int32) σ) else (if v3 = (108 : Int32) then (b_X5_combine_23 v1 v2 v3 (1 : Int32) σ) else (b_X5_combine_23 v1 v2 v3 (0 : Int32) σ)))) = some (r, σ') := hf
  intro H locs ls h hl
  have hx := B.1
  have hb := B.2.1
  refine lv_iload_n hx hb dX5_combine_0 rfl (lv_at hl 3 rfl) ?_
  refine lv_bipush (v := (115 : Int32)) hx hb dX5_combine_1 (by decide) ?_
  refine lv_icmp_eq (tgt := 18) hx hb dX5_combine_3 (by decide) (fun c1 => ?_) (fun c1 => ?_)
  · rw [if_pos c1] at hf
    refine lv_iconst (v := (1 : Int32)) hx hb dX5_combine_18 (by decide) ?_
    refine lv_goto (tgt := 23) hx hb dX5_combine_19 (by decide) ?_
    exact k_X5_combine_23 B hr  _ _ _ _ _ hf _ _ _ h (lv_sub hl [0, 1, 2, 3] rfl)
  · rw [if_neg c1] at hf
    refine lv_iload_n hx hb dX5_combine_6 rfl (lv_at hl 3 rfl) ?_
    refine lv_bipush (v := (103 : Int32)) hx hb dX5_combine_7 (by decide) ?_
    refine lv_icmp_eq (tgt := 18) hx hb dX5_combine_9 (by decide) (fun c2 => ?_) (fun c2 => ?_)
    · rw [if_pos c2] at hf
      refine lv_iconst (v := (1 : Int32)) hx hb dX5_combine_18 (by decide) ?_
      refine lv_goto (tgt := 23) hx hb dX5_combine_19 (by decide) ?_
      exact k_X5_combine_23 B hr  _ _ _ _ _ hf _ _ _ h (lv_sub hl [0, 1, 2, 3] rfl)
    · rw [if_neg c2] at hf
      refine lv_iload_n hx hb dX5_combine_12 rfl (lv_at hl 3 rfl) ?_
      refine lv_bipush (v := (108 : Int32)) hx hb dX5_combine_13 (by decide) ?_
      refine lv_icmp_ne (tgt := 22) hx hb dX5_combine_15 (by decide) (fun c3 => ?_) (fun c3 => ?_)
      · rw [if_neg c3] at hf
        refine lv_iconst (v := (0 : Int32)) hx hb dX5_combine_22 (by decide) ?_
        exact k_X5_combine_23 B hr  _ _ _ _ _ hf _ _ _ h (lv_sub hl [0, 1, 2, 3] rfl)
      · rw [if_pos c3] at hf
        refine lv_iconst (v := (1 : Int32)) hx hb dX5_combine_18 (by decide) ?_
        refine lv_goto (tgt := 23) hx hb dX5_combine_19 (by decide) ?_
        exact k_X5_combine_23 B hr  _ _ _ _ _ hf _ _ _ h (lv_sub hl [0, 1, 2, 3] rfl)
set_option maxRecDepth 100000 in
theorem ok_X5_combine {l : Launch} (hl0 : l.stackTraces = false) {D : va_G} {cy : Nat → ClassId} {ad : Nat → Nat} (hap : sAp ad) (X : sX) (σ : sM) (v1 : Int32) (v2 : Int32) (v3 : Int32) {r : Int32} {σ' : sM} (hf : f_X5_combine v1 v2 v3 σ = some (r, σ')) : sMet l yX5_combine (sWs yX5_combine cX5_combine 11 (some .int)) 3 69 0 0 D cy ad X σ [.ref (ad 44), .int v1, .int v2, .int v3] (.inr (some (.int r))) X σ' := by
  refine sMet_of (by decide +kernel) (Nat.le_of_ble_eq_true rfl) hap hl0 ?_
  intro p e s m args below meth c ls B hr htab hl h
  exact k_X5_combine_0 B hr _ _ _ _  hf _ _ _ h hl
