set_option maxHeartbeats 4000000 in
set_option maxRecDepth 100000 in
theorem k_X4_isMixWay_0 {p : Program} {l : Launch} {e : Env} {s : State} {m : MethodId} {args : Array Value} {below : List Frame} {meth : Method} {c : Code} {D : va_G} {cy : Nat → ClassId} {ad : Nat → Nat} {X : sX} {r : Int32} (B : sB p l s m meth c args cX4_isMixWay 1 RX4 D cy ad) (hr : meth.sig.returnType = (some .boolean)) (v0 : Int32) (σ : sM) (hf : f_X4_isMixWay v0 σ = some r) : sGo p l e { frames := 0, cells := 0, slots := 0, locals := 0 } s m args below meth c D cy ad X 1 (sQ below args s 0 0 D cy ad (.inr (some (.int r))) X σ) σ 0 [(0, .int v0)] [] := by
  replace hf : (if v0 = (115 : Int32) then (some (1 : Int32)) else (if v0 = (103 : Int32) then (some (1 : Int32)) else (if v0 = (108 : Int32) then (some (1 : Int32)) else (some (0 : Int32))))) = some r := hf
  intro H locs ls h hl
  have hx := B.1
  have hb := B.2.1
  refine lv_iload_n hx hb dX4_isMixWay_0 rfl (lv_at hl 0 rfl) ?_
  refine lv_bipush (v := (115 : Int32)) hx hb dX4_isMixWay_1 (by decide) ?_
  refine lv_icmp_eq (tgt := 18) hx hb dX4_isMixWay_3 (by decide) (fun c1 => ?_) (fun c1 => ?_)
  · rw [if_pos c1] at hf
    refine lv_iconst (v := (1 : Int32)) hx hb dX4_isMixWay_18 (by decide) ?_
    refine lv_goto (tgt := 23) hx hb dX4_isMixWay_19 (by decide) ?_
    obtain rfl := Option.some.inj hf
    exact sE_z B hr h rfl dX4_isMixWay_23
  · rw [if_neg c1] at hf
    refine lv_iload_n hx hb dX4_isMixWay_6 rfl (lv_at hl 0 rfl) ?_
    refine lv_bipush (v := (103 : Int32)) hx hb dX4_isMixWay_7 (by decide) ?_
    refine lv_icmp_eq (tgt := 18) hx hb dX4_isMixWay_9 (by decide) (fun c2 => ?_) (fun c2 => ?_)
    · rw [if_pos c2] at hf
      refine lv_iconst (v := (1 : Int32)) hx hb dX4_isMixWay_18 (by decide) ?_
      refine lv_goto (tgt := 23) hx hb dX4_isMixWay_19 (by decide) ?_
      obtain rfl := Option.some.inj hf
      exact sE_z B hr h rfl dX4_isMixWay_23
    · rw [if_neg c2] at hf
      refine lv_iload_n hx hb dX4_isMixWay_12 rfl (lv_at hl 0 rfl) ?_
      refine lv_bipush (v := (108 : Int32)) hx hb dX4_isMixWay_13 (by decide) ?_
      refine lv_icmp_ne (tgt := 22) hx hb dX4_isMixWay_15 (by decide) (fun c3 => ?_) (fun c3 => ?_)
      · rw [if_neg c3] at hf
        refine lv_iconst (v := (0 : Int32)) hx hb dX4_isMixWay_22 (by decide) ?_
        obtain rfl := Option.some.inj hf
        exact sE_z B hr h rfl dX4_isMixWay_23
      · rw [if_pos c3] at hf
        refine lv_iconst (v := (1 : Int32)) hx hb dX4_isMixWay_18 (by decide) ?_
        refine lv_goto (tgt := 23) hx hb dX4_isMixWay_19 (by decide) ?_
        obtain rfl := Option.some.inj hf
        exact sE_z B hr h rfl dX4_isMixWay_23
set_option maxRecDepth 100000 in
theorem ok_X4_isMixWay {l : Launch} (hl0 : l.stackTraces = false) {D : va_G} {cy : Nat → ClassId} {ad : Nat → Nat} (hap : sAp ad) (X : sX) (σ : sM) (v0 : Int32) {r : Int32} (hf : f_X4_isMixWay v0 σ = some r) : sMet l yX4_isMixWay (sWs yX4_isMixWay cX4_isMixWay 1 (some .boolean)) 0 0 0 0 D cy ad X σ [.int v0] (.inr (some (.int r))) X σ := by
  refine sMet_of (by decide +kernel) (Nat.le_of_ble_eq_true rfl) hap hl0 ?_
  intro p e s m args below meth c ls B hr htab hl h
  exact k_X4_isMixWay_0 B hr _ _  hf _ _ _ h hl
set_option maxHeartbeats 4000000 in
set_option maxRecDepth 100000 in
theorem k_X4_combine_0 {p : Program} {l : Launch} {e : Env} {s : State} {m : MethodId} {args : Array Value} {below : List Frame} {meth : Method} {c : Code} {D : va_G} {cy : Nat → ClassId} {ad : Nat → Nat} {X : sX} {oo : String ⊕ Int32} {σ' : sM} (B : sB p l s m meth c args cX4_combine 6 RX4 D cy ad) (hr : meth.sig.returnType = (some .int)) (htab : ∀ x ∈ c.exceptionTable.toList, False) (v1 : Int32) (v2 : Int32) (v3 : Int32) (σ : sM) (hf : f_X4_combine v1 v2 v3 σ = some (oo, σ')) : sGo p l e { frames := 7, cells := (sC (oI oo)), slots := (sS (oI oo)), locals := 158 } s m args below meth c D cy ad X 6 (sQ below args s (sC (oI oo)) (sS (oI oo)) D cy ad (oI oo) X σ') σ 0 [(0, .ref (ad 0)), (1, .int v1), (2, .int v2), (3, .int v3)] [] := by
  replace hf : (thn (f_X4_mapAt v1 σ) (fun tr1 σ1 => chk (isTb tr1) (thn (f_X4_mapAt v2 σ1) (fun tr3 σ3 => chk (isTb tr3) (rthn (f_X4_isMixWay v3 σ3) (fun vr5 => if vr5 = 0 then (some (.inl "java/lang/IllegalArgumentException", σ3)) else (if v1 = v2 then (some (.inl "java/lang/IllegalArgumentException", σ3)) else (rthn (f_X2_countMissingIn tr1 tr3 σ3) (fun vr8 => if ((σ3 tr3 2) + vr8) ≤ (60 : Int32) then (wthn (f_X2_takeIn tr3 tr1 v3 σ3) (fun _ σ10 => some (.inr (σ10 tr3 2), σ10))) else (some (.inl "java/lang/IllegalStateException", σ3))))))))))) = some (oo, σ') := hf
  intro H locs ls h hl
  have hx := B.1
  have hb := B.2.1
  refine lv_aload_n hx hb dX4_combine_0 rfl (lv_at hl 0 rfl) ?_
  refine lv_iload_n hx hb dX4_combine_1 rfl (lv_at hl 1 rfl) ?_
  rcases thn_cases hf with ⟨E1, σ1, hq1, ho⟩ | ⟨tr1, σ1, hq1, hf⟩
  · cases ho
    have hM := ok_X4_mapAt (D := D) (cy := cy) B.2.2.2.2.2.2.2.2 B.2.2.2.2.2.2.1 X _ v1 hq1
    exact sThrC (g_runV (o := .inl E1) (mc := 1) (ms := 6) (k := 0) (T := TX4) (N := 8) B h hM cw_X4_41 ⟨Nat.le_of_ble_eq_true rfl, Nat.le_of_ble_eq_true rfl⟩ (by decide) (S_row _) rfl rfl hl.1.symm rfl (Nat.le_of_ble_eq_true rfl) dX4_combine_2 ⟨Nat.le_of_eq (Nat.zero_add _), Nat.le_of_eq (Nat.zero_add _)⟩) h (fun H locs q ce h hc hv hcl => sE_out B htab h hc hv hcl (Nat.le_of_eq (Nat.zero_add _)) (Nat.le_of_eq (Nat.zero_add _)))
  have hM := ok_X4_mapAt (D := D) (cy := cy) B.2.2.2.2.2.2.2.2 B.2.2.2.2.2.2.1 X _ v1 hq1
  refine sRetC1 (g_runV (o := .inr (some (.ref (ad tr1)))) (mc := 0) (ms := 0) (k := 0) (T := TX4) (N := 8) B h hM cw_X4_41 ⟨Nat.le_of_ble_eq_true rfl, Nat.le_of_ble_eq_true rfl⟩ (by decide) (S_row _) rfl rfl hl.1.symm rfl (Nat.le_of_ble_eq_true rfl) dX4_combine_2 ⟨Nat.zero_le _, Nat.zero_le _⟩) h (fun H locs h => ?_)
  obtain ⟨c2, hf⟩ := chk_some hf
  refine lv_astore (lv' := [(4, .ref (ad tr1)), (0, .ref (ad 0)), (1, .int v1), (2, .int v2), (3, .int v3)]) hx hb dX4_combine_5 hl (by decide) rfl (fun ls hl => ?_)
  refine lv_aload_n hx hb dX4_combine_7 rfl (lv_at hl 1 rfl) ?_
  refine lv_iload_n hx hb dX4_combine_8 rfl (lv_at hl 3 rfl) ?_
  rcases thn_cases hf with ⟨E3, σ3, hq3, ho⟩ | ⟨tr3, σ3, hq3, hf⟩
  · cases ho
    have hM := ok_X4_mapAt (D := D) (cy := cy) B.2.2.2.2.2.2.2.2 B.2.2.2.2.2.2.1 X _ v2 hq3
    exact sThrC (g_runV (o := .inl E3) (mc := 1) (ms := 6) (k := 0) (T := TX4) (N := 8) B h hM cw_X4_41 ⟨Nat.le_of_ble_eq_true rfl, Nat.le_of_ble_eq_true rfl⟩ (by decide) (S_row _) rfl rfl hl.1.symm rfl (Nat.le_of_ble_eq_true rfl) dX4_combine_9 ⟨Nat.le_of_eq (Nat.zero_add _), Nat.le_of_eq (Nat.zero_add _)⟩) h (fun H locs q ce h hc hv hcl => sE_out B htab h hc hv hcl (Nat.le_of_eq (Nat.zero_add _)) (Nat.le_of_eq (Nat.zero_add _)))
  have hM := ok_X4_mapAt (D := D) (cy := cy) B.2.2.2.2.2.2.2.2 B.2.2.2.2.2.2.1 X _ v2 hq3
  refine sRetC1 (g_runV (o := .inr (some (.ref (ad tr3)))) (mc := 0) (ms := 0) (k := 0) (T := TX4) (N := 8) B h hM cw_X4_41 ⟨Nat.le_of_ble_eq_true rfl, Nat.le_of_ble_eq_true rfl⟩ (by decide) (S_row _) rfl rfl hl.1.symm rfl (Nat.le_of_ble_eq_true rfl) dX4_combine_9 ⟨Nat.zero_le _, Nat.zero_le _⟩) h (fun H locs h => ?_)
  obtain ⟨c4, hf⟩ := chk_some hf
  refine lv_astore (lv' := [(5, .ref (ad tr3)), (4, .ref (ad tr1)), (0, .ref (ad 0)), (1, .int v1), (2, .int v2), (3, .int v3)]) hx hb dX4_combine_12 hl (by decide) rfl (fun ls hl => ?_)
  refine lv_iload_n hx hb dX4_combine_14 rfl (lv_at hl 5 rfl) ?_
  obtain ⟨vr5, hq5, hf⟩ := rthn_some hf
  refine sRetC1 (g_runS B h (ok_X4_isMixWay B.2.2.2.2.2.2.2.2 B.2.2.2.2.2.2.1 _ _ v3 hq5) cw_X4_213 ⟨Nat.le_of_ble_eq_true rfl, Nat.le_of_ble_eq_true rfl⟩ rfl hl.1.symm rfl (Nat.le_of_ble_eq_true rfl) dX4_combine_15 ⟨Nat.zero_le _, Nat.zero_le _⟩) h (fun H locs h => ?_)
  refine lv_if_eq (tgt := 26) hx hb dX4_combine_18 (by decide) (fun c6 => ?_) (fun c6 => ?_)
  · rw [if_pos c6] at hf
    obtain ⟨rfl, rfl⟩ := Prod.mk.inj (Option.some.inj hf)
    exact sE_thr (own := RX4) (E := "java/lang/IllegalArgumentException") (text := "no such way, or a map with itself") (ic := 79) B htab h hl.1.symm ["java/lang/RuntimeException", "java/lang/Exception"] (by decide +kernel) (by decide +kernel) hw508 hw16 (by decide +kernel) (by decide +kernel) at_X4_79_g at_X4_79_n at_X4_79_o dX4_combine_26 dX4_combine_29 dX4_combine_30 dX4_combine_32 dX4_combine_35 (Nat.le_of_ble_eq_true rfl) (Nat.le_of_ble_eq_true rfl) (Nat.le_of_eq (Nat.zero_add _)) (Nat.le_of_eq (Nat.zero_add _)) (Nat.le_of_eq (Nat.zero_add _)) (Nat.le_of_eq (Nat.zero_add _))
  · rw [if_neg c6] at hf
    refine lv_iload_n hx hb dX4_combine_21 rfl (lv_at hl 3 rfl) ?_
    refine lv_iload_n hx hb dX4_combine_22 rfl (lv_at hl 4 rfl) ?_
    refine lv_icmp_ne (tgt := 36) hx hb dX4_combine_23 (by decide) (fun c7 => ?_) (fun c7 => ?_)
    · rw [if_neg c7] at hf
      refine lv_aload hx hb dX4_combine_36 (lv_at hl 0 rfl) ?_
      refine g_get B h tr3 (T_lt (isTb_T c4)) (C := RX2) (T := TX2) (N := 3) (T_row (isTb_T c4) _) rfl hin_X2 2 (by decide) hw53 rfl rfl dX4_combine_38 ?_
      refine lv_aload hx hb dX4_combine_41 (lv_at hl 1 rfl) ?_
      refine lv_aload hx hb dX4_combine_43 (lv_at hl 0 rfl) ?_
      obtain ⟨vr8, hq8, hf⟩ := rthn_some hf
      refine sRetC1 (g_runV (k := tr1) (T := TX2) (N := 3) B h (ok_X2_countMissingIn B.2.2.2.2.2.2.2.2 B.2.2.2.2.2.2.1 _ _ (isTb_T c2) (isTb_T c4) hq8) cw_X4_218 ⟨Nat.le_of_ble_eq_true rfl, Nat.le_of_ble_eq_true rfl⟩ (T_lt (isTb_T c2)) (T_row (isTb_T c2) _) rfl rfl hl.1.symm rfl (Nat.le_of_ble_eq_true rfl) dX4_combine_45 ⟨Nat.zero_le _, Nat.zero_le _⟩) h (fun H locs h => ?_)
      refine lv_iadd hx hb dX4_combine_48 ?_
      refine lv_bipush (v := (60 : Int32)) hx hb dX4_combine_49 (by decide) ?_
      refine lv_icmp_le (tgt := 64) hx hb dX4_combine_51 (by decide) (fun c9 => ?_) (fun c9 => ?_)
      · rw [if_pos c9] at hf
        refine lv_aload hx hb dX4_combine_64 (lv_at hl 0 rfl) ?_
        refine lv_aload hx hb dX4_combine_66 (lv_at hl 1 rfl) ?_
        refine lv_iload_n hx hb dX4_combine_68 rfl (lv_at hl 5 rfl) ?_
        obtain ⟨vr10, σ10, hq10, hf⟩ := wthn_some hf
        refine sRetC0 (g_runV (k := tr3) (T := TX2) (N := 3) B h (ok_X2_takeIn B.2.2.2.2.2.2.2.2 B.2.2.2.2.2.2.1 _ _ (isTb_T c4) (isTb_T c2) v3 hq10) cw_X4_223 ⟨Nat.le_of_ble_eq_true rfl, Nat.le_of_ble_eq_true rfl⟩ (T_lt (isTb_T c4)) (T_row (isTb_T c4) _) rfl rfl hl.1.symm rfl (Nat.le_of_ble_eq_true rfl) dX4_combine_69 ⟨Nat.zero_le _, Nat.zero_le _⟩) h (fun H locs h => ?_)
        refine lv_aload hx hb dX4_combine_72 (lv_at hl 0 rfl) ?_
        refine g_get B h tr3 (T_lt (isTb_T c4)) (C := RX2) (T := TX2) (N := 3) (T_row (isTb_T c4) _) rfl hin_X2 2 (by decide) hw53 rfl rfl dX4_combine_74 ?_
        obtain ⟨rfl, rfl⟩ := Prod.mk.inj (Option.some.inj hf)
        exact sE_i B hr h dX4_combine_77
      · rw [if_neg c9] at hf
        obtain ⟨rfl, rfl⟩ := Prod.mk.inj (Option.some.inj hf)
        exact sE_thr (own := RX4) (E := "java/lang/IllegalStateException") (text := "both maps together are too many") (ic := 150) B htab h hl.1.symm ["java/lang/RuntimeException", "java/lang/Exception"] (by decide +kernel) (by decide +kernel) hw448 hw13 (by decide +kernel) (by decide +kernel) at_X4_150_g at_X4_150_n at_X4_150_o dX4_combine_54 dX4_combine_57 dX4_combine_58 dX4_combine_60 dX4_combine_63 (Nat.le_of_ble_eq_true rfl) (Nat.le_of_ble_eq_true rfl) (Nat.le_of_eq (Nat.zero_add _)) (Nat.le_of_eq (Nat.zero_add _)) (Nat.le_of_eq (Nat.zero_add _)) (Nat.le_of_eq (Nat.zero_add _))
    · rw [if_pos c7] at hf
      obtain ⟨rfl, rfl⟩ := Prod.mk.inj (Option.some.inj hf)
      exact sE_thr (own := RX4) (E := "java/lang/IllegalArgumentException") (text := "no such way, or a map with itself") (ic := 79) B htab h hl.1.symm ["java/lang/RuntimeException", "java/lang/Exception"] (by decide +kernel) (by decide +kernel) hw508 hw16 (by decide +kernel) (by decide +kernel) at_X4_79_g at_X4_79_n at_X4_79_o dX4_combine_26 dX4_combine_29 dX4_combine_30 dX4_combine_32 dX4_combine_35 (Nat.le_of_ble_eq_true rfl) (Nat.le_of_ble_eq_true rfl) (Nat.le_of_eq (Nat.zero_add _)) (Nat.le_of_eq (Nat.zero_add _)) (Nat.le_of_eq (Nat.zero_add _)) (Nat.le_of_eq (Nat.zero_add _))
set_option maxRecDepth 100000 in
theorem ok_X4_combine {l : Launch} (hl0 : l.stackTraces = false) {D : va_G} {cy : Nat → ClassId} {ad : Nat → Nat} (hap : sAp ad) (X : sX) (σ : sM) (v1 : Int32) (v2 : Int32) (v3 : Int32) {oo : String ⊕ Int32} {σ' : sM} (hf : f_X4_combine v1 v2 v3 σ = some (oo, σ')) : sMet l yX4_combine (sWs yX4_combine cX4_combine 6 (some .int)) 7 158 (sC (oI oo)) (sS (oI oo)) D cy ad X σ [.ref (ad 0), .int v1, .int v2, .int v3] (oI oo) X σ' := by
  refine sMet_of (by decide +kernel) (Nat.le_of_ble_eq_true rfl) hap hl0 ?_
  intro p e s m args below meth c ls B hr htab hl h
  exact k_X4_combine_0 B hr htab _ _ _ _  hf _ _ _ h hl
set_option maxHeartbeats 4000000 in
set_option maxRecDepth 100000 in
theorem k_X4_viewAt_0 {p : Program} {l : Launch} {e : Env} {s : State} {m : MethodId} {args : Array Value} {below : List Frame} {meth : Method} {c : Code} {D : va_G} {cy : Nat → ClassId} {ad : Nat → Nat} {X : sX} {oo : String ⊕ Nat} {σ' : sM} (B : sB p l s m meth c args cX4_viewAt 2 RX4 D cy ad) (hr : meth.sig.returnType = (some (.object "Spanwarden$View"))) (htab : ∀ x ∈ c.exceptionTable.toList, False) (v1 : Int32) (σ : sM) (hf : f_X4_viewAt v1 σ = some (oo, σ')) : sGo p l e { frames := 6, cells := (sC (oA ad oo)), slots := (sS (oA ad oo)), locals := 100 } s m args below meth c D cy ad X 2 (sQ below args s (sC (oA ad oo)) (sS (oA ad oo)) D cy ad (oA ad oo) X σ') σ 0 [(0, .ref (ad 0)), (1, .int v1)] [] := by
  replace hf : (if v1 < 0 then (some (.inl "java/lang/IndexOutOfBoundsException", σ)) else (if v1 < (4 : Int32) then (chk (inb v1 4) (some (.inr (24 + v1.toNatClampNeg), σ))) else (some (.inl "java/lang/IndexOutOfBoundsException", σ)))) = some (oo, σ') := hf
  intro H locs ls h hl
  have hx := B.1
  have hb := B.2.1
  refine lv_iload_n hx hb dX4_viewAt_0 rfl (lv_at hl 1 rfl) ?_
  refine lv_if_lt (tgt := 13) hx hb dX4_viewAt_1 (by decide) (fun c1 => ?_) (fun c1 => ?_)
  · rw [if_pos c1] at hf
    obtain ⟨rfl, rfl⟩ := Prod.mk.inj (Option.some.inj hf)
    exact sE_thrW (own := RX4) (E := "java/lang/IndexOutOfBoundsException") (text := "no such view") (ic := 113) B htab h hl.1.symm ["java/lang/RuntimeException", "java/lang/Exception"] (by decide +kernel) (by decide +kernel) hw431 hw10 (by decide +kernel) (by decide +kernel) at_X4_113_g at_X4_113_n at_X4_113_o dX4_viewAt_13 dX4_viewAt_16 dX4_viewAt_17 dX4_viewAt_20 dX4_viewAt_23 (Nat.le_of_ble_eq_true rfl) (Nat.le_of_ble_eq_true rfl) (Nat.le_of_eq (Nat.zero_add _)) (Nat.le_of_eq (Nat.zero_add _)) (Nat.le_of_eq (Nat.zero_add _)) (Nat.le_of_eq (Nat.zero_add _))
  · rw [if_neg c1] at hf
    refine lv_iload_n hx hb dX4_viewAt_4 rfl (lv_at hl 1 rfl) ?_
    refine lv_aload_n hx hb dX4_viewAt_5 rfl (lv_at hl 0 rfl) ?_
    refine g_get B h 0 (by decide) (C := RX4) (T := TX4) (N := 8) (S_row _) rfl hin_X4 1 (by decide) hw128 rfl rfl dX4_viewAt_6 ?_
    refine g_alen B h 2 (by decide) 4 rfl rfl (v := (4 : Int32)) rfl dX4_viewAt_9 ?_
    refine lv_icmp_lt (tgt := 24) hx hb dX4_viewAt_10 (by decide) (fun c2 => ?_) (fun c2 => ?_)
    · rw [if_pos c2] at hf
      refine lv_aload_n hx hb dX4_viewAt_24 rfl (lv_at hl 0 rfl) ?_
      refine g_get B h 0 (by decide) (C := RX4) (T := TX4) (N := 8) (S_row _) rfl hin_X4 1 (by decide) hw128 rfl rfl dX4_viewAt_25 ?_
      refine lv_iload_n hx hb dX4_viewAt_28 rfl (lv_at hl 1 rfl) ?_
      obtain ⟨c3, hf⟩ := chk_some hf
      refine g_aald B h 2 (by decide) 4 (C := RX3) (n := 4) rfl rfl (inb_in c3) (r := (24 + v1.toNatClampNeg)) (views_at c3) dX4_viewAt_29 ?_
      obtain ⟨rfl, rfl⟩ := Prod.mk.inj (Option.some.inj hf)
      exact sE_a B hr h dX4_viewAt_30
    · rw [if_neg c2] at hf
      obtain ⟨rfl, rfl⟩ := Prod.mk.inj (Option.some.inj hf)
      exact sE_thrW (own := RX4) (E := "java/lang/IndexOutOfBoundsException") (text := "no such view") (ic := 113) B htab h hl.1.symm ["java/lang/RuntimeException", "java/lang/Exception"] (by decide +kernel) (by decide +kernel) hw431 hw10 (by decide +kernel) (by decide +kernel) at_X4_113_g at_X4_113_n at_X4_113_o dX4_viewAt_13 dX4_viewAt_16 dX4_viewAt_17 dX4_viewAt_20 dX4_viewAt_23 (Nat.le_of_ble_eq_true rfl) (Nat.le_of_ble_eq_true rfl) (Nat.le_of_eq (Nat.zero_add _)) (Nat.le_of_eq (Nat.zero_add _)) (Nat.le_of_eq (Nat.zero_add _)) (Nat.le_of_eq (Nat.zero_add _))
set_option maxRecDepth 100000 in
theorem ok_X4_viewAt {l : Launch} (hl0 : l.stackTraces = false) {D : va_G} {cy : Nat → ClassId} {ad : Nat → Nat} (hap : sAp ad) (X : sX) (σ : sM) (v1 : Int32) {oo : String ⊕ Nat} {σ' : sM} (hf : f_X4_viewAt v1 σ = some (oo, σ')) : sMet l yX4_viewAt (sWs yX4_viewAt cX4_viewAt 2 (some (.object "Spanwarden$View"))) 6 100 (sC (oA ad oo)) (sS (oA ad oo)) D cy ad X σ [.ref (ad 0), .int v1] (oA ad oo) X σ' := by
  refine sMet_of (by decide +kernel) (Nat.le_of_ble_eq_true rfl) hap hl0 ?_
  intro p e s m args below meth c ls B hr htab hl h
  exact k_X4_viewAt_0 B hr htab _ _  hf _ _ _ h hl
set_option maxHeartbeats 4000000 in
set_option maxRecDepth 100000 in
theorem k_X4_refuseClosed_0 {p : Program} {l : Launch} {e : Env} {s : State} {m : MethodId} {args : Array Value} {below : List Frame} {meth : Method} {c : Code} {D : va_G} {cy : Nat → ClassId} {ad : Nat → Nat} {X : sX} {oo : String ⊕ Unit} {σ' : sM} (B : sB p l s m meth c args cX4_refuseClosed 1 RX4 D cy ad) (hr : meth.sig.returnType = none) (htab : ∀ x ∈ c.exceptionTable.toList, False) (t0 : Nat) (σ : sM) (ft0 : isV t0) (hf : f_X4_refuseClosed t0 σ = some (oo, σ')) : sGo p l e { frames := 6, cells := (sC (oV oo)), slots := (sS (oV oo)), locals := 100 } s m args below meth c D cy ad X 1 (sQ below args s (sC (oV oo)) (sS (oV oo)) D cy ad (oV oo) X σ') σ 0 [(0, .ref (ad t0))] [] := by
  replace hf : (srcm (sSrc (σ t0 0)) (some (.inl "java/util/NoSuchElementException", σ)) (fun ts1 => some (.inr (), σ))) = some (oo, σ') := hf
  intro H locs ls h hl
  have hx := B.1
  have hb := B.2.1
  refine lv_aload_n hx hb dX4_refuseClosed_0 rfl (lv_at hl 0 rfl) ?_
  rcases srcm_cases hf with ⟨s1, hf⟩ | ⟨ts1, s1, hf⟩
  · refine g_src0 B h t0 ft0 hin_X3 hw106 s1 dX4_refuseClosed_1 ?_
    refine lv_ifnonnullN hx hb dX4_refuseClosed_4 ?_
    obtain ⟨rfl, rfl⟩ := Prod.mk.inj (Option.some.inj hf)
    exact sE_thrX (own := RX4) (E := "java/util/NoSuchElementException") (text := "the view is not open") (ic := 61) (ix := 13) (rx := nseeRx) nsee0 nsee1 nsee2 nsee5 B htab h hl.1.symm ["java/lang/RuntimeException", "java/lang/Exception"] (by decide +kernel) (by decide +kernel) hw473 hw15 (by decide +kernel) (by decide +kernel) at_X4_61_g at_X4_61_n at_X4_61_o dX4_refuseClosed_7 dX4_refuseClosed_10 (Or.inr ⟨dX4_refuseClosed_11, rfl⟩) dX4_refuseClosed_14 dX4_refuseClosed_17 (Nat.le_of_ble_eq_true rfl) (Nat.le_of_ble_eq_true rfl) (Nat.le_of_eq (Nat.zero_add _)) (Nat.le_of_eq (Nat.zero_add _)) (Nat.le_of_eq (Nat.zero_add _)) (Nat.le_of_eq (Nat.zero_add _))
  · refine g_src1 B h t0 ft0 hin_X3 hw106 s1 dX4_refuseClosed_1 ?_
    refine lv_ifnonnull (tgt := 18) hx hb dX4_refuseClosed_4 (by decide) ?_
    obtain ⟨rfl, rfl⟩ := Prod.mk.inj (Option.some.inj hf)
    exact sE_v B hr h dX4_refuseClosed_18
set_option maxRecDepth 100000 in
theorem ok_X4_refuseClosed {l : Launch} (hl0 : l.stackTraces = false) {D : va_G} {cy : Nat → ClassId} {ad : Nat → Nat} (hap : sAp ad) (X : sX) (σ : sM) {t0 : Nat} (ft0 : isV t0) {oo : String ⊕ Unit} {σ' : sM} (hf : f_X4_refuseClosed t0 σ = some (oo, σ')) : sMet l yX4_refuseClosed (sWs yX4_refuseClosed cX4_refuseClosed 1 none) 6 100 (sC (oV oo)) (sS (oV oo)) D cy ad X σ [.ref (ad t0)] (oV oo) X σ' := by
  refine sMet_of (by decide +kernel) (Nat.le_of_ble_eq_true rfl) hap hl0 ?_
  intro p e s m args below meth c ls B hr htab hl h
  exact k_X4_refuseClosed_0 B hr htab _ _ ft0 hf _ _ _ h hl
set_option maxHeartbeats 4000000 in
set_option maxRecDepth 100000 in
theorem k_X4_cut_0 {p : Program} {l : Launch} {e : Env} {s : State} {m : MethodId} {args : Array Value} {below : List Frame} {meth : Method} {c : Code} {D : va_G} {cy : Nat → ClassId} {ad : Nat → Nat} {X : sX} {oo : String ⊕ Int32} {σ' : sM} (B : sB p l s m meth c args cX4_cut 8 RX4 D cy ad) (hr : meth.sig.returnType = (some .int)) (htab : ∀ x ∈ c.exceptionTable.toList, False) (v1 : Int32) (v2 : Int32) (v3 : Int32) (v4 : Int32) (v5 : Int32) (σ : sM) (hf : f_X4_cut v1 v2 v3 v4 v5 σ = some (oo, σ')) : sGo p l e { frames := 7, cells := (sC (oI oo)), slots := (sS (oI oo)), locals := 121 } s m args below meth c D cy ad X 8 (sQ below args s (sC (oI oo)) (sS (oI oo)) D cy ad (oI oo) X σ') σ 0 [(0, .ref (ad 0)), (1, .int v1), (2, .int v2), (3, .int v3), (4, .int v4), (5, .int v5)] [] := by
  replace hf : (thn (f_X4_viewAt v1 σ) (fun tr1 σ1 => chk (isVb tr1) (thn (f_X4_viewAt v2 σ1) (fun tr3 σ3 => chk (isVb tr3) (thn (f_X4_refuseClosed tr3 σ3) (fun _ σ5 => rthn (f_X3_covers tr3 v4 σ5) (fun vr6 => if vr6 = 0 then (some (.inl "java/lang/IllegalArgumentException", σ5)) else (if (σ5 tr3 1) < (12 : Int32) then (wthn (f_X3_becomeCut tr1 tr3 v3 v4 v5 σ5) (fun _ σ9 => rthn (f_X3_countEntries tr1 σ9) (fun vr10 => some (.inr vr10, σ9)))) else (some (.inl "java/lang/IllegalStateException", σ5)))))))))) = some (oo, σ') := hf
  intro H locs ls h hl
  have hx := B.1
  have hb := B.2.1
  refine lv_aload_n hx hb dX4_cut_0 rfl (lv_at hl 0 rfl) ?_
  refine lv_iload_n hx hb dX4_cut_1 rfl (lv_at hl 1 rfl) ?_
  rcases thn_cases hf with ⟨E1, σ1, hq1, ho⟩ | ⟨tr1, σ1, hq1, hf⟩
  · cases ho
    have hM := ok_X4_viewAt (D := D) (cy := cy) B.2.2.2.2.2.2.2.2 B.2.2.2.2.2.2.1 X _ v1 hq1
    exact sThrC (g_runV (o := .inl E1) (mc := 1) (ms := 6) (k := 0) (T := TX4) (N := 8) B h hM cw_X4_120 ⟨Nat.le_of_ble_eq_true rfl, Nat.le_of_ble_eq_true rfl⟩ (by decide) (S_row _) rfl rfl hl.1.symm rfl (Nat.le_of_ble_eq_true rfl) dX4_cut_2 ⟨Nat.le_of_eq (Nat.zero_add _), Nat.le_of_eq (Nat.zero_add _)⟩) h (fun H locs q ce h hc hv hcl => sE_out B htab h hc hv hcl (Nat.le_of_eq (Nat.zero_add _)) (Nat.le_of_eq (Nat.zero_add _)))
  have hM := ok_X4_viewAt (D := D) (cy := cy) B.2.2.2.2.2.2.2.2 B.2.2.2.2.2.2.1 X _ v1 hq1
  refine sRetC1 (g_runV (o := .inr (some (.ref (ad tr1)))) (mc := 0) (ms := 0) (k := 0) (T := TX4) (N := 8) B h hM cw_X4_120 ⟨Nat.le_of_ble_eq_true rfl, Nat.le_of_ble_eq_true rfl⟩ (by decide) (S_row _) rfl rfl hl.1.symm rfl (Nat.le_of_ble_eq_true rfl) dX4_cut_2 ⟨Nat.zero_le _, Nat.zero_le _⟩) h (fun H locs h => ?_)
  obtain ⟨c2, hf⟩ := chk_some hf
  refine lv_astore (lv' := [(6, .ref (ad tr1)), (0, .ref (ad 0)), (1, .int v1), (2, .int v2), (3, .int v3), (4, .int v4), (5, .int v5)]) hx hb dX4_cut_5 hl (by decide) rfl (fun ls hl => ?_)
  refine lv_aload_n hx hb dX4_cut_7 rfl (lv_at hl 1 rfl) ?_
  refine lv_iload_n hx hb dX4_cut_8 rfl (lv_at hl 3 rfl) ?_
  rcases thn_cases hf with ⟨E3, σ3, hq3, ho⟩ | ⟨tr3, σ3, hq3, hf⟩
  · cases ho
    have hM := ok_X4_viewAt (D := D) (cy := cy) B.2.2.2.2.2.2.2.2 B.2.2.2.2.2.2.1 X _ v2 hq3
    exact sThrC (g_runV (o := .inl E3) (mc := 1) (ms := 6) (k := 0) (T := TX4) (N := 8) B h hM cw_X4_120 ⟨Nat.le_of_ble_eq_true rfl, Nat.le_of_ble_eq_true rfl⟩ (by decide) (S_row _) rfl rfl hl.1.symm rfl (Nat.le_of_ble_eq_true rfl) dX4_cut_9 ⟨Nat.le_of_eq (Nat.zero_add _), Nat.le_of_eq (Nat.zero_add _)⟩) h (fun H locs q ce h hc hv hcl => sE_out B htab h hc hv hcl (Nat.le_of_eq (Nat.zero_add _)) (Nat.le_of_eq (Nat.zero_add _)))
  have hM := ok_X4_viewAt (D := D) (cy := cy) B.2.2.2.2.2.2.2.2 B.2.2.2.2.2.2.1 X _ v2 hq3
  refine sRetC1 (g_runV (o := .inr (some (.ref (ad tr3)))) (mc := 0) (ms := 0) (k := 0) (T := TX4) (N := 8) B h hM cw_X4_120 ⟨Nat.le_of_ble_eq_true rfl, Nat.le_of_ble_eq_true rfl⟩ (by decide) (S_row _) rfl rfl hl.1.symm rfl (Nat.le_of_ble_eq_true rfl) dX4_cut_9 ⟨Nat.zero_le _, Nat.zero_le _⟩) h (fun H locs h => ?_)
  obtain ⟨c4, hf⟩ := chk_some hf
  refine lv_astore (lv' := [(7, .ref (ad tr3)), (6, .ref (ad tr1)), (0, .ref (ad 0)), (1, .int v1), (2, .int v2), (3, .int v3), (4, .int v4), (5, .int v5)]) hx hb dX4_cut_12 hl (by decide) rfl (fun ls hl => ?_)
  refine lv_aload hx hb dX4_cut_14 (lv_at hl 0 rfl) ?_
  rcases thn_cases hf with ⟨E5, σ5, hq5, ho⟩ | ⟨vr5, σ5, hq5, hf⟩
  · cases ho
    have hM := ok_X4_refuseClosed (D := D) (cy := cy) B.2.2.2.2.2.2.2.2 B.2.2.2.2.2.2.1 X _ (isVb_V c4) hq5
    exact sThrC (g_runS (o := .inl E5) (mc := 1) (ms := 6) B h hM cw_X4_134 ⟨Nat.le_of_ble_eq_true rfl, Nat.le_of_ble_eq_true rfl⟩ rfl hl.1.symm rfl (Nat.le_of_ble_eq_true rfl) dX4_cut_16 ⟨Nat.le_of_eq (Nat.zero_add _), Nat.le_of_eq (Nat.zero_add _)⟩) h (fun H locs q ce h hc hv hcl => sE_out B htab h hc hv hcl (Nat.le_of_eq (Nat.zero_add _)) (Nat.le_of_eq (Nat.zero_add _)))
  have hM := ok_X4_refuseClosed (D := D) (cy := cy) B.2.2.2.2.2.2.2.2 B.2.2.2.2.2.2.1 X _ (isVb_V c4) hq5
  refine sRetC0 (g_runS (o := .inr none) (mc := 0) (ms := 0) B h hM cw_X4_134 ⟨Nat.le_of_ble_eq_true rfl, Nat.le_of_ble_eq_true rfl⟩ rfl hl.1.symm rfl (Nat.le_of_ble_eq_true rfl) dX4_cut_16 ⟨Nat.zero_le _, Nat.zero_le _⟩) h (fun H locs h => ?_)
  refine lv_aload hx hb dX4_cut_19 (lv_at hl 0 rfl) ?_
  refine lv_iload hx hb dX4_cut_21 (lv_at hl 6 rfl) ?_
  obtain ⟨vr6, hq6, hf⟩ := rthn_some hf
  refine sRetC1 (g_runV (k := tr3) (T := TX3) (N := 6) B h (ok_X3_covers B.2.2.2.2.2.2.2.2 B.2.2.2.2.2.2.1 _ _ (isVb_V c4) v4 hq6) cw_X4_138 ⟨Nat.le_of_ble_eq_true rfl, Nat.le_of_ble_eq_true rfl⟩ (V_lt (isVb_V c4)) (V_row (isVb_V c4) _) rfl rfl hl.1.symm rfl (Nat.le_of_ble_eq_true rfl) dX4_cut_23 ⟨Nat.zero_le _, Nat.zero_le _⟩) h (fun H locs h => ?_)
  refine lv_if_ne (tgt := 39) hx hb dX4_cut_26 (by decide) (fun c7 => ?_) (fun c7 => ?_)
  · rw [if_neg c7] at hf
    refine lv_aload hx hb dX4_cut_39 (lv_at hl 0 rfl) ?_
    refine g_get B h tr3 (V_lt (isVb_V c4)) (C := RX3) (T := TX3) (N := 6) (V_row (isVb_V c4) _) rfl hin_X3 1 (by decide) hw108 rfl rfl dX4_cut_41 ?_
    refine lv_bipush (v := (12 : Int32)) hx hb dX4_cut_44 (by decide) ?_
    refine lv_icmp_lt (tgt := 59) hx hb dX4_cut_46 (by decide) (fun c8 => ?_) (fun c8 => ?_)
    · rw [if_pos c8] at hf
      refine lv_aload hx hb dX4_cut_59 (lv_at hl 1 rfl) ?_
      refine lv_aload hx hb dX4_cut_61 (lv_at hl 0 rfl) ?_
      refine lv_iload_n hx hb dX4_cut_63 rfl (lv_at hl 5 rfl) ?_
      refine lv_iload hx hb dX4_cut_64 (lv_at hl 6 rfl) ?_
      refine lv_iload hx hb dX4_cut_66 (lv_at hl 7 rfl) ?_
      obtain ⟨vr9, σ9, hq9, hf⟩ := wthn_some hf
      refine sRetC0 (g_runV (k := tr1) (T := TX3) (N := 6) B h (ok_X3_becomeCut B.2.2.2.2.2.2.2.2 B.2.2.2.2.2.2.1 _ _ (isVb_V c2) (isVb_V c4) v3 v4 v5 hq9) cw_X4_151 ⟨Nat.le_of_ble_eq_true rfl, Nat.le_of_ble_eq_true rfl⟩ (V_lt (isVb_V c2)) (V_row (isVb_V c2) _) rfl rfl hl.1.symm rfl (Nat.le_of_ble_eq_true rfl) dX4_cut_68 ⟨Nat.zero_le _, Nat.zero_le _⟩) h (fun H locs h => ?_)
      refine lv_aload hx hb dX4_cut_71 (lv_at hl 1 rfl) ?_
      obtain ⟨vr10, hq10, hf⟩ := rthn_some hf
      refine sRetC1 (g_runV (k := tr1) (T := TX3) (N := 6) B h (ok_X3_countEntries B.2.2.2.2.2.2.2.2 B.2.2.2.2.2.2.1 _ _ (isVb_V c2) hq10) cw_X4_130 ⟨Nat.le_of_ble_eq_true rfl, Nat.le_of_ble_eq_true rfl⟩ (V_lt (isVb_V c2)) (V_row (isVb_V c2) _) rfl rfl hl.1.symm rfl (Nat.le_of_ble_eq_true rfl) dX4_cut_73 ⟨Nat.zero_le _, Nat.zero_le _⟩) h (fun H locs h => ?_)
      obtain ⟨rfl, rfl⟩ := Prod.mk.inj (Option.some.inj hf)
      exact sE_i B hr h dX4_cut_76
    · rw [if_neg c8] at hf
      obtain ⟨rfl, rfl⟩ := Prod.mk.inj (Option.some.inj hf)
      exact sE_thr (own := RX4) (E := "java/lang/IllegalStateException") (text := "no more cuts behind one another") (ic := 150) B htab h hl.1.symm ["java/lang/RuntimeException", "java/lang/Exception"] (by decide +kernel) (by decide +kernel) hw448 hw13 (by decide +kernel) (by decide +kernel) at_X4_150_g at_X4_150_n at_X4_150_o dX4_cut_49 dX4_cut_52 dX4_cut_53 dX4_cut_55 dX4_cut_58 (Nat.le_of_ble_eq_true rfl) (Nat.le_of_ble_eq_true rfl) (Nat.le_of_eq (Nat.zero_add _)) (Nat.le_of_eq (Nat.zero_add _)) (Nat.le_of_eq (Nat.zero_add _)) (Nat.le_of_eq (Nat.zero_add _))
  · rw [if_pos c7] at hf
    obtain ⟨rfl, rfl⟩ := Prod.mk.inj (Option.some.inj hf)
    exact sE_thr (own := RX4) (E := "java/lang/IllegalArgumentException") (text := "the number does not lie in the span") (ic := 79) B htab h hl.1.symm ["java/lang/RuntimeException", "java/lang/Exception"] (by decide +kernel) (by decide +kernel) hw508 hw16 (by decide +kernel) (by decide +kernel) at_X4_79_g at_X4_79_n at_X4_79_o dX4_cut_29 dX4_cut_32 dX4_cut_33 dX4_cut_35 dX4_cut_38 (Nat.le_of_ble_eq_true rfl) (Nat.le_of_ble_eq_true rfl) (Nat.le_of_eq (Nat.zero_add _)) (Nat.le_of_eq (Nat.zero_add _)) (Nat.le_of_eq (Nat.zero_add _)) (Nat.le_of_eq (Nat.zero_add _))
set_option maxRecDepth 100000 in
theorem ok_X4_cut {l : Launch} (hl0 : l.stackTraces = false) {D : va_G} {cy : Nat → ClassId} {ad : Nat → Nat} (hap : sAp ad) (X : sX) (σ : sM) (v1 : Int32) (v2 : Int32) (v3 : Int32) (v4 : Int32) (v5 : Int32) {oo : String ⊕ Int32} {σ' : sM} (hf : f_X4_cut v1 v2 v3 v4 v5 σ = some (oo, σ')) : sMet l yX4_cut (sWs yX4_cut cX4_cut 8 (some .int)) 7 121 (sC (oI oo)) (sS (oI oo)) D cy ad X σ [.ref (ad 0), .int v1, .int v2, .int v3, .int v4, .int v5] (oI oo) X σ' := by
  refine sMet_of (by decide +kernel) (Nat.le_of_ble_eq_true rfl) hap hl0 ?_
  intro p e s m args below meth c ls B hr htab hl h
  exact k_X4_cut_0 B hr htab _ _ _ _ _ _  hf _ _ _ h hl
set_option maxHeartbeats 4000000 in
set_option maxRecDepth 100000 in
theorem k_X4_pollAt_0 {p : Program} {l : Launch} {e : Env} {s : State} {m : MethodId} {args : Array Value} {below : List Frame} {meth : Method} {c : Code} {D : va_G} {cy : Nat → ClassId} {ad : Nat → Nat} {X : sX} {r : Int32} {σ' : sM} (B : sB p l s m meth c args cX4_pollAt 4 RX4 D cy ad) (hr : meth.sig.returnType = (some .int)) (t1 : Nat) (v2 : Int32) (σ : sM) (ft1 : isT t1) (hf : f_X4_pollAt t1 v2 σ = some (r, σ')) : sGo p l e { frames := 2, cells := 0, slots := 0, locals := 130 } s m args below meth c D cy ad X 4 (sQ below args s 0 0 D cy ad (.inr (some (.int r))) X σ') σ 0 [(0, .ref (ad 0)), (1, .ref (ad t1)), (2, .int v2)] [] := by
  replace hf : (chk (inb v2 120) (chk (inb v2 120) (stl (va_up σ 0 (upd (σ 0) 7 (σ (t1 + 2) (v2).toNatClampNeg))) (fun σ3 => stl (va_up σ3 0 (upd (σ3 0) 6 (1 : Int32))) (fun σ4 => wthn (f_X2_dropPlaces t1 v2 (v2 + (1 : Int32)) σ4) (fun _ σ5 => some ((σ (t1 + 1) (v2).toNatClampNeg), σ5))))))) = some (r, σ') := hf
  intro H locs ls h hl
  have hx := B.1
  have hb := B.2.1
  refine lv_aload_n hx hb dX4_pollAt_0 rfl (lv_at hl 1 rfl) ?_
  refine g_get B h t1 (T_lt ft1) (C := RX2) (T := TX2) (N := 3) (T_row ft1 _) rfl hin_X2 0 (by decide) hw47 rfl rfl dX4_pollAt_1 ?_
  refine lv_iload_n hx hb dX4_pollAt_4 rfl (lv_at hl 2 rfl) ?_
  obtain ⟨c1, hf⟩ := chk_some hf
  refine g_iald B h (t1 + 1) (T_lt1 ft1) (n := 120) (T_keys ft1) (inb_in c1) dX4_pollAt_5 ?_
  refine lv_istore_n (lv' := [(3, .int (σ (t1 + 1) (v2).toNatClampNeg)), (0, .ref (ad 0)), (1, .ref (ad t1)), (2, .int v2)]) hx hb dX4_pollAt_6 rfl hl (by decide) rfl (fun ls hl => ?_)
  refine lv_aload_n hx hb dX4_pollAt_7 rfl (lv_at hl 1 rfl) ?_
  refine lv_aload_n hx hb dX4_pollAt_8 rfl (lv_at hl 2 rfl) ?_
  refine g_get B h t1 (T_lt ft1) (C := RX2) (T := TX2) (N := 3) (T_row ft1 _) rfl hin_X2 1 (by decide) hw50 rfl rfl dX4_pollAt_9 ?_
  refine lv_iload_n hx hb dX4_pollAt_12 rfl (lv_at hl 3 rfl) ?_
  obtain ⟨c2, hf⟩ := chk_some hf
  refine g_iald B h (t1 + 2) (T_lt2 ft1) (n := 120) (T_vals ft1) (inb_in c2) dX4_pollAt_13 ?_
  refine g_put B h 0 (by decide) (C := RX4) (T := TX4) (N := 8) (S_row _) rfl hin_X4 tyX4 tyX4_ok nmX4 7 (by decide) hw134 rfl rfl rfl rfl (upd (σ 0) 7 (σ (t1 + 2) (v2).toNatClampNeg)) (S_put7 _ _) (Nat.le_of_ble_eq_true rfl) dX4_pollAt_14 (fun H locs h => ?_)
  obtain ⟨σ3, e3, hf⟩ := stl_some hf
  rw [← e3] at h
  refine lv_aload_n hx hb dX4_pollAt_17 rfl (lv_at hl 1 rfl) ?_
  refine lv_iconst (v := (1 : Int32)) hx hb dX4_pollAt_18 (by decide) ?_
  refine g_put B h 0 (by decide) (C := RX4) (T := TX4) (N := 8) (S_row _) rfl hin_X4 tyX4 tyX4_ok nmX4 6 (by decide) hw133 rfl rfl rfl rfl (upd (σ3 0) 6 (1 : Int32)) (S_put6 _ _) (Nat.le_of_ble_eq_true rfl) dX4_pollAt_19 (fun H locs h => ?_)
  obtain ⟨σ4, e4, hf⟩ := stl_some hf
  rw [← e4] at h
  refine lv_aload_n hx hb dX4_pollAt_22 rfl (lv_at hl 2 rfl) ?_
  refine lv_iload_n hx hb dX4_pollAt_23 rfl (lv_at hl 3 rfl) ?_
  refine lv_iload_n hx hb dX4_pollAt_24 rfl (lv_at hl 3 rfl) ?_
  refine lv_iconst (v := (1 : Int32)) hx hb dX4_pollAt_25 (by decide) ?_
  refine lv_iadd hx hb dX4_pollAt_26 ?_
  obtain ⟨vr5, σ5, hq5, hf⟩ := wthn_some hf
  refine sRetC0 (g_runV (k := t1) (T := TX2) (N := 3) B h (ok_X2_dropPlaces B.2.2.2.2.2.2.2.2 B.2.2.2.2.2.2.1 _ _ ft1 v2 (v2 + (1 : Int32)) hq5) cw_X4_170 ⟨Nat.le_of_ble_eq_true rfl, Nat.le_of_ble_eq_true rfl⟩ (T_lt ft1) (T_row ft1 _) rfl rfl hl.1.symm rfl (Nat.le_of_ble_eq_true rfl) dX4_pollAt_27 ⟨Nat.zero_le _, Nat.zero_le _⟩) h (fun H locs h => ?_)
  refine lv_iload_n hx hb dX4_pollAt_30 rfl (lv_at hl 0 rfl) ?_
  obtain ⟨rfl, rfl⟩ := Prod.mk.inj (Option.some.inj hf)
  exact sE_i B hr h dX4_pollAt_31
set_option maxRecDepth 100000 in
theorem ok_X4_pollAt {l : Launch} (hl0 : l.stackTraces = false) {D : va_G} {cy : Nat → ClassId} {ad : Nat → Nat} (hap : sAp ad) (X : sX) (σ : sM) {t1 : Nat} (ft1 : isT t1) (v2 : Int32) {r : Int32} {σ' : sM} (hf : f_X4_pollAt t1 v2 σ = some (r, σ')) : sMet l yX4_pollAt (sWs yX4_pollAt cX4_pollAt 4 (some .int)) 2 130 0 0 D cy ad X σ [.ref (ad 0), .ref (ad t1), .int v2] (.inr (some (.int r))) X σ' := by
  refine sMet_of (by decide +kernel) (Nat.le_of_ble_eq_true rfl) hap hl0 ?_
  intro p e s m args below meth c ls B hr htab hl h
  exact k_X4_pollAt_0 B hr _ _ _ ft1 hf _ _ _ h hl
set_option maxHeartbeats 4000000 in
set_option maxRecDepth 100000 in
theorem k_X4_drain_9 {p : Program} {l : Launch} {e : Env} {s : State} {m : MethodId} {args : Array Value} {below : List Frame} {meth : Method} {c : Code} {D : va_G} {cy : Nat → ClassId} {ad : Nat → Nat} {X : sX} {oo : String ⊕ Int32} {σ' : sM} (B : sB p l s m meth c args cX4_drain 5 RX4 D cy ad) (hr : meth.sig.returnType = (some .int)) (htab : ∀ x ∈ c.exceptionTable.toList, False) : ∀ (n : Nat) (v2 : Int32) (t3 : Nat) (v4 : Int32) (σ : sM) (ft3 : isT t3), b_X4_drain_9 n v2 t3 v4 σ = some (oo, σ') → sGo p l e { frames := 7, cells := (sC (oI oo)), slots := (sS (oI oo)), locals := 153 } s m args below meth c D cy ad X 5 (sQ below args s (sC (oI oo)) (sS (oI oo)) D cy ad (oI oo) X σ') σ 9 [(0, .ref (ad 0)), (2, .int v2), (3, .ref (ad t3)), (4, .int v4)] [] := by
  intro n
  induction n with
  | zero =>
    intro v2 t3 v4 σ ft3 hf
    exact nomatch (show none = some (oo, σ') from hf)
  | succ n ih =>
    intro v2 t3 v4 σ ft3 hf
    replace hf : (if (60 : Int32) ≤ v4 then (stl (va_up σ 0 (upd (σ 0) 5 v4)) (fun σ4 => some (.inr v4, σ4))) else (if (σ t3 2) ≤ 0 then (stl (va_up σ 0 (upd (σ 0) 5 v4)) (fun σ6 => some (.inr v4, σ6))) else (if v2 = 0 then (wthn (f_X4_pollAt t3 (0 : Int32) σ) (fun vr8 σ8 => chk (inb v4 60) (stl (va_up σ8 5 (upd (σ8 5) (v4).toNatClampNeg vr8)) (fun σ10 => b_X4_drain_9 n v2 t3 (v4 + 1) σ10)))) else (wthn (f_X4_pollAt t3 ((σ t3 2) - (1 : Int32)) σ) (fun vr11 σ11 => chk (inb v4 60) (stl (va_up σ11 5 (upd (σ11 5) (v4).toNatClampNeg vr11)) (fun σ13 => b_X4_drain_9 n v2 t3 (v4 + 1) σ13))))))) = some (oo, σ') := hf
    intro H locs ls h hl
    have hx := B.1
    have hb := B.2.1
    refine lv_iload hx hb dX4_drain_9 (lv_at hl 3 rfl) ?_
    refine lv_aload_n hx hb dX4_drain_11 rfl (lv_at hl 0 rfl) ?_
    refine g_get B h 0 (by decide) (C := RX4) (T := TX4) (N := 8) (S_row _) rfl hin_X4 4 (by decide) hw131 rfl rfl dX4_drain_12 ?_
    refine g_alen B h 5 (by decide) 0 rfl rfl (v := (60 : Int32)) rfl dX4_drain_15 ?_
    refine lv_icmp_ge (tgt := 58) hx hb dX4_drain_16 (by decide) (fun c3 => ?_) (fun c3 => ?_)
    · rw [if_pos c3] at hf
      refine lv_aload_n hx hb dX4_drain_58 rfl (lv_at hl 0 rfl) ?_
      refine lv_iload hx hb dX4_drain_59 (lv_at hl 3 rfl) ?_
      refine g_put B h 0 (by decide) (C := RX4) (T := TX4) (N := 8) (S_row _) rfl hin_X4 tyX4 tyX4_ok nmX4 5 (by decide) hw132 rfl rfl rfl rfl (upd (σ 0) 5 v4) (S_put5 _ _) (Nat.le_of_ble_eq_true rfl) dX4_drain_61 (fun H locs h => ?_)
      obtain ⟨σ4, e4, hf⟩ := stl_some hf
      rw [← e4] at h
      refine lv_iload hx hb dX4_drain_64 (lv_at hl 3 rfl) ?_
      obtain ⟨rfl, rfl⟩ := Prod.mk.inj (Option.some.inj hf)
      exact sE_i B hr h dX4_drain_66
    · rw [if_neg c3] at hf
      refine lv_aload_n hx hb dX4_drain_19 rfl (lv_at hl 2 rfl) ?_
      refine g_get B h t3 (T_lt ft3) (C := RX2) (T := TX2) (N := 3) (T_row ft3 _) rfl hin_X2 2 (by decide) hw53 rfl rfl dX4_drain_20 ?_
      refine lv_if_le (tgt := 58) hx hb dX4_drain_23 (by decide) (fun c5 => ?_) (fun c5 => ?_)
      · rw [if_pos c5] at hf
        refine lv_aload_n hx hb dX4_drain_58 rfl (lv_at hl 0 rfl) ?_
        refine lv_iload hx hb dX4_drain_59 (lv_at hl 3 rfl) ?_
        refine g_put B h 0 (by decide) (C := RX4) (T := TX4) (N := 8) (S_row _) rfl hin_X4 tyX4 tyX4_ok nmX4 5 (by decide) hw132 rfl rfl rfl rfl (upd (σ 0) 5 v4) (S_put5 _ _) (Nat.le_of_ble_eq_true rfl) dX4_drain_61 (fun H locs h => ?_)
        obtain ⟨σ6, e6, hf⟩ := stl_some hf
        rw [← e6] at h
        refine lv_iload hx hb dX4_drain_64 (lv_at hl 3 rfl) ?_
        obtain ⟨rfl, rfl⟩ := Prod.mk.inj (Option.some.inj hf)
        exact sE_i B hr h dX4_drain_66
      · rw [if_neg c5] at hf
        refine lv_aload_n hx hb dX4_drain_26 rfl (lv_at hl 0 rfl) ?_
        refine g_get B h 0 (by decide) (C := RX4) (T := TX4) (N := 8) (S_row _) rfl hin_X4 4 (by decide) hw131 rfl rfl dX4_drain_27 ?_
        refine lv_iload hx hb dX4_drain_30 (lv_at hl 3 rfl) ?_
        refine lv_aload_n hx hb dX4_drain_32 rfl (lv_at hl 0 rfl) ?_
        refine lv_aload_n hx hb dX4_drain_33 rfl (lv_at hl 2 rfl) ?_
        refine lv_iload_n hx hb dX4_drain_34 rfl (lv_at hl 1 rfl) ?_
        refine lv_if_eq (tgt := 47) hx hb dX4_drain_35 (by decide) (fun c7 => ?_) (fun c7 => ?_)
        · rw [if_pos c7] at hf
          refine lv_iconst (v := (0 : Int32)) hx hb dX4_drain_47 (by decide) ?_
          obtain ⟨vr8, σ8, hq8, hf⟩ := wthn_some hf
          refine sRetC1 (g_runV (k := 0) (T := TX4) (N := 8) B h (ok_X4_pollAt B.2.2.2.2.2.2.2.2 B.2.2.2.2.2.2.1 _ _ ft3 (0 : Int32) hq8) cw_X4_93 ⟨Nat.le_of_ble_eq_true rfl, Nat.le_of_ble_eq_true rfl⟩ (by decide) (S_row _) rfl rfl hl.1.symm rfl (Nat.le_of_ble_eq_true rfl) dX4_drain_48 ⟨Nat.zero_le _, Nat.zero_le _⟩) h (fun H locs h => ?_)
          obtain ⟨c9, hf⟩ := chk_some hf
          refine g_iast B h 5 (by decide) (n := 60) (fun _ => rfl) (inb_in c9) dX4_drain_51 (fun H locs h => ?_)
          obtain ⟨σ10, e10, hf⟩ := stl_some hf
          rw [← e10] at h
          refine lv_iinc (v := (v4 + 1)) (lv' := [(4, .int (v4 + 1)), (0, .ref (ad 0)), (2, .int v2), (3, .ref (ad t3))]) hx hb dX4_drain_52 hl (k := 3) rfl rfl (by decide) rfl (fun ls hl => ?_)
          refine lv_goto (tgt := 9) hx hb dX4_drain_55 (by decide) ?_
          exact ih _ _ _ _ ft3 hf _ _ _ h (lv_sub hl [1, 2, 3, 0] rfl)
        · rw [if_neg c7] at hf
          refine lv_aload_n hx hb dX4_drain_38 rfl (lv_at hl 2 rfl) ?_
          refine g_get B h t3 (T_lt ft3) (C := RX2) (T := TX2) (N := 3) (T_row ft3 _) rfl hin_X2 2 (by decide) hw53 rfl rfl dX4_drain_39 ?_
          refine lv_iconst (v := (1 : Int32)) hx hb dX4_drain_42 (by decide) ?_
          refine lv_isub hx hb dX4_drain_43 ?_
          refine lv_goto (tgt := 48) hx hb dX4_drain_44 (by decide) ?_
          obtain ⟨vr11, σ11, hq11, hf⟩ := wthn_some hf
          refine sRetC1 (g_runV (k := 0) (T := TX4) (N := 8) B h (ok_X4_pollAt B.2.2.2.2.2.2.2.2 B.2.2.2.2.2.2.1 _ _ ft3 ((σ t3 2) - (1 : Int32)) hq11) cw_X4_93 ⟨Nat.le_of_ble_eq_true rfl, Nat.le_of_ble_eq_true rfl⟩ (by decide) (S_row _) rfl rfl hl.1.symm rfl (Nat.le_of_ble_eq_true rfl) dX4_drain_48 ⟨Nat.zero_le _, Nat.zero_le _⟩) h (fun H locs h => ?_)
          obtain ⟨c12, hf⟩ := chk_some hf
          refine g_iast B h 5 (by decide) (n := 60) (fun _ => rfl) (inb_in c12) dX4_drain_51 (fun H locs h => ?_)
          obtain ⟨σ13, e13, hf⟩ := stl_some hf
          rw [← e13] at h
          refine lv_iinc (v := (v4 + 1)) (lv' := [(4, .int (v4 + 1)), (0, .ref (ad 0)), (2, .int v2), (3, .ref (ad t3))]) hx hb dX4_drain_52 hl (k := 3) rfl rfl (by decide) rfl (fun ls hl => ?_)
          refine lv_goto (tgt := 9) hx hb dX4_drain_55 (by decide) ?_
          exact ih _ _ _ _ ft3 hf _ _ _ h (lv_sub hl [1, 2, 3, 0] rfl)
set_option maxHeartbeats 4000000 in
set_option maxRecDepth 100000 in
theorem k_X4_drain_0 {p : Program} {l : Launch} {e : Env} {s : State} {m : MethodId} {args : Array Value} {below : List Frame} {meth : Method} {c : Code} {D : va_G} {cy : Nat → ClassId} {ad : Nat → Nat} {X : sX} {oo : String ⊕ Int32} {σ' : sM} (B : sB p l s m meth c args cX4_drain 5 RX4 D cy ad) (hr : meth.sig.returnType = (some .int)) (htab : ∀ x ∈ c.exceptionTable.toList, False) (v1 : Int32) (v2 : Int32) (σ : sM) (hf : f_X4_drain v1 v2 σ = some (oo, σ')) : sGo p l e { frames := 7, cells := (sC (oI oo)), slots := (sS (oI oo)), locals := 153 } s m args below meth c D cy ad X 5 (sQ below args s (sC (oI oo)) (sS (oI oo)) D cy ad (oI oo) X σ') σ 0 [(0, .ref (ad 0)), (1, .int v1), (2, .int v2)] [] := by
  replace hf : (thn (f_X4_mapAt v1 σ) (fun tr1 σ1 => chk (isTb tr1) (b_X4_drain_9 FU v2 tr1 (0 : Int32) σ1))) = some (oo, σ') := hf
  intro H locs ls h hl
  have hx := B.1
  have hb := B.2.1
  refine lv_aload_n hx hb dX4_drain_0 rfl (lv_at hl 0 rfl) ?_
  refine lv_iload_n hx hb dX4_drain_1 rfl (lv_at hl 1 rfl) ?_
  rcases thn_cases hf with ⟨E1, σ1, hq1, ho⟩ | ⟨tr1, σ1, hq1, hf⟩
  · cases ho
    have hM := ok_X4_mapAt (D := D) (cy := cy) B.2.2.2.2.2.2.2.2 B.2.2.2.2.2.2.1 X _ v1 hq1
    exact sThrC (g_runV (o := .inl E1) (mc := 1) (ms := 6) (k := 0) (T := TX4) (N := 8) B h hM cw_X4_41 ⟨Nat.le_of_ble_eq_true rfl, Nat.le_of_ble_eq_true rfl⟩ (by decide) (S_row _) rfl rfl hl.1.symm rfl (Nat.le_of_ble_eq_true rfl) dX4_drain_2 ⟨Nat.le_of_eq (Nat.zero_add _), Nat.le_of_eq (Nat.zero_add _)⟩) h (fun H locs q ce h hc hv hcl => sE_out B htab h hc hv hcl (Nat.le_of_eq (Nat.zero_add _)) (Nat.le_of_eq (Nat.zero_add _)))
  have hM := ok_X4_mapAt (D := D) (cy := cy) B.2.2.2.2.2.2.2.2 B.2.2.2.2.2.2.1 X _ v1 hq1
  refine sRetC1 (g_runV (o := .inr (some (.ref (ad tr1)))) (mc := 0) (ms := 0) (k := 0) (T := TX4) (N := 8) B h hM cw_X4_41 ⟨Nat.le_of_ble_eq_true rfl, Nat.le_of_ble_eq_true rfl⟩ (by decide) (S_row _) rfl rfl hl.1.symm rfl (Nat.le_of_ble_eq_true rfl) dX4_drain_2 ⟨Nat.zero_le _, Nat.zero_le _⟩) h (fun H locs h => ?_)
  obtain ⟨c2, hf⟩ := chk_some hf
  refine lv_astore_n (lv' := [(3, .ref (ad tr1)), (0, .ref (ad 0)), (1, .int v1), (2, .int v2)]) hx hb dX4_drain_5 rfl hl (by decide) rfl (fun ls hl => ?_)
  refine lv_iconst (v := (0 : Int32)) hx hb dX4_drain_6 (by decide) ?_
  refine lv_istore (lv' := [(4, .int (0 : Int32)), (3, .ref (ad tr1)), (0, .ref (ad 0)), (1, .int v1), (2, .int v2)]) hx hb dX4_drain_7 hl (by decide) rfl (fun ls hl => ?_)
  exact k_X4_drain_9 B hr htab  _ _ _ _ _ (isTb_T c2) hf _ _ _ h (lv_sub hl [2, 4, 1, 0] rfl)
set_option maxRecDepth 100000 in
theorem ok_X4_drain {l : Launch} (hl0 : l.stackTraces = false) {D : va_G} {cy : Nat → ClassId} {ad : Nat → Nat} (hap : sAp ad) (X : sX) (σ : sM) (v1 : Int32) (v2 : Int32) {oo : String ⊕ Int32} {σ' : sM} (hf : f_X4_drain v1 v2 σ = some (oo, σ')) : sMet l yX4_drain (sWs yX4_drain cX4_drain 5 (some .int)) 7 153 (sC (oI oo)) (sS (oI oo)) D cy ad X σ [.ref (ad 0), .int v1, .int v2] (oI oo) X σ' := by
  refine sMet_of (by decide +kernel) (Nat.le_of_ble_eq_true rfl) hap hl0 ?_
  intro p e s m args below meth c ls B hr htab hl h
  exact k_X4_drain_0 B hr htab _ _ _  hf _ _ _ h hl
set_option maxHeartbeats 4000000 in
set_option maxRecDepth 100000 in
theorem k_X4_drained_0 {p : Program} {l : Launch} {e : Env} {s : State} {m : MethodId} {args : Array Value} {below : List Frame} {meth : Method} {c : Code} {D : va_G} {cy : Nat → ClassId} {ad : Nat → Nat} {X : sX} {oo : String ⊕ Int32} {σ' : sM} (B : sB p l s m meth c args cX4_drained 2 RX4 D cy ad) (hr : meth.sig.returnType = (some .int)) (htab : ∀ x ∈ c.exceptionTable.toList, False) (v1 : Int32) (σ : sM) (hf : f_X4_drained v1 σ = some (oo, σ')) : sGo p l e { frames := 6, cells := (sC (oI oo)), slots := (sS (oI oo)), locals := 100 } s m args below meth c D cy ad X 2 (sQ below args s (sC (oI oo)) (sS (oI oo)) D cy ad (oI oo) X σ') σ 0 [(0, .ref (ad 0)), (1, .int v1)] [] := by
  replace hf : (if v1 < 0 then (some (.inl "java/lang/IndexOutOfBoundsException", σ)) else (if v1 < (σ 0 5) then (chk (inb v1 60) (some (.inr (σ 5 (v1).toNatClampNeg), σ))) else (some (.inl "java/lang/IndexOutOfBoundsException", σ)))) = some (oo, σ') := hf
  intro H locs ls h hl
  have hx := B.1
  have hb := B.2.1
  refine lv_iload_n hx hb dX4_drained_0 rfl (lv_at hl 1 rfl) ?_
  refine lv_if_lt (tgt := 12) hx hb dX4_drained_1 (by decide) (fun c1 => ?_) (fun c1 => ?_)
  · rw [if_pos c1] at hf
    obtain ⟨rfl, rfl⟩ := Prod.mk.inj (Option.some.inj hf)
    exact sE_thr (own := RX4) (E := "java/lang/IndexOutOfBoundsException") (text := "no such place in the row") (ic := 113) B htab h hl.1.symm ["java/lang/RuntimeException", "java/lang/Exception"] (by decide +kernel) (by decide +kernel) hw431 hw10 (by decide +kernel) (by decide +kernel) at_X4_113_g at_X4_113_n at_X4_113_o dX4_drained_12 dX4_drained_15 dX4_drained_16 dX4_drained_18 dX4_drained_21 (Nat.le_of_ble_eq_true rfl) (Nat.le_of_ble_eq_true rfl) (Nat.le_of_eq (Nat.zero_add _)) (Nat.le_of_eq (Nat.zero_add _)) (Nat.le_of_eq (Nat.zero_add _)) (Nat.le_of_eq (Nat.zero_add _))
  · rw [if_neg c1] at hf
    refine lv_iload_n hx hb dX4_drained_4 rfl (lv_at hl 1 rfl) ?_
    refine lv_aload_n hx hb dX4_drained_5 rfl (lv_at hl 0 rfl) ?_
    refine g_get B h 0 (by decide) (C := RX4) (T := TX4) (N := 8) (S_row _) rfl hin_X4 5 (by decide) hw132 rfl rfl dX4_drained_6 ?_
    refine lv_icmp_lt (tgt := 22) hx hb dX4_drained_9 (by decide) (fun c2 => ?_) (fun c2 => ?_)
    · rw [if_pos c2] at hf
      refine lv_aload_n hx hb dX4_drained_22 rfl (lv_at hl 0 rfl) ?_
      refine g_get B h 0 (by decide) (C := RX4) (T := TX4) (N := 8) (S_row _) rfl hin_X4 4 (by decide) hw131 rfl rfl dX4_drained_23 ?_
      refine lv_iload_n hx hb dX4_drained_26 rfl (lv_at hl 1 rfl) ?_
      obtain ⟨c3, hf⟩ := chk_some hf
      refine g_iald B h 5 (by decide) (n := 60) (fun _ => rfl) (inb_in c3) dX4_drained_27 ?_
      obtain ⟨rfl, rfl⟩ := Prod.mk.inj (Option.some.inj hf)
      exact sE_i B hr h dX4_drained_28
    · rw [if_neg c2] at hf
      obtain ⟨rfl, rfl⟩ := Prod.mk.inj (Option.some.inj hf)
      exact sE_thr (own := RX4) (E := "java/lang/IndexOutOfBoundsException") (text := "no such place in the row") (ic := 113) B htab h hl.1.symm ["java/lang/RuntimeException", "java/lang/Exception"] (by decide +kernel) (by decide +kernel) hw431 hw10 (by decide +kernel) (by decide +kernel) at_X4_113_g at_X4_113_n at_X4_113_o dX4_drained_12 dX4_drained_15 dX4_drained_16 dX4_drained_18 dX4_drained_21 (Nat.le_of_ble_eq_true rfl) (Nat.le_of_ble_eq_true rfl) (Nat.le_of_eq (Nat.zero_add _)) (Nat.le_of_eq (Nat.zero_add _)) (Nat.le_of_eq (Nat.zero_add _)) (Nat.le_of_eq (Nat.zero_add _))
set_option maxRecDepth 100000 in
theorem ok_X4_drained {l : Launch} (hl0 : l.stackTraces = false) {D : va_G} {cy : Nat → ClassId} {ad : Nat → Nat} (hap : sAp ad) (X : sX) (σ : sM) (v1 : Int32) {oo : String ⊕ Int32} {σ' : sM} (hf : f_X4_drained v1 σ = some (oo, σ')) : sMet l yX4_drained (sWs yX4_drained cX4_drained 2 (some .int)) 6 100 (sC (oI oo)) (sS (oI oo)) D cy ad X σ [.ref (ad 0), .int v1] (oI oo) X σ' := by
  refine sMet_of (by decide +kernel) (Nat.le_of_ble_eq_true rfl) hap hl0 ?_
  intro p e s m args below meth c ls B hr htab hl h
  exact k_X4_drained_0 B hr htab _ _  hf _ _ _ h hl
set_option maxHeartbeats 4000000 in
set_option maxRecDepth 100000 in
theorem k_X4_endPlace_0 {p : Program} {l : Launch} {e : Env} {s : State} {m : MethodId} {args : Array Value} {below : List Frame} {meth : Method} {c : Code} {D : va_G} {cy : Nat → ClassId} {ad : Nat → Nat} {X : sX} {oo : String ⊕ Int32} {σ' : sM} (B : sB p l s m meth c args cX4_endPlace 3 RX4 D cy ad) (hr : meth.sig.returnType = (some .int)) (htab : ∀ x ∈ c.exceptionTable.toList, False) (v0 : Int32) (v1 : Int32) (v2 : Int32) (σ : sM) (hf : f_X4_endPlace v0 v1 v2 σ = some (oo, σ')) : sGo p l e { frames := 6, cells := (sC (oI oo)), slots := (sS (oI oo)), locals := 100 } s m args below meth c D cy ad X 3 (sQ below args s (sC (oI oo)) (sS (oI oo)) D cy ad (oI oo) X σ') σ 0 [(0, .int v0), (1, .int v1), (2, .int v2)] [] := by
  replace hf : (if v0 < v1 then (if v2 = 0 then (some (.inr v0, σ)) else (some (.inr (v1 - (1 : Int32)), σ))) else (some (.inl "java/util/NoSuchElementException", σ))) = some (oo, σ') := hf
  intro H locs ls h hl
  have hx := B.1
  have hb := B.2.1
  refine lv_iload_n hx hb dX4_endPlace_0 rfl (lv_at hl 0 rfl) ?_
  refine lv_iload_n hx hb dX4_endPlace_1 rfl (lv_at hl 1 rfl) ?_
  refine lv_icmp_lt (tgt := 16) hx hb dX4_endPlace_2 (by decide) (fun c1 => ?_) (fun c1 => ?_)
  · rw [if_pos c1] at hf
    refine lv_iload_n hx hb dX4_endPlace_16 rfl (lv_at hl 2 rfl) ?_
    refine lv_if_eq (tgt := 26) hx hb dX4_endPlace_17 (by decide) (fun c2 => ?_) (fun c2 => ?_)
    · rw [if_pos c2] at hf
      refine lv_iload_n hx hb dX4_endPlace_26 rfl (lv_at hl 0 rfl) ?_
      obtain ⟨rfl, rfl⟩ := Prod.mk.inj (Option.some.inj hf)
      exact sE_i B hr h dX4_endPlace_27
    · rw [if_neg c2] at hf
      refine lv_iload_n hx hb dX4_endPlace_20 rfl (lv_at hl 1 rfl) ?_
      refine lv_iconst (v := (1 : Int32)) hx hb dX4_endPlace_21 (by decide) ?_
      refine lv_isub hx hb dX4_endPlace_22 ?_
      refine lv_goto (tgt := 27) hx hb dX4_endPlace_23 (by decide) ?_
      obtain ⟨rfl, rfl⟩ := Prod.mk.inj (Option.some.inj hf)
      exact sE_i B hr h dX4_endPlace_27
  · rw [if_neg c1] at hf
    obtain ⟨rfl, rfl⟩ := Prod.mk.inj (Option.some.inj hf)
    exact sE_thrX (own := RX4) (E := "java/util/NoSuchElementException") (text := "there are no entries") (ic := 61) (ix := 13) (rx := nseeRx) nsee0 nsee1 nsee2 nsee5 B htab h hl.1.symm ["java/lang/RuntimeException", "java/lang/Exception"] (by decide +kernel) (by decide +kernel) hw473 hw15 (by decide +kernel) (by decide +kernel) at_X4_61_g at_X4_61_n at_X4_61_o dX4_endPlace_5 dX4_endPlace_8 (Or.inr ⟨dX4_endPlace_9, rfl⟩) dX4_endPlace_12 dX4_endPlace_15 (Nat.le_of_ble_eq_true rfl) (Nat.le_of_ble_eq_true rfl) (Nat.le_of_eq (Nat.zero_add _)) (Nat.le_of_eq (Nat.zero_add _)) (Nat.le_of_eq (Nat.zero_add _)) (Nat.le_of_eq (Nat.zero_add _))
set_option maxRecDepth 100000 in
theorem ok_X4_endPlace {l : Launch} (hl0 : l.stackTraces = false) {D : va_G} {cy : Nat → ClassId} {ad : Nat → Nat} (hap : sAp ad) (X : sX) (σ : sM) (v0 : Int32) (v1 : Int32) (v2 : Int32) {oo : String ⊕ Int32} {σ' : sM} (hf : f_X4_endPlace v0 v1 v2 σ = some (oo, σ')) : sMet l yX4_endPlace (sWs yX4_endPlace cX4_endPlace 3 (some .int)) 6 100 (sC (oI oo)) (sS (oI oo)) D cy ad X σ [.int v0, .int v1, .int v2] (oI oo) X σ' := by
  refine sMet_of (by decide +kernel) (Nat.le_of_ble_eq_true rfl) hap hl0 ?_
  intro p e s m args below meth c ls B hr htab hl h
  exact k_X4_endPlace_0 B hr htab _ _ _ _  hf _ _ _ h hl
set_option maxHeartbeats 4000000 in
set_option maxRecDepth 100000 in
theorem k_X4_end_0 {p : Program} {l : Launch} {e : Env} {s : State} {m : MethodId} {args : Array Value} {below : List Frame} {meth : Method} {c : Code} {D : va_G} {cy : Nat → ClassId} {ad : Nat → Nat} {X : sX} {oo : String ⊕ Int32} {σ' : sM} (B : sB p l s m meth c args cX4_end 4 RX4 D cy ad) (hr : meth.sig.returnType = (some .int)) (htab : ∀ x ∈ c.exceptionTable.toList, False) (v1 : Int32) (v2 : Int32) (σ : sM) (hf : f_X4_end v1 v2 σ = some (oo, σ')) : sGo p l e { frames := 7, cells := (sC (oI oo)), slots := (sS (oI oo)), locals := 122 } s m args below meth c D cy ad X 4 (sQ below args s (sC (oI oo)) (sS (oI oo)) D cy ad (oI oo) X σ') σ 0 [(0, .ref (ad 0)), (1, .int v1), (2, .int v2)] [] := by
  replace hf : (thn (f_X4_mapAt v1 σ) (fun tr1 σ1 => chk (isTb tr1) (thn (f_X4_endPlace (0 : Int32) (σ1 tr1 2) v2 σ1) (fun vr3 σ3 => chk (inb vr3 120) (some (.inr (σ3 (tr1 + 1) (vr3).toNatClampNeg), σ3)))))) = some (oo, σ') := hf
  intro H locs ls h hl
  have hx := B.1
  have hb := B.2.1
  refine lv_aload_n hx hb dX4_end_0 rfl (lv_at hl 0 rfl) ?_
  refine lv_iload_n hx hb dX4_end_1 rfl (lv_at hl 1 rfl) ?_
  rcases thn_cases hf with ⟨E1, σ1, hq1, ho⟩ | ⟨tr1, σ1, hq1, hf⟩
  · cases ho
    have hM := ok_X4_mapAt (D := D) (cy := cy) B.2.2.2.2.2.2.2.2 B.2.2.2.2.2.2.1 X _ v1 hq1
    exact sThrC (g_runV (o := .inl E1) (mc := 1) (ms := 6) (k := 0) (T := TX4) (N := 8) B h hM cw_X4_41 ⟨Nat.le_of_ble_eq_true rfl, Nat.le_of_ble_eq_true rfl⟩ (by decide) (S_row _) rfl rfl hl.1.symm rfl (Nat.le_of_ble_eq_true rfl) dX4_end_2 ⟨Nat.le_of_eq (Nat.zero_add _), Nat.le_of_eq (Nat.zero_add _)⟩) h (fun H locs q ce h hc hv hcl => sE_out B htab h hc hv hcl (Nat.le_of_eq (Nat.zero_add _)) (Nat.le_of_eq (Nat.zero_add _)))
  have hM := ok_X4_mapAt (D := D) (cy := cy) B.2.2.2.2.2.2.2.2 B.2.2.2.2.2.2.1 X _ v1 hq1
  refine sRetC1 (g_runV (o := .inr (some (.ref (ad tr1)))) (mc := 0) (ms := 0) (k := 0) (T := TX4) (N := 8) B h hM cw_X4_41 ⟨Nat.le_of_ble_eq_true rfl, Nat.le_of_ble_eq_true rfl⟩ (by decide) (S_row _) rfl rfl hl.1.symm rfl (Nat.le_of_ble_eq_true rfl) dX4_end_2 ⟨Nat.zero_le _, Nat.zero_le _⟩) h (fun H locs h => ?_)
  obtain ⟨c2, hf⟩ := chk_some hf
  refine lv_astore_n (lv' := [(3, .ref (ad tr1)), (0, .ref (ad 0)), (1, .int v1), (2, .int v2)]) hx hb dX4_end_5 rfl hl (by decide) rfl (fun ls hl => ?_)
  refine lv_aload_n hx hb dX4_end_6 rfl (lv_at hl 0 rfl) ?_
  refine g_get B h tr1 (T_lt (isTb_T c2)) (C := RX2) (T := TX2) (N := 3) (T_row (isTb_T c2) _) rfl hin_X2 0 (by decide) hw47 rfl rfl dX4_end_7 ?_
  refine lv_iconst (v := (0 : Int32)) hx hb dX4_end_10 (by decide) ?_
  refine lv_aload_n hx hb dX4_end_11 rfl (lv_at hl 0 rfl) ?_
  refine g_get B h tr1 (T_lt (isTb_T c2)) (C := RX2) (T := TX2) (N := 3) (T_row (isTb_T c2) _) rfl hin_X2 2 (by decide) hw53 rfl rfl dX4_end_12 ?_
  refine lv_iload_n hx hb dX4_end_15 rfl (lv_at hl 3 rfl) ?_
  rcases thn_cases hf with ⟨E3, σ3, hq3, ho⟩ | ⟨vr3, σ3, hq3, hf⟩
  · cases ho
    have hM := ok_X4_endPlace (D := D) (cy := cy) B.2.2.2.2.2.2.2.2 B.2.2.2.2.2.2.1 X _ (0 : Int32) (σ1 tr1 2) v2 hq3
    exact sThrC (g_runS (o := .inl E3) (mc := 1) (ms := 6) B h hM cw_X4_89 ⟨Nat.le_of_ble_eq_true rfl, Nat.le_of_ble_eq_true rfl⟩ rfl hl.1.symm rfl (Nat.le_of_ble_eq_true rfl) dX4_end_16 ⟨Nat.le_of_eq (Nat.zero_add _), Nat.le_of_eq (Nat.zero_add _)⟩) h (fun H locs q ce h hc hv hcl => sE_out B htab h hc hv hcl (Nat.le_of_eq (Nat.zero_add _)) (Nat.le_of_eq (Nat.zero_add _)))
  have hM := ok_X4_endPlace (D := D) (cy := cy) B.2.2.2.2.2.2.2.2 B.2.2.2.2.2.2.1 X _ (0 : Int32) (σ1 tr1 2) v2 hq3
  refine sRetC1 (g_runS (o := .inr (some (.int vr3))) (mc := 0) (ms := 0) B h hM cw_X4_89 ⟨Nat.le_of_ble_eq_true rfl, Nat.le_of_ble_eq_true rfl⟩ rfl hl.1.symm rfl (Nat.le_of_ble_eq_true rfl) dX4_end_16 ⟨Nat.zero_le _, Nat.zero_le _⟩) h (fun H locs h => ?_)
  obtain ⟨c4, hf⟩ := chk_some hf
  refine g_iald B h (tr1 + 1) (T_lt1 (isTb_T c2)) (n := 120) (T_keys (isTb_T c2)) (inb_in c4) dX4_end_19 ?_
  obtain ⟨rfl, rfl⟩ := Prod.mk.inj (Option.some.inj hf)
  exact sE_i B hr h dX4_end_20
set_option maxRecDepth 100000 in
theorem ok_X4_end {l : Launch} (hl0 : l.stackTraces = false) {D : va_G} {cy : Nat → ClassId} {ad : Nat → Nat} (hap : sAp ad) (X : sX) (σ : sM) (v1 : Int32) (v2 : Int32) {oo : String ⊕ Int32} {σ' : sM} (hf : f_X4_end v1 v2 σ = some (oo, σ')) : sMet l yX4_end (sWs yX4_end cX4_end 4 (some .int)) 7 122 (sC (oI oo)) (sS (oI oo)) D cy ad X σ [.ref (ad 0), .int v1, .int v2] (oI oo) X σ' := by
  refine sMet_of (by decide +kernel) (Nat.le_of_ble_eq_true rfl) hap hl0 ?_
  intro p e s m args below meth c ls B hr htab hl h
  exact k_X4_end_0 B hr htab _ _ _  hf _ _ _ h hl
set_option maxHeartbeats 4000000 in
set_option maxRecDepth 100000 in
theorem k_X4_historyAt_0 {p : Program} {l : Launch} {e : Env} {s : State} {m : MethodId} {args : Array Value} {below : List Frame} {meth : Method} {c : Code} {D : va_G} {cy : Nat → ClassId} {ad : Nat → Nat} {X : sX} {oo : String ⊕ Nat} {σ' : sM} (B : sB p l s m meth c args cX4_historyAt 2 RX4 D cy ad) (hr : meth.sig.returnType = (some (.object "Spanwarden$History"))) (htab : ∀ x ∈ c.exceptionTable.toList, False) (v1 : Int32) (σ : sM) (hf : f_X4_historyAt v1 σ = some (oo, σ')) : sGo p l e { frames := 6, cells := (sC (oA ad oo)), slots := (sS (oA ad oo)), locals := 100 } s m args below meth c D cy ad X 2 (sQ below args s (sC (oA ad oo)) (sS (oA ad oo)) D cy ad (oA ad oo) X σ') σ 0 [(0, .ref (ad 0)), (1, .int v1)] [] := by
  replace hf : (if v1 < 0 then (some (.inl "java/lang/IndexOutOfBoundsException", σ)) else (if v1 < (3 : Int32) then (chk (inb v1 3) (some (.inr (28 + 4 * v1.toNatClampNeg), σ))) else (some (.inl "java/lang/IndexOutOfBoundsException", σ)))) = some (oo, σ') := hf
  intro H locs ls h hl
  have hx := B.1
  have hb := B.2.1
  refine lv_iload_n hx hb dX4_historyAt_0 rfl (lv_at hl 1 rfl) ?_
  refine lv_if_lt (tgt := 13) hx hb dX4_historyAt_1 (by decide) (fun c1 => ?_) (fun c1 => ?_)
  · rw [if_pos c1] at hf
    obtain ⟨rfl, rfl⟩ := Prod.mk.inj (Option.some.inj hf)
    exact sE_thrW (own := RX4) (E := "java/lang/IndexOutOfBoundsException") (text := "no such history") (ic := 113) B htab h hl.1.symm ["java/lang/RuntimeException", "java/lang/Exception"] (by decide +kernel) (by decide +kernel) hw431 hw10 (by decide +kernel) (by decide +kernel) at_X4_113_g at_X4_113_n at_X4_113_o dX4_historyAt_13 dX4_historyAt_16 dX4_historyAt_17 dX4_historyAt_20 dX4_historyAt_23 (Nat.le_of_ble_eq_true rfl) (Nat.le_of_ble_eq_true rfl) (Nat.le_of_eq (Nat.zero_add _)) (Nat.le_of_eq (Nat.zero_add _)) (Nat.le_of_eq (Nat.zero_add _)) (Nat.le_of_eq (Nat.zero_add _))
  · rw [if_neg c1] at hf
    refine lv_iload_n hx hb dX4_historyAt_4 rfl (lv_at hl 1 rfl) ?_
    refine lv_aload_n hx hb dX4_historyAt_5 rfl (lv_at hl 0 rfl) ?_
    refine g_get B h 0 (by decide) (C := RX4) (T := TX4) (N := 8) (S_row _) rfl hin_X4 2 (by decide) hw129 rfl rfl dX4_historyAt_6 ?_
    refine g_alen B h 3 (by decide) 5 rfl rfl (v := (3 : Int32)) rfl dX4_historyAt_9 ?_
    refine lv_icmp_lt (tgt := 24) hx hb dX4_historyAt_10 (by decide) (fun c2 => ?_) (fun c2 => ?_)
    · rw [if_pos c2] at hf
      refine lv_aload_n hx hb dX4_historyAt_24 rfl (lv_at hl 0 rfl) ?_
      refine g_get B h 0 (by decide) (C := RX4) (T := TX4) (N := 8) (S_row _) rfl hin_X4 2 (by decide) hw129 rfl rfl dX4_historyAt_25 ?_
      refine lv_iload_n hx hb dX4_historyAt_28 rfl (lv_at hl 1 rfl) ?_
      obtain ⟨c3, hf⟩ := chk_some hf
      refine g_aald B h 3 (by decide) 5 (C := RX1) (n := 3) rfl rfl (inb_in c3) (r := (28 + 4 * v1.toNatClampNeg)) (hists_at c3) dX4_historyAt_29 ?_
      obtain ⟨rfl, rfl⟩ := Prod.mk.inj (Option.some.inj hf)
      exact sE_a B hr h dX4_historyAt_30
    · rw [if_neg c2] at hf
      obtain ⟨rfl, rfl⟩ := Prod.mk.inj (Option.some.inj hf)
      exact sE_thrW (own := RX4) (E := "java/lang/IndexOutOfBoundsException") (text := "no such history") (ic := 113) B htab h hl.1.symm ["java/lang/RuntimeException", "java/lang/Exception"] (by decide +kernel) (by decide +kernel) hw431 hw10 (by decide +kernel) (by decide +kernel) at_X4_113_g at_X4_113_n at_X4_113_o dX4_historyAt_13 dX4_historyAt_16 dX4_historyAt_17 dX4_historyAt_20 dX4_historyAt_23 (Nat.le_of_ble_eq_true rfl) (Nat.le_of_ble_eq_true rfl) (Nat.le_of_eq (Nat.zero_add _)) (Nat.le_of_eq (Nat.zero_add _)) (Nat.le_of_eq (Nat.zero_add _)) (Nat.le_of_eq (Nat.zero_add _))
set_option maxRecDepth 100000 in
theorem ok_X4_historyAt {l : Launch} (hl0 : l.stackTraces = false) {D : va_G} {cy : Nat → ClassId} {ad : Nat → Nat} (hap : sAp ad) (X : sX) (σ : sM) (v1 : Int32) {oo : String ⊕ Nat} {σ' : sM} (hf : f_X4_historyAt v1 σ = some (oo, σ')) : sMet l yX4_historyAt (sWs yX4_historyAt cX4_historyAt 2 (some (.object "Spanwarden$History"))) 6 100 (sC (oA ad oo)) (sS (oA ad oo)) D cy ad X σ [.ref (ad 0), .int v1] (oA ad oo) X σ' := by
  refine sMet_of (by decide +kernel) (Nat.le_of_ble_eq_true rfl) hap hl0 ?_
  intro p e s m args below meth c ls B hr htab hl h
  exact k_X4_historyAt_0 B hr htab _ _  hf _ _ _ h hl
