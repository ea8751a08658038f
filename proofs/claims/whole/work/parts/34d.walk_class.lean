set_option maxHeartbeats 4000000 in
set_option maxRecDepth 100000 in
theorem k_X4_open_0 {p : Program} {l : Launch} {e : Env} {s : State} {m : MethodId} {args : Array Value} {below : List Frame} {meth : Method} {c : Code} {D : va_G} {cy : Nat → ClassId} {ad : Nat → Nat} {X : sX} {oo : String ⊕ Int32} {σ' : sM} (B : sB p l s m meth c args cX4_open 9 RX4 D cy ad) (hr : meth.sig.returnType = (some .int)) (htab : ∀ x ∈ c.exceptionTable.toList, False) (v1 : Int32) (v2 : Int32) (v3 : Int32) (v4 : Int32) (v5 : Int32) (v6 : Int32) (σ : sM) (hf : f_X4_open v1 v2 v3 v4 v5 v6 σ = some (oo, σ')) : sGo p l e { frames := 7, cells := (sC (oI oo)), slots := (sS (oI oo)), locals := 121 } s m args below meth c D cy ad X 9 (sQ below args s (sC (oI oo)) (sS (oI oo)) D cy ad (oI oo) X σ') σ 0 [(0, .ref (ad 0)), (1, .int v1), (2, .int v2), (3, .int v3), (4, .int v4), (5, .int v5), (6, .int v6)] [] := by
  replace hf : (thn (f_X4_viewAt v1 σ) (fun tr1 σ1 => chk (isVb tr1) (thn (f_X4_mapAt v2 σ1) (fun tr3 σ3 => chk (isTb tr3) (if v3 ≤ v5 then (wthn (f_X3_becomeSpan tr1 tr3 v3 v4 v5 v6 σ3) (fun _ σ6 => rthn (f_X3_countEntries tr1 σ6) (fun vr7 => some (.inr vr7, σ6)))) else (some (.inl "java/lang/IllegalArgumentException", σ3))))))) = some (oo, σ') := hf
  intro H locs ls h hl
  have hx := B.1
  have hb := B.2.1
  refine lv_aload_n hx hb dX4_open_0 rfl (lv_at hl 0 rfl) ?_
  refine lv_iload_n hx hb dX4_open_1 rfl (lv_at hl 1 rfl) ?_
  rcases thn_cases hf with ⟨E1, σ1, hq1, ho⟩ | ⟨tr1, σ1, hq1, hf⟩
  · cases ho
    have hM := ok_X4_viewAt (D := D) (cy := cy) B.2.2.2.2.2.2.2.2 B.2.2.2.2.2.2.1 X _ v1 hq1
    exact sThrC (g_runV (o := .inl E1) (mc := 1) (ms := 6) (k := 0) (T := TX4) (N := 8) B h hM cw_X4_120 ⟨Nat.le_of_ble_eq_true rfl, Nat.le_of_ble_eq_true rfl⟩ (by decide) (S_row _) rfl rfl hl.1.symm rfl (Nat.le_of_ble_eq_true rfl) dX4_open_2 ⟨Nat.le_of_eq (Nat.zero_add _), Nat.le_of_eq (Nat.zero_add _)⟩) h (fun H locs q ce h hc hv hcl => sE_out B htab h hc hv hcl (Nat.le_of_eq (Nat.zero_add _)) (Nat.le_of_eq (Nat.zero_add _)))
  have hM := ok_X4_viewAt (D := D) (cy := cy) B.2.2.2.2.2.2.2.2 B.2.2.2.2.2.2.1 X _ v1 hq1
  refine sRetC1 (g_runV (o := .inr (some (.ref (ad tr1)))) (mc := 0) (ms := 0) (k := 0) (T := TX4) (N := 8) B h hM cw_X4_120 ⟨Nat.le_of_ble_eq_true rfl, Nat.le_of_ble_eq_true rfl⟩ (by decide) (S_row _) rfl rfl hl.1.symm rfl (Nat.le_of_ble_eq_true rfl) dX4_open_2 ⟨Nat.zero_le _, Nat.zero_le _⟩) h (fun H locs h => ?_)
  obtain ⟨c2, hf⟩ := chk_some hf
  refine lv_astore (lv' := [(7, .ref (ad tr1)), (0, .ref (ad 0)), (1, .int v1), (2, .int v2), (3, .int v3), (4, .int v4), (5, .int v5), (6, .int v6)]) hx hb dX4_open_5 hl (by decide) rfl (fun ls hl => ?_)
  refine lv_aload_n hx hb dX4_open_7 rfl (lv_at hl 1 rfl) ?_
  refine lv_iload_n hx hb dX4_open_8 rfl (lv_at hl 3 rfl) ?_
  rcases thn_cases hf with ⟨E3, σ3, hq3, ho⟩ | ⟨tr3, σ3, hq3, hf⟩
  · cases ho
    have hM := ok_X4_mapAt (D := D) (cy := cy) B.2.2.2.2.2.2.2.2 B.2.2.2.2.2.2.1 X _ v2 hq3
    exact sThrC (g_runV (o := .inl E3) (mc := 1) (ms := 6) (k := 0) (T := TX4) (N := 8) B h hM cw_X4_41 ⟨Nat.le_of_ble_eq_true rfl, Nat.le_of_ble_eq_true rfl⟩ (by decide) (S_row _) rfl rfl hl.1.symm rfl (Nat.le_of_ble_eq_true rfl) dX4_open_9 ⟨Nat.le_of_eq (Nat.zero_add _), Nat.le_of_eq (Nat.zero_add _)⟩) h (fun H locs q ce h hc hv hcl => sE_out B htab h hc hv hcl (Nat.le_of_eq (Nat.zero_add _)) (Nat.le_of_eq (Nat.zero_add _)))
  have hM := ok_X4_mapAt (D := D) (cy := cy) B.2.2.2.2.2.2.2.2 B.2.2.2.2.2.2.1 X _ v2 hq3
  refine sRetC1 (g_runV (o := .inr (some (.ref (ad tr3)))) (mc := 0) (ms := 0) (k := 0) (T := TX4) (N := 8) B h hM cw_X4_41 ⟨Nat.le_of_ble_eq_true rfl, Nat.le_of_ble_eq_true rfl⟩ (by decide) (S_row _) rfl rfl hl.1.symm rfl (Nat.le_of_ble_eq_true rfl) dX4_open_9 ⟨Nat.zero_le _, Nat.zero_le _⟩) h (fun H locs h => ?_)
  obtain ⟨c4, hf⟩ := chk_some hf
  refine lv_astore (lv' := [(8, .ref (ad tr3)), (7, .ref (ad tr1)), (0, .ref (ad 0)), (1, .int v1), (2, .int v2), (3, .int v3), (4, .int v4), (5, .int v5), (6, .int v6)]) hx hb dX4_open_12 hl (by decide) rfl (fun ls hl => ?_)
  refine lv_iload hx hb dX4_open_14 (lv_at hl 7 rfl) ?_
  refine lv_iload_n hx hb dX4_open_16 rfl (lv_at hl 5 rfl) ?_
  refine lv_icmp_ge (tgt := 30) hx hb dX4_open_17 (by decide) (fun c5 => ?_) (fun c5 => ?_)
  · rw [if_pos c5] at hf
    refine lv_aload hx hb dX4_open_30 (lv_at hl 1 rfl) ?_
    refine lv_aload hx hb dX4_open_32 (lv_at hl 0 rfl) ?_
    refine lv_iload_n hx hb dX4_open_34 rfl (lv_at hl 5 rfl) ?_
    refine lv_iload hx hb dX4_open_35 (lv_at hl 6 rfl) ?_
    refine lv_iload hx hb dX4_open_37 (lv_at hl 7 rfl) ?_
    refine lv_iload hx hb dX4_open_39 (lv_at hl 8 rfl) ?_
    obtain ⟨vr6, σ6, hq6, hf⟩ := wthn_some hf
    refine sRetC0 (g_runV (k := tr1) (T := TX3) (N := 6) B h (ok_X3_becomeSpan B.2.2.2.2.2.2.2.2 B.2.2.2.2.2.2.1 _ _ (isVb_V c2) (isTb_T c4) v3 v4 v5 v6 hq6) cw_X4_126 ⟨Nat.le_of_ble_eq_true rfl, Nat.le_of_ble_eq_true rfl⟩ (V_lt (isVb_V c2)) (V_row (isVb_V c2) _) rfl rfl hl.1.symm rfl (Nat.le_of_ble_eq_true rfl) dX4_open_41 ⟨Nat.zero_le _, Nat.zero_le _⟩) h (fun H locs h => ?_)
    refine lv_aload hx hb dX4_open_44 (lv_at hl 1 rfl) ?_
    obtain ⟨vr7, hq7, hf⟩ := rthn_some hf
    refine sRetC1 (g_runV (k := tr1) (T := TX3) (N := 6) B h (ok_X3_countEntries B.2.2.2.2.2.2.2.2 B.2.2.2.2.2.2.1 _ _ (isVb_V c2) hq7) cw_X4_130 ⟨Nat.le_of_ble_eq_true rfl, Nat.le_of_ble_eq_true rfl⟩ (V_lt (isVb_V c2)) (V_row (isVb_V c2) _) rfl rfl hl.1.symm rfl (Nat.le_of_ble_eq_true rfl) dX4_open_46 ⟨Nat.zero_le _, Nat.zero_le _⟩) h (fun H locs h => ?_)
    obtain ⟨rfl, rfl⟩ := Prod.mk.inj (Option.some.inj hf)
    exact sE_i B hr h dX4_open_49
  · rw [if_neg c5] at hf
    obtain ⟨rfl, rfl⟩ := Prod.mk.inj (Option.some.inj hf)
    exact sE_thr (own := RX4) (E := "java/lang/IllegalArgumentException") (text := "the span ends below where it begins") (ic := 79) B htab h hl.1.symm ["java/lang/RuntimeException", "java/lang/Exception"] (by decide +kernel) (by decide +kernel) hw508 hw16 (by decide +kernel) (by decide +kernel) at_X4_79_g at_X4_79_n at_X4_79_o dX4_open_20 dX4_open_23 dX4_open_24 dX4_open_26 dX4_open_29 (Nat.le_of_ble_eq_true rfl) (Nat.le_of_ble_eq_true rfl) (Nat.le_of_eq (Nat.zero_add _)) (Nat.le_of_eq (Nat.zero_add _)) (Nat.le_of_eq (Nat.zero_add _)) (Nat.le_of_eq (Nat.zero_add _))
set_option maxRecDepth 100000 in
theorem ok_X4_open {l : Launch} (hl0 : l.stackTraces = false) {D : va_G} {cy : Nat → ClassId} {ad : Nat → Nat} (hap : sAp ad) (X : sX) (σ : sM) (v1 : Int32) (v2 : Int32) (v3 : Int32) (v4 : Int32) (v5 : Int32) (v6 : Int32) {oo : String ⊕ Int32} {σ' : sM} (hf : f_X4_open v1 v2 v3 v4 v5 v6 σ = some (oo, σ')) : sMet l yX4_open (sWs yX4_open cX4_open 9 (some .int)) 7 121 (sC (oI oo)) (sS (oI oo)) D cy ad X σ [.ref (ad 0), .int v1, .int v2, .int v3, .int v4, .int v5, .int v6] (oI oo) X σ' := by
  refine sMet_of (by decide +kernel) (Nat.le_of_ble_eq_true rfl) hap hl0 ?_
  intro p e s m args below meth c ls B hr htab hl h
  exact k_X4_open_0 B hr htab _ _ _ _ _ _ _  hf _ _ _ h hl
set_option maxHeartbeats 4000000 in
set_option maxRecDepth 100000 in
theorem k_X4_opposite_0 {p : Program} {l : Launch} {e : Env} {s : State} {m : MethodId} {args : Array Value} {below : List Frame} {meth : Method} {c : Code} {D : va_G} {cy : Nat → ClassId} {ad : Nat → Nat} {X : sX} {oo : String ⊕ Int32} {σ' : sM} (B : sB p l s m meth c args cX4_opposite 7 RX4 D cy ad) (hr : meth.sig.returnType = (some .int)) (htab : ∀ x ∈ c.exceptionTable.toList, False) (v1 : Int32) (v2 : Int32) (v3 : Int32) (σ : sM) (hf : f_X4_opposite v1 v2 v3 σ = some (oo, σ')) : sGo p l e { frames := 7, cells := (sC (oI oo)), slots := (sS (oI oo)), locals := 180 } s m args below meth c D cy ad X 7 (sQ below args s (sC (oI oo)) (sS (oI oo)) D cy ad (oI oo) X σ') σ 0 [(0, .ref (ad 0)), (1, .int v1), (2, .int v2), (3, .int v3)] [] := by
  replace hf : (thn (f_X4_historyAt v1 σ) (fun tr1 σ1 => chk (isHb tr1) (thn (f_X4_mapAt v2 σ1) (fun tr3 σ3 => chk (isTb tr3) (thn (f_X4_historyAt v3 σ3) (fun tr5 σ5 => chk (isHb tr5) (wthn (f_X0_turnRound tr1 tr3 tr5 σ5) (fun _ σ7 => some (.inr (σ7 tr5 0), σ7))))))))) = some (oo, σ') := hf
  intro H locs ls h hl
  have hx := B.1
  have hb := B.2.1
  refine lv_aload_n hx hb dX4_opposite_0 rfl (lv_at hl 0 rfl) ?_
  refine lv_iload_n hx hb dX4_opposite_1 rfl (lv_at hl 1 rfl) ?_
  rcases thn_cases hf with ⟨E1, σ1, hq1, ho⟩ | ⟨tr1, σ1, hq1, hf⟩
  · cases ho
    have hM := ok_X4_historyAt (D := D) (cy := cy) B.2.2.2.2.2.2.2.2 B.2.2.2.2.2.2.1 X _ v1 hq1
    exact sThrC (g_runV (o := .inl E1) (mc := 1) (ms := 6) (k := 0) (T := TX4) (N := 8) B h hM cw_X4_174 ⟨Nat.le_of_ble_eq_true rfl, Nat.le_of_ble_eq_true rfl⟩ (by decide) (S_row _) rfl rfl hl.1.symm rfl (Nat.le_of_ble_eq_true rfl) dX4_opposite_2 ⟨Nat.le_of_eq (Nat.zero_add _), Nat.le_of_eq (Nat.zero_add _)⟩) h (fun H locs q ce h hc hv hcl => sE_out B htab h hc hv hcl (Nat.le_of_eq (Nat.zero_add _)) (Nat.le_of_eq (Nat.zero_add _)))
  have hM := ok_X4_historyAt (D := D) (cy := cy) B.2.2.2.2.2.2.2.2 B.2.2.2.2.2.2.1 X _ v1 hq1
  refine sRetC1 (g_runV (o := .inr (some (.ref (ad tr1)))) (mc := 0) (ms := 0) (k := 0) (T := TX4) (N := 8) B h hM cw_X4_174 ⟨Nat.le_of_ble_eq_true rfl, Nat.le_of_ble_eq_true rfl⟩ (by decide) (S_row _) rfl rfl hl.1.symm rfl (Nat.le_of_ble_eq_true rfl) dX4_opposite_2 ⟨Nat.zero_le _, Nat.zero_le _⟩) h (fun H locs h => ?_)
  obtain ⟨c2, hf⟩ := chk_some hf
  refine lv_astore (lv' := [(4, .ref (ad tr1)), (0, .ref (ad 0)), (1, .int v1), (2, .int v2), (3, .int v3)]) hx hb dX4_opposite_5 hl (by decide) rfl (fun ls hl => ?_)
  refine lv_aload_n hx hb dX4_opposite_7 rfl (lv_at hl 1 rfl) ?_
  refine lv_iload_n hx hb dX4_opposite_8 rfl (lv_at hl 3 rfl) ?_
  rcases thn_cases hf with ⟨E3, σ3, hq3, ho⟩ | ⟨tr3, σ3, hq3, hf⟩
  · cases ho
    have hM := ok_X4_mapAt (D := D) (cy := cy) B.2.2.2.2.2.2.2.2 B.2.2.2.2.2.2.1 X _ v2 hq3
    exact sThrC (g_runV (o := .inl E3) (mc := 1) (ms := 6) (k := 0) (T := TX4) (N := 8) B h hM cw_X4_41 ⟨Nat.le_of_ble_eq_true rfl, Nat.le_of_ble_eq_true rfl⟩ (by decide) (S_row _) rfl rfl hl.1.symm rfl (Nat.le_of_ble_eq_true rfl) dX4_opposite_9 ⟨Nat.le_of_eq (Nat.zero_add _), Nat.le_of_eq (Nat.zero_add _)⟩) h (fun H locs q ce h hc hv hcl => sE_out B htab h hc hv hcl (Nat.le_of_eq (Nat.zero_add _)) (Nat.le_of_eq (Nat.zero_add _)))
  have hM := ok_X4_mapAt (D := D) (cy := cy) B.2.2.2.2.2.2.2.2 B.2.2.2.2.2.2.1 X _ v2 hq3
  refine sRetC1 (g_runV (o := .inr (some (.ref (ad tr3)))) (mc := 0) (ms := 0) (k := 0) (T := TX4) (N := 8) B h hM cw_X4_41 ⟨Nat.le_of_ble_eq_true rfl, Nat.le_of_ble_eq_true rfl⟩ (by decide) (S_row _) rfl rfl hl.1.symm rfl (Nat.le_of_ble_eq_true rfl) dX4_opposite_9 ⟨Nat.zero_le _, Nat.zero_le _⟩) h (fun H locs h => ?_)
  obtain ⟨c4, hf⟩ := chk_some hf
  refine lv_astore (lv' := [(5, .ref (ad tr3)), (4, .ref (ad tr1)), (0, .ref (ad 0)), (1, .int v1), (2, .int v2), (3, .int v3)]) hx hb dX4_opposite_12 hl (by decide) rfl (fun ls hl => ?_)
  refine lv_aload_n hx hb dX4_opposite_14 rfl (lv_at hl 2 rfl) ?_
  refine lv_iload_n hx hb dX4_opposite_15 rfl (lv_at hl 5 rfl) ?_
  rcases thn_cases hf with ⟨E5, σ5, hq5, ho⟩ | ⟨tr5, σ5, hq5, hf⟩
  · cases ho
    have hM := ok_X4_historyAt (D := D) (cy := cy) B.2.2.2.2.2.2.2.2 B.2.2.2.2.2.2.1 X _ v3 hq5
    exact sThrC (g_runV (o := .inl E5) (mc := 1) (ms := 6) (k := 0) (T := TX4) (N := 8) B h hM cw_X4_174 ⟨Nat.le_of_ble_eq_true rfl, Nat.le_of_ble_eq_true rfl⟩ (by decide) (S_row _) rfl rfl hl.1.symm rfl (Nat.le_of_ble_eq_true rfl) dX4_opposite_16 ⟨Nat.le_of_eq (Nat.zero_add _), Nat.le_of_eq (Nat.zero_add _)⟩) h (fun H locs q ce h hc hv hcl => sE_out B htab h hc hv hcl (Nat.le_of_eq (Nat.zero_add _)) (Nat.le_of_eq (Nat.zero_add _)))
  have hM := ok_X4_historyAt (D := D) (cy := cy) B.2.2.2.2.2.2.2.2 B.2.2.2.2.2.2.1 X _ v3 hq5
  refine sRetC1 (g_runV (o := .inr (some (.ref (ad tr5)))) (mc := 0) (ms := 0) (k := 0) (T := TX4) (N := 8) B h hM cw_X4_174 ⟨Nat.le_of_ble_eq_true rfl, Nat.le_of_ble_eq_true rfl⟩ (by decide) (S_row _) rfl rfl hl.1.symm rfl (Nat.le_of_ble_eq_true rfl) dX4_opposite_16 ⟨Nat.zero_le _, Nat.zero_le _⟩) h (fun H locs h => ?_)
  obtain ⟨c6, hf⟩ := chk_some hf
  refine lv_astore (lv' := [(6, .ref (ad tr5)), (5, .ref (ad tr3)), (4, .ref (ad tr1)), (0, .ref (ad 0)), (1, .int v1), (2, .int v2), (3, .int v3)]) hx hb dX4_opposite_19 hl (by decide) rfl (fun ls hl => ?_)
  refine lv_aload_n hx hb dX4_opposite_21 rfl (lv_at hl 3 rfl) ?_
  refine g_get B h 0 (by decide) (C := RX4) (T := TX4) (N := 8) (S_row _) rfl hin_X4 3 (by decide) hw130 rfl rfl dX4_opposite_22 ?_
  refine lv_aload hx hb dX4_opposite_25 (lv_at hl 2 rfl) ?_
  refine lv_aload hx hb dX4_opposite_27 (lv_at hl 1 rfl) ?_
  refine lv_aload hx hb dX4_opposite_29 (lv_at hl 0 rfl) ?_
  obtain ⟨vr7, σ7, hq7, hf⟩ := wthn_some hf
  refine sRetC0 (g_runV (k := 4) (T := TX0) (N := 4) B h (ok_X0_turnRound B.2.2.2.2.2.2.2.2 B.2.2.2.2.2.2.1 _ _ (isHb_H c2) (isTb_T c4) (isHb_H c6) hq7) cw_X4_209 ⟨Nat.le_of_ble_eq_true rfl, Nat.le_of_ble_eq_true rfl⟩ (by decide) (B_row _) rfl rfl hl.1.symm rfl (Nat.le_of_ble_eq_true rfl) dX4_opposite_31 ⟨Nat.zero_le _, Nat.zero_le _⟩) h (fun H locs h => ?_)
  refine lv_aload hx hb dX4_opposite_34 (lv_at hl 0 rfl) ?_
  refine g_get B h tr5 (H_lt (isHb_H c6)) (C := RX1) (T := TX1) (N := 4) (H_row (isHb_H c6) _) rfl hin_X1 0 (by decide) hw72 rfl rfl dX4_opposite_36 ?_
  obtain ⟨rfl, rfl⟩ := Prod.mk.inj (Option.some.inj hf)
  exact sE_i B hr h dX4_opposite_39
set_option maxRecDepth 100000 in
theorem ok_X4_opposite {l : Launch} (hl0 : l.stackTraces = false) {D : va_G} {cy : Nat → ClassId} {ad : Nat → Nat} (hap : sAp ad) (X : sX) (σ : sM) (v1 : Int32) (v2 : Int32) (v3 : Int32) {oo : String ⊕ Int32} {σ' : sM} (hf : f_X4_opposite v1 v2 v3 σ = some (oo, σ')) : sMet l yX4_opposite (sWs yX4_opposite cX4_opposite 7 (some .int)) 7 180 (sC (oI oo)) (sS (oI oo)) D cy ad X σ [.ref (ad 0), .int v1, .int v2, .int v3] (oI oo) X σ' := by
  refine sMet_of (by decide +kernel) (Nat.le_of_ble_eq_true rfl) hap hl0 ?_
  intro p e s m args below meth c ls B hr htab hl h
  exact k_X4_opposite_0 B hr htab _ _ _ _  hf _ _ _ h hl
set_option maxHeartbeats 4000000 in
set_option maxRecDepth 100000 in
theorem k_X4_play_0 {p : Program} {l : Launch} {e : Env} {s : State} {m : MethodId} {args : Array Value} {below : List Frame} {meth : Method} {c : Code} {D : va_G} {cy : Nat → ClassId} {ad : Nat → Nat} {X : sX} {oo : String ⊕ Int32} {σ' : sM} (B : sB p l s m meth c args cX4_play 5 RX4 D cy ad) (hr : meth.sig.returnType = (some .int)) (htab : ∀ x ∈ c.exceptionTable.toList, False) (v1 : Int32) (v2 : Int32) (σ : sM) (hf : f_X4_play v1 v2 σ = some (oo, σ')) : sGo p l e { frames := 7, cells := (sC (oI oo)), slots := (sS (oI oo)), locals := 199 } s m args below meth c D cy ad X 5 (sQ below args s (sC (oI oo)) (sS (oI oo)) D cy ad (oI oo) X σ') σ 0 [(0, .ref (ad 0)), (1, .int v1), (2, .int v2)] [] := by
  replace hf : (thn (f_X4_historyAt v1 σ) (fun tr1 σ1 => chk (isHb tr1) (thn (f_X4_mapAt v2 σ1) (fun tr3 σ3 => chk (isTb tr3) (wthn (f_X0_hasRoom tr3 tr1 tr1 σ3) (fun vr5 σ5 => if vr5 = 0 then (some (.inl "java/lang/IllegalStateException", σ5)) else (wthn (f_X1_playOn tr1 tr3 σ5) (fun vr7 σ7 => some (.inr vr7, σ7))))))))) = some (oo, σ') := hf
  intro H locs ls h hl
  have hx := B.1
  have hb := B.2.1
  refine lv_aload_n hx hb dX4_play_0 rfl (lv_at hl 0 rfl) ?_
  refine lv_iload_n hx hb dX4_play_1 rfl (lv_at hl 1 rfl) ?_
  rcases thn_cases hf with ⟨E1, σ1, hq1, ho⟩ | ⟨tr1, σ1, hq1, hf⟩
  · cases ho
    have hM := ok_X4_historyAt (D := D) (cy := cy) B.2.2.2.2.2.2.2.2 B.2.2.2.2.2.2.1 X _ v1 hq1
    exact sThrC (g_runV (o := .inl E1) (mc := 1) (ms := 6) (k := 0) (T := TX4) (N := 8) B h hM cw_X4_174 ⟨Nat.le_of_ble_eq_true rfl, Nat.le_of_ble_eq_true rfl⟩ (by decide) (S_row _) rfl rfl hl.1.symm rfl (Nat.le_of_ble_eq_true rfl) dX4_play_2 ⟨Nat.le_of_eq (Nat.zero_add _), Nat.le_of_eq (Nat.zero_add _)⟩) h (fun H locs q ce h hc hv hcl => sE_out B htab h hc hv hcl (Nat.le_of_eq (Nat.zero_add _)) (Nat.le_of_eq (Nat.zero_add _)))
  have hM := ok_X4_historyAt (D := D) (cy := cy) B.2.2.2.2.2.2.2.2 B.2.2.2.2.2.2.1 X _ v1 hq1
  refine sRetC1 (g_runV (o := .inr (some (.ref (ad tr1)))) (mc := 0) (ms := 0) (k := 0) (T := TX4) (N := 8) B h hM cw_X4_174 ⟨Nat.le_of_ble_eq_true rfl, Nat.le_of_ble_eq_true rfl⟩ (by decide) (S_row _) rfl rfl hl.1.symm rfl (Nat.le_of_ble_eq_true rfl) dX4_play_2 ⟨Nat.zero_le _, Nat.zero_le _⟩) h (fun H locs h => ?_)
  obtain ⟨c2, hf⟩ := chk_some hf
  refine lv_astore_n (lv' := [(3, .ref (ad tr1)), (0, .ref (ad 0)), (1, .int v1), (2, .int v2)]) hx hb dX4_play_5 rfl hl (by decide) rfl (fun ls hl => ?_)
  refine lv_aload_n hx hb dX4_play_6 rfl (lv_at hl 1 rfl) ?_
  refine lv_iload_n hx hb dX4_play_7 rfl (lv_at hl 3 rfl) ?_
  rcases thn_cases hf with ⟨E3, σ3, hq3, ho⟩ | ⟨tr3, σ3, hq3, hf⟩
  · cases ho
    have hM := ok_X4_mapAt (D := D) (cy := cy) B.2.2.2.2.2.2.2.2 B.2.2.2.2.2.2.1 X _ v2 hq3
    exact sThrC (g_runV (o := .inl E3) (mc := 1) (ms := 6) (k := 0) (T := TX4) (N := 8) B h hM cw_X4_41 ⟨Nat.le_of_ble_eq_true rfl, Nat.le_of_ble_eq_true rfl⟩ (by decide) (S_row _) rfl rfl hl.1.symm rfl (Nat.le_of_ble_eq_true rfl) dX4_play_8 ⟨Nat.le_of_eq (Nat.zero_add _), Nat.le_of_eq (Nat.zero_add _)⟩) h (fun H locs q ce h hc hv hcl => sE_out B htab h hc hv hcl (Nat.le_of_eq (Nat.zero_add _)) (Nat.le_of_eq (Nat.zero_add _)))
  have hM := ok_X4_mapAt (D := D) (cy := cy) B.2.2.2.2.2.2.2.2 B.2.2.2.2.2.2.1 X _ v2 hq3
  refine sRetC1 (g_runV (o := .inr (some (.ref (ad tr3)))) (mc := 0) (ms := 0) (k := 0) (T := TX4) (N := 8) B h hM cw_X4_41 ⟨Nat.le_of_ble_eq_true rfl, Nat.le_of_ble_eq_true rfl⟩ (by decide) (S_row _) rfl rfl hl.1.symm rfl (Nat.le_of_ble_eq_true rfl) dX4_play_8 ⟨Nat.zero_le _, Nat.zero_le _⟩) h (fun H locs h => ?_)
  obtain ⟨c4, hf⟩ := chk_some hf
  refine lv_astore (lv' := [(4, .ref (ad tr3)), (3, .ref (ad tr1)), (0, .ref (ad 0)), (1, .int v1), (2, .int v2)]) hx hb dX4_play_11 hl (by decide) rfl (fun ls hl => ?_)
  refine lv_aload_n hx hb dX4_play_13 rfl (lv_at hl 2 rfl) ?_
  refine g_get B h 0 (by decide) (C := RX4) (T := TX4) (N := 8) (S_row _) rfl hin_X4 3 (by decide) hw130 rfl rfl dX4_play_14 ?_
  refine lv_aload hx hb dX4_play_17 (lv_at hl 0 rfl) ?_
  refine lv_aload_n hx hb dX4_play_19 rfl (lv_at hl 1 rfl) ?_
  refine lv_aload_n hx hb dX4_play_20 rfl (lv_at hl 1 rfl) ?_
  obtain ⟨vr5, σ5, hq5, hf⟩ := wthn_some hf
  refine sRetC1 (g_runV (k := 4) (T := TX0) (N := 4) B h (ok_X0_hasRoom B.2.2.2.2.2.2.2.2 B.2.2.2.2.2.2.1 _ _ (isTb_T c4) (isHb_H c2) (isHb_H c2) hq5) cw_X4_190 ⟨Nat.le_of_ble_eq_true rfl, Nat.le_of_ble_eq_true rfl⟩ (by decide) (B_row _) rfl rfl hl.1.symm rfl (Nat.le_of_ble_eq_true rfl) dX4_play_21 ⟨Nat.zero_le _, Nat.zero_le _⟩) h (fun H locs h => ?_)
  refine lv_if_ne (tgt := 37) hx hb dX4_play_24 (by decide) (fun c6 => ?_) (fun c6 => ?_)
  · rw [if_neg c6] at hf
    refine lv_aload_n hx hb dX4_play_37 rfl (lv_at hl 1 rfl) ?_
    refine lv_aload hx hb dX4_play_38 (lv_at hl 0 rfl) ?_
    obtain ⟨vr7, σ7, hq7, hf⟩ := wthn_some hf
    refine sRetC1 (g_runV (k := tr1) (T := TX1) (N := 4) B h (ok_X1_playOn B.2.2.2.2.2.2.2.2 B.2.2.2.2.2.2.1 _ _ (isHb_H c2) (isTb_T c4) hq7) cw_X4_196 ⟨Nat.le_of_ble_eq_true rfl, Nat.le_of_ble_eq_true rfl⟩ (H_lt (isHb_H c2)) (H_row (isHb_H c2) _) rfl rfl hl.1.symm rfl (Nat.le_of_ble_eq_true rfl) dX4_play_40 ⟨Nat.zero_le _, Nat.zero_le _⟩) h (fun H locs h => ?_)
    obtain ⟨rfl, rfl⟩ := Prod.mk.inj (Option.some.inj hf)
    exact sE_i B hr h dX4_play_43
  · rw [if_pos c6] at hf
    obtain ⟨rfl, rfl⟩ := Prod.mk.inj (Option.some.inj hf)
    exact sE_thr (own := RX4) (E := "java/lang/IllegalStateException") (text := "the map and the keys of the history are too many") (ic := 150) B htab h hl.1.symm ["java/lang/RuntimeException", "java/lang/Exception"] (by decide +kernel) (by decide +kernel) hw448 hw13 (by decide +kernel) (by decide +kernel) at_X4_150_g at_X4_150_n at_X4_150_o dX4_play_27 dX4_play_30 dX4_play_31 dX4_play_33 dX4_play_36 (Nat.le_of_ble_eq_true rfl) (Nat.le_of_ble_eq_true rfl) (Nat.le_of_eq (Nat.zero_add _)) (Nat.le_of_eq (Nat.zero_add _)) (Nat.le_of_eq (Nat.zero_add _)) (Nat.le_of_eq (Nat.zero_add _))
set_option maxRecDepth 100000 in
theorem ok_X4_play {l : Launch} (hl0 : l.stackTraces = false) {D : va_G} {cy : Nat → ClassId} {ad : Nat → Nat} (hap : sAp ad) (X : sX) (σ : sM) (v1 : Int32) (v2 : Int32) {oo : String ⊕ Int32} {σ' : sM} (hf : f_X4_play v1 v2 σ = some (oo, σ')) : sMet l yX4_play (sWs yX4_play cX4_play 5 (some .int)) 7 199 (sC (oI oo)) (sS (oI oo)) D cy ad X σ [.ref (ad 0), .int v1, .int v2] (oI oo) X σ' := by
  refine sMet_of (by decide +kernel) (Nat.le_of_ble_eq_true rfl) hap hl0 ?_
  intro p e s m args below meth c ls B hr htab hl h
  exact k_X4_play_0 B hr htab _ _ _  hf _ _ _ h hl
set_option maxHeartbeats 4000000 in
set_option maxRecDepth 100000 in
theorem k_X4_playByTurns_83 {p : Program} {l : Launch} {e : Env} {s : State} {m : MethodId} {args : Array Value} {below : List Frame} {meth : Method} {c : Code} {D : va_G} {cy : Nat → ClassId} {ad : Nat → Nat} {X : sX} {r : Unit} {σ' : sM} (B : sB p l s m meth c args cX4_playByTurns 9 RX4 D cy ad) (hr : meth.sig.returnType = none) {K20 : Nat → Nat → Int32 → Nat → Int32 → Int32 → Int32 → Int32 → sM → Option (Unit × sM)} (hK20 : ∀ (t0 : Nat) (t1 : Nat) (v2 : Int32) (t3 : Nat) (v4 : Int32) (v5 : Int32) (v6 : Int32) (v7 : Int32) (σ : sM) (ft0 : isH t0) (ft1 : isH t1) (ft3 : isT t3), K20 t0 t1 v2 t3 v4 v5 v6 v7 σ = some (r, σ') → sGo p l e { frames := 5, cells := 0, slots := 0, locals := 198 } s m args below meth c D cy ad X 9 (sQ below args s 0 0 D cy ad (.inr none) X σ') σ 20 [(0, .ref (ad t0)), (1, .ref (ad t1)), (2, .int v2), (3, .ref (ad t3)), (4, .int v4), (5, .int v5), (6, .int v6), (7, .int v7)] []) (t0 : Nat) (t1 : Nat) (v2 : Int32) (t3 : Nat) (v4 : Int32) (v5 : Int32) (v6 : Int32) (v7 : Int32) (σ : sM) (ft0 : isH t0) (ft1 : isH t1) (ft3 : isT t3) (hf : b_X4_playByTurns_83 K20 t0 t1 v2 t3 v4 v5 v6 v7 σ = some (r, σ')) : sGo p l e { frames := 5, cells := 0, slots := 0, locals := 198 } s m args below meth c D cy ad X 9 (sQ below args s 0 0 D cy ad (.inr none) X σ') σ 83 [(0, .ref (ad t0)), (1, .ref (ad t1)), (2, .int v2), (3, .ref (ad t3)), (4, .int v4), (5, .int v5), (6, .int v6), (7, .int v7)] [] := by
  replace hf : (if (σ t0 0) ≤ v4 then (K20 t0 t1 v2 t3 v4 v5 v6 (v7 + 1) σ) else (wthn (f_X1_doStep t0 v4 t3 σ) (fun _ σ9 => K20 t0 t1 v2 t3 (v4 + 1) v5 v6 (v7 + 1) σ9))) = some (r, σ') := hf
  intro H locs ls h hl
  have hx := B.1
  have hb := B.2.1
  refine lv_iload hx hb dX4_playByTurns_83 (lv_at hl 4 rfl) ?_
  refine lv_aload_n hx hb dX4_playByTurns_85 rfl (lv_at hl 0 rfl) ?_
  refine g_get B h t0 (H_lt ft0) (C := RX1) (T := TX1) (N := 4) (H_row ft0 _) rfl hin_X1 0 (by decide) hw72 rfl rfl dX4_playByTurns_86 ?_
  refine lv_icmp_ge (tgt := 102) hx hb dX4_playByTurns_89 (by decide) (fun c8 => ?_) (fun c8 => ?_)
  · rw [if_pos c8] at hf
    refine lv_iinc (v := (v7 + 1)) (lv' := [(7, .int (v7 + 1)), (0, .ref (ad t0)), (1, .ref (ad t1)), (2, .int v2), (3, .ref (ad t3)), (4, .int v4), (5, .int v5), (6, .int v6)]) hx hb dX4_playByTurns_102 hl (k := 7) rfl rfl (by decide) rfl (fun ls hl => ?_)
    refine lv_goto (tgt := 20) hx hb dX4_playByTurns_105 (by decide) ?_
    exact hK20 _ _ _ _ _ _ _ _ _ ft0 ft1 ft3 hf _ _ _ h (lv_sub hl [1, 2, 3, 4, 5, 6, 7, 0] rfl)
  · rw [if_neg c8] at hf
    refine lv_aload_n hx hb dX4_playByTurns_92 rfl (lv_at hl 0 rfl) ?_
    refine lv_iload hx hb dX4_playByTurns_93 (lv_at hl 4 rfl) ?_
    refine lv_aload_n hx hb dX4_playByTurns_95 rfl (lv_at hl 3 rfl) ?_
    obtain ⟨vr9, σ9, hq9, hf⟩ := wthn_some hf
    refine sRetC0 (g_runV (k := t0) (T := TX1) (N := 4) B h (ok_X1_doStep B.2.2.2.2.2.2.2.2 B.2.2.2.2.2.2.1 _ _ ft0 v4 ft3 hq9) cw_X4_298 ⟨Nat.le_of_ble_eq_true rfl, Nat.le_of_ble_eq_true rfl⟩ (H_lt ft0) (H_row ft0 _) rfl rfl hl.1.symm rfl (Nat.le_of_ble_eq_true rfl) dX4_playByTurns_96 ⟨Nat.zero_le _, Nat.zero_le _⟩) h (fun H locs h => ?_)
    refine lv_iinc (v := (v4 + 1)) (lv' := [(4, .int (v4 + 1)), (0, .ref (ad t0)), (1, .ref (ad t1)), (2, .int v2), (3, .ref (ad t3)), (5, .int v5), (6, .int v6), (7, .int v7)]) hx hb dX4_playByTurns_99 hl (k := 4) rfl rfl (by decide) rfl (fun ls hl => ?_)
    refine lv_iinc (v := (v7 + 1)) (lv' := [(7, .int (v7 + 1)), (4, .int (v4 + 1)), (0, .ref (ad t0)), (1, .ref (ad t1)), (2, .int v2), (3, .ref (ad t3)), (5, .int v5), (6, .int v6)]) hx hb dX4_playByTurns_102 hl (k := 7) rfl rfl (by decide) rfl (fun ls hl => ?_)
    refine lv_goto (tgt := 20) hx hb dX4_playByTurns_105 (by decide) ?_
    exact hK20 _ _ _ _ _ _ _ _ _ ft0 ft1 ft3 hf _ _ _ h (lv_sub hl [2, 3, 4, 5, 1, 6, 7, 0] rfl)
set_option maxHeartbeats 4000000 in
set_option maxRecDepth 100000 in
theorem k_X4_playByTurns_45 {p : Program} {l : Launch} {e : Env} {s : State} {m : MethodId} {args : Array Value} {below : List Frame} {meth : Method} {c : Code} {D : va_G} {cy : Nat → ClassId} {ad : Nat → Nat} {X : sX} {r : Unit} {σ' : sM} (B : sB p l s m meth c args cX4_playByTurns 9 RX4 D cy ad) (hr : meth.sig.returnType = none) {K20 : Nat → Nat → Int32 → Nat → Int32 → Int32 → Int32 → Int32 → sM → Option (Unit × sM)} (hK20 : ∀ (t0 : Nat) (t1 : Nat) (v2 : Int32) (t3 : Nat) (v4 : Int32) (v5 : Int32) (v6 : Int32) (v7 : Int32) (σ : sM) (ft0 : isH t0) (ft1 : isH t1) (ft3 : isT t3), K20 t0 t1 v2 t3 v4 v5 v6 v7 σ = some (r, σ') → sGo p l e { frames := 5, cells := 0, slots := 0, locals := 198 } s m args below meth c D cy ad X 9 (sQ below args s 0 0 D cy ad (.inr none) X σ') σ 20 [(0, .ref (ad t0)), (1, .ref (ad t1)), (2, .int v2), (3, .ref (ad t3)), (4, .int v4), (5, .int v5), (6, .int v6), (7, .int v7)] []) (t0 : Nat) (t1 : Nat) (v2 : Int32) (t3 : Nat) (v4 : Int32) (v5 : Int32) (v6 : Int32) (v7 : Int32) (vs0 : Int32) (σ : sM) (ft0 : isH t0) (ft1 : isH t1) (ft3 : isT t3) (hf : b_X4_playByTurns_45 K20 t0 t1 v2 t3 v4 v5 v6 v7 vs0 σ = some (r, σ')) : sGo p l e { frames := 5, cells := 0, slots := 0, locals := 198 } s m args below meth c D cy ad X 9 (sQ below args s 0 0 D cy ad (.inr none) X σ') σ 45 [(0, .ref (ad t0)), (1, .ref (ad t1)), (2, .int v2), (3, .ref (ad t3)), (4, .int v4), (5, .int v5), (6, .int v6), (7, .int v7)] [.int vs0] := by
  replace hf : (if (σ t1 0) ≤ v5 then (b_X4_playByTurns_83 K20 t0 t1 v2 t3 v4 v5 v6 v7 σ) else (if vs0 = 0 then (if v4 < (σ t0 0) then (b_X4_playByTurns_83 K20 t0 t1 v2 t3 v4 v5 v6 v7 σ) else (wthn (f_X1_doStep t1 v5 t3 σ) (fun _ σ7 => K20 t0 t1 v2 t3 v4 (v5 + 1) v6 (v7 + 1) σ7))) else (wthn (f_X1_doStep t1 v5 t3 σ) (fun _ σ5 => K20 t0 t1 v2 t3 v4 (v5 + 1) v6 (v7 + 1) σ5)))) = some (r, σ') := hf
  intro H locs ls h hl
  have hx := B.1
  have hb := B.2.1
  refine lv_istore (lv' := [(8, .int vs0), (0, .ref (ad t0)), (1, .ref (ad t1)), (2, .int v2), (3, .ref (ad t3)), (4, .int v4), (5, .int v5), (6, .int v6), (7, .int v7)]) hx hb dX4_playByTurns_45 hl (by decide) rfl (fun ls hl => ?_)
  refine lv_iload hx hb dX4_playByTurns_47 (lv_at hl 6 rfl) ?_
  refine lv_aload_n hx hb dX4_playByTurns_49 rfl (lv_at hl 2 rfl) ?_
  refine g_get B h t1 (H_lt ft1) (C := RX1) (T := TX1) (N := 4) (H_row ft1 _) rfl hin_X1 0 (by decide) hw72 rfl rfl dX4_playByTurns_50 ?_
  refine lv_icmp_ge (tgt := 83) hx hb dX4_playByTurns_53 (by decide) (fun c3 => ?_) (fun c3 => ?_)
  · rw [if_pos c3] at hf
    exact k_X4_playByTurns_83 B hr hK20 _ _ _ _ _ _ _ _ _ ft0 ft1 ft3 hf _ _ _ h (lv_sub hl [1, 2, 3, 4, 5, 6, 7, 8] rfl)
  · rw [if_neg c3] at hf
    refine lv_iload hx hb dX4_playByTurns_56 (lv_at hl 0 rfl) ?_
    refine lv_if_ne (tgt := 70) hx hb dX4_playByTurns_58 (by decide) (fun c4 => ?_) (fun c4 => ?_)
    · rw [if_neg c4] at hf
      refine lv_aload_n hx hb dX4_playByTurns_70 rfl (lv_at hl 2 rfl) ?_
      refine lv_iload hx hb dX4_playByTurns_71 (lv_at hl 6 rfl) ?_
      refine lv_aload_n hx hb dX4_playByTurns_73 rfl (lv_at hl 4 rfl) ?_
      obtain ⟨vr5, σ5, hq5, hf⟩ := wthn_some hf
      refine sRetC0 (g_runV (k := t1) (T := TX1) (N := 4) B h (ok_X1_doStep B.2.2.2.2.2.2.2.2 B.2.2.2.2.2.2.1 _ _ ft1 v5 ft3 hq5) cw_X4_298 ⟨Nat.le_of_ble_eq_true rfl, Nat.le_of_ble_eq_true rfl⟩ (H_lt ft1) (H_row ft1 _) rfl rfl hl.1.symm rfl (Nat.le_of_ble_eq_true rfl) dX4_playByTurns_74 ⟨Nat.zero_le _, Nat.zero_le _⟩) h (fun H locs h => ?_)
      refine lv_iinc (v := (v5 + 1)) (lv' := [(5, .int (v5 + 1)), (8, .int vs0), (0, .ref (ad t0)), (1, .ref (ad t1)), (2, .int v2), (3, .ref (ad t3)), (4, .int v4), (6, .int v6), (7, .int v7)]) hx hb dX4_playByTurns_77 hl (k := 6) rfl rfl (by decide) rfl (fun ls hl => ?_)
      refine lv_goto (tgt := 102) hx hb dX4_playByTurns_80 (by decide) ?_
      refine lv_iinc (v := (v7 + 1)) (lv' := [(7, .int (v7 + 1)), (5, .int (v5 + 1)), (8, .int vs0), (0, .ref (ad t0)), (1, .ref (ad t1)), (2, .int v2), (3, .ref (ad t3)), (4, .int v4), (6, .int v6)]) hx hb dX4_playByTurns_102 hl (k := 8) rfl rfl (by decide) rfl (fun ls hl => ?_)
      refine lv_goto (tgt := 20) hx hb dX4_playByTurns_105 (by decide) ?_
      exact hK20 _ _ _ _ _ _ _ _ _ ft0 ft1 ft3 hf _ _ _ h (lv_sub hl [3, 4, 5, 6, 7, 1, 8, 0] rfl)
    · rw [if_pos c4] at hf
      refine lv_iload hx hb dX4_playByTurns_61 (lv_at hl 5 rfl) ?_
      refine lv_aload_n hx hb dX4_playByTurns_63 rfl (lv_at hl 1 rfl) ?_
      refine g_get B h t0 (H_lt ft0) (C := RX1) (T := TX1) (N := 4) (H_row ft0 _) rfl hin_X1 0 (by decide) hw72 rfl rfl dX4_playByTurns_64 ?_
      refine lv_icmp_lt (tgt := 83) hx hb dX4_playByTurns_67 (by decide) (fun c6 => ?_) (fun c6 => ?_)
      · rw [if_pos c6] at hf
        exact k_X4_playByTurns_83 B hr hK20 _ _ _ _ _ _ _ _ _ ft0 ft1 ft3 hf _ _ _ h (lv_sub hl [1, 2, 3, 4, 5, 6, 7, 8] rfl)
      · rw [if_neg c6] at hf
        refine lv_aload_n hx hb dX4_playByTurns_70 rfl (lv_at hl 2 rfl) ?_
        refine lv_iload hx hb dX4_playByTurns_71 (lv_at hl 6 rfl) ?_
        refine lv_aload_n hx hb dX4_playByTurns_73 rfl (lv_at hl 4 rfl) ?_
        obtain ⟨vr7, σ7, hq7, hf⟩ := wthn_some hf
        refine sRetC0 (g_runV (k := t1) (T := TX1) (N := 4) B h (ok_X1_doStep B.2.2.2.2.2.2.2.2 B.2.2.2.2.2.2.1 _ _ ft1 v5 ft3 hq7) cw_X4_298 ⟨Nat.le_of_ble_eq_true rfl, Nat.le_of_ble_eq_true rfl⟩ (H_lt ft1) (H_row ft1 _) rfl rfl hl.1.symm rfl (Nat.le_of_ble_eq_true rfl) dX4_playByTurns_74 ⟨Nat.zero_le _, Nat.zero_le _⟩) h (fun H locs h => ?_)
        refine lv_iinc (v := (v5 + 1)) (lv' := [(5, .int (v5 + 1)), (8, .int vs0), (0, .ref (ad t0)), (1, .ref (ad t1)), (2, .int v2), (3, .ref (ad t3)), (4, .int v4), (6, .int v6), (7, .int v7)]) hx hb dX4_playByTurns_77 hl (k := 6) rfl rfl (by decide) rfl (fun ls hl => ?_)
        refine lv_goto (tgt := 102) hx hb dX4_playByTurns_80 (by decide) ?_
        refine lv_iinc (v := (v7 + 1)) (lv' := [(7, .int (v7 + 1)), (5, .int (v5 + 1)), (8, .int vs0), (0, .ref (ad t0)), (1, .ref (ad t1)), (2, .int v2), (3, .ref (ad t3)), (4, .int v4), (6, .int v6)]) hx hb dX4_playByTurns_102 hl (k := 8) rfl rfl (by decide) rfl (fun ls hl => ?_)
        refine lv_goto (tgt := 20) hx hb dX4_playByTurns_105 (by decide) ?_
        exact hK20 _ _ _ _ _ _ _ _ _ ft0 ft1 ft3 hf _ _ _ h (lv_sub hl [3, 4, 5, 6, 7, 1, 8, 0] rfl)
set_option maxHeartbeats 4000000 in
set_option maxRecDepth 100000 in
theorem k_X4_playByTurns_20 {p : Program} {l : Launch} {e : Env} {s : State} {m : MethodId} {args : Array Value} {below : List Frame} {meth : Method} {c : Code} {D : va_G} {cy : Nat → ClassId} {ad : Nat → Nat} {X : sX} {r : Unit} {σ' : sM} (B : sB p l s m meth c args cX4_playByTurns 9 RX4 D cy ad) (hr : meth.sig.returnType = none) : ∀ (n : Nat) (t0 : Nat) (t1 : Nat) (v2 : Int32) (t3 : Nat) (v4 : Int32) (v5 : Int32) (v6 : Int32) (v7 : Int32) (σ : sM) (ft0 : isH t0) (ft1 : isH t1) (ft3 : isT t3), b_X4_playByTurns_20 n t0 t1 v2 t3 v4 v5 v6 v7 σ = some (r, σ') → sGo p l e { frames := 5, cells := 0, slots := 0, locals := 198 } s m args below meth c D cy ad X 9 (sQ below args s 0 0 D cy ad (.inr none) X σ') σ 20 [(0, .ref (ad t0)), (1, .ref (ad t1)), (2, .int v2), (3, .ref (ad t3)), (4, .int v4), (5, .int v5), (6, .int v6), (7, .int v7)] [] := by
  intro n
  induction n with
  | zero =>
    intro t0 t1 v2 t3 v4 v5 v6 v7 σ ft0 ft1 ft3 hf
    exact nomatch (show none = some (r, σ') from hf)
  | succ n ih =>
    intro t0 t1 v2 t3 v4 v5 v6 v7 σ ft0 ft1 ft3 hf
    replace hf : (if v6 ≤ v7 then (some ((), σ)) else (if (((v2.toUInt32 >>> ((v7 &&& (31 : Int32)).toUInt32 &&& Int32.toUInt32 31)).toInt32) &&& (1 : Int32)) = (1 : Int32) then (b_X4_playByTurns_45 (b_X4_playByTurns_20 n) t0 t1 v2 t3 v4 v5 v6 v7 (1 : Int32) σ) else (b_X4_playByTurns_45 (b_X4_playByTurns_20 n) t0 t1 v2 t3 v4 v5 v6 v7 (0 : Int32) σ))) = some (r, σ') := hf
    intro H locs ls h hl
    have hx := B.1
    have hb := B.2.1
    refine lv_iload hx hb dX4_playByTurns_20 (lv_at hl 7 rfl) ?_
    refine lv_iload hx hb dX4_playByTurns_22 (lv_at hl 6 rfl) ?_
    refine lv_icmp_ge (tgt := 108) hx hb dX4_playByTurns_24 (by decide) (fun c1 => ?_) (fun c1 => ?_)
    · rw [if_pos c1] at hf
      obtain ⟨rfl, rfl⟩ := Prod.mk.inj (Option.some.inj hf)
      exact sE_v B hr h dX4_playByTurns_108
    · rw [if_neg c1] at hf
      refine lv_iload_n hx hb dX4_playByTurns_27 rfl (lv_at hl 2 rfl) ?_
      refine lv_iload hx hb dX4_playByTurns_28 (lv_at hl 7 rfl) ?_
      refine lv_bipush (v := (31 : Int32)) hx hb dX4_playByTurns_30 (by decide) ?_
      refine lv_iand hx hb dX4_playByTurns_32 ?_
      refine lv_iushr (v := ((v2.toUInt32 >>> ((v7 &&& (31 : Int32)).toUInt32 &&& Int32.toUInt32 31)).toInt32)) hx hb dX4_playByTurns_33 rfl ?_
      refine lv_iconst (v := (1 : Int32)) hx hb dX4_playByTurns_34 (by decide) ?_
      refine lv_iand hx hb dX4_playByTurns_35 ?_
      refine lv_iconst (v := (1 : Int32)) hx hb dX4_playByTurns_36 (by decide) ?_
      refine lv_icmp_ne (tgt := 44) hx hb dX4_playByTurns_37 (by decide) (fun c2 => ?_) (fun c2 => ?_)
      · rw [if_neg c2] at hf
        refine lv_iconst (v := (0 : Int32)) hx hb dX4_playByTurns_44 (by decide) ?_
        exact k_X4_playByTurns_45 B hr ih _ _ _ _ _ _ _ _ _ _ ft0 ft1 ft3 hf _ _ _ h (lv_sub hl [0, 1, 2, 3, 4, 5, 6, 7] rfl)
      · rw [if_pos c2] at hf
        refine lv_iconst (v := (1 : Int32)) hx hb dX4_playByTurns_40 (by decide) ?_
        refine lv_goto (tgt := 45) hx hb dX4_playByTurns_41 (by decide) ?_
        exact k_X4_playByTurns_45 B hr ih _ _ _ _ _ _ _ _ _ _ ft0 ft1 ft3 hf _ _ _ h (lv_sub hl [0, 1, 2, 3, 4, 5, 6, 7] rfl)
set_option maxHeartbeats 4000000 in
set_option maxRecDepth 100000 in
theorem k_X4_playByTurns_0 {p : Program} {l : Launch} {e : Env} {s : State} {m : MethodId} {args : Array Value} {below : List Frame} {meth : Method} {c : Code} {D : va_G} {cy : Nat → ClassId} {ad : Nat → Nat} {X : sX} {r : Unit} {σ' : sM} (B : sB p l s m meth c args cX4_playByTurns 9 RX4 D cy ad) (hr : meth.sig.returnType = none) (t0 : Nat) (t1 : Nat) (v2 : Int32) (t3 : Nat) (σ : sM) (ft0 : isH t0) (ft1 : isH t1) (ft3 : isT t3) (hf : f_X4_playByTurns t0 t1 v2 t3 σ = some (r, σ')) : sGo p l e { frames := 5, cells := 0, slots := 0, locals := 198 } s m args below meth c D cy ad X 9 (sQ below args s 0 0 D cy ad (.inr none) X σ') σ 0 [(0, .ref (ad t0)), (1, .ref (ad t1)), (2, .int v2), (3, .ref (ad t3))] [] := by
  replace hf : (b_X4_playByTurns_20 FU t0 t1 v2 t3 (0 : Int32) (0 : Int32) ((σ t0 0) + (σ t1 0)) (0 : Int32) σ) = some (r, σ') := hf
  intro H locs ls h hl
  have hx := B.1
  have hb := B.2.1
  refine lv_iconst (v := (0 : Int32)) hx hb dX4_playByTurns_0 (by decide) ?_
  refine lv_istore (lv' := [(4, .int (0 : Int32)), (0, .ref (ad t0)), (1, .ref (ad t1)), (2, .int v2), (3, .ref (ad t3))]) hx hb dX4_playByTurns_1 hl (by decide) rfl (fun ls hl => ?_)
  refine lv_iconst (v := (0 : Int32)) hx hb dX4_playByTurns_3 (by decide) ?_
  refine lv_istore (lv' := [(5, .int (0 : Int32)), (4, .int (0 : Int32)), (0, .ref (ad t0)), (1, .ref (ad t1)), (2, .int v2), (3, .ref (ad t3))]) hx hb dX4_playByTurns_4 hl (by decide) rfl (fun ls hl => ?_)
  refine lv_aload_n hx hb dX4_playByTurns_6 rfl (lv_at hl 2 rfl) ?_
  refine g_get B h t0 (H_lt ft0) (C := RX1) (T := TX1) (N := 4) (H_row ft0 _) rfl hin_X1 0 (by decide) hw72 rfl rfl dX4_playByTurns_7 ?_
  refine lv_aload_n hx hb dX4_playByTurns_10 rfl (lv_at hl 3 rfl) ?_
  refine g_get B h t1 (H_lt ft1) (C := RX1) (T := TX1) (N := 4) (H_row ft1 _) rfl hin_X1 0 (by decide) hw72 rfl rfl dX4_playByTurns_11 ?_
  refine lv_iadd hx hb dX4_playByTurns_14 ?_
  refine lv_istore (lv' := [(6, .int ((σ t0 0) + (σ t1 0))), (5, .int (0 : Int32)), (4, .int (0 : Int32)), (0, .ref (ad t0)), (1, .ref (ad t1)), (2, .int v2), (3, .ref (ad t3))]) hx hb dX4_playByTurns_15 hl (by decide) rfl (fun ls hl => ?_)
  refine lv_iconst (v := (0 : Int32)) hx hb dX4_playByTurns_17 (by decide) ?_
  refine lv_istore (lv' := [(7, .int (0 : Int32)), (6, .int ((σ t0 0) + (σ t1 0))), (5, .int (0 : Int32)), (4, .int (0 : Int32)), (0, .ref (ad t0)), (1, .ref (ad t1)), (2, .int v2), (3, .ref (ad t3))]) hx hb dX4_playByTurns_18 hl (by decide) rfl (fun ls hl => ?_)
  exact k_X4_playByTurns_20 B hr  _ _ _ _ _ _ _ _ _ _ ft0 ft1 ft3 hf _ _ _ h (lv_sub hl [4, 5, 6, 7, 3, 2, 1, 0] rfl)
set_option maxRecDepth 100000 in
theorem ok_X4_playByTurns {l : Launch} (hl0 : l.stackTraces = false) {D : va_G} {cy : Nat → ClassId} {ad : Nat → Nat} (hap : sAp ad) (X : sX) (σ : sM) {t0 : Nat} (ft0 : isH t0) {t1 : Nat} (ft1 : isH t1) (v2 : Int32) {t3 : Nat} (ft3 : isT t3) {r : Unit} {σ' : sM} (hf : f_X4_playByTurns t0 t1 v2 t3 σ = some (r, σ')) : sMet l yX4_playByTurns (sWs yX4_playByTurns cX4_playByTurns 9 none) 5 198 0 0 D cy ad X σ [.ref (ad t0), .ref (ad t1), .int v2, .ref (ad t3)] (.inr none) X σ' := by
  refine sMet_of (by decide +kernel) (Nat.le_of_ble_eq_true rfl) hap hl0 ?_
  intro p e s m args below meth c ls B hr htab hl h
  exact k_X4_playByTurns_0 B hr _ _ _ _ _ ft0 ft1 ft3 hf _ _ _ h hl
set_option maxHeartbeats 4000000 in
set_option maxRecDepth 100000 in
theorem k_X4_playBoth_0 {p : Program} {l : Launch} {e : Env} {s : State} {m : MethodId} {args : Array Value} {below : List Frame} {meth : Method} {c : Code} {D : va_G} {cy : Nat → ClassId} {ad : Nat → Nat} {X : sX} {oo : String ⊕ Int32} {σ' : sM} (B : sB p l s m meth c args cX4_playBoth 8 RX4 D cy ad) (hr : meth.sig.returnType = (some .int)) (htab : ∀ x ∈ c.exceptionTable.toList, False) (v1 : Int32) (v2 : Int32) (v3 : Int32) (v4 : Int32) (σ : sM) (hf : f_X4_playBoth v1 v2 v3 v4 σ = some (oo, σ')) : sGo p l e { frames := 7, cells := (sC (oI oo)), slots := (sS (oI oo)), locals := 226 } s m args below meth c D cy ad X 8 (sQ below args s (sC (oI oo)) (sS (oI oo)) D cy ad (oI oo) X σ') σ 0 [(0, .ref (ad 0)), (1, .int v1), (2, .int v2), (3, .int v3), (4, .int v4)] [] := by
  replace hf : (thn (f_X4_historyAt v1 σ) (fun tr1 σ1 => chk (isHb tr1) (thn (f_X4_historyAt v2 σ1) (fun tr3 σ3 => chk (isHb tr3) (thn (f_X4_mapAt v4 σ3) (fun tr5 σ5 => chk (isTb tr5) (wthn (f_X0_hasRoom tr5 tr1 tr3 σ5) (fun vr7 σ7 => if vr7 = 0 then (some (.inl "java/lang/IllegalStateException", σ7)) else (wthn (f_X4_playByTurns tr1 tr3 v3 tr5 σ7) (fun _ σ9 => some (.inr (σ9 tr5 2), σ9))))))))))) = some (oo, σ') := hf
  intro H locs ls h hl
  have hx := B.1
  have hb := B.2.1
  refine lv_aload_n hx hb dX4_playBoth_0 rfl (lv_at hl 0 rfl) ?_
  refine lv_iload_n hx hb dX4_playBoth_1 rfl (lv_at hl 1 rfl) ?_
  rcases thn_cases hf with ⟨E1, σ1, hq1, ho⟩ | ⟨tr1, σ1, hq1, hf⟩
  · cases ho
    have hM := ok_X4_historyAt (D := D) (cy := cy) B.2.2.2.2.2.2.2.2 B.2.2.2.2.2.2.1 X _ v1 hq1
    exact sThrC (g_runV (o := .inl E1) (mc := 1) (ms := 6) (k := 0) (T := TX4) (N := 8) B h hM cw_X4_174 ⟨Nat.le_of_ble_eq_true rfl, Nat.le_of_ble_eq_true rfl⟩ (by decide) (S_row _) rfl rfl hl.1.symm rfl (Nat.le_of_ble_eq_true rfl) dX4_playBoth_2 ⟨Nat.le_of_eq (Nat.zero_add _), Nat.le_of_eq (Nat.zero_add _)⟩) h (fun H locs q ce h hc hv hcl => sE_out B htab h hc hv hcl (Nat.le_of_eq (Nat.zero_add _)) (Nat.le_of_eq (Nat.zero_add _)))
  have hM := ok_X4_historyAt (D := D) (cy := cy) B.2.2.2.2.2.2.2.2 B.2.2.2.2.2.2.1 X _ v1 hq1
  refine sRetC1 (g_runV (o := .inr (some (.ref (ad tr1)))) (mc := 0) (ms := 0) (k := 0) (T := TX4) (N := 8) B h hM cw_X4_174 ⟨Nat.le_of_ble_eq_true rfl, Nat.le_of_ble_eq_true rfl⟩ (by decide) (S_row _) rfl rfl hl.1.symm rfl (Nat.le_of_ble_eq_true rfl) dX4_playBoth_2 ⟨Nat.zero_le _, Nat.zero_le _⟩) h (fun H locs h => ?_)
  obtain ⟨c2, hf⟩ := chk_some hf
  refine lv_astore (lv' := [(5, .ref (ad tr1)), (0, .ref (ad 0)), (1, .int v1), (2, .int v2), (3, .int v3), (4, .int v4)]) hx hb dX4_playBoth_5 hl (by decide) rfl (fun ls hl => ?_)
  refine lv_aload_n hx hb dX4_playBoth_7 rfl (lv_at hl 1 rfl) ?_
  refine lv_iload_n hx hb dX4_playBoth_8 rfl (lv_at hl 3 rfl) ?_
  rcases thn_cases hf with ⟨E3, σ3, hq3, ho⟩ | ⟨tr3, σ3, hq3, hf⟩
  · cases ho
    have hM := ok_X4_historyAt (D := D) (cy := cy) B.2.2.2.2.2.2.2.2 B.2.2.2.2.2.2.1 X _ v2 hq3
    exact sThrC (g_runV (o := .inl E3) (mc := 1) (ms := 6) (k := 0) (T := TX4) (N := 8) B h hM cw_X4_174 ⟨Nat.le_of_ble_eq_true rfl, Nat.le_of_ble_eq_true rfl⟩ (by decide) (S_row _) rfl rfl hl.1.symm rfl (Nat.le_of_ble_eq_true rfl) dX4_playBoth_9 ⟨Nat.le_of_eq (Nat.zero_add _), Nat.le_of_eq (Nat.zero_add _)⟩) h (fun H locs q ce h hc hv hcl => sE_out B htab h hc hv hcl (Nat.le_of_eq (Nat.zero_add _)) (Nat.le_of_eq (Nat.zero_add _)))
  have hM := ok_X4_historyAt (D := D) (cy := cy) B.2.2.2.2.2.2.2.2 B.2.2.2.2.2.2.1 X _ v2 hq3
  refine sRetC1 (g_runV (o := .inr (some (.ref (ad tr3)))) (mc := 0) (ms := 0) (k := 0) (T := TX4) (N := 8) B h hM cw_X4_174 ⟨Nat.le_of_ble_eq_true rfl, Nat.le_of_ble_eq_true rfl⟩ (by decide) (S_row _) rfl rfl hl.1.symm rfl (Nat.le_of_ble_eq_true rfl) dX4_playBoth_9 ⟨Nat.zero_le _, Nat.zero_le _⟩) h (fun H locs h => ?_)
  obtain ⟨c4, hf⟩ := chk_some hf
  refine lv_astore (lv' := [(6, .ref (ad tr3)), (5, .ref (ad tr1)), (0, .ref (ad 0)), (1, .int v1), (2, .int v2), (3, .int v3), (4, .int v4)]) hx hb dX4_playBoth_12 hl (by decide) rfl (fun ls hl => ?_)
  refine lv_aload_n hx hb dX4_playBoth_14 rfl (lv_at hl 2 rfl) ?_
  refine lv_iload hx hb dX4_playBoth_15 (lv_at hl 6 rfl) ?_
  rcases thn_cases hf with ⟨E5, σ5, hq5, ho⟩ | ⟨tr5, σ5, hq5, hf⟩
  · cases ho
    have hM := ok_X4_mapAt (D := D) (cy := cy) B.2.2.2.2.2.2.2.2 B.2.2.2.2.2.2.1 X _ v4 hq5
    exact sThrC (g_runV (o := .inl E5) (mc := 1) (ms := 6) (k := 0) (T := TX4) (N := 8) B h hM cw_X4_41 ⟨Nat.le_of_ble_eq_true rfl, Nat.le_of_ble_eq_true rfl⟩ (by decide) (S_row _) rfl rfl hl.1.symm rfl (Nat.le_of_ble_eq_true rfl) dX4_playBoth_17 ⟨Nat.le_of_eq (Nat.zero_add _), Nat.le_of_eq (Nat.zero_add _)⟩) h (fun H locs q ce h hc hv hcl => sE_out B htab h hc hv hcl (Nat.le_of_eq (Nat.zero_add _)) (Nat.le_of_eq (Nat.zero_add _)))
  have hM := ok_X4_mapAt (D := D) (cy := cy) B.2.2.2.2.2.2.2.2 B.2.2.2.2.2.2.1 X _ v4 hq5
  refine sRetC1 (g_runV (o := .inr (some (.ref (ad tr5)))) (mc := 0) (ms := 0) (k := 0) (T := TX4) (N := 8) B h hM cw_X4_41 ⟨Nat.le_of_ble_eq_true rfl, Nat.le_of_ble_eq_true rfl⟩ (by decide) (S_row _) rfl rfl hl.1.symm rfl (Nat.le_of_ble_eq_true rfl) dX4_playBoth_17 ⟨Nat.zero_le _, Nat.zero_le _⟩) h (fun H locs h => ?_)
  obtain ⟨c6, hf⟩ := chk_some hf
  refine lv_astore (lv' := [(7, .ref (ad tr5)), (6, .ref (ad tr3)), (5, .ref (ad tr1)), (0, .ref (ad 0)), (1, .int v1), (2, .int v2), (3, .int v3), (4, .int v4)]) hx hb dX4_playBoth_20 hl (by decide) rfl (fun ls hl => ?_)
  refine lv_aload_n hx hb dX4_playBoth_22 rfl (lv_at hl 3 rfl) ?_
  refine g_get B h 0 (by decide) (C := RX4) (T := TX4) (N := 8) (S_row _) rfl hin_X4 3 (by decide) hw130 rfl rfl dX4_playBoth_23 ?_
  refine lv_aload hx hb dX4_playBoth_26 (lv_at hl 0 rfl) ?_
  refine lv_aload hx hb dX4_playBoth_28 (lv_at hl 2 rfl) ?_
  refine lv_aload hx hb dX4_playBoth_30 (lv_at hl 1 rfl) ?_
  obtain ⟨vr7, σ7, hq7, hf⟩ := wthn_some hf
  refine sRetC1 (g_runV (k := 4) (T := TX0) (N := 4) B h (ok_X0_hasRoom B.2.2.2.2.2.2.2.2 B.2.2.2.2.2.2.1 _ _ (isTb_T c6) (isHb_H c2) (isHb_H c4) hq7) cw_X4_190 ⟨Nat.le_of_ble_eq_true rfl, Nat.le_of_ble_eq_true rfl⟩ (by decide) (B_row _) rfl rfl hl.1.symm rfl (Nat.le_of_ble_eq_true rfl) dX4_playBoth_32 ⟨Nat.zero_le _, Nat.zero_le _⟩) h (fun H locs h => ?_)
  refine lv_if_ne (tgt := 48) hx hb dX4_playBoth_35 (by decide) (fun c8 => ?_) (fun c8 => ?_)
  · rw [if_neg c8] at hf
    refine lv_aload hx hb dX4_playBoth_48 (lv_at hl 2 rfl) ?_
    refine lv_aload hx hb dX4_playBoth_50 (lv_at hl 1 rfl) ?_
    refine lv_iload_n hx hb dX4_playBoth_52 rfl (lv_at hl 6 rfl) ?_
    refine lv_aload hx hb dX4_playBoth_53 (lv_at hl 0 rfl) ?_
    obtain ⟨vr9, σ9, hq9, hf⟩ := wthn_some hf
    refine sRetC0 (g_runS B h (ok_X4_playByTurns B.2.2.2.2.2.2.2.2 B.2.2.2.2.2.2.1 _ _ (isHb_H c2) (isHb_H c4) v3 (isTb_T c6) hq9) cw_X4_201 ⟨Nat.le_of_ble_eq_true rfl, Nat.le_of_ble_eq_true rfl⟩ rfl hl.1.symm rfl (Nat.le_of_ble_eq_true rfl) dX4_playBoth_55 ⟨Nat.zero_le _, Nat.zero_le _⟩) h (fun H locs h => ?_)
    refine lv_aload hx hb dX4_playBoth_58 (lv_at hl 0 rfl) ?_
    refine g_get B h tr5 (T_lt (isTb_T c6)) (C := RX2) (T := TX2) (N := 3) (T_row (isTb_T c6) _) rfl hin_X2 2 (by decide) hw53 rfl rfl dX4_playBoth_60 ?_
    obtain ⟨rfl, rfl⟩ := Prod.mk.inj (Option.some.inj hf)
    exact sE_i B hr h dX4_playBoth_63
  · rw [if_pos c8] at hf
    obtain ⟨rfl, rfl⟩ := Prod.mk.inj (Option.some.inj hf)
    exact sE_thr (own := RX4) (E := "java/lang/IllegalStateException") (text := "the map and the keys of both are too many") (ic := 150) B htab h hl.1.symm ["java/lang/RuntimeException", "java/lang/Exception"] (by decide +kernel) (by decide +kernel) hw448 hw13 (by decide +kernel) (by decide +kernel) at_X4_150_g at_X4_150_n at_X4_150_o dX4_playBoth_38 dX4_playBoth_41 dX4_playBoth_42 dX4_playBoth_44 dX4_playBoth_47 (Nat.le_of_ble_eq_true rfl) (Nat.le_of_ble_eq_true rfl) (Nat.le_of_eq (Nat.zero_add _)) (Nat.le_of_eq (Nat.zero_add _)) (Nat.le_of_eq (Nat.zero_add _)) (Nat.le_of_eq (Nat.zero_add _))
set_option maxRecDepth 100000 in
theorem ok_X4_playBoth {l : Launch} (hl0 : l.stackTraces = false) {D : va_G} {cy : Nat → ClassId} {ad : Nat → Nat} (hap : sAp ad) (X : sX) (σ : sM) (v1 : Int32) (v2 : Int32) (v3 : Int32) (v4 : Int32) {oo : String ⊕ Int32} {σ' : sM} (hf : f_X4_playBoth v1 v2 v3 v4 σ = some (oo, σ')) : sMet l yX4_playBoth (sWs yX4_playBoth cX4_playBoth 8 (some .int)) 7 226 (sC (oI oo)) (sS (oI oo)) D cy ad X σ [.ref (ad 0), .int v1, .int v2, .int v3, .int v4] (oI oo) X σ' := by
  refine sMet_of (by decide +kernel) (Nat.le_of_ble_eq_true rfl) hap hl0 ?_
  intro p e s m args below meth c ls B hr htab hl h
  exact k_X4_playBoth_0 B hr htab _ _ _ _ _  hf _ _ _ h hl
set_option maxHeartbeats 4000000 in
set_option maxRecDepth 100000 in
theorem k_X4_poll_0 {p : Program} {l : Launch} {e : Env} {s : State} {m : MethodId} {args : Array Value} {below : List Frame} {meth : Method} {c : Code} {D : va_G} {cy : Nat → ClassId} {ad : Nat → Nat} {X : sX} {oo : String ⊕ Int32} {σ' : sM} (B : sB p l s m meth c args cX4_poll 4 RX4 D cy ad) (hr : meth.sig.returnType = (some .int)) (htab : ∀ x ∈ c.exceptionTable.toList, False) (v1 : Int32) (v2 : Int32) (σ : sM) (hf : f_X4_poll v1 v2 σ = some (oo, σ')) : sGo p l e { frames := 7, cells := (sC (oI oo)), slots := (sS (oI oo)), locals := 153 } s m args below meth c D cy ad X 4 (sQ below args s (sC (oI oo)) (sS (oI oo)) D cy ad (oI oo) X σ') σ 0 [(0, .ref (ad 0)), (1, .int v1), (2, .int v2)] [] := by
  replace hf : (thn (f_X4_mapAt v1 σ) (fun tr1 σ1 => chk (isTb tr1) (thn (f_X4_endPlace (0 : Int32) (σ1 tr1 2) v2 σ1) (fun vr3 σ3 => wthn (f_X4_pollAt tr1 vr3 σ3) (fun vr4 σ4 => some (.inr vr4, σ4)))))) = some (oo, σ') := hf
  intro H locs ls h hl
  have hx := B.1
  have hb := B.2.1
  refine lv_aload_n hx hb dX4_poll_0 rfl (lv_at hl 0 rfl) ?_
  refine lv_iload_n hx hb dX4_poll_1 rfl (lv_at hl 1 rfl) ?_
  rcases thn_cases hf with ⟨E1, σ1, hq1, ho⟩ | ⟨tr1, σ1, hq1, hf⟩
  · cases ho
    have hM := ok_X4_mapAt (D := D) (cy := cy) B.2.2.2.2.2.2.2.2 B.2.2.2.2.2.2.1 X _ v1 hq1
    exact sThrC (g_runV (o := .inl E1) (mc := 1) (ms := 6) (k := 0) (T := TX4) (N := 8) B h hM cw_X4_41 ⟨Nat.le_of_ble_eq_true rfl, Nat.le_of_ble_eq_true rfl⟩ (by decide) (S_row _) rfl rfl hl.1.symm rfl (Nat.le_of_ble_eq_true rfl) dX4_poll_2 ⟨Nat.le_of_eq (Nat.zero_add _), Nat.le_of_eq (Nat.zero_add _)⟩) h (fun H locs q ce h hc hv hcl => sE_out B htab h hc hv hcl (Nat.le_of_eq (Nat.zero_add _)) (Nat.le_of_eq (Nat.zero_add _)))
  have hM := ok_X4_mapAt (D := D) (cy := cy) B.2.2.2.2.2.2.2.2 B.2.2.2.2.2.2.1 X _ v1 hq1
  refine sRetC1 (g_runV (o := .inr (some (.ref (ad tr1)))) (mc := 0) (ms := 0) (k := 0) (T := TX4) (N := 8) B h hM cw_X4_41 ⟨Nat.le_of_ble_eq_true rfl, Nat.le_of_ble_eq_true rfl⟩ (by decide) (S_row _) rfl rfl hl.1.symm rfl (Nat.le_of_ble_eq_true rfl) dX4_poll_2 ⟨Nat.zero_le _, Nat.zero_le _⟩) h (fun H locs h => ?_)
  obtain ⟨c2, hf⟩ := chk_some hf
  refine lv_astore_n (lv' := [(3, .ref (ad tr1)), (0, .ref (ad 0)), (1, .int v1), (2, .int v2)]) hx hb dX4_poll_5 rfl hl (by decide) rfl (fun ls hl => ?_)
  refine lv_aload_n hx hb dX4_poll_6 rfl (lv_at hl 1 rfl) ?_
  refine lv_aload_n hx hb dX4_poll_7 rfl (lv_at hl 0 rfl) ?_
  refine lv_iconst (v := (0 : Int32)) hx hb dX4_poll_8 (by decide) ?_
  refine lv_aload_n hx hb dX4_poll_9 rfl (lv_at hl 0 rfl) ?_
  refine g_get B h tr1 (T_lt (isTb_T c2)) (C := RX2) (T := TX2) (N := 3) (T_row (isTb_T c2) _) rfl hin_X2 2 (by decide) hw53 rfl rfl dX4_poll_10 ?_
  refine lv_iload_n hx hb dX4_poll_13 rfl (lv_at hl 3 rfl) ?_
  rcases thn_cases hf with ⟨E3, σ3, hq3, ho⟩ | ⟨vr3, σ3, hq3, hf⟩
  · cases ho
    have hM := ok_X4_endPlace (D := D) (cy := cy) B.2.2.2.2.2.2.2.2 B.2.2.2.2.2.2.1 X _ (0 : Int32) (σ1 tr1 2) v2 hq3
    exact sThrC (g_runS (o := .inl E3) (mc := 1) (ms := 6) B h hM cw_X4_89 ⟨Nat.le_of_ble_eq_true rfl, Nat.le_of_ble_eq_true rfl⟩ rfl hl.1.symm rfl (Nat.le_of_ble_eq_true rfl) dX4_poll_14 ⟨Nat.le_of_eq (Nat.zero_add _), Nat.le_of_eq (Nat.zero_add _)⟩) h (fun H locs q ce h hc hv hcl => sE_out B htab h hc hv hcl (Nat.le_of_eq (Nat.zero_add _)) (Nat.le_of_eq (Nat.zero_add _)))
  have hM := ok_X4_endPlace (D := D) (cy := cy) B.2.2.2.2.2.2.2.2 B.2.2.2.2.2.2.1 X _ (0 : Int32) (σ1 tr1 2) v2 hq3
  refine sRetC1 (g_runS (o := .inr (some (.int vr3))) (mc := 0) (ms := 0) B h hM cw_X4_89 ⟨Nat.le_of_ble_eq_true rfl, Nat.le_of_ble_eq_true rfl⟩ rfl hl.1.symm rfl (Nat.le_of_ble_eq_true rfl) dX4_poll_14 ⟨Nat.zero_le _, Nat.zero_le _⟩) h (fun H locs h => ?_)
  obtain ⟨vr4, σ4, hq4, hf⟩ := wthn_some hf
  refine sRetC1 (g_runV (k := 0) (T := TX4) (N := 8) B h (ok_X4_pollAt B.2.2.2.2.2.2.2.2 B.2.2.2.2.2.2.1 _ _ (isTb_T c2) vr3 hq4) cw_X4_93 ⟨Nat.le_of_ble_eq_true rfl, Nat.le_of_ble_eq_true rfl⟩ (by decide) (S_row _) rfl rfl hl.1.symm rfl (Nat.le_of_ble_eq_true rfl) dX4_poll_17 ⟨Nat.zero_le _, Nat.zero_le _⟩) h (fun H locs h => ?_)
  obtain ⟨rfl, rfl⟩ := Prod.mk.inj (Option.some.inj hf)
  exact sE_i B hr h dX4_poll_20
set_option maxRecDepth 100000 in
theorem ok_X4_poll {l : Launch} (hl0 : l.stackTraces = false) {D : va_G} {cy : Nat → ClassId} {ad : Nat → Nat} (hap : sAp ad) (X : sX) (σ : sM) (v1 : Int32) (v2 : Int32) {oo : String ⊕ Int32} {σ' : sM} (hf : f_X4_poll v1 v2 σ = some (oo, σ')) : sMet l yX4_poll (sWs yX4_poll cX4_poll 4 (some .int)) 7 153 (sC (oI oo)) (sS (oI oo)) D cy ad X σ [.ref (ad 0), .int v1, .int v2] (oI oo) X σ' := by
  refine sMet_of (by decide +kernel) (Nat.le_of_ble_eq_true rfl) hap hl0 ?_
  intro p e s m args below meth c ls B hr htab hl h
  exact k_X4_poll_0 B hr htab _ _ _  hf _ _ _ h hl
set_option maxHeartbeats 4000000 in
set_option maxRecDepth 100000 in
theorem k_X4_polled_0 {p : Program} {l : Launch} {e : Env} {s : State} {m : MethodId} {args : Array Value} {below : List Frame} {meth : Method} {c : Code} {D : va_G} {cy : Nat → ClassId} {ad : Nat → Nat} {X : sX} {oo : String ⊕ Int32} {σ' : sM} (B : sB p l s m meth c args cX4_polled 1 RX4 D cy ad) (hr : meth.sig.returnType = (some .int)) (htab : ∀ x ∈ c.exceptionTable.toList, False) (σ : sM) (hf : f_X4_polled σ = some (oo, σ')) : sGo p l e { frames := 6, cells := (sC (oI oo)), slots := (sS (oI oo)), locals := 100 } s m args below meth c D cy ad X 1 (sQ below args s (sC (oI oo)) (sS (oI oo)) D cy ad (oI oo) X σ') σ 0 [(0, .ref (ad 0))] [] := by
  replace hf : (if (σ 0 6) = 0 then (some (.inl "java/util/NoSuchElementException", σ)) else (some (.inr (σ 0 7), σ))) = some (oo, σ') := hf
  intro H locs ls h hl
  have hx := B.1
  have hb := B.2.1
  refine lv_aload_n hx hb dX4_polled_0 rfl (lv_at hl 0 rfl) ?_
  refine g_get B h 0 (by decide) (C := RX4) (T := TX4) (N := 8) (S_row _) rfl hin_X4 6 (by decide) hw133 rfl rfl dX4_polled_1 ?_
  refine lv_if_ne (tgt := 17) hx hb dX4_polled_4 (by decide) (fun c1 => ?_) (fun c1 => ?_)
  · rw [if_neg c1] at hf
    refine lv_aload_n hx hb dX4_polled_17 rfl (lv_at hl 0 rfl) ?_
    refine g_get B h 0 (by decide) (C := RX4) (T := TX4) (N := 8) (S_row _) rfl hin_X4 7 (by decide) hw134 rfl rfl dX4_polled_18 ?_
    obtain ⟨rfl, rfl⟩ := Prod.mk.inj (Option.some.inj hf)
    exact sE_i B hr h dX4_polled_21
  · rw [if_pos c1] at hf
    obtain ⟨rfl, rfl⟩ := Prod.mk.inj (Option.some.inj hf)
    exact sE_thrX (own := RX4) (E := "java/util/NoSuchElementException") (text := "no entry was polled") (ic := 61) (ix := 13) (rx := nseeRx) nsee0 nsee1 nsee2 nsee5 B htab h hl.1.symm ["java/lang/RuntimeException", "java/lang/Exception"] (by decide +kernel) (by decide +kernel) hw473 hw15 (by decide +kernel) (by decide +kernel) at_X4_61_g at_X4_61_n at_X4_61_o dX4_polled_7 dX4_polled_10 (Or.inl ⟨dX4_polled_11, rfl⟩) dX4_polled_13 dX4_polled_16 (Nat.le_of_ble_eq_true rfl) (Nat.le_of_ble_eq_true rfl) (Nat.le_of_eq (Nat.zero_add _)) (Nat.le_of_eq (Nat.zero_add _)) (Nat.le_of_eq (Nat.zero_add _)) (Nat.le_of_eq (Nat.zero_add _))
set_option maxRecDepth 100000 in
theorem ok_X4_polled {l : Launch} (hl0 : l.stackTraces = false) {D : va_G} {cy : Nat → ClassId} {ad : Nat → Nat} (hap : sAp ad) (X : sX) (σ : sM) {oo : String ⊕ Int32} {σ' : sM} (hf : f_X4_polled σ = some (oo, σ')) : sMet l yX4_polled (sWs yX4_polled cX4_polled 1 (some .int)) 6 100 (sC (oI oo)) (sS (oI oo)) D cy ad X σ [.ref (ad 0)] (oI oo) X σ' := by
  refine sMet_of (by decide +kernel) (Nat.le_of_ble_eq_true rfl) hap hl0 ?_
  intro p e s m args below meth c ls B hr htab hl h
  exact k_X4_polled_0 B hr htab  _  hf _ _ _ h hl
set_option maxHeartbeats 4000000 in
set_option maxRecDepth 100000 in
theorem k_X4_putWithin_0 {p : Program} {l : Launch} {e : Env} {s : State} {m : MethodId} {args : Array Value} {below : List Frame} {meth : Method} {c : Code} {D : va_G} {cy : Nat → ClassId} {ad : Nat → Nat} {X : sX} {oo : String ⊕ Unit} {σ' : sM} (B : sB p l s m meth c args cX4_putWithin 3 RX4 D cy ad) (hr : meth.sig.returnType = none) (htab : ∀ x ∈ c.exceptionTable.toList, False) (t0 : Nat) (v1 : Int32) (v2 : Int32) (σ : sM) (ft0 : isT t0) (hf : f_X4_putWithin t0 v1 v2 σ = some (oo, σ')) : sGo p l e { frames := 6, cells := (sC (oV oo)), slots := (sS (oV oo)), locals := 132 } s m args below meth c D cy ad X 3 (sQ below args s (sC (oV oo)) (sS (oV oo)) D cy ad (oV oo) X σ') σ 0 [(0, .ref (ad t0)), (1, .int v1), (2, .int v2)] [] := by
  replace hf : (if (σ t0 2) < (60 : Int32) then (wthn (f_X2_set t0 v1 v2 σ) (fun vr2 σ2 => some (.inr (), σ2))) else (rthn (f_X2_placeOf t0 v1 σ) (fun vr3 => if 0 ≤ vr3 then (wthn (f_X2_set t0 v1 v2 σ) (fun vr5 σ5 => some (.inr (), σ5))) else (some (.inl "java/lang/IllegalStateException", σ))))) = some (oo, σ') := hf
  intro H locs ls h hl
  have hx := B.1
  have hb := B.2.1
  refine lv_aload_n hx hb dX4_putWithin_0 rfl (lv_at hl 0 rfl) ?_
  refine g_get B h t0 (T_lt ft0) (C := RX2) (T := TX2) (N := 3) (T_row ft0 _) rfl hin_X2 2 (by decide) hw53 rfl rfl dX4_putWithin_1 ?_
  refine lv_bipush (v := (60 : Int32)) hx hb dX4_putWithin_4 (by decide) ?_
  refine lv_icmp_lt (tgt := 28) hx hb dX4_putWithin_6 (by decide) (fun c1 => ?_) (fun c1 => ?_)
  · rw [if_pos c1] at hf
    refine lv_aload_n hx hb dX4_putWithin_28 rfl (lv_at hl 0 rfl) ?_
    refine lv_iload_n hx hb dX4_putWithin_29 rfl (lv_at hl 1 rfl) ?_
    refine lv_iload_n hx hb dX4_putWithin_30 rfl (lv_at hl 2 rfl) ?_
    obtain ⟨vr2, σ2, hq2, hf⟩ := wthn_some hf
    refine sRetC1 (g_runV (k := t0) (T := TX2) (N := 3) B h (ok_X2_set B.2.2.2.2.2.2.2.2 B.2.2.2.2.2.2.1 _ _ ft0 v1 v2 hq2) cw_X4_294 ⟨Nat.le_of_ble_eq_true rfl, Nat.le_of_ble_eq_true rfl⟩ (T_lt ft0) (T_row ft0 _) rfl rfl hl.1.symm rfl (Nat.le_of_ble_eq_true rfl) dX4_putWithin_31 ⟨Nat.zero_le _, Nat.zero_le _⟩) h (fun H locs h => ?_)
    refine lv_pop hx hb dX4_putWithin_34 rfl ?_
    obtain ⟨rfl, rfl⟩ := Prod.mk.inj (Option.some.inj hf)
    exact sE_v B hr h dX4_putWithin_35
  · rw [if_neg c1] at hf
    refine lv_aload_n hx hb dX4_putWithin_9 rfl (lv_at hl 0 rfl) ?_
    refine lv_iload_n hx hb dX4_putWithin_10 rfl (lv_at hl 1 rfl) ?_
    obtain ⟨vr3, hq3, hf⟩ := rthn_some hf
    refine sRetC1 (g_runV (k := t0) (T := TX2) (N := 3) B h (ok_X2_placeOf B.2.2.2.2.2.2.2.2 B.2.2.2.2.2.2.1 _ _ ft0 v1 hq3) cw_X4_53 ⟨Nat.le_of_ble_eq_true rfl, Nat.le_of_ble_eq_true rfl⟩ (T_lt ft0) (T_row ft0 _) rfl rfl hl.1.symm rfl (Nat.le_of_ble_eq_true rfl) dX4_putWithin_11 ⟨Nat.zero_le _, Nat.zero_le _⟩) h (fun H locs h => ?_)
    refine lv_if_ge (tgt := 28) hx hb dX4_putWithin_14 (by decide) (fun c4 => ?_) (fun c4 => ?_)
    · rw [if_pos c4] at hf
      refine lv_aload_n hx hb dX4_putWithin_28 rfl (lv_at hl 0 rfl) ?_
      refine lv_iload_n hx hb dX4_putWithin_29 rfl (lv_at hl 1 rfl) ?_
      refine lv_iload_n hx hb dX4_putWithin_30 rfl (lv_at hl 2 rfl) ?_
      obtain ⟨vr5, σ5, hq5, hf⟩ := wthn_some hf
      refine sRetC1 (g_runV (k := t0) (T := TX2) (N := 3) B h (ok_X2_set B.2.2.2.2.2.2.2.2 B.2.2.2.2.2.2.1 _ _ ft0 v1 v2 hq5) cw_X4_294 ⟨Nat.le_of_ble_eq_true rfl, Nat.le_of_ble_eq_true rfl⟩ (T_lt ft0) (T_row ft0 _) rfl rfl hl.1.symm rfl (Nat.le_of_ble_eq_true rfl) dX4_putWithin_31 ⟨Nat.zero_le _, Nat.zero_le _⟩) h (fun H locs h => ?_)
      refine lv_pop hx hb dX4_putWithin_34 rfl ?_
      obtain ⟨rfl, rfl⟩ := Prod.mk.inj (Option.some.inj hf)
      exact sE_v B hr h dX4_putWithin_35
    · rw [if_neg c4] at hf
      obtain ⟨rfl, rfl⟩ := Prod.mk.inj (Option.some.inj hf)
      exact sE_thrW (own := RX4) (E := "java/lang/IllegalStateException") (text := "the map is full") (ic := 150) B htab h hl.1.symm ["java/lang/RuntimeException", "java/lang/Exception"] (by decide +kernel) (by decide +kernel) hw448 hw13 (by decide +kernel) (by decide +kernel) at_X4_150_g at_X4_150_n at_X4_150_o dX4_putWithin_17 dX4_putWithin_20 dX4_putWithin_21 dX4_putWithin_24 dX4_putWithin_27 (Nat.le_of_ble_eq_true rfl) (Nat.le_of_ble_eq_true rfl) (Nat.le_of_eq (Nat.zero_add _)) (Nat.le_of_eq (Nat.zero_add _)) (Nat.le_of_eq (Nat.zero_add _)) (Nat.le_of_eq (Nat.zero_add _))
set_option maxRecDepth 100000 in
theorem ok_X4_putWithin {l : Launch} (hl0 : l.stackTraces = false) {D : va_G} {cy : Nat → ClassId} {ad : Nat → Nat} (hap : sAp ad) (X : sX) (σ : sM) {t0 : Nat} (ft0 : isT t0) (v1 : Int32) (v2 : Int32) {oo : String ⊕ Unit} {σ' : sM} (hf : f_X4_putWithin t0 v1 v2 σ = some (oo, σ')) : sMet l yX4_putWithin (sWs yX4_putWithin cX4_putWithin 3 none) 6 132 (sC (oV oo)) (sS (oV oo)) D cy ad X σ [.ref (ad t0), .int v1, .int v2] (oV oo) X σ' := by
  refine sMet_of (by decide +kernel) (Nat.le_of_ble_eq_true rfl) hap hl0 ?_
  intro p e s m args below meth c ls B hr htab hl h
  exact k_X4_putWithin_0 B hr htab _ _ _ _ ft0 hf _ _ _ h hl
set_option maxHeartbeats 4000000 in
set_option maxRecDepth 100000 in
theorem k_X4_put_0 {p : Program} {l : Launch} {e : Env} {s : State} {m : MethodId} {args : Array Value} {below : List Frame} {meth : Method} {c : Code} {D : va_G} {cy : Nat → ClassId} {ad : Nat → Nat} {X : sX} {oo : String ⊕ Int32} {σ' : sM} (B : sB p l s m meth c args cX4_put 5 RX4 D cy ad) (hr : meth.sig.returnType = (some .int)) (htab : ∀ x ∈ c.exceptionTable.toList, False) (v1 : Int32) (v2 : Int32) (v3 : Int32) (σ : sM) (hf : f_X4_put v1 v2 v3 σ = some (oo, σ')) : sGo p l e { frames := 7, cells := (sC (oI oo)), slots := (sS (oI oo)), locals := 154 } s m args below meth c D cy ad X 5 (sQ below args s (sC (oI oo)) (sS (oI oo)) D cy ad (oI oo) X σ') σ 0 [(0, .ref (ad 0)), (1, .int v1), (2, .int v2), (3, .int v3)] [] := by
  replace hf : (thn (f_X4_mapAt v1 σ) (fun tr1 σ1 => chk (isTb tr1) (thn (f_X4_putWithin tr1 v2 v3 σ1) (fun _ σ3 => some (.inr (σ3 tr1 2), σ3))))) = some (oo, σ') := hf
  intro H locs ls h hl
  have hx := B.1
  have hb := B.2.1
  refine lv_aload_n hx hb dX4_put_0 rfl (lv_at hl 0 rfl) ?_
  refine lv_iload_n hx hb dX4_put_1 rfl (lv_at hl 1 rfl) ?_
  rcases thn_cases hf with ⟨E1, σ1, hq1, ho⟩ | ⟨tr1, σ1, hq1, hf⟩
  · cases ho
    have hM := ok_X4_mapAt (D := D) (cy := cy) B.2.2.2.2.2.2.2.2 B.2.2.2.2.2.2.1 X _ v1 hq1
    exact sThrC (g_runV (o := .inl E1) (mc := 1) (ms := 6) (k := 0) (T := TX4) (N := 8) B h hM cw_X4_41 ⟨Nat.le_of_ble_eq_true rfl, Nat.le_of_ble_eq_true rfl⟩ (by decide) (S_row _) rfl rfl hl.1.symm rfl (Nat.le_of_ble_eq_true rfl) dX4_put_2 ⟨Nat.le_of_eq (Nat.zero_add _), Nat.le_of_eq (Nat.zero_add _)⟩) h (fun H locs q ce h hc hv hcl => sE_out B htab h hc hv hcl (Nat.le_of_eq (Nat.zero_add _)) (Nat.le_of_eq (Nat.zero_add _)))
  have hM := ok_X4_mapAt (D := D) (cy := cy) B.2.2.2.2.2.2.2.2 B.2.2.2.2.2.2.1 X _ v1 hq1
  refine sRetC1 (g_runV (o := .inr (some (.ref (ad tr1)))) (mc := 0) (ms := 0) (k := 0) (T := TX4) (N := 8) B h hM cw_X4_41 ⟨Nat.le_of_ble_eq_true rfl, Nat.le_of_ble_eq_true rfl⟩ (by decide) (S_row _) rfl rfl hl.1.symm rfl (Nat.le_of_ble_eq_true rfl) dX4_put_2 ⟨Nat.zero_le _, Nat.zero_le _⟩) h (fun H locs h => ?_)
  obtain ⟨c2, hf⟩ := chk_some hf
  refine lv_astore (lv' := [(4, .ref (ad tr1)), (0, .ref (ad 0)), (1, .int v1), (2, .int v2), (3, .int v3)]) hx hb dX4_put_5 hl (by decide) rfl (fun ls hl => ?_)
  refine lv_aload hx hb dX4_put_7 (lv_at hl 0 rfl) ?_
  refine lv_iload_n hx hb dX4_put_9 rfl (lv_at hl 3 rfl) ?_
  refine lv_iload_n hx hb dX4_put_10 rfl (lv_at hl 4 rfl) ?_
  rcases thn_cases hf with ⟨E3, σ3, hq3, ho⟩ | ⟨vr3, σ3, hq3, hf⟩
  · cases ho
    have hM := ok_X4_putWithin (D := D) (cy := cy) B.2.2.2.2.2.2.2.2 B.2.2.2.2.2.2.1 X _ (isTb_T c2) v2 v3 hq3
    exact sThrC (g_runS (o := .inl E3) (mc := 1) (ms := 6) B h hM cw_X4_45 ⟨Nat.le_of_ble_eq_true rfl, Nat.le_of_ble_eq_true rfl⟩ rfl hl.1.symm rfl (Nat.le_of_ble_eq_true rfl) dX4_put_11 ⟨Nat.le_of_eq (Nat.zero_add _), Nat.le_of_eq (Nat.zero_add _)⟩) h (fun H locs q ce h hc hv hcl => sE_out B htab h hc hv hcl (Nat.le_of_eq (Nat.zero_add _)) (Nat.le_of_eq (Nat.zero_add _)))
  have hM := ok_X4_putWithin (D := D) (cy := cy) B.2.2.2.2.2.2.2.2 B.2.2.2.2.2.2.1 X _ (isTb_T c2) v2 v3 hq3
  refine sRetC0 (g_runS (o := .inr none) (mc := 0) (ms := 0) B h hM cw_X4_45 ⟨Nat.le_of_ble_eq_true rfl, Nat.le_of_ble_eq_true rfl⟩ rfl hl.1.symm rfl (Nat.le_of_ble_eq_true rfl) dX4_put_11 ⟨Nat.zero_le _, Nat.zero_le _⟩) h (fun H locs h => ?_)
  refine lv_aload hx hb dX4_put_14 (lv_at hl 0 rfl) ?_
  refine g_get B h tr1 (T_lt (isTb_T c2)) (C := RX2) (T := TX2) (N := 3) (T_row (isTb_T c2) _) rfl hin_X2 2 (by decide) hw53 rfl rfl dX4_put_16 ?_
  obtain ⟨rfl, rfl⟩ := Prod.mk.inj (Option.some.inj hf)
  exact sE_i B hr h dX4_put_19
set_option maxRecDepth 100000 in
theorem ok_X4_put {l : Launch} (hl0 : l.stackTraces = false) {D : va_G} {cy : Nat → ClassId} {ad : Nat → Nat} (hap : sAp ad) (X : sX) (σ : sM) (v1 : Int32) (v2 : Int32) (v3 : Int32) {oo : String ⊕ Int32} {σ' : sM} (hf : f_X4_put v1 v2 v3 σ = some (oo, σ')) : sMet l yX4_put (sWs yX4_put cX4_put 5 (some .int)) 7 154 (sC (oI oo)) (sS (oI oo)) D cy ad X σ [.ref (ad 0), .int v1, .int v2, .int v3] (oI oo) X σ' := by
  refine sMet_of (by decide +kernel) (Nat.le_of_ble_eq_true rfl) hap hl0 ?_
  intro p e s m args below meth c ls B hr htab hl h
  exact k_X4_put_0 B hr htab _ _ _ _  hf _ _ _ h hl
