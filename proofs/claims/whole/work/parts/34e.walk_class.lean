set_option maxHeartbeats 4000000 in
set_option maxRecDepth 100000 in
theorem k_X4_remove_0 {p : Program} {l : Launch} {e : Env} {s : State} {m : MethodId} {args : Array Value} {below : List Frame} {meth : Method} {c : Code} {D : va_G} {cy : Nat → ClassId} {ad : Nat → Nat} {X : sX} {oo : String ⊕ Int32} {σ' : sM} (B : sB p l s m meth c args cX4_remove 4 RX4 D cy ad) (hr : meth.sig.returnType = (some .int)) (htab : ∀ x ∈ c.exceptionTable.toList, False) (v1 : Int32) (v2 : Int32) (σ : sM) (hf : f_X4_remove v1 v2 σ = some (oo, σ')) : sGo p l e { frames := 7, cells := (sC (oI oo)), slots := (sS (oI oo)), locals := 152 } s m args below meth c D cy ad X 4 (sQ below args s (sC (oI oo)) (sS (oI oo)) D cy ad (oI oo) X σ') σ 0 [(0, .ref (ad 0)), (1, .int v1), (2, .int v2)] [] := by
  replace hf : (thn (f_X4_mapAt v1 σ) (fun tr1 σ1 => chk (isTb tr1) (wthn (f_X2_drop tr1 v2 σ1) (fun vr3 σ3 => some (.inr (σ3 tr1 2), σ3))))) = some (oo, σ') := hf
  intro H locs ls h hl
  have hx := B.1
  have hb := B.2.1
  refine lv_aload_n hx hb dX4_remove_0 rfl (lv_at hl 0 rfl) ?_
  refine lv_iload_n hx hb dX4_remove_1 rfl (lv_at hl 1 rfl) ?_
  rcases thn_cases hf with ⟨E1, σ1, hq1, ho⟩ | ⟨tr1, σ1, hq1, hf⟩
  · cases ho
    have hM := ok_X4_mapAt (D := D) (cy := cy) B.2.2.2.2.2.2.2.2 B.2.2.2.2.2.2.1 X _ v1 hq1
    exact sThrC (g_runV (o := .inl E1) (mc := 1) (ms := 6) (k := 0) (T := TX4) (N := 8) B h hM cw_X4_41 ⟨Nat.le_of_ble_eq_true rfl, Nat.le_of_ble_eq_true rfl⟩ (by decide) (S_row _) rfl rfl hl.1.symm rfl (Nat.le_of_ble_eq_true rfl) dX4_remove_2 ⟨Nat.le_of_eq (Nat.zero_add _), Nat.le_of_eq (Nat.zero_add _)⟩) h (fun H locs q ce h hc hv hcl => sE_out B htab h hc hv hcl (Nat.le_of_eq (Nat.zero_add _)) (Nat.le_of_eq (Nat.zero_add _)))
  have hM := ok_X4_mapAt (D := D) (cy := cy) B.2.2.2.2.2.2.2.2 B.2.2.2.2.2.2.1 X _ v1 hq1
  refine sRetC1 (g_runV (o := .inr (some (.ref (ad tr1)))) (mc := 0) (ms := 0) (k := 0) (T := TX4) (N := 8) B h hM cw_X4_41 ⟨Nat.le_of_ble_eq_true rfl, Nat.le_of_ble_eq_true rfl⟩ (by decide) (S_row _) rfl rfl hl.1.symm rfl (Nat.le_of_ble_eq_true rfl) dX4_remove_2 ⟨Nat.zero_le _, Nat.zero_le _⟩) h (fun H locs h => ?_)
  obtain ⟨c2, hf⟩ := chk_some hf
  refine lv_astore_n (lv' := [(3, .ref (ad tr1)), (0, .ref (ad 0)), (1, .int v1), (2, .int v2)]) hx hb dX4_remove_5 rfl hl (by decide) rfl (fun ls hl => ?_)
  refine lv_aload_n hx hb dX4_remove_6 rfl (lv_at hl 0 rfl) ?_
  refine lv_iload_n hx hb dX4_remove_7 rfl (lv_at hl 3 rfl) ?_
  obtain ⟨vr3, σ3, hq3, hf⟩ := wthn_some hf
  refine sRetC1 (g_runV (k := tr1) (T := TX2) (N := 3) B h (ok_X2_drop B.2.2.2.2.2.2.2.2 B.2.2.2.2.2.2.1 _ _ (isTb_T c2) v2 hq3) cw_X4_67 ⟨Nat.le_of_ble_eq_true rfl, Nat.le_of_ble_eq_true rfl⟩ (T_lt (isTb_T c2)) (T_row (isTb_T c2) _) rfl rfl hl.1.symm rfl (Nat.le_of_ble_eq_true rfl) dX4_remove_8 ⟨Nat.zero_le _, Nat.zero_le _⟩) h (fun H locs h => ?_)
  refine lv_pop hx hb dX4_remove_11 rfl ?_
  refine lv_aload_n hx hb dX4_remove_12 rfl (lv_at hl 0 rfl) ?_
  refine g_get B h tr1 (T_lt (isTb_T c2)) (C := RX2) (T := TX2) (N := 3) (T_row (isTb_T c2) _) rfl hin_X2 2 (by decide) hw53 rfl rfl dX4_remove_13 ?_
  obtain ⟨rfl, rfl⟩ := Prod.mk.inj (Option.some.inj hf)
  exact sE_i B hr h dX4_remove_16
set_option maxRecDepth 100000 in
theorem ok_X4_remove {l : Launch} (hl0 : l.stackTraces = false) {D : va_G} {cy : Nat → ClassId} {ad : Nat → Nat} (hap : sAp ad) (X : sX) (σ : sM) (v1 : Int32) (v2 : Int32) {oo : String ⊕ Int32} {σ' : sM} (hf : f_X4_remove v1 v2 σ = some (oo, σ')) : sMet l yX4_remove (sWs yX4_remove cX4_remove 4 (some .int)) 7 152 (sC (oI oo)) (sS (oI oo)) D cy ad X σ [.ref (ad 0), .int v1, .int v2] (oI oo) X σ' := by
  refine sMet_of (by decide +kernel) (Nat.le_of_ble_eq_true rfl) hap hl0 ?_
  intro p e s m args below meth c ls B hr htab hl h
  exact k_X4_remove_0 B hr htab _ _ _  hf _ _ _ h hl
set_option maxHeartbeats 4000000 in
set_option maxRecDepth 100000 in
theorem k_X4_size_0 {p : Program} {l : Launch} {e : Env} {s : State} {m : MethodId} {args : Array Value} {below : List Frame} {meth : Method} {c : Code} {D : va_G} {cy : Nat → ClassId} {ad : Nat → Nat} {X : sX} {oo : String ⊕ Int32} {σ' : sM} (B : sB p l s m meth c args cX4_size 2 RX4 D cy ad) (hr : meth.sig.returnType = (some .int)) (htab : ∀ x ∈ c.exceptionTable.toList, False) (v1 : Int32) (σ : sM) (hf : f_X4_size v1 σ = some (oo, σ')) : sGo p l e { frames := 7, cells := (sC (oI oo)), slots := (sS (oI oo)), locals := 121 } s m args below meth c D cy ad X 2 (sQ below args s (sC (oI oo)) (sS (oI oo)) D cy ad (oI oo) X σ') σ 0 [(0, .ref (ad 0)), (1, .int v1)] [] := by
  replace hf : (thn (f_X4_mapAt v1 σ) (fun tr1 σ1 => chk (isTb tr1) (some (.inr (σ1 tr1 2), σ1)))) = some (oo, σ') := hf
  intro H locs ls h hl
  have hx := B.1
  have hb := B.2.1
  refine lv_aload_n hx hb dX4_size_0 rfl (lv_at hl 0 rfl) ?_
  refine lv_iload_n hx hb dX4_size_1 rfl (lv_at hl 1 rfl) ?_
  rcases thn_cases hf with ⟨E1, σ1, hq1, ho⟩ | ⟨tr1, σ1, hq1, hf⟩
  · cases ho
    have hM := ok_X4_mapAt (D := D) (cy := cy) B.2.2.2.2.2.2.2.2 B.2.2.2.2.2.2.1 X _ v1 hq1
    exact sThrC (g_runV (o := .inl E1) (mc := 1) (ms := 6) (k := 0) (T := TX4) (N := 8) B h hM cw_X4_41 ⟨Nat.le_of_ble_eq_true rfl, Nat.le_of_ble_eq_true rfl⟩ (by decide) (S_row _) rfl rfl hl.1.symm rfl (Nat.le_of_ble_eq_true rfl) dX4_size_2 ⟨Nat.le_of_eq (Nat.zero_add _), Nat.le_of_eq (Nat.zero_add _)⟩) h (fun H locs q ce h hc hv hcl => sE_out B htab h hc hv hcl (Nat.le_of_eq (Nat.zero_add _)) (Nat.le_of_eq (Nat.zero_add _)))
  have hM := ok_X4_mapAt (D := D) (cy := cy) B.2.2.2.2.2.2.2.2 B.2.2.2.2.2.2.1 X _ v1 hq1
  refine sRetC1 (g_runV (o := .inr (some (.ref (ad tr1)))) (mc := 0) (ms := 0) (k := 0) (T := TX4) (N := 8) B h hM cw_X4_41 ⟨Nat.le_of_ble_eq_true rfl, Nat.le_of_ble_eq_true rfl⟩ (by decide) (S_row _) rfl rfl hl.1.symm rfl (Nat.le_of_ble_eq_true rfl) dX4_size_2 ⟨Nat.zero_le _, Nat.zero_le _⟩) h (fun H locs h => ?_)
  obtain ⟨c2, hf⟩ := chk_some hf
  refine g_get B h tr1 (T_lt (isTb_T c2)) (C := RX2) (T := TX2) (N := 3) (T_row (isTb_T c2) _) rfl hin_X2 2 (by decide) hw53 rfl rfl dX4_size_5 ?_
  obtain ⟨rfl, rfl⟩ := Prod.mk.inj (Option.some.inj hf)
  exact sE_i B hr h dX4_size_8
set_option maxRecDepth 100000 in
theorem ok_X4_size {l : Launch} (hl0 : l.stackTraces = false) {D : va_G} {cy : Nat → ClassId} {ad : Nat → Nat} (hap : sAp ad) (X : sX) (σ : sM) (v1 : Int32) {oo : String ⊕ Int32} {σ' : sM} (hf : f_X4_size v1 σ = some (oo, σ')) : sMet l yX4_size (sWs yX4_size cX4_size 2 (some .int)) 7 121 (sC (oI oo)) (sS (oI oo)) D cy ad X σ [.ref (ad 0), .int v1] (oI oo) X σ' := by
  refine sMet_of (by decide +kernel) (Nat.le_of_ble_eq_true rfl) hap hl0 ?_
  intro p e s m args below meth c ls B hr htab hl h
  exact k_X4_size_0 B hr htab _ _  hf _ _ _ h hl
set_option maxHeartbeats 4000000 in
set_option maxRecDepth 100000 in
theorem k_X4_sourceOf_0 {p : Program} {l : Launch} {e : Env} {s : State} {m : MethodId} {args : Array Value} {below : List Frame} {meth : Method} {c : Code} {D : va_G} {cy : Nat → ClassId} {ad : Nat → Nat} {X : sX} {oo : String ⊕ Nat} {σ' : sM} (B : sB p l s m meth c args cX4_sourceOf 1 RX4 D cy ad) (hr : meth.sig.returnType = (some (.object "Spanwarden$Table"))) (htab : ∀ x ∈ c.exceptionTable.toList, False) (t0 : Nat) (σ : sM) (ft0 : isV t0) (hf : f_X4_sourceOf t0 σ = some (oo, σ')) : sGo p l e { frames := 7, cells := (sC (oA ad oo)), slots := (sS (oA ad oo)), locals := 120 } s m args below meth c D cy ad X 1 (sQ below args s (sC (oA ad oo)) (sS (oA ad oo)) D cy ad (oA ad oo) X σ') σ 0 [(0, .ref (ad t0))] [] := by
  replace hf : (thn (f_X4_refuseClosed t0 σ) (fun _ σ1 => srcm (sSrc (σ1 t0 0)) (none) (fun ts2 => some (.inr ts2, σ1)))) = some (oo, σ') := hf
  intro H locs ls h hl
  have hx := B.1
  have hb := B.2.1
  refine lv_aload_n hx hb dX4_sourceOf_0 rfl (lv_at hl 0 rfl) ?_
  rcases thn_cases hf with ⟨E1, σ1, hq1, ho⟩ | ⟨vr1, σ1, hq1, hf⟩
  · cases ho
    have hM := ok_X4_refuseClosed (D := D) (cy := cy) B.2.2.2.2.2.2.2.2 B.2.2.2.2.2.2.1 X _ ft0 hq1
    exact sThrC (g_runS (o := .inl E1) (mc := 1) (ms := 6) B h hM cw_X4_134 ⟨Nat.le_of_ble_eq_true rfl, Nat.le_of_ble_eq_true rfl⟩ rfl hl.1.symm rfl (Nat.le_of_ble_eq_true rfl) dX4_sourceOf_1 ⟨Nat.le_of_eq (Nat.zero_add _), Nat.le_of_eq (Nat.zero_add _)⟩) h (fun H locs q ce h hc hv hcl => sE_out B htab h hc hv hcl (Nat.le_of_eq (Nat.zero_add _)) (Nat.le_of_eq (Nat.zero_add _)))
  have hM := ok_X4_refuseClosed (D := D) (cy := cy) B.2.2.2.2.2.2.2.2 B.2.2.2.2.2.2.1 X _ ft0 hq1
  refine sRetC0 (g_runS (o := .inr none) (mc := 0) (ms := 0) B h hM cw_X4_134 ⟨Nat.le_of_ble_eq_true rfl, Nat.le_of_ble_eq_true rfl⟩ rfl hl.1.symm rfl (Nat.le_of_ble_eq_true rfl) dX4_sourceOf_1 ⟨Nat.zero_le _, Nat.zero_le _⟩) h (fun H locs h => ?_)
  refine lv_aload_n hx hb dX4_sourceOf_4 rfl (lv_at hl 0 rfl) ?_
  rcases srcm_cases hf with ⟨s2, hf⟩ | ⟨ts2, s2, hf⟩
  · refine g_src0 B h t0 ft0 hin_X3 hw106 s2 dX4_sourceOf_5 ?_
    cases hf
  · refine g_src1 B h t0 ft0 hin_X3 hw106 s2 dX4_sourceOf_5 ?_
    obtain ⟨rfl, rfl⟩ := Prod.mk.inj (Option.some.inj hf)
    exact sE_a B hr h dX4_sourceOf_8
set_option maxRecDepth 100000 in
theorem ok_X4_sourceOf {l : Launch} (hl0 : l.stackTraces = false) {D : va_G} {cy : Nat → ClassId} {ad : Nat → Nat} (hap : sAp ad) (X : sX) (σ : sM) {t0 : Nat} (ft0 : isV t0) {oo : String ⊕ Nat} {σ' : sM} (hf : f_X4_sourceOf t0 σ = some (oo, σ')) : sMet l yX4_sourceOf (sWs yX4_sourceOf cX4_sourceOf 1 (some (.object "Spanwarden$Table"))) 7 120 (sC (oA ad oo)) (sS (oA ad oo)) D cy ad X σ [.ref (ad t0)] (oA ad oo) X σ' := by
  refine sMet_of (by decide +kernel) (Nat.le_of_ble_eq_true rfl) hap hl0 ?_
  intro p e s m args below meth c ls B hr htab hl h
  exact k_X4_sourceOf_0 B hr htab _ _ ft0 hf _ _ _ h hl
set_option maxHeartbeats 4000000 in
set_option maxRecDepth 100000 in
theorem k_X4_step_0 {p : Program} {l : Launch} {e : Env} {s : State} {m : MethodId} {args : Array Value} {below : List Frame} {meth : Method} {c : Code} {D : va_G} {cy : Nat → ClassId} {ad : Nat → Nat} {X : sX} {oo : String ⊕ Int32} {σ' : sM} (B : sB p l s m meth c args cX4_step 6 RX4 D cy ad) (hr : meth.sig.returnType = (some .int)) (htab : ∀ x ∈ c.exceptionTable.toList, False) (v1 : Int32) (v2 : Int32) (v3 : Int32) (v4 : Int32) (σ : sM) (hf : f_X4_step v1 v2 v3 v4 σ = some (oo, σ')) : sGo p l e { frames := 7, cells := (sC (oI oo)), slots := (sS (oI oo)), locals := 121 } s m args below meth c D cy ad X 6 (sQ below args s (sC (oI oo)) (sS (oI oo)) D cy ad (oI oo) X σ') σ 0 [(0, .ref (ad 0)), (1, .int v1), (2, .int v2), (3, .int v3), (4, .int v4)] [] := by
  replace hf : (thn (f_X4_historyAt v1 σ) (fun tr1 σ1 => chk (isHb tr1) (rthn (f_X4_isStepKind v2 σ1) (fun vr3 => if vr3 = 0 then (some (.inl "java/lang/IllegalArgumentException", σ1)) else (if (σ1 tr1 0) < (30 : Int32) then (wthn (f_X1_add tr1 v2 v3 v4 σ1) (fun _ σ6 => some (.inr (σ6 tr1 0), σ6))) else (some (.inl "java/lang/IllegalStateException", σ1))))))) = some (oo, σ') := hf
  intro H locs ls h hl
  have hx := B.1
  have hb := B.2.1
  refine lv_aload_n hx hb dX4_step_0 rfl (lv_at hl 0 rfl) ?_
  refine lv_iload_n hx hb dX4_step_1 rfl (lv_at hl 1 rfl) ?_
  rcases thn_cases hf with ⟨E1, σ1, hq1, ho⟩ | ⟨tr1, σ1, hq1, hf⟩
  · cases ho
    have hM := ok_X4_historyAt (D := D) (cy := cy) B.2.2.2.2.2.2.2.2 B.2.2.2.2.2.2.1 X _ v1 hq1
    exact sThrC (g_runV (o := .inl E1) (mc := 1) (ms := 6) (k := 0) (T := TX4) (N := 8) B h hM cw_X4_174 ⟨Nat.le_of_ble_eq_true rfl, Nat.le_of_ble_eq_true rfl⟩ (by decide) (S_row _) rfl rfl hl.1.symm rfl (Nat.le_of_ble_eq_true rfl) dX4_step_2 ⟨Nat.le_of_eq (Nat.zero_add _), Nat.le_of_eq (Nat.zero_add _)⟩) h (fun H locs q ce h hc hv hcl => sE_out B htab h hc hv hcl (Nat.le_of_eq (Nat.zero_add _)) (Nat.le_of_eq (Nat.zero_add _)))
  have hM := ok_X4_historyAt (D := D) (cy := cy) B.2.2.2.2.2.2.2.2 B.2.2.2.2.2.2.1 X _ v1 hq1
  refine sRetC1 (g_runV (o := .inr (some (.ref (ad tr1)))) (mc := 0) (ms := 0) (k := 0) (T := TX4) (N := 8) B h hM cw_X4_174 ⟨Nat.le_of_ble_eq_true rfl, Nat.le_of_ble_eq_true rfl⟩ (by decide) (S_row _) rfl rfl hl.1.symm rfl (Nat.le_of_ble_eq_true rfl) dX4_step_2 ⟨Nat.zero_le _, Nat.zero_le _⟩) h (fun H locs h => ?_)
  obtain ⟨c2, hf⟩ := chk_some hf
  refine lv_astore (lv' := [(5, .ref (ad tr1)), (0, .ref (ad 0)), (1, .int v1), (2, .int v2), (3, .int v3), (4, .int v4)]) hx hb dX4_step_5 hl (by decide) rfl (fun ls hl => ?_)
  refine lv_iload_n hx hb dX4_step_7 rfl (lv_at hl 3 rfl) ?_
  obtain ⟨vr3, hq3, hf⟩ := rthn_some hf
  refine sRetC1 (g_runS B h (ok_X4_isStepKind B.2.2.2.2.2.2.2.2 B.2.2.2.2.2.2.1 _ _ v2 hq3) cw_X4_178 ⟨Nat.le_of_ble_eq_true rfl, Nat.le_of_ble_eq_true rfl⟩ rfl hl.1.symm rfl (Nat.le_of_ble_eq_true rfl) dX4_step_8 ⟨Nat.zero_le _, Nat.zero_le _⟩) h (fun H locs h => ?_)
  refine lv_if_ne (tgt := 24) hx hb dX4_step_11 (by decide) (fun c4 => ?_) (fun c4 => ?_)
  · rw [if_neg c4] at hf
    refine lv_aload hx hb dX4_step_24 (lv_at hl 0 rfl) ?_
    refine g_get B h tr1 (H_lt (isHb_H c2)) (C := RX1) (T := TX1) (N := 4) (H_row (isHb_H c2) _) rfl hin_X1 0 (by decide) hw72 rfl rfl dX4_step_26 ?_
    refine lv_bipush (v := (30 : Int32)) hx hb dX4_step_29 (by decide) ?_
    refine lv_icmp_lt (tgt := 44) hx hb dX4_step_31 (by decide) (fun c5 => ?_) (fun c5 => ?_)
    · rw [if_pos c5] at hf
      refine lv_aload hx hb dX4_step_44 (lv_at hl 0 rfl) ?_
      refine lv_iload_n hx hb dX4_step_46 rfl (lv_at hl 3 rfl) ?_
      refine lv_iload_n hx hb dX4_step_47 rfl (lv_at hl 4 rfl) ?_
      refine lv_iload hx hb dX4_step_48 (lv_at hl 5 rfl) ?_
      obtain ⟨vr6, σ6, hq6, hf⟩ := wthn_some hf
      refine sRetC0 (g_runV (k := tr1) (T := TX1) (N := 4) B h (ok_X1_add B.2.2.2.2.2.2.2.2 B.2.2.2.2.2.2.1 _ _ (isHb_H c2) v2 v3 v4 hq6) cw_X4_186 ⟨Nat.le_of_ble_eq_true rfl, Nat.le_of_ble_eq_true rfl⟩ (H_lt (isHb_H c2)) (H_row (isHb_H c2) _) rfl rfl hl.1.symm rfl (Nat.le_of_ble_eq_true rfl) dX4_step_50 ⟨Nat.zero_le _, Nat.zero_le _⟩) h (fun H locs h => ?_)
      refine lv_aload hx hb dX4_step_53 (lv_at hl 0 rfl) ?_
      refine g_get B h tr1 (H_lt (isHb_H c2)) (C := RX1) (T := TX1) (N := 4) (H_row (isHb_H c2) _) rfl hin_X1 0 (by decide) hw72 rfl rfl dX4_step_55 ?_
      obtain ⟨rfl, rfl⟩ := Prod.mk.inj (Option.some.inj hf)
      exact sE_i B hr h dX4_step_58
    · rw [if_neg c5] at hf
      obtain ⟨rfl, rfl⟩ := Prod.mk.inj (Option.some.inj hf)
      exact sE_thr (own := RX4) (E := "java/lang/IllegalStateException") (text := "the history is full") (ic := 150) B htab h hl.1.symm ["java/lang/RuntimeException", "java/lang/Exception"] (by decide +kernel) (by decide +kernel) hw448 hw13 (by decide +kernel) (by decide +kernel) at_X4_150_g at_X4_150_n at_X4_150_o dX4_step_34 dX4_step_37 dX4_step_38 dX4_step_40 dX4_step_43 (Nat.le_of_ble_eq_true rfl) (Nat.le_of_ble_eq_true rfl) (Nat.le_of_eq (Nat.zero_add _)) (Nat.le_of_eq (Nat.zero_add _)) (Nat.le_of_eq (Nat.zero_add _)) (Nat.le_of_eq (Nat.zero_add _))
  · rw [if_pos c4] at hf
    obtain ⟨rfl, rfl⟩ := Prod.mk.inj (Option.some.inj hf)
    exact sE_thr (own := RX4) (E := "java/lang/IllegalArgumentException") (text := "no such kind") (ic := 79) B htab h hl.1.symm ["java/lang/RuntimeException", "java/lang/Exception"] (by decide +kernel) (by decide +kernel) hw508 hw16 (by decide +kernel) (by decide +kernel) at_X4_79_g at_X4_79_n at_X4_79_o dX4_step_14 dX4_step_17 dX4_step_18 dX4_step_20 dX4_step_23 (Nat.le_of_ble_eq_true rfl) (Nat.le_of_ble_eq_true rfl) (Nat.le_of_eq (Nat.zero_add _)) (Nat.le_of_eq (Nat.zero_add _)) (Nat.le_of_eq (Nat.zero_add _)) (Nat.le_of_eq (Nat.zero_add _))
set_option maxRecDepth 100000 in
theorem ok_X4_step {l : Launch} (hl0 : l.stackTraces = false) {D : va_G} {cy : Nat → ClassId} {ad : Nat → Nat} (hap : sAp ad) (X : sX) (σ : sM) (v1 : Int32) (v2 : Int32) (v3 : Int32) (v4 : Int32) {oo : String ⊕ Int32} {σ' : sM} (hf : f_X4_step v1 v2 v3 v4 σ = some (oo, σ')) : sMet l yX4_step (sWs yX4_step cX4_step 6 (some .int)) 7 121 (sC (oI oo)) (sS (oI oo)) D cy ad X σ [.ref (ad 0), .int v1, .int v2, .int v3, .int v4] (oI oo) X σ' := by
  refine sMet_of (by decide +kernel) (Nat.le_of_ble_eq_true rfl) hap hl0 ?_
  intro p e s m args below meth c ls B hr htab hl h
  exact k_X4_step_0 B hr htab _ _ _ _ _  hf _ _ _ h hl
set_option maxHeartbeats 4000000 in
set_option maxRecDepth 100000 in
theorem k_X4_value_0 {p : Program} {l : Launch} {e : Env} {s : State} {m : MethodId} {args : Array Value} {below : List Frame} {meth : Method} {c : Code} {D : va_G} {cy : Nat → ClassId} {ad : Nat → Nat} {X : sX} {oo : String ⊕ Int32} {σ' : sM} (B : sB p l s m meth c args cX4_value 5 RX4 D cy ad) (hr : meth.sig.returnType = (some .int)) (htab : ∀ x ∈ c.exceptionTable.toList, False) (v1 : Int32) (v2 : Int32) (σ : sM) (hf : f_X4_value v1 v2 σ = some (oo, σ')) : sGo p l e { frames := 7, cells := (sC (oI oo)), slots := (sS (oI oo)), locals := 121 } s m args below meth c D cy ad X 5 (sQ below args s (sC (oI oo)) (sS (oI oo)) D cy ad (oI oo) X σ') σ 0 [(0, .ref (ad 0)), (1, .int v1), (2, .int v2)] [] := by
  replace hf : (thn (f_X4_mapAt v1 σ) (fun tr1 σ1 => chk (isTb tr1) (rthn (f_X2_placeOf tr1 v2 σ1) (fun vr3 => if 0 ≤ vr3 then (chk (inb vr3 120) (some (.inr (σ1 (tr1 + 2) (vr3).toNatClampNeg), σ1))) else (some (.inl "java/util/NoSuchElementException", σ1)))))) = some (oo, σ') := hf
  intro H locs ls h hl
  have hx := B.1
  have hb := B.2.1
  refine lv_aload_n hx hb dX4_value_0 rfl (lv_at hl 0 rfl) ?_
  refine lv_iload_n hx hb dX4_value_1 rfl (lv_at hl 1 rfl) ?_
  rcases thn_cases hf with ⟨E1, σ1, hq1, ho⟩ | ⟨tr1, σ1, hq1, hf⟩
  · cases ho
    have hM := ok_X4_mapAt (D := D) (cy := cy) B.2.2.2.2.2.2.2.2 B.2.2.2.2.2.2.1 X _ v1 hq1
    exact sThrC (g_runV (o := .inl E1) (mc := 1) (ms := 6) (k := 0) (T := TX4) (N := 8) B h hM cw_X4_41 ⟨Nat.le_of_ble_eq_true rfl, Nat.le_of_ble_eq_true rfl⟩ (by decide) (S_row _) rfl rfl hl.1.symm rfl (Nat.le_of_ble_eq_true rfl) dX4_value_2 ⟨Nat.le_of_eq (Nat.zero_add _), Nat.le_of_eq (Nat.zero_add _)⟩) h (fun H locs q ce h hc hv hcl => sE_out B htab h hc hv hcl (Nat.le_of_eq (Nat.zero_add _)) (Nat.le_of_eq (Nat.zero_add _)))
  have hM := ok_X4_mapAt (D := D) (cy := cy) B.2.2.2.2.2.2.2.2 B.2.2.2.2.2.2.1 X _ v1 hq1
  refine sRetC1 (g_runV (o := .inr (some (.ref (ad tr1)))) (mc := 0) (ms := 0) (k := 0) (T := TX4) (N := 8) B h hM cw_X4_41 ⟨Nat.le_of_ble_eq_true rfl, Nat.le_of_ble_eq_true rfl⟩ (by decide) (S_row _) rfl rfl hl.1.symm rfl (Nat.le_of_ble_eq_true rfl) dX4_value_2 ⟨Nat.zero_le _, Nat.zero_le _⟩) h (fun H locs h => ?_)
  obtain ⟨c2, hf⟩ := chk_some hf
  refine lv_astore_n (lv' := [(3, .ref (ad tr1)), (0, .ref (ad 0)), (1, .int v1), (2, .int v2)]) hx hb dX4_value_5 rfl hl (by decide) rfl (fun ls hl => ?_)
  refine lv_aload_n hx hb dX4_value_6 rfl (lv_at hl 0 rfl) ?_
  refine lv_iload_n hx hb dX4_value_7 rfl (lv_at hl 3 rfl) ?_
  obtain ⟨vr3, hq3, hf⟩ := rthn_some hf
  refine sRetC1 (g_runV (k := tr1) (T := TX2) (N := 3) B h (ok_X2_placeOf B.2.2.2.2.2.2.2.2 B.2.2.2.2.2.2.1 _ _ (isTb_T c2) v2 hq3) cw_X4_53 ⟨Nat.le_of_ble_eq_true rfl, Nat.le_of_ble_eq_true rfl⟩ (T_lt (isTb_T c2)) (T_row (isTb_T c2) _) rfl rfl hl.1.symm rfl (Nat.le_of_ble_eq_true rfl) dX4_value_8 ⟨Nat.zero_le _, Nat.zero_le _⟩) h (fun H locs h => ?_)
  refine lv_istore (lv' := [(4, .int vr3), (3, .ref (ad tr1)), (0, .ref (ad 0)), (1, .int v1), (2, .int v2)]) hx hb dX4_value_11 hl (by decide) rfl (fun ls hl => ?_)
  refine lv_iload hx hb dX4_value_13 (lv_at hl 0 rfl) ?_
  refine lv_if_ge (tgt := 28) hx hb dX4_value_15 (by decide) (fun c4 => ?_) (fun c4 => ?_)
  · rw [if_pos c4] at hf
    refine lv_aload_n hx hb dX4_value_28 rfl (lv_at hl 1 rfl) ?_
    refine g_get B h tr1 (T_lt (isTb_T c2)) (C := RX2) (T := TX2) (N := 3) (T_row (isTb_T c2) _) rfl hin_X2 1 (by decide) hw50 rfl rfl dX4_value_29 ?_
    refine lv_iload hx hb dX4_value_32 (lv_at hl 0 rfl) ?_
    obtain ⟨c5, hf⟩ := chk_some hf
    refine g_iald B h (tr1 + 2) (T_lt2 (isTb_T c2)) (n := 120) (T_vals (isTb_T c2)) (inb_in c5) dX4_value_34 ?_
    obtain ⟨rfl, rfl⟩ := Prod.mk.inj (Option.some.inj hf)
    exact sE_i B hr h dX4_value_35
  · rw [if_neg c4] at hf
    obtain ⟨rfl, rfl⟩ := Prod.mk.inj (Option.some.inj hf)
    exact sE_thrX (own := RX4) (E := "java/util/NoSuchElementException") (text := "the map has no such key") (ic := 61) (ix := 13) (rx := nseeRx) nsee0 nsee1 nsee2 nsee5 B htab h hl.1.symm ["java/lang/RuntimeException", "java/lang/Exception"] (by decide +kernel) (by decide +kernel) hw473 hw15 (by decide +kernel) (by decide +kernel) at_X4_61_g at_X4_61_n at_X4_61_o dX4_value_18 dX4_value_21 (Or.inl ⟨dX4_value_22, rfl⟩) dX4_value_24 dX4_value_27 (Nat.le_of_ble_eq_true rfl) (Nat.le_of_ble_eq_true rfl) (Nat.le_of_eq (Nat.zero_add _)) (Nat.le_of_eq (Nat.zero_add _)) (Nat.le_of_eq (Nat.zero_add _)) (Nat.le_of_eq (Nat.zero_add _))
set_option maxRecDepth 100000 in
theorem ok_X4_value {l : Launch} (hl0 : l.stackTraces = false) {D : va_G} {cy : Nat → ClassId} {ad : Nat → Nat} (hap : sAp ad) (X : sX) (σ : sM) (v1 : Int32) (v2 : Int32) {oo : String ⊕ Int32} {σ' : sM} (hf : f_X4_value v1 v2 σ = some (oo, σ')) : sMet l yX4_value (sWs yX4_value cX4_value 5 (some .int)) 7 121 (sC (oI oo)) (sS (oI oo)) D cy ad X σ [.ref (ad 0), .int v1, .int v2] (oI oo) X σ' := by
  refine sMet_of (by decide +kernel) (Nat.le_of_ble_eq_true rfl) hap hl0 ?_
  intro p e s m args below meth c ls B hr htab hl h
  exact k_X4_value_0 B hr htab _ _ _  hf _ _ _ h hl
set_option maxHeartbeats 4000000 in
set_option maxRecDepth 100000 in
theorem k_X4_viewClear_0 {p : Program} {l : Launch} {e : Env} {s : State} {m : MethodId} {args : Array Value} {below : List Frame} {meth : Method} {c : Code} {D : va_G} {cy : Nat → ClassId} {ad : Nat → Nat} {X : sX} {oo : String ⊕ Int32} {σ' : sM} (B : sB p l s m meth c args cX4_viewClear 5 RX4 D cy ad) (hr : meth.sig.returnType = (some .int)) (htab : ∀ x ∈ c.exceptionTable.toList, False) (v1 : Int32) (σ : sM) (hf : f_X4_viewClear v1 σ = some (oo, σ')) : sGo p l e { frames := 8, cells := (sC (oI oo)), slots := (sS (oI oo)), locals := 140 } s m args below meth c D cy ad X 5 (sQ below args s (sC (oI oo)) (sS (oI oo)) D cy ad (oI oo) X σ') σ 0 [(0, .ref (ad 0)), (1, .int v1)] [] := by
  replace hf : (thn (f_X4_viewAt v1 σ) (fun tr1 σ1 => chk (isVb tr1) (thn (f_X4_sourceOf tr1 σ1) (fun tr3 σ3 => chk (isTb tr3) (rthn (f_X3_beginIn tr1 tr3 σ3) (fun vr5 => rthn (f_X3_stopIn tr1 tr3 σ3) (fun vr6 => wthn (f_X2_dropPlaces tr3 vr5 vr6 σ3) (fun _ σ7 => some (.inr ((σ3 tr3 2) - (σ7 tr3 2)), σ7))))))))) = some (oo, σ') := hf
  intro H locs ls h hl
  have hx := B.1
  have hb := B.2.1
  refine lv_aload_n hx hb dX4_viewClear_0 rfl (lv_at hl 0 rfl) ?_
  refine lv_iload_n hx hb dX4_viewClear_1 rfl (lv_at hl 1 rfl) ?_
  rcases thn_cases hf with ⟨E1, σ1, hq1, ho⟩ | ⟨tr1, σ1, hq1, hf⟩
  · cases ho
    have hM := ok_X4_viewAt (D := D) (cy := cy) B.2.2.2.2.2.2.2.2 B.2.2.2.2.2.2.1 X _ v1 hq1
    exact sThrC (g_runV (o := .inl E1) (mc := 1) (ms := 6) (k := 0) (T := TX4) (N := 8) B h hM cw_X4_120 ⟨Nat.le_of_ble_eq_true rfl, Nat.le_of_ble_eq_true rfl⟩ (by decide) (S_row _) rfl rfl hl.1.symm rfl (Nat.le_of_ble_eq_true rfl) dX4_viewClear_2 ⟨Nat.le_of_eq (Nat.zero_add _), Nat.le_of_eq (Nat.zero_add _)⟩) h (fun H locs q ce h hc hv hcl => sE_out B htab h hc hv hcl (Nat.le_of_eq (Nat.zero_add _)) (Nat.le_of_eq (Nat.zero_add _)))
  have hM := ok_X4_viewAt (D := D) (cy := cy) B.2.2.2.2.2.2.2.2 B.2.2.2.2.2.2.1 X _ v1 hq1
  refine sRetC1 (g_runV (o := .inr (some (.ref (ad tr1)))) (mc := 0) (ms := 0) (k := 0) (T := TX4) (N := 8) B h hM cw_X4_120 ⟨Nat.le_of_ble_eq_true rfl, Nat.le_of_ble_eq_true rfl⟩ (by decide) (S_row _) rfl rfl hl.1.symm rfl (Nat.le_of_ble_eq_true rfl) dX4_viewClear_2 ⟨Nat.zero_le _, Nat.zero_le _⟩) h (fun H locs h => ?_)
  obtain ⟨c2, hf⟩ := chk_some hf
  refine lv_astore_n (lv' := [(2, .ref (ad tr1)), (0, .ref (ad 0)), (1, .int v1)]) hx hb dX4_viewClear_5 rfl hl (by decide) rfl (fun ls hl => ?_)
  refine lv_aload_n hx hb dX4_viewClear_6 rfl (lv_at hl 0 rfl) ?_
  rcases thn_cases hf with ⟨E3, σ3, hq3, ho⟩ | ⟨tr3, σ3, hq3, hf⟩
  · cases ho
    have hM := ok_X4_sourceOf (D := D) (cy := cy) B.2.2.2.2.2.2.2.2 B.2.2.2.2.2.2.1 X _ (isVb_V c2) hq3
    exact sThrC (g_runS (o := .inl E3) (mc := 1) (ms := 6) B h hM cw_X4_155 ⟨Nat.le_of_ble_eq_true rfl, Nat.le_of_ble_eq_true rfl⟩ rfl hl.1.symm rfl (Nat.le_of_ble_eq_true rfl) dX4_viewClear_7 ⟨Nat.le_of_eq (Nat.zero_add _), Nat.le_of_eq (Nat.zero_add _)⟩) h (fun H locs q ce h hc hv hcl => sE_out B htab h hc hv hcl (Nat.le_of_eq (Nat.zero_add _)) (Nat.le_of_eq (Nat.zero_add _)))
  have hM := ok_X4_sourceOf (D := D) (cy := cy) B.2.2.2.2.2.2.2.2 B.2.2.2.2.2.2.1 X _ (isVb_V c2) hq3
  refine sRetC1 (g_runS (o := .inr (some (.ref (ad tr3)))) (mc := 0) (ms := 0) B h hM cw_X4_155 ⟨Nat.le_of_ble_eq_true rfl, Nat.le_of_ble_eq_true rfl⟩ rfl hl.1.symm rfl (Nat.le_of_ble_eq_true rfl) dX4_viewClear_7 ⟨Nat.zero_le _, Nat.zero_le _⟩) h (fun H locs h => ?_)
  obtain ⟨c4, hf⟩ := chk_some hf
  refine lv_astore_n (lv' := [(3, .ref (ad tr3)), (2, .ref (ad tr1)), (0, .ref (ad 0)), (1, .int v1)]) hx hb dX4_viewClear_10 rfl hl (by decide) rfl (fun ls hl => ?_)
  refine lv_aload_n hx hb dX4_viewClear_11 rfl (lv_at hl 0 rfl) ?_
  refine g_get B h tr3 (T_lt (isTb_T c4)) (C := RX2) (T := TX2) (N := 3) (T_row (isTb_T c4) _) rfl hin_X2 2 (by decide) hw53 rfl rfl dX4_viewClear_12 ?_
  refine lv_istore (lv' := [(4, .int (σ3 tr3 2)), (3, .ref (ad tr3)), (2, .ref (ad tr1)), (0, .ref (ad 0)), (1, .int v1)]) hx hb dX4_viewClear_15 hl (by decide) rfl (fun ls hl => ?_)
  refine lv_aload_n hx hb dX4_viewClear_17 rfl (lv_at hl 1 rfl) ?_
  refine lv_aload_n hx hb dX4_viewClear_18 rfl (lv_at hl 2 rfl) ?_
  refine lv_aload_n hx hb dX4_viewClear_19 rfl (lv_at hl 1 rfl) ?_
  obtain ⟨vr5, hq5, hf⟩ := rthn_some hf
  refine sRetC1 (g_runV (k := tr1) (T := TX3) (N := 6) B h (ok_X3_beginIn B.2.2.2.2.2.2.2.2 B.2.2.2.2.2.2.1 _ _ (isVb_V c2) (isTb_T c4) hq5) cw_X4_161 ⟨Nat.le_of_ble_eq_true rfl, Nat.le_of_ble_eq_true rfl⟩ (V_lt (isVb_V c2)) (V_row (isVb_V c2) _) rfl rfl hl.1.symm rfl (Nat.le_of_ble_eq_true rfl) dX4_viewClear_20 ⟨Nat.zero_le _, Nat.zero_le _⟩) h (fun H locs h => ?_)
  refine lv_aload_n hx hb dX4_viewClear_23 rfl (lv_at hl 2 rfl) ?_
  refine lv_aload_n hx hb dX4_viewClear_24 rfl (lv_at hl 1 rfl) ?_
  obtain ⟨vr6, hq6, hf⟩ := rthn_some hf
  refine sRetC1 (g_runV (k := tr1) (T := TX3) (N := 6) B h (ok_X3_stopIn B.2.2.2.2.2.2.2.2 B.2.2.2.2.2.2.1 _ _ (isVb_V c2) (isTb_T c4) hq6) cw_X4_165 ⟨Nat.le_of_ble_eq_true rfl, Nat.le_of_ble_eq_true rfl⟩ (V_lt (isVb_V c2)) (V_row (isVb_V c2) _) rfl rfl hl.1.symm rfl (Nat.le_of_ble_eq_true rfl) dX4_viewClear_25 ⟨Nat.zero_le _, Nat.zero_le _⟩) h (fun H locs h => ?_)
  obtain ⟨vr7, σ7, hq7, hf⟩ := wthn_some hf
  refine sRetC0 (g_runV (k := tr3) (T := TX2) (N := 3) B h (ok_X2_dropPlaces B.2.2.2.2.2.2.2.2 B.2.2.2.2.2.2.1 _ _ (isTb_T c4) vr5 vr6 hq7) cw_X4_170 ⟨Nat.le_of_ble_eq_true rfl, Nat.le_of_ble_eq_true rfl⟩ (T_lt (isTb_T c4)) (T_row (isTb_T c4) _) rfl rfl hl.1.symm rfl (Nat.le_of_ble_eq_true rfl) dX4_viewClear_28 ⟨Nat.zero_le _, Nat.zero_le _⟩) h (fun H locs h => ?_)
  refine lv_iload hx hb dX4_viewClear_31 (lv_at hl 0 rfl) ?_
  refine lv_aload_n hx hb dX4_viewClear_33 rfl (lv_at hl 1 rfl) ?_
  refine g_get B h tr3 (T_lt (isTb_T c4)) (C := RX2) (T := TX2) (N := 3) (T_row (isTb_T c4) _) rfl hin_X2 2 (by decide) hw53 rfl rfl dX4_viewClear_34 ?_
  refine lv_isub hx hb dX4_viewClear_37 ?_
  obtain ⟨rfl, rfl⟩ := Prod.mk.inj (Option.some.inj hf)
  exact sE_i B hr h dX4_viewClear_38
set_option maxRecDepth 100000 in
theorem ok_X4_viewClear {l : Launch} (hl0 : l.stackTraces = false) {D : va_G} {cy : Nat → ClassId} {ad : Nat → Nat} (hap : sAp ad) (X : sX) (σ : sM) (v1 : Int32) {oo : String ⊕ Int32} {σ' : sM} (hf : f_X4_viewClear v1 σ = some (oo, σ')) : sMet l yX4_viewClear (sWs yX4_viewClear cX4_viewClear 5 (some .int)) 8 140 (sC (oI oo)) (sS (oI oo)) D cy ad X σ [.ref (ad 0), .int v1] (oI oo) X σ' := by
  refine sMet_of (by decide +kernel) (Nat.le_of_ble_eq_true rfl) hap hl0 ?_
  intro p e s m args below meth c ls B hr htab hl h
  exact k_X4_viewClear_0 B hr htab _ _  hf _ _ _ h hl
set_option maxHeartbeats 4000000 in
set_option maxRecDepth 100000 in
theorem k_X4_viewEnd_0 {p : Program} {l : Launch} {e : Env} {s : State} {m : MethodId} {args : Array Value} {below : List Frame} {meth : Method} {c : Code} {D : va_G} {cy : Nat → ClassId} {ad : Nat → Nat} {X : sX} {oo : String ⊕ Int32} {σ' : sM} (B : sB p l s m meth c args cX4_viewEnd 5 RX4 D cy ad) (hr : meth.sig.returnType = (some .int)) (htab : ∀ x ∈ c.exceptionTable.toList, False) (v1 : Int32) (v2 : Int32) (σ : sM) (hf : f_X4_viewEnd v1 v2 σ = some (oo, σ')) : sGo p l e { frames := 8, cells := (sC (oI oo)), slots := (sS (oI oo)), locals := 140 } s m args below meth c D cy ad X 5 (sQ below args s (sC (oI oo)) (sS (oI oo)) D cy ad (oI oo) X σ') σ 0 [(0, .ref (ad 0)), (1, .int v1), (2, .int v2)] [] := by
  replace hf : (thn (f_X4_viewAt v1 σ) (fun tr1 σ1 => chk (isVb tr1) (thn (f_X4_sourceOf tr1 σ1) (fun tr3 σ3 => chk (isTb tr3) (rthn (f_X3_beginIn tr1 tr3 σ3) (fun vr5 => rthn (f_X3_stopIn tr1 tr3 σ3) (fun vr6 => thn (f_X4_endPlace vr5 vr6 v2 σ3) (fun vr7 σ7 => chk (inb vr7 120) (some (.inr (σ7 (tr3 + 1) (vr7).toNatClampNeg), σ7)))))))))) = some (oo, σ') := hf
  intro H locs ls h hl
  have hx := B.1
  have hb := B.2.1
  refine lv_aload_n hx hb dX4_viewEnd_0 rfl (lv_at hl 0 rfl) ?_
  refine lv_iload_n hx hb dX4_viewEnd_1 rfl (lv_at hl 1 rfl) ?_
  rcases thn_cases hf with ⟨E1, σ1, hq1, ho⟩ | ⟨tr1, σ1, hq1, hf⟩
  · cases ho
    have hM := ok_X4_viewAt (D := D) (cy := cy) B.2.2.2.2.2.2.2.2 B.2.2.2.2.2.2.1 X _ v1 hq1
    exact sThrC (g_runV (o := .inl E1) (mc := 1) (ms := 6) (k := 0) (T := TX4) (N := 8) B h hM cw_X4_120 ⟨Nat.le_of_ble_eq_true rfl, Nat.le_of_ble_eq_true rfl⟩ (by decide) (S_row _) rfl rfl hl.1.symm rfl (Nat.le_of_ble_eq_true rfl) dX4_viewEnd_2 ⟨Nat.le_of_eq (Nat.zero_add _), Nat.le_of_eq (Nat.zero_add _)⟩) h (fun H locs q ce h hc hv hcl => sE_out B htab h hc hv hcl (Nat.le_of_eq (Nat.zero_add _)) (Nat.le_of_eq (Nat.zero_add _)))
  have hM := ok_X4_viewAt (D := D) (cy := cy) B.2.2.2.2.2.2.2.2 B.2.2.2.2.2.2.1 X _ v1 hq1
  refine sRetC1 (g_runV (o := .inr (some (.ref (ad tr1)))) (mc := 0) (ms := 0) (k := 0) (T := TX4) (N := 8) B h hM cw_X4_120 ⟨Nat.le_of_ble_eq_true rfl, Nat.le_of_ble_eq_true rfl⟩ (by decide) (S_row _) rfl rfl hl.1.symm rfl (Nat.le_of_ble_eq_true rfl) dX4_viewEnd_2 ⟨Nat.zero_le _, Nat.zero_le _⟩) h (fun H locs h => ?_)
  obtain ⟨c2, hf⟩ := chk_some hf
  refine lv_astore_n (lv' := [(3, .ref (ad tr1)), (0, .ref (ad 0)), (1, .int v1), (2, .int v2)]) hx hb dX4_viewEnd_5 rfl hl (by decide) rfl (fun ls hl => ?_)
  refine lv_aload_n hx hb dX4_viewEnd_6 rfl (lv_at hl 0 rfl) ?_
  rcases thn_cases hf with ⟨E3, σ3, hq3, ho⟩ | ⟨tr3, σ3, hq3, hf⟩
  · cases ho
    have hM := ok_X4_sourceOf (D := D) (cy := cy) B.2.2.2.2.2.2.2.2 B.2.2.2.2.2.2.1 X _ (isVb_V c2) hq3
    exact sThrC (g_runS (o := .inl E3) (mc := 1) (ms := 6) B h hM cw_X4_155 ⟨Nat.le_of_ble_eq_true rfl, Nat.le_of_ble_eq_true rfl⟩ rfl hl.1.symm rfl (Nat.le_of_ble_eq_true rfl) dX4_viewEnd_7 ⟨Nat.le_of_eq (Nat.zero_add _), Nat.le_of_eq (Nat.zero_add _)⟩) h (fun H locs q ce h hc hv hcl => sE_out B htab h hc hv hcl (Nat.le_of_eq (Nat.zero_add _)) (Nat.le_of_eq (Nat.zero_add _)))
  have hM := ok_X4_sourceOf (D := D) (cy := cy) B.2.2.2.2.2.2.2.2 B.2.2.2.2.2.2.1 X _ (isVb_V c2) hq3
  refine sRetC1 (g_runS (o := .inr (some (.ref (ad tr3)))) (mc := 0) (ms := 0) B h hM cw_X4_155 ⟨Nat.le_of_ble_eq_true rfl, Nat.le_of_ble_eq_true rfl⟩ rfl hl.1.symm rfl (Nat.le_of_ble_eq_true rfl) dX4_viewEnd_7 ⟨Nat.zero_le _, Nat.zero_le _⟩) h (fun H locs h => ?_)
  obtain ⟨c4, hf⟩ := chk_some hf
  refine lv_astore (lv' := [(4, .ref (ad tr3)), (3, .ref (ad tr1)), (0, .ref (ad 0)), (1, .int v1), (2, .int v2)]) hx hb dX4_viewEnd_10 hl (by decide) rfl (fun ls hl => ?_)
  refine lv_aload hx hb dX4_viewEnd_12 (lv_at hl 0 rfl) ?_
  refine g_get B h tr3 (T_lt (isTb_T c4)) (C := RX2) (T := TX2) (N := 3) (T_row (isTb_T c4) _) rfl hin_X2 0 (by decide) hw47 rfl rfl dX4_viewEnd_14 ?_
  refine lv_aload_n hx hb dX4_viewEnd_17 rfl (lv_at hl 1 rfl) ?_
  refine lv_aload hx hb dX4_viewEnd_18 (lv_at hl 0 rfl) ?_
  obtain ⟨vr5, hq5, hf⟩ := rthn_some hf
  refine sRetC1 (g_runV (k := tr1) (T := TX3) (N := 6) B h (ok_X3_beginIn B.2.2.2.2.2.2.2.2 B.2.2.2.2.2.2.1 _ _ (isVb_V c2) (isTb_T c4) hq5) cw_X4_161 ⟨Nat.le_of_ble_eq_true rfl, Nat.le_of_ble_eq_true rfl⟩ (V_lt (isVb_V c2)) (V_row (isVb_V c2) _) rfl rfl hl.1.symm rfl (Nat.le_of_ble_eq_true rfl) dX4_viewEnd_20 ⟨Nat.zero_le _, Nat.zero_le _⟩) h (fun H locs h => ?_)
  refine lv_aload_n hx hb dX4_viewEnd_23 rfl (lv_at hl 1 rfl) ?_
  refine lv_aload hx hb dX4_viewEnd_24 (lv_at hl 0 rfl) ?_
  obtain ⟨vr6, hq6, hf⟩ := rthn_some hf
  refine sRetC1 (g_runV (k := tr1) (T := TX3) (N := 6) B h (ok_X3_stopIn B.2.2.2.2.2.2.2.2 B.2.2.2.2.2.2.1 _ _ (isVb_V c2) (isTb_T c4) hq6) cw_X4_165 ⟨Nat.le_of_ble_eq_true rfl, Nat.le_of_ble_eq_true rfl⟩ (V_lt (isVb_V c2)) (V_row (isVb_V c2) _) rfl rfl hl.1.symm rfl (Nat.le_of_ble_eq_true rfl) dX4_viewEnd_26 ⟨Nat.zero_le _, Nat.zero_le _⟩) h (fun H locs h => ?_)
  refine lv_iload_n hx hb dX4_viewEnd_29 rfl (lv_at hl 4 rfl) ?_
  rcases thn_cases hf with ⟨E7, σ7, hq7, ho⟩ | ⟨vr7, σ7, hq7, hf⟩
  · cases ho
    have hM := ok_X4_endPlace (D := D) (cy := cy) B.2.2.2.2.2.2.2.2 B.2.2.2.2.2.2.1 X _ vr5 vr6 v2 hq7
    exact sThrC (g_runS (o := .inl E7) (mc := 1) (ms := 6) B h hM cw_X4_89 ⟨Nat.le_of_ble_eq_true rfl, Nat.le_of_ble_eq_true rfl⟩ rfl hl.1.symm rfl (Nat.le_of_ble_eq_true rfl) dX4_viewEnd_30 ⟨Nat.le_of_eq (Nat.zero_add _), Nat.le_of_eq (Nat.zero_add _)⟩) h (fun H locs q ce h hc hv hcl => sE_out B htab h hc hv hcl (Nat.le_of_eq (Nat.zero_add _)) (Nat.le_of_eq (Nat.zero_add _)))
  have hM := ok_X4_endPlace (D := D) (cy := cy) B.2.2.2.2.2.2.2.2 B.2.2.2.2.2.2.1 X _ vr5 vr6 v2 hq7
  refine sRetC1 (g_runS (o := .inr (some (.int vr7))) (mc := 0) (ms := 0) B h hM cw_X4_89 ⟨Nat.le_of_ble_eq_true rfl, Nat.le_of_ble_eq_true rfl⟩ rfl hl.1.symm rfl (Nat.le_of_ble_eq_true rfl) dX4_viewEnd_30 ⟨Nat.zero_le _, Nat.zero_le _⟩) h (fun H locs h => ?_)
  obtain ⟨c8, hf⟩ := chk_some hf
  refine g_iald B h (tr3 + 1) (T_lt1 (isTb_T c4)) (n := 120) (T_keys (isTb_T c4)) (inb_in c8) dX4_viewEnd_33 ?_
  obtain ⟨rfl, rfl⟩ := Prod.mk.inj (Option.some.inj hf)
  exact sE_i B hr h dX4_viewEnd_34
set_option maxRecDepth 100000 in
theorem ok_X4_viewEnd {l : Launch} (hl0 : l.stackTraces = false) {D : va_G} {cy : Nat → ClassId} {ad : Nat → Nat} (hap : sAp ad) (X : sX) (σ : sM) (v1 : Int32) (v2 : Int32) {oo : String ⊕ Int32} {σ' : sM} (hf : f_X4_viewEnd v1 v2 σ = some (oo, σ')) : sMet l yX4_viewEnd (sWs yX4_viewEnd cX4_viewEnd 5 (some .int)) 8 140 (sC (oI oo)) (sS (oI oo)) D cy ad X σ [.ref (ad 0), .int v1, .int v2] (oI oo) X σ' := by
  refine sMet_of (by decide +kernel) (Nat.le_of_ble_eq_true rfl) hap hl0 ?_
  intro p e s m args below meth c ls B hr htab hl h
  exact k_X4_viewEnd_0 B hr htab _ _ _  hf _ _ _ h hl
set_option maxHeartbeats 4000000 in
set_option maxRecDepth 100000 in
theorem k_X4_viewNear_0 {p : Program} {l : Launch} {e : Env} {s : State} {m : MethodId} {args : Array Value} {below : List Frame} {meth : Method} {c : Code} {D : va_G} {cy : Nat → ClassId} {ad : Nat → Nat} {X : sX} {oo : String ⊕ Int32} {σ' : sM} (B : sB p l s m meth c args cX4_viewNear 7 RX4 D cy ad) (hr : meth.sig.returnType = (some .int)) (htab : ∀ x ∈ c.exceptionTable.toList, False) (v1 : Int32) (v2 : Int32) (v3 : Int32) (σ : sM) (hf : f_X4_viewNear v1 v2 v3 σ = some (oo, σ')) : sGo p l e { frames := 8, cells := (sC (oI oo)), slots := (sS (oI oo)), locals := 140 } s m args below meth c D cy ad X 7 (sQ below args s (sC (oI oo)) (sS (oI oo)) D cy ad (oI oo) X σ') σ 0 [(0, .ref (ad 0)), (1, .int v1), (2, .int v2), (3, .int v3)] [] := by
  replace hf : (thn (f_X4_viewAt v1 σ) (fun tr1 σ1 => chk (isVb tr1) (rthn (f_X4_isNearWay v3 σ1) (fun vr3 => if vr3 = 0 then (some (.inl "java/lang/IllegalArgumentException", σ1)) else (thn (f_X4_sourceOf tr1 σ1) (fun tr5 σ5 => chk (isTb tr5) (rthn (f_X3_beginIn tr1 tr5 σ5) (fun vr7 => rthn (f_X3_stopIn tr1 tr5 σ5) (fun vr8 => rthn (f_X2_placeNear tr5 v2 v3 vr7 vr8 σ5) (fun vr9 => if 0 ≤ vr9 then (chk (inb vr9 120) (some (.inr (σ5 (tr5 + 1) (vr9).toNatClampNeg), σ5))) else (some (.inl "java/util/NoSuchElementException", σ5)))))))))))) = some (oo, σ') := hf
  intro H locs ls h hl
  have hx := B.1
  have hb := B.2.1
  refine lv_aload_n hx hb dX4_viewNear_0 rfl (lv_at hl 0 rfl) ?_
  refine lv_iload_n hx hb dX4_viewNear_1 rfl (lv_at hl 1 rfl) ?_
  rcases thn_cases hf with ⟨E1, σ1, hq1, ho⟩ | ⟨tr1, σ1, hq1, hf⟩
  · cases ho
    have hM := ok_X4_viewAt (D := D) (cy := cy) B.2.2.2.2.2.2.2.2 B.2.2.2.2.2.2.1 X _ v1 hq1
    exact sThrC (g_runV (o := .inl E1) (mc := 1) (ms := 6) (k := 0) (T := TX4) (N := 8) B h hM cw_X4_120 ⟨Nat.le_of_ble_eq_true rfl, Nat.le_of_ble_eq_true rfl⟩ (by decide) (S_row _) rfl rfl hl.1.symm rfl (Nat.le_of_ble_eq_true rfl) dX4_viewNear_2 ⟨Nat.le_of_eq (Nat.zero_add _), Nat.le_of_eq (Nat.zero_add _)⟩) h (fun H locs q ce h hc hv hcl => sE_out B htab h hc hv hcl (Nat.le_of_eq (Nat.zero_add _)) (Nat.le_of_eq (Nat.zero_add _)))
  have hM := ok_X4_viewAt (D := D) (cy := cy) B.2.2.2.2.2.2.2.2 B.2.2.2.2.2.2.1 X _ v1 hq1
  refine sRetC1 (g_runV (o := .inr (some (.ref (ad tr1)))) (mc := 0) (ms := 0) (k := 0) (T := TX4) (N := 8) B h hM cw_X4_120 ⟨Nat.le_of_ble_eq_true rfl, Nat.le_of_ble_eq_true rfl⟩ (by decide) (S_row _) rfl rfl hl.1.symm rfl (Nat.le_of_ble_eq_true rfl) dX4_viewNear_2 ⟨Nat.zero_le _, Nat.zero_le _⟩) h (fun H locs h => ?_)
  obtain ⟨c2, hf⟩ := chk_some hf
  refine lv_astore (lv' := [(4, .ref (ad tr1)), (0, .ref (ad 0)), (1, .int v1), (2, .int v2), (3, .int v3)]) hx hb dX4_viewNear_5 hl (by decide) rfl (fun ls hl => ?_)
  refine lv_iload_n hx hb dX4_viewNear_7 rfl (lv_at hl 4 rfl) ?_
  obtain ⟨vr3, hq3, hf⟩ := rthn_some hf
  refine sRetC1 (g_runS B h (ok_X4_isNearWay B.2.2.2.2.2.2.2.2 B.2.2.2.2.2.2.1 _ _ v3 hq3) cw_X4_71 ⟨Nat.le_of_ble_eq_true rfl, Nat.le_of_ble_eq_true rfl⟩ rfl hl.1.symm rfl (Nat.le_of_ble_eq_true rfl) dX4_viewNear_8 ⟨Nat.zero_le _, Nat.zero_le _⟩) h (fun H locs h => ?_)
  refine lv_if_ne (tgt := 24) hx hb dX4_viewNear_11 (by decide) (fun c4 => ?_) (fun c4 => ?_)
  · rw [if_neg c4] at hf
    refine lv_aload hx hb dX4_viewNear_24 (lv_at hl 0 rfl) ?_
    rcases thn_cases hf with ⟨E5, σ5, hq5, ho⟩ | ⟨tr5, σ5, hq5, hf⟩
    · cases ho
      have hM := ok_X4_sourceOf (D := D) (cy := cy) B.2.2.2.2.2.2.2.2 B.2.2.2.2.2.2.1 X _ (isVb_V c2) hq5
      exact sThrC (g_runS (o := .inl E5) (mc := 1) (ms := 6) B h hM cw_X4_155 ⟨Nat.le_of_ble_eq_true rfl, Nat.le_of_ble_eq_true rfl⟩ rfl hl.1.symm rfl (Nat.le_of_ble_eq_true rfl) dX4_viewNear_26 ⟨Nat.le_of_eq (Nat.zero_add _), Nat.le_of_eq (Nat.zero_add _)⟩) h (fun H locs q ce h hc hv hcl => sE_out B htab h hc hv hcl (Nat.le_of_eq (Nat.zero_add _)) (Nat.le_of_eq (Nat.zero_add _)))
    have hM := ok_X4_sourceOf (D := D) (cy := cy) B.2.2.2.2.2.2.2.2 B.2.2.2.2.2.2.1 X _ (isVb_V c2) hq5
    refine sRetC1 (g_runS (o := .inr (some (.ref (ad tr5)))) (mc := 0) (ms := 0) B h hM cw_X4_155 ⟨Nat.le_of_ble_eq_true rfl, Nat.le_of_ble_eq_true rfl⟩ rfl hl.1.symm rfl (Nat.le_of_ble_eq_true rfl) dX4_viewNear_26 ⟨Nat.zero_le _, Nat.zero_le _⟩) h (fun H locs h => ?_)
    obtain ⟨c6, hf⟩ := chk_some hf
    refine lv_astore (lv' := [(5, .ref (ad tr5)), (4, .ref (ad tr1)), (0, .ref (ad 0)), (1, .int v1), (2, .int v2), (3, .int v3)]) hx hb dX4_viewNear_29 hl (by decide) rfl (fun ls hl => ?_)
    refine lv_aload hx hb dX4_viewNear_31 (lv_at hl 0 rfl) ?_
    refine lv_iload_n hx hb dX4_viewNear_33 rfl (lv_at hl 4 rfl) ?_
    refine lv_iload_n hx hb dX4_viewNear_34 rfl (lv_at hl 5 rfl) ?_
    refine lv_aload hx hb dX4_viewNear_35 (lv_at hl 1 rfl) ?_
    refine lv_aload hx hb dX4_viewNear_37 (lv_at hl 0 rfl) ?_
    obtain ⟨vr7, hq7, hf⟩ := rthn_some hf
    refine sRetC1 (g_runV (k := tr1) (T := TX3) (N := 6) B h (ok_X3_beginIn B.2.2.2.2.2.2.2.2 B.2.2.2.2.2.2.1 _ _ (isVb_V c2) (isTb_T c6) hq7) cw_X4_161 ⟨Nat.le_of_ble_eq_true rfl, Nat.le_of_ble_eq_true rfl⟩ (V_lt (isVb_V c2)) (V_row (isVb_V c2) _) rfl rfl hl.1.symm rfl (Nat.le_of_ble_eq_true rfl) dX4_viewNear_39 ⟨Nat.zero_le _, Nat.zero_le _⟩) h (fun H locs h => ?_)
    refine lv_aload hx hb dX4_viewNear_42 (lv_at hl 1 rfl) ?_
    refine lv_aload hx hb dX4_viewNear_44 (lv_at hl 0 rfl) ?_
    obtain ⟨vr8, hq8, hf⟩ := rthn_some hf
    refine sRetC1 (g_runV (k := tr1) (T := TX3) (N := 6) B h (ok_X3_stopIn B.2.2.2.2.2.2.2.2 B.2.2.2.2.2.2.1 _ _ (isVb_V c2) (isTb_T c6) hq8) cw_X4_165 ⟨Nat.le_of_ble_eq_true rfl, Nat.le_of_ble_eq_true rfl⟩ (V_lt (isVb_V c2)) (V_row (isVb_V c2) _) rfl rfl hl.1.symm rfl (Nat.le_of_ble_eq_true rfl) dX4_viewNear_46 ⟨Nat.zero_le _, Nat.zero_le _⟩) h (fun H locs h => ?_)
    obtain ⟨vr9, hq9, hf⟩ := rthn_some hf
    refine sRetC1 (g_runV (k := tr5) (T := TX2) (N := 3) B h (ok_X2_placeNear B.2.2.2.2.2.2.2.2 B.2.2.2.2.2.2.1 _ _ (isTb_T c6) v2 v3 vr7 vr8 hq9) cw_X4_80 ⟨Nat.le_of_ble_eq_true rfl, Nat.le_of_ble_eq_true rfl⟩ (T_lt (isTb_T c6)) (T_row (isTb_T c6) _) rfl rfl hl.1.symm rfl (Nat.le_of_ble_eq_true rfl) dX4_viewNear_49 ⟨Nat.zero_le _, Nat.zero_le _⟩) h (fun H locs h => ?_)
    refine lv_istore (lv' := [(6, .int vr9), (5, .ref (ad tr5)), (4, .ref (ad tr1)), (0, .ref (ad 0)), (1, .int v1), (2, .int v2), (3, .int v3)]) hx hb dX4_viewNear_52 hl (by decide) rfl (fun ls hl => ?_)
    refine lv_iload hx hb dX4_viewNear_54 (lv_at hl 0 rfl) ?_
    refine lv_if_ge (tgt := 69) hx hb dX4_viewNear_56 (by decide) (fun c10 => ?_) (fun c10 => ?_)
    · rw [if_pos c10] at hf
      refine lv_aload hx hb dX4_viewNear_69 (lv_at hl 1 rfl) ?_
      refine g_get B h tr5 (T_lt (isTb_T c6)) (C := RX2) (T := TX2) (N := 3) (T_row (isTb_T c6) _) rfl hin_X2 0 (by decide) hw47 rfl rfl dX4_viewNear_71 ?_
      refine lv_iload hx hb dX4_viewNear_74 (lv_at hl 0 rfl) ?_
      obtain ⟨c11, hf⟩ := chk_some hf
      refine g_iald B h (tr5 + 1) (T_lt1 (isTb_T c6)) (n := 120) (T_keys (isTb_T c6)) (inb_in c11) dX4_viewNear_76 ?_
      obtain ⟨rfl, rfl⟩ := Prod.mk.inj (Option.some.inj hf)
      exact sE_i B hr h dX4_viewNear_77
    · rw [if_neg c10] at hf
      obtain ⟨rfl, rfl⟩ := Prod.mk.inj (Option.some.inj hf)
      exact sE_thrX (own := RX4) (E := "java/util/NoSuchElementException") (text := "the view has no such near key") (ic := 61) (ix := 13) (rx := nseeRx) nsee0 nsee1 nsee2 nsee5 B htab h hl.1.symm ["java/lang/RuntimeException", "java/lang/Exception"] (by decide +kernel) (by decide +kernel) hw473 hw15 (by decide +kernel) (by decide +kernel) at_X4_61_g at_X4_61_n at_X4_61_o dX4_viewNear_59 dX4_viewNear_62 (Or.inl ⟨dX4_viewNear_63, rfl⟩) dX4_viewNear_65 dX4_viewNear_68 (Nat.le_of_ble_eq_true rfl) (Nat.le_of_ble_eq_true rfl) (Nat.le_of_eq (Nat.zero_add _)) (Nat.le_of_eq (Nat.zero_add _)) (Nat.le_of_eq (Nat.zero_add _)) (Nat.le_of_eq (Nat.zero_add _))
  · rw [if_pos c4] at hf
    obtain ⟨rfl, rfl⟩ := Prod.mk.inj (Option.some.inj hf)
    exact sE_thr (own := RX4) (E := "java/lang/IllegalArgumentException") (text := "no such way") (ic := 79) B htab h hl.1.symm ["java/lang/RuntimeException", "java/lang/Exception"] (by decide +kernel) (by decide +kernel) hw508 hw16 (by decide +kernel) (by decide +kernel) at_X4_79_g at_X4_79_n at_X4_79_o dX4_viewNear_14 dX4_viewNear_17 dX4_viewNear_18 dX4_viewNear_20 dX4_viewNear_23 (Nat.le_of_ble_eq_true rfl) (Nat.le_of_ble_eq_true rfl) (Nat.le_of_eq (Nat.zero_add _)) (Nat.le_of_eq (Nat.zero_add _)) (Nat.le_of_eq (Nat.zero_add _)) (Nat.le_of_eq (Nat.zero_add _))
set_option maxRecDepth 100000 in
theorem ok_X4_viewNear {l : Launch} (hl0 : l.stackTraces = false) {D : va_G} {cy : Nat → ClassId} {ad : Nat → Nat} (hap : sAp ad) (X : sX) (σ : sM) (v1 : Int32) (v2 : Int32) (v3 : Int32) {oo : String ⊕ Int32} {σ' : sM} (hf : f_X4_viewNear v1 v2 v3 σ = some (oo, σ')) : sMet l yX4_viewNear (sWs yX4_viewNear cX4_viewNear 7 (some .int)) 8 140 (sC (oI oo)) (sS (oI oo)) D cy ad X σ [.ref (ad 0), .int v1, .int v2, .int v3] (oI oo) X σ' := by
  refine sMet_of (by decide +kernel) (Nat.le_of_ble_eq_true rfl) hap hl0 ?_
  intro p e s m args below meth c ls B hr htab hl h
  exact k_X4_viewNear_0 B hr htab _ _ _ _  hf _ _ _ h hl
set_option maxHeartbeats 4000000 in
set_option maxRecDepth 100000 in
theorem k_X4_viewPoll_0 {p : Program} {l : Launch} {e : Env} {s : State} {m : MethodId} {args : Array Value} {below : List Frame} {meth : Method} {c : Code} {D : va_G} {cy : Nat → ClassId} {ad : Nat → Nat} {X : sX} {oo : String ⊕ Int32} {σ' : sM} (B : sB p l s m meth c args cX4_viewPoll 5 RX4 D cy ad) (hr : meth.sig.returnType = (some .int)) (htab : ∀ x ∈ c.exceptionTable.toList, False) (v1 : Int32) (v2 : Int32) (σ : sM) (hf : f_X4_viewPoll v1 v2 σ = some (oo, σ')) : sGo p l e { frames := 8, cells := (sC (oI oo)), slots := (sS (oI oo)), locals := 153 } s m args below meth c D cy ad X 5 (sQ below args s (sC (oI oo)) (sS (oI oo)) D cy ad (oI oo) X σ') σ 0 [(0, .ref (ad 0)), (1, .int v1), (2, .int v2)] [] := by
  replace hf : (thn (f_X4_viewAt v1 σ) (fun tr1 σ1 => chk (isVb tr1) (thn (f_X4_sourceOf tr1 σ1) (fun tr3 σ3 => chk (isTb tr3) (rthn (f_X3_beginIn tr1 tr3 σ3) (fun vr5 => rthn (f_X3_stopIn tr1 tr3 σ3) (fun vr6 => thn (f_X4_endPlace vr5 vr6 v2 σ3) (fun vr7 σ7 => wthn (f_X4_pollAt tr3 vr7 σ7) (fun vr8 σ8 => some (.inr vr8, σ8)))))))))) = some (oo, σ') := hf
  intro H locs ls h hl
  have hx := B.1
  have hb := B.2.1
  refine lv_aload_n hx hb dX4_viewPoll_0 rfl (lv_at hl 0 rfl) ?_
  refine lv_iload_n hx hb dX4_viewPoll_1 rfl (lv_at hl 1 rfl) ?_
  rcases thn_cases hf with ⟨E1, σ1, hq1, ho⟩ | ⟨tr1, σ1, hq1, hf⟩
  · cases ho
    have hM := ok_X4_viewAt (D := D) (cy := cy) B.2.2.2.2.2.2.2.2 B.2.2.2.2.2.2.1 X _ v1 hq1
    exact sThrC (g_runV (o := .inl E1) (mc := 1) (ms := 6) (k := 0) (T := TX4) (N := 8) B h hM cw_X4_120 ⟨Nat.le_of_ble_eq_true rfl, Nat.le_of_ble_eq_true rfl⟩ (by decide) (S_row _) rfl rfl hl.1.symm rfl (Nat.le_of_ble_eq_true rfl) dX4_viewPoll_2 ⟨Nat.le_of_eq (Nat.zero_add _), Nat.le_of_eq (Nat.zero_add _)⟩) h (fun H locs q ce h hc hv hcl => sE_out B htab h hc hv hcl (Nat.le_of_eq (Nat.zero_add _)) (Nat.le_of_eq (Nat.zero_add _)))
  have hM := ok_X4_viewAt (D := D) (cy := cy) B.2.2.2.2.2.2.2.2 B.2.2.2.2.2.2.1 X _ v1 hq1
  refine sRetC1 (g_runV (o := .inr (some (.ref (ad tr1)))) (mc := 0) (ms := 0) (k := 0) (T := TX4) (N := 8) B h hM cw_X4_120 ⟨Nat.le_of_ble_eq_true rfl, Nat.le_of_ble_eq_true rfl⟩ (by decide) (S_row _) rfl rfl hl.1.symm rfl (Nat.le_of_ble_eq_true rfl) dX4_viewPoll_2 ⟨Nat.zero_le _, Nat.zero_le _⟩) h (fun H locs h => ?_)
  obtain ⟨c2, hf⟩ := chk_some hf
  refine lv_astore_n (lv' := [(3, .ref (ad tr1)), (0, .ref (ad 0)), (1, .int v1), (2, .int v2)]) hx hb dX4_viewPoll_5 rfl hl (by decide) rfl (fun ls hl => ?_)
  refine lv_aload_n hx hb dX4_viewPoll_6 rfl (lv_at hl 0 rfl) ?_
  rcases thn_cases hf with ⟨E3, σ3, hq3, ho⟩ | ⟨tr3, σ3, hq3, hf⟩
  · cases ho
    have hM := ok_X4_sourceOf (D := D) (cy := cy) B.2.2.2.2.2.2.2.2 B.2.2.2.2.2.2.1 X _ (isVb_V c2) hq3
    exact sThrC (g_runS (o := .inl E3) (mc := 1) (ms := 6) B h hM cw_X4_155 ⟨Nat.le_of_ble_eq_true rfl, Nat.le_of_ble_eq_true rfl⟩ rfl hl.1.symm rfl (Nat.le_of_ble_eq_true rfl) dX4_viewPoll_7 ⟨Nat.le_of_eq (Nat.zero_add _), Nat.le_of_eq (Nat.zero_add _)⟩) h (fun H locs q ce h hc hv hcl => sE_out B htab h hc hv hcl (Nat.le_of_eq (Nat.zero_add _)) (Nat.le_of_eq (Nat.zero_add _)))
  have hM := ok_X4_sourceOf (D := D) (cy := cy) B.2.2.2.2.2.2.2.2 B.2.2.2.2.2.2.1 X _ (isVb_V c2) hq3
  refine sRetC1 (g_runS (o := .inr (some (.ref (ad tr3)))) (mc := 0) (ms := 0) B h hM cw_X4_155 ⟨Nat.le_of_ble_eq_true rfl, Nat.le_of_ble_eq_true rfl⟩ rfl hl.1.symm rfl (Nat.le_of_ble_eq_true rfl) dX4_viewPoll_7 ⟨Nat.zero_le _, Nat.zero_le _⟩) h (fun H locs h => ?_)
  obtain ⟨c4, hf⟩ := chk_some hf
  refine lv_astore (lv' := [(4, .ref (ad tr3)), (3, .ref (ad tr1)), (0, .ref (ad 0)), (1, .int v1), (2, .int v2)]) hx hb dX4_viewPoll_10 hl (by decide) rfl (fun ls hl => ?_)
  refine lv_aload_n hx hb dX4_viewPoll_12 rfl (lv_at hl 2 rfl) ?_
  refine lv_aload hx hb dX4_viewPoll_13 (lv_at hl 0 rfl) ?_
  refine lv_aload_n hx hb dX4_viewPoll_15 rfl (lv_at hl 1 rfl) ?_
  refine lv_aload hx hb dX4_viewPoll_16 (lv_at hl 0 rfl) ?_
  obtain ⟨vr5, hq5, hf⟩ := rthn_some hf
  refine sRetC1 (g_runV (k := tr1) (T := TX3) (N := 6) B h (ok_X3_beginIn B.2.2.2.2.2.2.2.2 B.2.2.2.2.2.2.1 _ _ (isVb_V c2) (isTb_T c4) hq5) cw_X4_161 ⟨Nat.le_of_ble_eq_true rfl, Nat.le_of_ble_eq_true rfl⟩ (V_lt (isVb_V c2)) (V_row (isVb_V c2) _) rfl rfl hl.1.symm rfl (Nat.le_of_ble_eq_true rfl) dX4_viewPoll_18 ⟨Nat.zero_le _, Nat.zero_le _⟩) h (fun H locs h => ?_)
  refine lv_aload_n hx hb dX4_viewPoll_21 rfl (lv_at hl 1 rfl) ?_
  refine lv_aload hx hb dX4_viewPoll_22 (lv_at hl 0 rfl) ?_
  obtain ⟨vr6, hq6, hf⟩ := rthn_some hf
  refine sRetC1 (g_runV (k := tr1) (T := TX3) (N := 6) B h (ok_X3_stopIn B.2.2.2.2.2.2.2.2 B.2.2.2.2.2.2.1 _ _ (isVb_V c2) (isTb_T c4) hq6) cw_X4_165 ⟨Nat.le_of_ble_eq_true rfl, Nat.le_of_ble_eq_true rfl⟩ (V_lt (isVb_V c2)) (V_row (isVb_V c2) _) rfl rfl hl.1.symm rfl (Nat.le_of_ble_eq_true rfl) dX4_viewPoll_24 ⟨Nat.zero_le _, Nat.zero_le _⟩) h (fun H locs h => ?_)
  refine lv_iload_n hx hb dX4_viewPoll_27 rfl (lv_at hl 4 rfl) ?_
  rcases thn_cases hf with ⟨E7, σ7, hq7, ho⟩ | ⟨vr7, σ7, hq7, hf⟩
  · cases ho
    have hM := ok_X4_endPlace (D := D) (cy := cy) B.2.2.2.2.2.2.2.2 B.2.2.2.2.2.2.1 X _ vr5 vr6 v2 hq7
    exact sThrC (g_runS (o := .inl E7) (mc := 1) (ms := 6) B h hM cw_X4_89 ⟨Nat.le_of_ble_eq_true rfl, Nat.le_of_ble_eq_true rfl⟩ rfl hl.1.symm rfl (Nat.le_of_ble_eq_true rfl) dX4_viewPoll_28 ⟨Nat.le_of_eq (Nat.zero_add _), Nat.le_of_eq (Nat.zero_add _)⟩) h (fun H locs q ce h hc hv hcl => sE_out B htab h hc hv hcl (Nat.le_of_eq (Nat.zero_add _)) (Nat.le_of_eq (Nat.zero_add _)))
  have hM := ok_X4_endPlace (D := D) (cy := cy) B.2.2.2.2.2.2.2.2 B.2.2.2.2.2.2.1 X _ vr5 vr6 v2 hq7
  refine sRetC1 (g_runS (o := .inr (some (.int vr7))) (mc := 0) (ms := 0) B h hM cw_X4_89 ⟨Nat.le_of_ble_eq_true rfl, Nat.le_of_ble_eq_true rfl⟩ rfl hl.1.symm rfl (Nat.le_of_ble_eq_true rfl) dX4_viewPoll_28 ⟨Nat.zero_le _, Nat.zero_le _⟩) h (fun H locs h => ?_)
  obtain ⟨vr8, σ8, hq8, hf⟩ := wthn_some hf
  refine sRetC1 (g_runV (k := 0) (T := TX4) (N := 8) B h (ok_X4_pollAt B.2.2.2.2.2.2.2.2 B.2.2.2.2.2.2.1 _ _ (isTb_T c4) vr7 hq8) cw_X4_93 ⟨Nat.le_of_ble_eq_true rfl, Nat.le_of_ble_eq_true rfl⟩ (by decide) (S_row _) rfl rfl hl.1.symm rfl (Nat.le_of_ble_eq_true rfl) dX4_viewPoll_31 ⟨Nat.zero_le _, Nat.zero_le _⟩) h (fun H locs h => ?_)
  obtain ⟨rfl, rfl⟩ := Prod.mk.inj (Option.some.inj hf)
  exact sE_i B hr h dX4_viewPoll_34
set_option maxRecDepth 100000 in
theorem ok_X4_viewPoll {l : Launch} (hl0 : l.stackTraces = false) {D : va_G} {cy : Nat → ClassId} {ad : Nat → Nat} (hap : sAp ad) (X : sX) (σ : sM) (v1 : Int32) (v2 : Int32) {oo : String ⊕ Int32} {σ' : sM} (hf : f_X4_viewPoll v1 v2 σ = some (oo, σ')) : sMet l yX4_viewPoll (sWs yX4_viewPoll cX4_viewPoll 5 (some .int)) 8 153 (sC (oI oo)) (sS (oI oo)) D cy ad X σ [.ref (ad 0), .int v1, .int v2] (oI oo) X σ' := by
  refine sMet_of (by decide +kernel) (Nat.le_of_ble_eq_true rfl) hap hl0 ?_
  intro p e s m args below meth c ls B hr htab hl h
  exact k_X4_viewPoll_0 B hr htab _ _ _  hf _ _ _ h hl
set_option maxHeartbeats 4000000 in
set_option maxRecDepth 100000 in
theorem k_X4_viewPut_0 {p : Program} {l : Launch} {e : Env} {s : State} {m : MethodId} {args : Array Value} {below : List Frame} {meth : Method} {c : Code} {D : va_G} {cy : Nat → ClassId} {ad : Nat → Nat} {X : sX} {oo : String ⊕ Int32} {σ' : sM} (B : sB p l s m meth c args cX4_viewPut 6 RX4 D cy ad) (hr : meth.sig.returnType = (some .int)) (htab : ∀ x ∈ c.exceptionTable.toList, False) (v1 : Int32) (v2 : Int32) (v3 : Int32) (σ : sM) (hf : f_X4_viewPut v1 v2 v3 σ = some (oo, σ')) : sGo p l e { frames := 8, cells := (sC (oI oo)), slots := (sS (oI oo)), locals := 154 } s m args below meth c D cy ad X 6 (sQ below args s (sC (oI oo)) (sS (oI oo)) D cy ad (oI oo) X σ') σ 0 [(0, .ref (ad 0)), (1, .int v1), (2, .int v2), (3, .int v3)] [] := by
  replace hf : (thn (f_X4_viewAt v1 σ) (fun tr1 σ1 => chk (isVb tr1) (thn (f_X4_sourceOf tr1 σ1) (fun tr3 σ3 => chk (isTb tr3) (rthn (f_X3_covers tr1 v2 σ3) (fun vr5 => if vr5 = 0 then (some (.inl "java/lang/IllegalArgumentException", σ3)) else (thn (f_X4_putWithin tr3 v2 v3 σ3) (fun _ σ7 => rthn (f_X3_countEntries tr1 σ7) (fun vr8 => some (.inr vr8, σ7)))))))))) = some (oo, σ') := hf
  intro H locs ls h hl
  have hx := B.1
  have hb := B.2.1
  refine lv_aload_n hx hb dX4_viewPut_0 rfl (lv_at hl 0 rfl) ?_
  refine lv_iload_n hx hb dX4_viewPut_1 rfl (lv_at hl 1 rfl) ?_
  rcases thn_cases hf with ⟨E1, σ1, hq1, ho⟩ | ⟨tr1, σ1, hq1, hf⟩
  · cases ho
    have hM := ok_X4_viewAt (D := D) (cy := cy) B.2.2.2.2.2.2.2.2 B.2.2.2.2.2.2.1 X _ v1 hq1
    exact sThrC (g_runV (o := .inl E1) (mc := 1) (ms := 6) (k := 0) (T := TX4) (N := 8) B h hM cw_X4_120 ⟨Nat.le_of_ble_eq_true rfl, Nat.le_of_ble_eq_true rfl⟩ (by decide) (S_row _) rfl rfl hl.1.symm rfl (Nat.le_of_ble_eq_true rfl) dX4_viewPut_2 ⟨Nat.le_of_eq (Nat.zero_add _), Nat.le_of_eq (Nat.zero_add _)⟩) h (fun H locs q ce h hc hv hcl => sE_out B htab h hc hv hcl (Nat.le_of_eq (Nat.zero_add _)) (Nat.le_of_eq (Nat.zero_add _)))
  have hM := ok_X4_viewAt (D := D) (cy := cy) B.2.2.2.2.2.2.2.2 B.2.2.2.2.2.2.1 X _ v1 hq1
  refine sRetC1 (g_runV (o := .inr (some (.ref (ad tr1)))) (mc := 0) (ms := 0) (k := 0) (T := TX4) (N := 8) B h hM cw_X4_120 ⟨Nat.le_of_ble_eq_true rfl, Nat.le_of_ble_eq_true rfl⟩ (by decide) (S_row _) rfl rfl hl.1.symm rfl (Nat.le_of_ble_eq_true rfl) dX4_viewPut_2 ⟨Nat.zero_le _, Nat.zero_le _⟩) h (fun H locs h => ?_)
  obtain ⟨c2, hf⟩ := chk_some hf
  refine lv_astore (lv' := [(4, .ref (ad tr1)), (0, .ref (ad 0)), (1, .int v1), (2, .int v2), (3, .int v3)]) hx hb dX4_viewPut_5 hl (by decide) rfl (fun ls hl => ?_)
  refine lv_aload hx hb dX4_viewPut_7 (lv_at hl 0 rfl) ?_
  rcases thn_cases hf with ⟨E3, σ3, hq3, ho⟩ | ⟨tr3, σ3, hq3, hf⟩
  · cases ho
    have hM := ok_X4_sourceOf (D := D) (cy := cy) B.2.2.2.2.2.2.2.2 B.2.2.2.2.2.2.1 X _ (isVb_V c2) hq3
    exact sThrC (g_runS (o := .inl E3) (mc := 1) (ms := 6) B h hM cw_X4_155 ⟨Nat.le_of_ble_eq_true rfl, Nat.le_of_ble_eq_true rfl⟩ rfl hl.1.symm rfl (Nat.le_of_ble_eq_true rfl) dX4_viewPut_9 ⟨Nat.le_of_eq (Nat.zero_add _), Nat.le_of_eq (Nat.zero_add _)⟩) h (fun H locs q ce h hc hv hcl => sE_out B htab h hc hv hcl (Nat.le_of_eq (Nat.zero_add _)) (Nat.le_of_eq (Nat.zero_add _)))
  have hM := ok_X4_sourceOf (D := D) (cy := cy) B.2.2.2.2.2.2.2.2 B.2.2.2.2.2.2.1 X _ (isVb_V c2) hq3
  refine sRetC1 (g_runS (o := .inr (some (.ref (ad tr3)))) (mc := 0) (ms := 0) B h hM cw_X4_155 ⟨Nat.le_of_ble_eq_true rfl, Nat.le_of_ble_eq_true rfl⟩ rfl hl.1.symm rfl (Nat.le_of_ble_eq_true rfl) dX4_viewPut_9 ⟨Nat.zero_le _, Nat.zero_le _⟩) h (fun H locs h => ?_)
  obtain ⟨c4, hf⟩ := chk_some hf
  refine lv_astore (lv' := [(5, .ref (ad tr3)), (4, .ref (ad tr1)), (0, .ref (ad 0)), (1, .int v1), (2, .int v2), (3, .int v3)]) hx hb dX4_viewPut_12 hl (by decide) rfl (fun ls hl => ?_)
  refine lv_aload hx hb dX4_viewPut_14 (lv_at hl 1 rfl) ?_
  refine lv_iload_n hx hb dX4_viewPut_16 rfl (lv_at hl 4 rfl) ?_
  obtain ⟨vr5, hq5, hf⟩ := rthn_some hf
  refine sRetC1 (g_runV (k := tr1) (T := TX3) (N := 6) B h (ok_X3_covers B.2.2.2.2.2.2.2.2 B.2.2.2.2.2.2.1 _ _ (isVb_V c2) v2 hq5) cw_X4_138 ⟨Nat.le_of_ble_eq_true rfl, Nat.le_of_ble_eq_true rfl⟩ (V_lt (isVb_V c2)) (V_row (isVb_V c2) _) rfl rfl hl.1.symm rfl (Nat.le_of_ble_eq_true rfl) dX4_viewPut_17 ⟨Nat.zero_le _, Nat.zero_le _⟩) h (fun H locs h => ?_)
  refine lv_if_ne (tgt := 33) hx hb dX4_viewPut_20 (by decide) (fun c6 => ?_) (fun c6 => ?_)
  · rw [if_neg c6] at hf
    refine lv_aload hx hb dX4_viewPut_33 (lv_at hl 0 rfl) ?_
    refine lv_iload_n hx hb dX4_viewPut_35 rfl (lv_at hl 4 rfl) ?_
    refine lv_iload_n hx hb dX4_viewPut_36 rfl (lv_at hl 5 rfl) ?_
    rcases thn_cases hf with ⟨E7, σ7, hq7, ho⟩ | ⟨vr7, σ7, hq7, hf⟩
    · cases ho
      have hM := ok_X4_putWithin (D := D) (cy := cy) B.2.2.2.2.2.2.2.2 B.2.2.2.2.2.2.1 X _ (isTb_T c4) v2 v3 hq7
      exact sThrC (g_runS (o := .inl E7) (mc := 1) (ms := 6) B h hM cw_X4_45 ⟨Nat.le_of_ble_eq_true rfl, Nat.le_of_ble_eq_true rfl⟩ rfl hl.1.symm rfl (Nat.le_of_ble_eq_true rfl) dX4_viewPut_37 ⟨Nat.le_of_eq (Nat.zero_add _), Nat.le_of_eq (Nat.zero_add _)⟩) h (fun H locs q ce h hc hv hcl => sE_out B htab h hc hv hcl (Nat.le_of_eq (Nat.zero_add _)) (Nat.le_of_eq (Nat.zero_add _)))
    have hM := ok_X4_putWithin (D := D) (cy := cy) B.2.2.2.2.2.2.2.2 B.2.2.2.2.2.2.1 X _ (isTb_T c4) v2 v3 hq7
    refine sRetC0 (g_runS (o := .inr none) (mc := 0) (ms := 0) B h hM cw_X4_45 ⟨Nat.le_of_ble_eq_true rfl, Nat.le_of_ble_eq_true rfl⟩ rfl hl.1.symm rfl (Nat.le_of_ble_eq_true rfl) dX4_viewPut_37 ⟨Nat.zero_le _, Nat.zero_le _⟩) h (fun H locs h => ?_)
    refine lv_aload hx hb dX4_viewPut_40 (lv_at hl 1 rfl) ?_
    obtain ⟨vr8, hq8, hf⟩ := rthn_some hf
    refine sRetC1 (g_runV (k := tr1) (T := TX3) (N := 6) B h (ok_X3_countEntries B.2.2.2.2.2.2.2.2 B.2.2.2.2.2.2.1 _ _ (isVb_V c2) hq8) cw_X4_130 ⟨Nat.le_of_ble_eq_true rfl, Nat.le_of_ble_eq_true rfl⟩ (V_lt (isVb_V c2)) (V_row (isVb_V c2) _) rfl rfl hl.1.symm rfl (Nat.le_of_ble_eq_true rfl) dX4_viewPut_42 ⟨Nat.zero_le _, Nat.zero_le _⟩) h (fun H locs h => ?_)
    obtain ⟨rfl, rfl⟩ := Prod.mk.inj (Option.some.inj hf)
    exact sE_i B hr h dX4_viewPut_45
  · rw [if_pos c6] at hf
    obtain ⟨rfl, rfl⟩ := Prod.mk.inj (Option.some.inj hf)
    exact sE_thr (own := RX4) (E := "java/lang/IllegalArgumentException") (text := "the key does not lie in the span") (ic := 79) B htab h hl.1.symm ["java/lang/RuntimeException", "java/lang/Exception"] (by decide +kernel) (by decide +kernel) hw508 hw16 (by decide +kernel) (by decide +kernel) at_X4_79_g at_X4_79_n at_X4_79_o dX4_viewPut_23 dX4_viewPut_26 dX4_viewPut_27 dX4_viewPut_29 dX4_viewPut_32 (Nat.le_of_ble_eq_true rfl) (Nat.le_of_ble_eq_true rfl) (Nat.le_of_eq (Nat.zero_add _)) (Nat.le_of_eq (Nat.zero_add _)) (Nat.le_of_eq (Nat.zero_add _)) (Nat.le_of_eq (Nat.zero_add _))
set_option maxRecDepth 100000 in
theorem ok_X4_viewPut {l : Launch} (hl0 : l.stackTraces = false) {D : va_G} {cy : Nat → ClassId} {ad : Nat → Nat} (hap : sAp ad) (X : sX) (σ : sM) (v1 : Int32) (v2 : Int32) (v3 : Int32) {oo : String ⊕ Int32} {σ' : sM} (hf : f_X4_viewPut v1 v2 v3 σ = some (oo, σ')) : sMet l yX4_viewPut (sWs yX4_viewPut cX4_viewPut 6 (some .int)) 8 154 (sC (oI oo)) (sS (oI oo)) D cy ad X σ [.ref (ad 0), .int v1, .int v2, .int v3] (oI oo) X σ' := by
  refine sMet_of (by decide +kernel) (Nat.le_of_ble_eq_true rfl) hap hl0 ?_
  intro p e s m args below meth c ls B hr htab hl h
  exact k_X4_viewPut_0 B hr htab _ _ _ _  hf _ _ _ h hl
set_option maxHeartbeats 4000000 in
set_option maxRecDepth 100000 in
theorem k_X4_viewRemove_0 {p : Program} {l : Launch} {e : Env} {s : State} {m : MethodId} {args : Array Value} {below : List Frame} {meth : Method} {c : Code} {D : va_G} {cy : Nat → ClassId} {ad : Nat → Nat} {X : sX} {oo : String ⊕ Int32} {σ' : sM} (B : sB p l s m meth c args cX4_viewRemove 5 RX4 D cy ad) (hr : meth.sig.returnType = (some .boolean)) (htab : ∀ x ∈ c.exceptionTable.toList, False) (v1 : Int32) (v2 : Int32) (σ : sM) (hf : f_X4_viewRemove v1 v2 σ = some (oo, σ')) : sGo p l e { frames := 8, cells := (sC (oI oo)), slots := (sS (oI oo)), locals := 152 } s m args below meth c D cy ad X 5 (sQ below args s (sC (oI oo)) (sS (oI oo)) D cy ad (oI oo) X σ') σ 0 [(0, .ref (ad 0)), (1, .int v1), (2, .int v2)] [] := by
  replace hf : (thn (f_X4_viewAt v1 σ) (fun tr1 σ1 => chk (isVb tr1) (thn (f_X4_sourceOf tr1 σ1) (fun tr3 σ3 => chk (isTb tr3) (rthn (f_X3_covers tr1 v2 σ3) (fun vr5 => if vr5 = 0 then (some (.inr (0 : Int32), σ3)) else (wthn (f_X2_drop tr3 v2 σ3) (fun vr7 σ7 => if vr7 = 0 then (some (.inr (0 : Int32), σ7)) else (some (.inr (1 : Int32), σ7)))))))))) = some (oo, σ') := hf
  intro H locs ls h hl
  have hx := B.1
  have hb := B.2.1
  refine lv_aload_n hx hb dX4_viewRemove_0 rfl (lv_at hl 0 rfl) ?_
  refine lv_iload_n hx hb dX4_viewRemove_1 rfl (lv_at hl 1 rfl) ?_
  rcases thn_cases hf with ⟨E1, σ1, hq1, ho⟩ | ⟨tr1, σ1, hq1, hf⟩
  · cases ho
    have hM := ok_X4_viewAt (D := D) (cy := cy) B.2.2.2.2.2.2.2.2 B.2.2.2.2.2.2.1 X _ v1 hq1
    exact sThrC (g_runV (o := .inl E1) (mc := 1) (ms := 6) (k := 0) (T := TX4) (N := 8) B h hM cw_X4_120 ⟨Nat.le_of_ble_eq_true rfl, Nat.le_of_ble_eq_true rfl⟩ (by decide) (S_row _) rfl rfl hl.1.symm rfl (Nat.le_of_ble_eq_true rfl) dX4_viewRemove_2 ⟨Nat.le_of_eq (Nat.zero_add _), Nat.le_of_eq (Nat.zero_add _)⟩) h (fun H locs q ce h hc hv hcl => sE_out B htab h hc hv hcl (Nat.le_of_eq (Nat.zero_add _)) (Nat.le_of_eq (Nat.zero_add _)))
  have hM := ok_X4_viewAt (D := D) (cy := cy) B.2.2.2.2.2.2.2.2 B.2.2.2.2.2.2.1 X _ v1 hq1
  refine sRetC1 (g_runV (o := .inr (some (.ref (ad tr1)))) (mc := 0) (ms := 0) (k := 0) (T := TX4) (N := 8) B h hM cw_X4_120 ⟨Nat.le_of_ble_eq_true rfl, Nat.le_of_ble_eq_true rfl⟩ (by decide) (S_row _) rfl rfl hl.1.symm rfl (Nat.le_of_ble_eq_true rfl) dX4_viewRemove_2 ⟨Nat.zero_le _, Nat.zero_le _⟩) h (fun H locs h => ?_)
  obtain ⟨c2, hf⟩ := chk_some hf
  refine lv_astore_n (lv' := [(3, .ref (ad tr1)), (0, .ref (ad 0)), (1, .int v1), (2, .int v2)]) hx hb dX4_viewRemove_5 rfl hl (by decide) rfl (fun ls hl => ?_)
  refine lv_aload_n hx hb dX4_viewRemove_6 rfl (lv_at hl 0 rfl) ?_
  rcases thn_cases hf with ⟨E3, σ3, hq3, ho⟩ | ⟨tr3, σ3, hq3, hf⟩
  · cases ho
    have hM := ok_X4_sourceOf (D := D) (cy := cy) B.2.2.2.2.2.2.2.2 B.2.2.2.2.2.2.1 X _ (isVb_V c2) hq3
    exact sThrC (g_runS (o := .inl E3) (mc := 1) (ms := 6) B h hM cw_X4_155 ⟨Nat.le_of_ble_eq_true rfl, Nat.le_of_ble_eq_true rfl⟩ rfl hl.1.symm rfl (Nat.le_of_ble_eq_true rfl) dX4_viewRemove_7 ⟨Nat.le_of_eq (Nat.zero_add _), Nat.le_of_eq (Nat.zero_add _)⟩) h (fun H locs q ce h hc hv hcl => sE_out B htab h hc hv hcl (Nat.le_of_eq (Nat.zero_add _)) (Nat.le_of_eq (Nat.zero_add _)))
  have hM := ok_X4_sourceOf (D := D) (cy := cy) B.2.2.2.2.2.2.2.2 B.2.2.2.2.2.2.1 X _ (isVb_V c2) hq3
  refine sRetC1 (g_runS (o := .inr (some (.ref (ad tr3)))) (mc := 0) (ms := 0) B h hM cw_X4_155 ⟨Nat.le_of_ble_eq_true rfl, Nat.le_of_ble_eq_true rfl⟩ rfl hl.1.symm rfl (Nat.le_of_ble_eq_true rfl) dX4_viewRemove_7 ⟨Nat.zero_le _, Nat.zero_le _⟩) h (fun H locs h => ?_)
  obtain ⟨c4, hf⟩ := chk_some hf
  refine lv_astore (lv' := [(4, .ref (ad tr3)), (3, .ref (ad tr1)), (0, .ref (ad 0)), (1, .int v1), (2, .int v2)]) hx hb dX4_viewRemove_10 hl (by decide) rfl (fun ls hl => ?_)
  refine lv_aload_n hx hb dX4_viewRemove_12 rfl (lv_at hl 1 rfl) ?_
  refine lv_iload_n hx hb dX4_viewRemove_13 rfl (lv_at hl 4 rfl) ?_
  obtain ⟨vr5, hq5, hf⟩ := rthn_some hf
  refine sRetC1 (g_runV (k := tr1) (T := TX3) (N := 6) B h (ok_X3_covers B.2.2.2.2.2.2.2.2 B.2.2.2.2.2.2.1 _ _ (isVb_V c2) v2 hq5) cw_X4_138 ⟨Nat.le_of_ble_eq_true rfl, Nat.le_of_ble_eq_true rfl⟩ (V_lt (isVb_V c2)) (V_row (isVb_V c2) _) rfl rfl hl.1.symm rfl (Nat.le_of_ble_eq_true rfl) dX4_viewRemove_14 ⟨Nat.zero_le _, Nat.zero_le _⟩) h (fun H locs h => ?_)
  refine lv_if_eq (tgt := 33) hx hb dX4_viewRemove_17 (by decide) (fun c6 => ?_) (fun c6 => ?_)
  · rw [if_pos c6] at hf
    refine lv_iconst (v := (0 : Int32)) hx hb dX4_viewRemove_33 (by decide) ?_
    obtain ⟨rfl, rfl⟩ := Prod.mk.inj (Option.some.inj hf)
    exact sE_z B hr h rfl dX4_viewRemove_34
  · rw [if_neg c6] at hf
    refine lv_aload hx hb dX4_viewRemove_20 (lv_at hl 0 rfl) ?_
    refine lv_iload_n hx hb dX4_viewRemove_22 rfl (lv_at hl 4 rfl) ?_
    obtain ⟨vr7, σ7, hq7, hf⟩ := wthn_some hf
    refine sRetC1 (g_runV (k := tr3) (T := TX2) (N := 3) B h (ok_X2_drop B.2.2.2.2.2.2.2.2 B.2.2.2.2.2.2.1 _ _ (isTb_T c4) v2 hq7) cw_X4_67 ⟨Nat.le_of_ble_eq_true rfl, Nat.le_of_ble_eq_true rfl⟩ (T_lt (isTb_T c4)) (T_row (isTb_T c4) _) rfl rfl hl.1.symm rfl (Nat.le_of_ble_eq_true rfl) dX4_viewRemove_23 ⟨Nat.zero_le _, Nat.zero_le _⟩) h (fun H locs h => ?_)
    refine lv_if_eq (tgt := 33) hx hb dX4_viewRemove_26 (by decide) (fun c8 => ?_) (fun c8 => ?_)
    · rw [if_pos c8] at hf
      refine lv_iconst (v := (0 : Int32)) hx hb dX4_viewRemove_33 (by decide) ?_
      obtain ⟨rfl, rfl⟩ := Prod.mk.inj (Option.some.inj hf)
      exact sE_z B hr h rfl dX4_viewRemove_34
    · rw [if_neg c8] at hf
      refine lv_iconst (v := (1 : Int32)) hx hb dX4_viewRemove_29 (by decide) ?_
      refine lv_goto (tgt := 34) hx hb dX4_viewRemove_30 (by decide) ?_
      obtain ⟨rfl, rfl⟩ := Prod.mk.inj (Option.some.inj hf)
      exact sE_z B hr h rfl dX4_viewRemove_34
set_option maxRecDepth 100000 in
theorem ok_X4_viewRemove {l : Launch} (hl0 : l.stackTraces = false) {D : va_G} {cy : Nat → ClassId} {ad : Nat → Nat} (hap : sAp ad) (X : sX) (σ : sM) (v1 : Int32) (v2 : Int32) {oo : String ⊕ Int32} {σ' : sM} (hf : f_X4_viewRemove v1 v2 σ = some (oo, σ')) : sMet l yX4_viewRemove (sWs yX4_viewRemove cX4_viewRemove 5 (some .boolean)) 8 152 (sC (oI oo)) (sS (oI oo)) D cy ad X σ [.ref (ad 0), .int v1, .int v2] (oI oo) X σ' := by
  refine sMet_of (by decide +kernel) (Nat.le_of_ble_eq_true rfl) hap hl0 ?_
  intro p e s m args below meth c ls B hr htab hl h
  exact k_X4_viewRemove_0 B hr htab _ _ _  hf _ _ _ h hl
