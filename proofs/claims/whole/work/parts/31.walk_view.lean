set_option maxHeartbeats 4000000 in
set_option maxRecDepth 100000 in
theorem k_X3_beginIn_0 {p : Program} {l : Launch} {e : Env} {s : State} {m : MethodId} {args : Array Value} {below : List Frame} {meth : Method} {c : Code} {D : va_G} {cy : Nat → ClassId} {ad : Nat → Nat} {X : sX} {r : Int32} (B : sB p l s m meth c args cX3_beginIn 2 RX3 D cy ad) (hr : meth.sig.returnType = (some .int)) (t0 : Nat) (t1 : Nat) (σ : sM) (ft0 : isV t0) (ft1 : isT t1) (hf : f_X3_beginIn t0 t1 σ = some r) : sGo p l e { frames := 2, cells := 0, slots := 0, locals := 46 } s m args below meth c D cy ad X 2 (sQ below args s 0 0 D cy ad (.inr (some (.int r))) X σ) σ 0 [(0, .ref (ad t0)), (1, .ref (ad t1))] [] := by
  replace hf : (if (σ t0 3) = 0 then (rthn (f_X2_countUpTo t1 (σ t0 2) σ) (fun vr2 => some vr2)) else (rthn (f_X2_countBelow t1 (σ t0 2) σ) (fun vr3 => some vr3))) = some r := hf
  intro H locs ls h hl
  have hx := B.1
  have hb := B.2.1
  refine lv_aload_n hx hb dX3_beginIn_0 rfl (lv_at hl 0 rfl) ?_
  refine g_get B h t0 (V_lt ft0) (C := RX3) (T := TX3) (N := 6) (V_row ft0 _) rfl hin_X3 3 (by decide) hw110 rfl rfl dX3_beginIn_1 ?_
  refine lv_if_eq (tgt := 18) hx hb dX3_beginIn_4 (by decide) (fun c1 => ?_) (fun c1 => ?_)
  · rw [if_pos c1] at hf
    refine lv_aload_n hx hb dX3_beginIn_18 rfl (lv_at hl 1 rfl) ?_
    refine lv_aload_n hx hb dX3_beginIn_19 rfl (lv_at hl 0 rfl) ?_
    refine g_get B h t0 (V_lt ft0) (C := RX3) (T := TX3) (N := 6) (V_row ft0 _) rfl hin_X3 2 (by decide) hw109 rfl rfl dX3_beginIn_20 ?_
    obtain ⟨vr2, hq2, hf⟩ := rthn_some hf
    refine sRetC1 (g_runV (k := t1) (T := TX2) (N := 3) B h (ok_X2_countUpTo B.2.2.2.2.2.2.2.2 B.2.2.2.2.2.2.1 _ _ ft1 (σ t0 2) hq2) cw_X3_36 ⟨Nat.le_of_ble_eq_true rfl, Nat.le_of_ble_eq_true rfl⟩ (T_lt ft1) (T_row ft1 _) rfl rfl hl.1.symm rfl (Nat.le_of_ble_eq_true rfl) dX3_beginIn_23 ⟨Nat.zero_le _, Nat.zero_le _⟩) h (fun H locs h => ?_)
    obtain rfl := Option.some.inj hf
    exact sE_i B hr h dX3_beginIn_26
  · rw [if_neg c1] at hf
    refine lv_aload_n hx hb dX3_beginIn_7 rfl (lv_at hl 1 rfl) ?_
    refine lv_aload_n hx hb dX3_beginIn_8 rfl (lv_at hl 0 rfl) ?_
    refine g_get B h t0 (V_lt ft0) (C := RX3) (T := TX3) (N := 6) (V_row ft0 _) rfl hin_X3 2 (by decide) hw109 rfl rfl dX3_beginIn_9 ?_
    obtain ⟨vr3, hq3, hf⟩ := rthn_some hf
    refine sRetC1 (g_runV (k := t1) (T := TX2) (N := 3) B h (ok_X2_countBelow B.2.2.2.2.2.2.2.2 B.2.2.2.2.2.2.1 _ _ ft1 (σ t0 2) hq3) cw_X3_30 ⟨Nat.le_of_ble_eq_true rfl, Nat.le_of_ble_eq_true rfl⟩ (T_lt ft1) (T_row ft1 _) rfl rfl hl.1.symm rfl (Nat.le_of_ble_eq_true rfl) dX3_beginIn_12 ⟨Nat.zero_le _, Nat.zero_le _⟩) h (fun H locs h => ?_)
    refine lv_goto (tgt := 26) hx hb dX3_beginIn_15 (by decide) ?_
    obtain rfl := Option.some.inj hf
    exact sE_i B hr h dX3_beginIn_26
set_option maxRecDepth 100000 in
theorem ok_X3_beginIn {l : Launch} (hl0 : l.stackTraces = false) {D : va_G} {cy : Nat → ClassId} {ad : Nat → Nat} (hap : sAp ad) (X : sX) (σ : sM) {t0 : Nat} (ft0 : isV t0) {t1 : Nat} (ft1 : isT t1) {r : Int32} (hf : f_X3_beginIn t0 t1 σ = some r) : sMet l yX3_beginIn (sWs yX3_beginIn cX3_beginIn 2 (some .int)) 2 46 0 0 D cy ad X σ [.ref (ad t0), .ref (ad t1)] (.inr (some (.int r))) X σ := by
  refine sMet_of (by decide +kernel) (Nat.le_of_ble_eq_true rfl) hap hl0 ?_
  intro p e s m args below meth c ls B hr htab hl h
  exact k_X3_beginIn_0 B hr _ _ _ ft0 ft1 hf _ _ _ h hl
set_option maxHeartbeats 4000000 in
set_option maxRecDepth 100000 in
theorem k_X3_stopIn_0 {p : Program} {l : Launch} {e : Env} {s : State} {m : MethodId} {args : Array Value} {below : List Frame} {meth : Method} {c : Code} {D : va_G} {cy : Nat → ClassId} {ad : Nat → Nat} {X : sX} {r : Int32} (B : sB p l s m meth c args cX3_stopIn 3 RX3 D cy ad) (hr : meth.sig.returnType = (some .int)) (t0 : Nat) (t1 : Nat) (σ : sM) (ft0 : isV t0) (ft1 : isT t1) (hf : f_X3_stopIn t0 t1 σ = some r) : sGo p l e { frames := 3, cells := 0, slots := 0, locals := 67 } s m args below meth c D cy ad X 3 (sQ below args s 0 0 D cy ad (.inr (some (.int r))) X σ) σ 0 [(0, .ref (ad t0)), (1, .ref (ad t1))] [] := by
  replace hf : (if (σ t0 5) = 0 then (rthn (f_X2_countBelow t1 (σ t0 4) σ) (fun vr2 => rthn (f_X3_beginIn t0 t1 σ) (fun vr3 => some (if vr2 < vr3 then vr3 else vr2)))) else (rthn (f_X2_countUpTo t1 (σ t0 4) σ) (fun vr4 => rthn (f_X3_beginIn t0 t1 σ) (fun vr5 => some (if vr4 < vr5 then vr5 else vr4))))) = some r := hf
  intro H locs ls h hl
  have hx := B.1
  have hb := B.2.1
  refine lv_aload_n hx hb dX3_stopIn_0 rfl (lv_at hl 0 rfl) ?_
  refine g_get B h t0 (V_lt ft0) (C := RX3) (T := TX3) (N := 6) (V_row ft0 _) rfl hin_X3 5 (by decide) hw112 rfl rfl dX3_stopIn_1 ?_
  refine lv_if_eq (tgt := 18) hx hb dX3_stopIn_4 (by decide) (fun c1 => ?_) (fun c1 => ?_)
  · rw [if_pos c1] at hf
    refine lv_aload_n hx hb dX3_stopIn_18 rfl (lv_at hl 1 rfl) ?_
    refine lv_aload_n hx hb dX3_stopIn_19 rfl (lv_at hl 0 rfl) ?_
    refine g_get B h t0 (V_lt ft0) (C := RX3) (T := TX3) (N := 6) (V_row ft0 _) rfl hin_X3 4 (by decide) hw111 rfl rfl dX3_stopIn_20 ?_
    obtain ⟨vr2, hq2, hf⟩ := rthn_some hf
    refine sRetC1 (g_runV (k := t1) (T := TX2) (N := 3) B h (ok_X2_countBelow B.2.2.2.2.2.2.2.2 B.2.2.2.2.2.2.1 _ _ ft1 (σ t0 4) hq2) cw_X3_30 ⟨Nat.le_of_ble_eq_true rfl, Nat.le_of_ble_eq_true rfl⟩ (T_lt ft1) (T_row ft1 _) rfl rfl hl.1.symm rfl (Nat.le_of_ble_eq_true rfl) dX3_stopIn_23 ⟨Nat.zero_le _, Nat.zero_le _⟩) h (fun H locs h => ?_)
    refine lv_istore_n (lv' := [(2, .int vr2), (0, .ref (ad t0)), (1, .ref (ad t1))]) hx hb dX3_stopIn_26 rfl hl (by decide) rfl (fun ls hl => ?_)
    refine lv_iload_n hx hb dX3_stopIn_27 rfl (lv_at hl 0 rfl) ?_
    refine lv_aload_n hx hb dX3_stopIn_28 rfl (lv_at hl 1 rfl) ?_
    refine lv_aload_n hx hb dX3_stopIn_29 rfl (lv_at hl 2 rfl) ?_
    obtain ⟨vr3, hq3, hf⟩ := rthn_some hf
    refine sRetC1 (g_runV (k := t0) (T := TX3) (N := 6) B h (ok_X3_beginIn B.2.2.2.2.2.2.2.2 B.2.2.2.2.2.2.1 _ _ ft0 ft1 hq3) cw_X3_39 ⟨Nat.le_of_ble_eq_true rfl, Nat.le_of_ble_eq_true rfl⟩ (V_lt ft0) (V_row ft0 _) rfl rfl hl.1.symm rfl (Nat.le_of_ble_eq_true rfl) dX3_stopIn_30 ⟨Nat.zero_le _, Nat.zero_le _⟩) h (fun H locs h => ?_)
    refine g_max B hl.1.symm hw187 hw188 hw17 hw189 (Nat.le_of_ble_eq_true rfl) (Nat.le_of_ble_eq_true rfl) (Nat.zero_le _) (Nat.zero_le _) dX3_stopIn_33 ?_
    obtain rfl := Option.some.inj hf
    exact sE_i B hr h dX3_stopIn_36
  · rw [if_neg c1] at hf
    refine lv_aload_n hx hb dX3_stopIn_7 rfl (lv_at hl 1 rfl) ?_
    refine lv_aload_n hx hb dX3_stopIn_8 rfl (lv_at hl 0 rfl) ?_
    refine g_get B h t0 (V_lt ft0) (C := RX3) (T := TX3) (N := 6) (V_row ft0 _) rfl hin_X3 4 (by decide) hw111 rfl rfl dX3_stopIn_9 ?_
    obtain ⟨vr4, hq4, hf⟩ := rthn_some hf
    refine sRetC1 (g_runV (k := t1) (T := TX2) (N := 3) B h (ok_X2_countUpTo B.2.2.2.2.2.2.2.2 B.2.2.2.2.2.2.1 _ _ ft1 (σ t0 4) hq4) cw_X3_36 ⟨Nat.le_of_ble_eq_true rfl, Nat.le_of_ble_eq_true rfl⟩ (T_lt ft1) (T_row ft1 _) rfl rfl hl.1.symm rfl (Nat.le_of_ble_eq_true rfl) dX3_stopIn_12 ⟨Nat.zero_le _, Nat.zero_le _⟩) h (fun H locs h => ?_)
    refine lv_goto (tgt := 26) hx hb dX3_stopIn_15 (by decide) ?_
    refine lv_istore_n (lv' := [(2, .int vr4), (0, .ref (ad t0)), (1, .ref (ad t1))]) hx hb dX3_stopIn_26 rfl hl (by decide) rfl (fun ls hl => ?_)
    refine lv_iload_n hx hb dX3_stopIn_27 rfl (lv_at hl 0 rfl) ?_
    refine lv_aload_n hx hb dX3_stopIn_28 rfl (lv_at hl 1 rfl) ?_
    refine lv_aload_n hx hb dX3_stopIn_29 rfl (lv_at hl 2 rfl) ?_
    obtain ⟨vr5, hq5, hf⟩ := rthn_some hf
    refine sRetC1 (g_runV (k := t0) (T := TX3) (N := 6) B h (ok_X3_beginIn B.2.2.2.2.2.2.2.2 B.2.2.2.2.2.2.1 _ _ ft0 ft1 hq5) cw_X3_39 ⟨Nat.le_of_ble_eq_true rfl, Nat.le_of_ble_eq_true rfl⟩ (V_lt ft0) (V_row ft0 _) rfl rfl hl.1.symm rfl (Nat.le_of_ble_eq_true rfl) dX3_stopIn_30 ⟨Nat.zero_le _, Nat.zero_le _⟩) h (fun H locs h => ?_)
    refine g_max B hl.1.symm hw187 hw188 hw17 hw189 (Nat.le_of_ble_eq_true rfl) (Nat.le_of_ble_eq_true rfl) (Nat.zero_le _) (Nat.zero_le _) dX3_stopIn_33 ?_
    obtain rfl := Option.some.inj hf
    exact sE_i B hr h dX3_stopIn_36
set_option maxRecDepth 100000 in
theorem ok_X3_stopIn {l : Launch} (hl0 : l.stackTraces = false) {D : va_G} {cy : Nat → ClassId} {ad : Nat → Nat} (hap : sAp ad) (X : sX) (σ : sM) {t0 : Nat} (ft0 : isV t0) {t1 : Nat} (ft1 : isT t1) {r : Int32} (hf : f_X3_stopIn t0 t1 σ = some r) : sMet l yX3_stopIn (sWs yX3_stopIn cX3_stopIn 3 (some .int)) 3 67 0 0 D cy ad X σ [.ref (ad t0), .ref (ad t1)] (.inr (some (.int r))) X σ := by
  refine sMet_of (by decide +kernel) (Nat.le_of_ble_eq_true rfl) hap hl0 ?_
  intro p e s m args below meth c ls B hr htab hl h
  exact k_X3_stopIn_0 B hr _ _ _ ft0 ft1 hf _ _ _ h hl
set_option maxHeartbeats 4000000 in
set_option maxRecDepth 100000 in
theorem k_X3_countEntries_0 {p : Program} {l : Launch} {e : Env} {s : State} {m : MethodId} {args : Array Value} {below : List Frame} {meth : Method} {c : Code} {D : va_G} {cy : Nat → ClassId} {ad : Nat → Nat} {X : sX} {r : Int32} (B : sB p l s m meth c args cX3_countEntries 2 RX3 D cy ad) (hr : meth.sig.returnType = (some .int)) (t0 : Nat) (σ : sM) (ft0 : isV t0) (hf : f_X3_countEntries t0 σ = some r) : sGo p l e { frames := 4, cells := 0, slots := 0, locals := 89 } s m args below meth c D cy ad X 2 (sQ below args s 0 0 D cy ad (.inr (some (.int r))) X σ) σ 0 [(0, .ref (ad t0))] [] := by
  replace hf : (srcm (sSrc (σ t0 0)) (some (-1 : Int32)) (fun ts1 => rthn (f_X3_stopIn t0 ts1 σ) (fun vr2 => rthn (f_X3_beginIn t0 ts1 σ) (fun vr3 => some (vr2 - vr3))))) = some r := hf
  intro H locs ls h hl
  have hx := B.1
  have hb := B.2.1
  refine lv_aload_n hx hb dX3_countEntries_0 rfl (lv_at hl 0 rfl) ?_
  rcases srcm_cases hf with ⟨s1, hf⟩ | ⟨ts1, s1, hf⟩
  · refine g_src0 B h t0 ft0 hin_X3 hw105 s1 dX3_countEntries_1 ?_
    refine lv_astore_nN (lv' := [(1, .null), (0, .ref (ad t0))]) hx hb dX3_countEntries_4 rfl hl (by decide) rfl (fun ls hl => ?_)
    refine lv_aload_nN hx hb dX3_countEntries_5 rfl (lv_at hl 0 rfl) ?_
    refine lv_ifnonnullN hx hb dX3_countEntries_6 ?_
    refine lv_iconst (v := (-1 : Int32)) hx hb dX3_countEntries_9 (by decide) ?_
    refine lv_goto (tgt := 24) hx hb dX3_countEntries_10 (by decide) ?_
    obtain rfl := Option.some.inj hf
    exact sE_i B hr h dX3_countEntries_24
  · refine g_src1 B h t0 ft0 hin_X3 hw105 s1 dX3_countEntries_1 ?_
    refine lv_astore_n (lv' := [(1, .ref (ad ts1)), (0, .ref (ad t0))]) hx hb dX3_countEntries_4 rfl hl (by decide) rfl (fun ls hl => ?_)
    refine lv_aload_n hx hb dX3_countEntries_5 rfl (lv_at hl 0 rfl) ?_
    refine lv_ifnonnull (tgt := 13) hx hb dX3_countEntries_6 (by decide) ?_
    refine lv_aload_n hx hb dX3_countEntries_13 rfl (lv_at hl 1 rfl) ?_
    refine lv_aload_n hx hb dX3_countEntries_14 rfl (lv_at hl 0 rfl) ?_
    obtain ⟨vr2, hq2, hf⟩ := rthn_some hf
    refine sRetC1 (g_runV (k := t0) (T := TX3) (N := 6) B h (ok_X3_stopIn B.2.2.2.2.2.2.2.2 B.2.2.2.2.2.2.1 _ _ ft0 (sSrc_T s1) hq2) cw_X3_49 ⟨Nat.le_of_ble_eq_true rfl, Nat.le_of_ble_eq_true rfl⟩ (V_lt ft0) (V_row ft0 _) rfl rfl hl.1.symm rfl (Nat.le_of_ble_eq_true rfl) dX3_countEntries_15 ⟨Nat.zero_le _, Nat.zero_le _⟩) h (fun H locs h => ?_)
    refine lv_aload_n hx hb dX3_countEntries_18 rfl (lv_at hl 1 rfl) ?_
    refine lv_aload_n hx hb dX3_countEntries_19 rfl (lv_at hl 0 rfl) ?_
    obtain ⟨vr3, hq3, hf⟩ := rthn_some hf
    refine sRetC1 (g_runV (k := t0) (T := TX3) (N := 6) B h (ok_X3_beginIn B.2.2.2.2.2.2.2.2 B.2.2.2.2.2.2.1 _ _ ft0 (sSrc_T s1) hq3) cw_X3_39 ⟨Nat.le_of_ble_eq_true rfl, Nat.le_of_ble_eq_true rfl⟩ (V_lt ft0) (V_row ft0 _) rfl rfl hl.1.symm rfl (Nat.le_of_ble_eq_true rfl) dX3_countEntries_20 ⟨Nat.zero_le _, Nat.zero_le _⟩) h (fun H locs h => ?_)
    refine lv_isub hx hb dX3_countEntries_23 ?_
    obtain rfl := Option.some.inj hf
    exact sE_i B hr h dX3_countEntries_24
set_option maxRecDepth 100000 in
theorem ok_X3_countEntries {l : Launch} (hl0 : l.stackTraces = false) {D : va_G} {cy : Nat → ClassId} {ad : Nat → Nat} (hap : sAp ad) (X : sX) (σ : sM) {t0 : Nat} (ft0 : isV t0) {r : Int32} (hf : f_X3_countEntries t0 σ = some r) : sMet l yX3_countEntries (sWs yX3_countEntries cX3_countEntries 2 (some .int)) 4 89 0 0 D cy ad X σ [.ref (ad t0)] (.inr (some (.int r))) X σ := by
  refine sMet_of (by decide +kernel) (Nat.le_of_ble_eq_true rfl) hap hl0 ?_
  intro p e s m args below meth c ls B hr htab hl h
  exact k_X3_countEntries_0 B hr _ _ ft0 hf _ _ _ h hl
set_option maxHeartbeats 4000000 in
set_option maxRecDepth 100000 in
theorem k_X3_addTo_38 {p : Program} {l : Launch} {e : Env} {s : State} {m : MethodId} {args : Array Value} {below : List Frame} {meth : Method} {c : Code} {D : va_G} {cy : Nat → ClassId} {ad : Nat → Nat} {X : sX} {r : Int64} (B : sB p l s m meth c args cX3_addTo 6 RX3 D cy ad) (hr : meth.sig.returnType = (some .long)) : ∀ (n : Nat) (v1 : Int64) (t3 : Nat) (v4 : Int32) (v5 : Int32) (σ : sM) (ft3 : isT t3), b_X3_addTo_38 n v1 t3 v4 v5 σ = some r → sGo p l e { frames := 5, cells := 0, slots := 0, locals := 110 } s m args below meth c D cy ad X 6 (sQ below args s 0 0 D cy ad (.inr (some (.long r))) X σ) σ 38 [(1, .long v1), (3, .ref (ad t3)), (4, .int v4), (5, .int v5)] [] := by
  intro n
  induction n with
  | zero =>
    intro v1 t3 v4 v5 σ ft3 hf
    exact nomatch (show none = some r from hf)
  | succ n ih =>
    intro v1 t3 v4 v5 σ ft3 hf
    replace hf : (if v4 ≤ v5 then (some v1) else (chk (inb v5 120) (rthn (f_X4_chain v1 (σ (t3 + 1) (v5).toNatClampNeg) σ) (fun vr9 => b_X3_addTo_38 n vr9 t3 v4 (v5 + 1) σ)))) = some r := hf
    intro H locs ls h hl
    have hx := B.1
    have hb := B.2.1
    refine lv_iload hx hb dX3_addTo_38 (lv_at hl 3 rfl) ?_
    refine lv_iload hx hb dX3_addTo_40 (lv_at hl 2 rfl) ?_
    refine lv_icmp_ge (tgt := 63) hx hb dX3_addTo_42 (by decide) (fun c7 => ?_) (fun c7 => ?_)
    · rw [if_pos c7] at hf
      refine lv_lload_n hx hb dX3_addTo_63 rfl (lv_at hl 0 rfl) ?_
      obtain rfl := Option.some.inj hf
      exact sE_l B hr h dX3_addTo_64
    · rw [if_neg c7] at hf
      refine lv_lload_n hx hb dX3_addTo_45 rfl (lv_at hl 0 rfl) ?_
      refine lv_aload_n hx hb dX3_addTo_46 rfl (lv_at hl 1 rfl) ?_
      refine g_get B h t3 (T_lt ft3) (C := RX2) (T := TX2) (N := 3) (T_row ft3 _) rfl hin_X2 0 (by decide) hw48 rfl rfl dX3_addTo_47 ?_
      refine lv_iload hx hb dX3_addTo_50 (lv_at hl 3 rfl) ?_
      obtain ⟨c8, hf⟩ := chk_some hf
      refine g_iald B h (t3 + 1) (T_lt1 ft3) (n := 120) (T_keys ft3) (inb_in c8) dX3_addTo_52 ?_
      obtain ⟨vr9, hq9, hf⟩ := rthn_some hf
      refine sRetC1 (g_runSN (host := RX4) (n := 2) B h (ok_X4_chain B.2.2.2.2.2.2.2.2 B.2.2.2.2.2.2.1 _ _ v1 (σ (t3 + 1) (v5).toNatClampNeg) hq9) hw163 (by decide +kernel) hw1 hw162 (by decide +kernel) ⟨Nat.le_of_ble_eq_true rfl, Nat.le_of_ble_eq_true rfl⟩ rfl hl.1.symm rfl (Nat.le_of_ble_eq_true rfl) dX3_addTo_53 ⟨Nat.zero_le _, Nat.zero_le _⟩) h (fun H locs h => ?_)
      refine lv_lstore_n (lv' := [(1, .long vr9), (3, .ref (ad t3)), (4, .int v4), (5, .int v5)]) hx hb dX3_addTo_56 rfl hl (by decide) rfl (fun ls hl => ?_)
      refine lv_iinc (v := (v5 + 1)) (lv' := [(5, .int (v5 + 1)), (1, .long vr9), (3, .ref (ad t3)), (4, .int v4)]) hx hb dX3_addTo_57 hl (k := 3) rfl rfl (by decide) rfl (fun ls hl => ?_)
      refine lv_goto (tgt := 38) hx hb dX3_addTo_60 (by decide) ?_
      exact ih _ _ _ _ _ ft3 hf _ _ _ h (lv_sub hl [1, 2, 3, 0] rfl)
set_option maxHeartbeats 4000000 in
set_option maxRecDepth 100000 in
theorem k_X3_addTo_0 {p : Program} {l : Launch} {e : Env} {s : State} {m : MethodId} {args : Array Value} {below : List Frame} {meth : Method} {c : Code} {D : va_G} {cy : Nat → ClassId} {ad : Nat → Nat} {X : sX} {r : Int64} (B : sB p l s m meth c args cX3_addTo 6 RX3 D cy ad) (hr : meth.sig.returnType = (some .long)) (t0 : Nat) (v1 : Int64) (σ : sM) (ft0 : isV t0) (hf : f_X3_addTo t0 v1 σ = some r) : sGo p l e { frames := 5, cells := 0, slots := 0, locals := 110 } s m args below meth c D cy ad X 6 (sQ below args s 0 0 D cy ad (.inr (some (.long r))) X σ) σ 0 [(0, .ref (ad t0)), (1, .long v1)] [] := by
  replace hf : (srcm (sSrc (σ t0 0)) (rthn (f_X4_chain v1 (-1 : Int32) σ) (fun vr2 => some vr2)) (fun ts1 => rthn (f_X3_stopIn t0 ts1 σ) (fun vr3 => rthn (f_X3_countEntries t0 σ) (fun vr4 => rthn (f_X4_chain v1 vr4 σ) (fun vr5 => rthn (f_X3_beginIn t0 ts1 σ) (fun vr6 => b_X3_addTo_38 FU vr5 ts1 vr3 vr6 σ)))))) = some r := hf
  intro H locs ls h hl
  have hx := B.1
  have hb := B.2.1
  refine lv_aload_n hx hb dX3_addTo_0 rfl (lv_at hl 0 rfl) ?_
  rcases srcm_cases hf with ⟨s1, hf⟩ | ⟨ts1, s1, hf⟩
  · refine g_src0 B h t0 ft0 hin_X3 hw105 s1 dX3_addTo_1 ?_
    refine lv_astore_nN (lv' := [(3, .null), (0, .ref (ad t0)), (1, .long v1)]) hx hb dX3_addTo_4 rfl hl (by decide) rfl (fun ls hl => ?_)
    refine lv_aload_nN hx hb dX3_addTo_5 rfl (lv_at hl 0 rfl) ?_
    refine lv_ifnonnullN hx hb dX3_addTo_6 ?_
    refine lv_lload_n hx hb dX3_addTo_9 rfl (lv_at hl 2 rfl) ?_
    refine lv_iconst (v := (-1 : Int32)) hx hb dX3_addTo_10 (by decide) ?_
    obtain ⟨vr2, hq2, hf⟩ := rthn_some hf
    refine sRetC1 (g_runSN (host := RX4) (n := 2) B h (ok_X4_chain B.2.2.2.2.2.2.2.2 B.2.2.2.2.2.2.1 _ _ v1 (-1 : Int32) hq2) hw163 (by decide +kernel) hw1 hw162 (by decide +kernel) ⟨Nat.le_of_ble_eq_true rfl, Nat.le_of_ble_eq_true rfl⟩ rfl hl.1.symm rfl (Nat.le_of_ble_eq_true rfl) dX3_addTo_11 ⟨Nat.zero_le _, Nat.zero_le _⟩) h (fun H locs h => ?_)
    obtain rfl := Option.some.inj hf
    exact sE_l B hr h dX3_addTo_14
  · refine g_src1 B h t0 ft0 hin_X3 hw105 s1 dX3_addTo_1 ?_
    refine lv_astore_n (lv' := [(3, .ref (ad ts1)), (0, .ref (ad t0)), (1, .long v1)]) hx hb dX3_addTo_4 rfl hl (by decide) rfl (fun ls hl => ?_)
    refine lv_aload_n hx hb dX3_addTo_5 rfl (lv_at hl 0 rfl) ?_
    refine lv_ifnonnull (tgt := 15) hx hb dX3_addTo_6 (by decide) ?_
    refine lv_aload_n hx hb dX3_addTo_15 rfl (lv_at hl 1 rfl) ?_
    refine lv_aload_n hx hb dX3_addTo_16 rfl (lv_at hl 0 rfl) ?_
    obtain ⟨vr3, hq3, hf⟩ := rthn_some hf
    refine sRetC1 (g_runV (k := t0) (T := TX3) (N := 6) B h (ok_X3_stopIn B.2.2.2.2.2.2.2.2 B.2.2.2.2.2.2.1 _ _ ft0 (sSrc_T s1) hq3) cw_X3_49 ⟨Nat.le_of_ble_eq_true rfl, Nat.le_of_ble_eq_true rfl⟩ (V_lt ft0) (V_row ft0 _) rfl rfl hl.1.symm rfl (Nat.le_of_ble_eq_true rfl) dX3_addTo_17 ⟨Nat.zero_le _, Nat.zero_le _⟩) h (fun H locs h => ?_)
    refine lv_istore (lv' := [(4, .int vr3), (3, .ref (ad ts1)), (0, .ref (ad t0)), (1, .long v1)]) hx hb dX3_addTo_20 hl (by decide) rfl (fun ls hl => ?_)
    refine lv_lload_n hx hb dX3_addTo_22 rfl (lv_at hl 3 rfl) ?_
    refine lv_aload_n hx hb dX3_addTo_23 rfl (lv_at hl 2 rfl) ?_
    obtain ⟨vr4, hq4, hf⟩ := rthn_some hf
    refine sRetC1 (g_runV (k := t0) (T := TX3) (N := 6) B h (ok_X3_countEntries B.2.2.2.2.2.2.2.2 B.2.2.2.2.2.2.1 _ _ ft0 hq4) cw_X3_69 ⟨Nat.le_of_ble_eq_true rfl, Nat.le_of_ble_eq_true rfl⟩ (V_lt ft0) (V_row ft0 _) rfl rfl hl.1.symm rfl (Nat.le_of_ble_eq_true rfl) dX3_addTo_24 ⟨Nat.zero_le _, Nat.zero_le _⟩) h (fun H locs h => ?_)
    obtain ⟨vr5, hq5, hf⟩ := rthn_some hf
    refine sRetC1 (g_runSN (host := RX4) (n := 2) B h (ok_X4_chain B.2.2.2.2.2.2.2.2 B.2.2.2.2.2.2.1 _ _ v1 vr4 hq5) hw163 (by decide +kernel) hw1 hw162 (by decide +kernel) ⟨Nat.le_of_ble_eq_true rfl, Nat.le_of_ble_eq_true rfl⟩ rfl hl.1.symm rfl (Nat.le_of_ble_eq_true rfl) dX3_addTo_27 ⟨Nat.zero_le _, Nat.zero_le _⟩) h (fun H locs h => ?_)
    refine lv_lstore_n (lv' := [(1, .long vr5), (4, .int vr3), (3, .ref (ad ts1)), (0, .ref (ad t0))]) hx hb dX3_addTo_30 rfl hl (by decide) rfl (fun ls hl => ?_)
    refine lv_aload_n hx hb dX3_addTo_31 rfl (lv_at hl 3 rfl) ?_
    refine lv_aload_n hx hb dX3_addTo_32 rfl (lv_at hl 2 rfl) ?_
    obtain ⟨vr6, hq6, hf⟩ := rthn_some hf
    refine sRetC1 (g_runV (k := t0) (T := TX3) (N := 6) B h (ok_X3_beginIn B.2.2.2.2.2.2.2.2 B.2.2.2.2.2.2.1 _ _ ft0 (sSrc_T s1) hq6) cw_X3_39 ⟨Nat.le_of_ble_eq_true rfl, Nat.le_of_ble_eq_true rfl⟩ (V_lt ft0) (V_row ft0 _) rfl rfl hl.1.symm rfl (Nat.le_of_ble_eq_true rfl) dX3_addTo_33 ⟨Nat.zero_le _, Nat.zero_le _⟩) h (fun H locs h => ?_)
    refine lv_istore (lv' := [(5, .int vr6), (1, .long vr5), (4, .int vr3), (3, .ref (ad ts1)), (0, .ref (ad t0))]) hx hb dX3_addTo_36 hl (by decide) rfl (fun ls hl => ?_)
    exact k_X3_addTo_38 B hr  _ _ _ _ _ _ (sSrc_T s1) hf _ _ _ h (lv_sub hl [1, 3, 2, 0] rfl)
set_option maxRecDepth 100000 in
theorem ok_X3_addTo {l : Launch} (hl0 : l.stackTraces = false) {D : va_G} {cy : Nat → ClassId} {ad : Nat → Nat} (hap : sAp ad) (X : sX) (σ : sM) {t0 : Nat} (ft0 : isV t0) (v1 : Int64) {r : Int64} (hf : f_X3_addTo t0 v1 σ = some r) : sMet l yX3_addTo (sWs yX3_addTo cX3_addTo 6 (some .long)) 5 110 0 0 D cy ad X σ [.ref (ad t0), .long v1] (.inr (some (.long r))) X σ := by
  refine sMet_of (by decide +kernel) (Nat.le_of_ble_eq_true rfl) hap hl0 ?_
  intro p e s m args below meth c ls B hr htab hl h
  exact k_X3_addTo_0 B hr _ _ _ ft0 hf _ _ _ h hl
set_option maxHeartbeats 4000000 in
set_option maxRecDepth 100000 in
theorem k_X3_becomeCut_48 {p : Program} {l : Launch} {e : Env} {s : State} {m : MethodId} {args : Array Value} {below : List Frame} {meth : Method} {c : Code} {D : va_G} {cy : Nat → ClassId} {ad : Nat → Nat} {X : sX} {r : Unit} {σ' : sM} (B : sB p l s m meth c args cX3_becomeCut 5 RX3 D cy ad) (hr : meth.sig.returnType = none) (t0 : Nat) (t1 : Nat) (v2 : Int32) (v3 : Int32) (v4 : Int32) (ts0 : Nat) (vs1 : Int32) (σ : sM) (ft0 : isV t0) (ft1 : isV t1) (fts0 : isV ts0) (hf : b_X3_becomeCut_48 t0 t1 v2 v3 v4 ts0 vs1 σ = some (r, σ')) : sGo p l e { frames := 0, cells := 0, slots := 0, locals := 0 } s m args below meth c D cy ad X 5 (sQ below args s 0 0 D cy ad (.inr none) X σ') σ 48 [(0, .ref (ad t0)), (1, .ref (ad t1)), (2, .int v2), (3, .int v3), (4, .int v4)] [.int vs1, .ref (ad ts0)] := by
  replace hf : (chk (isb vs1) (stl (va_up σ ts0 (upd (σ ts0) 3 vs1)) (fun σ17 => if v2 = 0 then (stl (va_up σ17 t0 (upd (σ17 t0) 4 (σ17 t1 4))) (fun σ19 => if v2 = 0 then (chk (isb (σ19 t1 5)) (stl (va_up σ19 t0 (upd (σ19 t0) 5 (σ19 t1 5))) (fun σ22 => some ((), σ22)))) else (chk (isb v4) (stl (va_up σ19 t0 (upd (σ19 t0) 5 v4)) (fun σ24 => some ((), σ24)))))) else (stl (va_up σ17 t0 (upd (σ17 t0) 4 v3)) (fun σ25 => if v2 = 0 then (chk (isb (σ25 t1 5)) (stl (va_up σ25 t0 (upd (σ25 t0) 5 (σ25 t1 5))) (fun σ28 => some ((), σ28)))) else (chk (isb v4) (stl (va_up σ25 t0 (upd (σ25 t0) 5 v4)) (fun σ30 => some ((), σ30))))))))) = some (r, σ') := hf
  intro H locs ls h hl
  have hx := B.1
  have hb := B.2.1
  obtain ⟨c16, hf⟩ := chk_some hf
  refine g_put B h ts0 (V_lt fts0) (C := RX3) (T := TX3) (N := 6) (V_row fts0 _) rfl hin_X3 tyX3 tyX3_ok nmX3 3 (by decide) hw110 rfl rfl (isb_n c16) (isb_f c16) (upd (σ ts0) 3 vs1) (V_put3 fts0 _ _) (Nat.le_of_ble_eq_true rfl) dX3_becomeCut_48 (fun H locs h => ?_)
  obtain ⟨σ17, e17, hf⟩ := stl_some hf
  rw [← e17] at h
  refine lv_aload_n hx hb dX3_becomeCut_51 rfl (lv_at hl 0 rfl) ?_
  refine lv_iload_n hx hb dX3_becomeCut_52 rfl (lv_at hl 2 rfl) ?_
  refine lv_if_eq (tgt := 60) hx hb dX3_becomeCut_53 (by decide) (fun c18 => ?_) (fun c18 => ?_)
  · rw [if_pos c18] at hf
    refine lv_aload_n hx hb dX3_becomeCut_60 rfl (lv_at hl 1 rfl) ?_
    refine g_get B h t1 (V_lt ft1) (C := RX3) (T := TX3) (N := 6) (V_row ft1 _) rfl hin_X3 4 (by decide) hw111 rfl rfl dX3_becomeCut_61 ?_
    refine g_put B h t0 (V_lt ft0) (C := RX3) (T := TX3) (N := 6) (V_row ft0 _) rfl hin_X3 tyX3 tyX3_ok nmX3 4 (by decide) hw111 rfl rfl rfl rfl (upd (σ17 t0) 4 (σ17 t1 4)) (V_put4 ft0 _ _) (Nat.le_of_ble_eq_true rfl) dX3_becomeCut_64 (fun H locs h => ?_)
    obtain ⟨σ19, e19, hf⟩ := stl_some hf
    rw [← e19] at h
    refine lv_aload_n hx hb dX3_becomeCut_67 rfl (lv_at hl 0 rfl) ?_
    refine lv_iload_n hx hb dX3_becomeCut_68 rfl (lv_at hl 2 rfl) ?_
    refine lv_if_eq (tgt := 77) hx hb dX3_becomeCut_69 (by decide) (fun c20 => ?_) (fun c20 => ?_)
    · rw [if_pos c20] at hf
      refine lv_aload_n hx hb dX3_becomeCut_77 rfl (lv_at hl 1 rfl) ?_
      refine g_get B h t1 (V_lt ft1) (C := RX3) (T := TX3) (N := 6) (V_row ft1 _) rfl hin_X3 5 (by decide) hw112 rfl rfl dX3_becomeCut_78 ?_
      obtain ⟨c21, hf⟩ := chk_some hf
      refine g_put B h t0 (V_lt ft0) (C := RX3) (T := TX3) (N := 6) (V_row ft0 _) rfl hin_X3 tyX3 tyX3_ok nmX3 5 (by decide) hw112 rfl rfl (isb_n c21) (isb_f c21) (upd (σ19 t0) 5 (σ19 t1 5)) (V_put5 ft0 _ _) (Nat.le_of_ble_eq_true rfl) dX3_becomeCut_81 (fun H locs h => ?_)
      obtain ⟨σ22, e22, hf⟩ := stl_some hf
      rw [← e22] at h
      obtain ⟨rfl, rfl⟩ := Prod.mk.inj (Option.some.inj hf)
      exact sE_v B hr h dX3_becomeCut_84
    · rw [if_neg c20] at hf
      refine lv_iload hx hb dX3_becomeCut_72 (lv_at hl 4 rfl) ?_
      refine lv_goto (tgt := 81) hx hb dX3_becomeCut_74 (by decide) ?_
      obtain ⟨c23, hf⟩ := chk_some hf
      refine g_put B h t0 (V_lt ft0) (C := RX3) (T := TX3) (N := 6) (V_row ft0 _) rfl hin_X3 tyX3 tyX3_ok nmX3 5 (by decide) hw112 rfl rfl (isb_n c23) (isb_f c23) (upd (σ19 t0) 5 v4) (V_put5 ft0 _ _) (Nat.le_of_ble_eq_true rfl) dX3_becomeCut_81 (fun H locs h => ?_)
      obtain ⟨σ24, e24, hf⟩ := stl_some hf
      rw [← e24] at h
      obtain ⟨rfl, rfl⟩ := Prod.mk.inj (Option.some.inj hf)
      exact sE_v B hr h dX3_becomeCut_84
  · rw [if_neg c18] at hf
    refine lv_iload_n hx hb dX3_becomeCut_56 rfl (lv_at hl 3 rfl) ?_
    refine lv_goto (tgt := 64) hx hb dX3_becomeCut_57 (by decide) ?_
    refine g_put B h t0 (V_lt ft0) (C := RX3) (T := TX3) (N := 6) (V_row ft0 _) rfl hin_X3 tyX3 tyX3_ok nmX3 4 (by decide) hw111 rfl rfl rfl rfl (upd (σ17 t0) 4 v3) (V_put4 ft0 _ _) (Nat.le_of_ble_eq_true rfl) dX3_becomeCut_64 (fun H locs h => ?_)
    obtain ⟨σ25, e25, hf⟩ := stl_some hf
    rw [← e25] at h
    refine lv_aload_n hx hb dX3_becomeCut_67 rfl (lv_at hl 0 rfl) ?_
    refine lv_iload_n hx hb dX3_becomeCut_68 rfl (lv_at hl 2 rfl) ?_
    refine lv_if_eq (tgt := 77) hx hb dX3_becomeCut_69 (by decide) (fun c26 => ?_) (fun c26 => ?_)
    · rw [if_pos c26] at hf
      refine lv_aload_n hx hb dX3_becomeCut_77 rfl (lv_at hl 1 rfl) ?_
      refine g_get B h t1 (V_lt ft1) (C := RX3) (T := TX3) (N := 6) (V_row ft1 _) rfl hin_X3 5 (by decide) hw112 rfl rfl dX3_becomeCut_78 ?_
      obtain ⟨c27, hf⟩ := chk_some hf
      refine g_put B h t0 (V_lt ft0) (C := RX3) (T := TX3) (N := 6) (V_row ft0 _) rfl hin_X3 tyX3 tyX3_ok nmX3 5 (by decide) hw112 rfl rfl (isb_n c27) (isb_f c27) (upd (σ25 t0) 5 (σ25 t1 5)) (V_put5 ft0 _ _) (Nat.le_of_ble_eq_true rfl) dX3_becomeCut_81 (fun H locs h => ?_)
      obtain ⟨σ28, e28, hf⟩ := stl_some hf
      rw [← e28] at h
      obtain ⟨rfl, rfl⟩ := Prod.mk.inj (Option.some.inj hf)
      exact sE_v B hr h dX3_becomeCut_84
    · rw [if_neg c26] at hf
      refine lv_iload hx hb dX3_becomeCut_72 (lv_at hl 4 rfl) ?_
      refine lv_goto (tgt := 81) hx hb dX3_becomeCut_74 (by decide) ?_
      obtain ⟨c29, hf⟩ := chk_some hf
      refine g_put B h t0 (V_lt ft0) (C := RX3) (T := TX3) (N := 6) (V_row ft0 _) rfl hin_X3 tyX3 tyX3_ok nmX3 5 (by decide) hw112 rfl rfl (isb_n c29) (isb_f c29) (upd (σ25 t0) 5 v4) (V_put5 ft0 _ _) (Nat.le_of_ble_eq_true rfl) dX3_becomeCut_81 (fun H locs h => ?_)
      obtain ⟨σ30, e30, hf⟩ := stl_some hf
      rw [← e30] at h
      obtain ⟨rfl, rfl⟩ := Prod.mk.inj (Option.some.inj hf)
      exact sE_v B hr h dX3_becomeCut_84
set_option maxHeartbeats 4000000 in
set_option maxRecDepth 100000 in
theorem k_X3_becomeCut_0 {p : Program} {l : Launch} {e : Env} {s : State} {m : MethodId} {args : Array Value} {below : List Frame} {meth : Method} {c : Code} {D : va_G} {cy : Nat → ClassId} {ad : Nat → Nat} {X : sX} {r : Unit} {σ' : sM} (B : sB p l s m meth c args cX3_becomeCut 5 RX3 D cy ad) (hr : meth.sig.returnType = none) (t0 : Nat) (t1 : Nat) (v2 : Int32) (v3 : Int32) (v4 : Int32) (σ : sM) (ft0 : isV t0) (ft1 : isV t1) (hf : f_X3_becomeCut t0 t1 v2 v3 v4 σ = some (r, σ')) : sGo p l e { frames := 0, cells := 0, slots := 0, locals := 0 } s m args below meth c D cy ad X 5 (sQ below args s 0 0 D cy ad (.inr none) X σ') σ 0 [(0, .ref (ad t0)), (1, .ref (ad t1)), (2, .int v2), (3, .int v3), (4, .int v4)] [] := by
  replace hf : (srcm (sSrc (σ t1 0)) (stl (va_up σ t0 (upd (σ t0) 0 0)) (fun σ2 => stl (va_up σ2 t0 (upd (σ2 t0) 1 ((σ2 t1 1) + (1 : Int32)))) (fun σ3 => if v2 = 0 then (stl (va_up σ3 t0 (upd (σ3 t0) 2 v3)) (fun σ5 => if v2 = 0 then (b_X3_becomeCut_48 t0 t1 v2 v3 v4 t0 v4 σ5) else (b_X3_becomeCut_48 t0 t1 v2 v3 v4 t0 (σ5 t1 3) σ5))) else (stl (va_up σ3 t0 (upd (σ3 t0) 2 (σ3 t1 2))) (fun σ7 => if v2 = 0 then (b_X3_becomeCut_48 t0 t1 v2 v3 v4 t0 v4 σ7) else (b_X3_becomeCut_48 t0 t1 v2 v3 v4 t0 (σ7 t1 3) σ7)))))) (fun ts1 => stl (va_up σ t0 (upd (σ t0) 0 (nI ts1))) (fun σ9 => stl (va_up σ9 t0 (upd (σ9 t0) 1 ((σ9 t1 1) + (1 : Int32)))) (fun σ10 => if v2 = 0 then (stl (va_up σ10 t0 (upd (σ10 t0) 2 v3)) (fun σ12 => if v2 = 0 then (b_X3_becomeCut_48 t0 t1 v2 v3 v4 t0 v4 σ12) else (b_X3_becomeCut_48 t0 t1 v2 v3 v4 t0 (σ12 t1 3) σ12))) else (stl (va_up σ10 t0 (upd (σ10 t0) 2 (σ10 t1 2))) (fun σ14 => if v2 = 0 then (b_X3_becomeCut_48 t0 t1 v2 v3 v4 t0 v4 σ14) else (b_X3_becomeCut_48 t0 t1 v2 v3 v4 t0 (σ14 t1 3) σ14))))))) = some (r, σ') := hf
  intro H locs ls h hl
  have hx := B.1
  have hb := B.2.1
  refine lv_aload_n hx hb dX3_becomeCut_0 rfl (lv_at hl 0 rfl) ?_
  refine lv_aload_n hx hb dX3_becomeCut_1 rfl (lv_at hl 1 rfl) ?_
  rcases srcm_cases hf with ⟨s1, hf⟩ | ⟨ts1, s1, hf⟩
  · refine g_src0 B h t1 ft1 hin_X3 hw105 s1 dX3_becomeCut_2 ?_
    refine g_put B h t0 (V_lt ft0) (C := RX3) (T := TX3) (N := 6) (V_row ft0 _) rfl hin_X3 tyX3 tyX3_ok nmX3 0 (by decide) hw105 rfl rfl rfl rfl (upd (σ t0) 0 0) (V_put0n ft0 _) (Nat.le_of_ble_eq_true rfl) dX3_becomeCut_5 (fun H locs h => ?_)
    obtain ⟨σ2, e2, hf⟩ := stl_some hf
    rw [← e2] at h
    refine lv_aload_n hx hb dX3_becomeCut_8 rfl (lv_at hl 0 rfl) ?_
    refine lv_aload_n hx hb dX3_becomeCut_9 rfl (lv_at hl 1 rfl) ?_
    refine g_get B h t1 (V_lt ft1) (C := RX3) (T := TX3) (N := 6) (V_row ft1 _) rfl hin_X3 1 (by decide) hw107 rfl rfl dX3_becomeCut_10 ?_
    refine lv_iconst (v := (1 : Int32)) hx hb dX3_becomeCut_13 (by decide) ?_
    refine lv_iadd hx hb dX3_becomeCut_14 ?_
    refine g_put B h t0 (V_lt ft0) (C := RX3) (T := TX3) (N := 6) (V_row ft0 _) rfl hin_X3 tyX3 tyX3_ok nmX3 1 (by decide) hw107 rfl rfl rfl rfl (upd (σ2 t0) 1 ((σ2 t1 1) + (1 : Int32))) (V_put1 ft0 _ _) (Nat.le_of_ble_eq_true rfl) dX3_becomeCut_15 (fun H locs h => ?_)
    obtain ⟨σ3, e3, hf⟩ := stl_some hf
    rw [← e3] at h
    refine lv_aload_n hx hb dX3_becomeCut_18 rfl (lv_at hl 0 rfl) ?_
    refine lv_iload_n hx hb dX3_becomeCut_19 rfl (lv_at hl 2 rfl) ?_
    refine lv_if_eq (tgt := 30) hx hb dX3_becomeCut_20 (by decide) (fun c4 => ?_) (fun c4 => ?_)
    · rw [if_pos c4] at hf
      refine lv_iload_n hx hb dX3_becomeCut_30 rfl (lv_at hl 3 rfl) ?_
      refine g_put B h t0 (V_lt ft0) (C := RX3) (T := TX3) (N := 6) (V_row ft0 _) rfl hin_X3 tyX3 tyX3_ok nmX3 2 (by decide) hw109 rfl rfl rfl rfl (upd (σ3 t0) 2 v3) (V_put2 ft0 _ _) (Nat.le_of_ble_eq_true rfl) dX3_becomeCut_31 (fun H locs h => ?_)
      obtain ⟨σ5, e5, hf⟩ := stl_some hf
      rw [← e5] at h
      refine lv_aload_n hx hb dX3_becomeCut_34 rfl (lv_at hl 0 rfl) ?_
      refine lv_iload_n hx hb dX3_becomeCut_35 rfl (lv_at hl 2 rfl) ?_
      refine lv_if_eq (tgt := 46) hx hb dX3_becomeCut_36 (by decide) (fun c6 => ?_) (fun c6 => ?_)
      · rw [if_pos c6] at hf
        refine lv_iload hx hb dX3_becomeCut_46 (lv_at hl 4 rfl) ?_
        exact k_X3_becomeCut_48 B hr  _ _ _ _ _ _ _ _ ft0 ft1 ft0 hf _ _ _ h (lv_sub hl [0, 1, 2, 3, 4] rfl)
      · rw [if_neg c6] at hf
        refine lv_aload_n hx hb dX3_becomeCut_39 rfl (lv_at hl 1 rfl) ?_
        refine g_get B h t1 (V_lt ft1) (C := RX3) (T := TX3) (N := 6) (V_row ft1 _) rfl hin_X3 3 (by decide) hw110 rfl rfl dX3_becomeCut_40 ?_
        refine lv_goto (tgt := 48) hx hb dX3_becomeCut_43 (by decide) ?_
        exact k_X3_becomeCut_48 B hr  _ _ _ _ _ _ _ _ ft0 ft1 ft0 hf _ _ _ h (lv_sub hl [0, 1, 2, 3, 4] rfl)
    · rw [if_neg c4] at hf
      refine lv_aload_n hx hb dX3_becomeCut_23 rfl (lv_at hl 1 rfl) ?_
      refine g_get B h t1 (V_lt ft1) (C := RX3) (T := TX3) (N := 6) (V_row ft1 _) rfl hin_X3 2 (by decide) hw109 rfl rfl dX3_becomeCut_24 ?_
      refine lv_goto (tgt := 31) hx hb dX3_becomeCut_27 (by decide) ?_
      refine g_put B h t0 (V_lt ft0) (C := RX3) (T := TX3) (N := 6) (V_row ft0 _) rfl hin_X3 tyX3 tyX3_ok nmX3 2 (by decide) hw109 rfl rfl rfl rfl (upd (σ3 t0) 2 (σ3 t1 2)) (V_put2 ft0 _ _) (Nat.le_of_ble_eq_true rfl) dX3_becomeCut_31 (fun H locs h => ?_)
      obtain ⟨σ7, e7, hf⟩ := stl_some hf
      rw [← e7] at h
      refine lv_aload_n hx hb dX3_becomeCut_34 rfl (lv_at hl 0 rfl) ?_
      refine lv_iload_n hx hb dX3_becomeCut_35 rfl (lv_at hl 2 rfl) ?_
      refine lv_if_eq (tgt := 46) hx hb dX3_becomeCut_36 (by decide) (fun c8 => ?_) (fun c8 => ?_)
      · rw [if_pos c8] at hf
        refine lv_iload hx hb dX3_becomeCut_46 (lv_at hl 4 rfl) ?_
        exact k_X3_becomeCut_48 B hr  _ _ _ _ _ _ _ _ ft0 ft1 ft0 hf _ _ _ h (lv_sub hl [0, 1, 2, 3, 4] rfl)
      · rw [if_neg c8] at hf
        refine lv_aload_n hx hb dX3_becomeCut_39 rfl (lv_at hl 1 rfl) ?_
        refine g_get B h t1 (V_lt ft1) (C := RX3) (T := TX3) (N := 6) (V_row ft1 _) rfl hin_X3 3 (by decide) hw110 rfl rfl dX3_becomeCut_40 ?_
        refine lv_goto (tgt := 48) hx hb dX3_becomeCut_43 (by decide) ?_
        exact k_X3_becomeCut_48 B hr  _ _ _ _ _ _ _ _ ft0 ft1 ft0 hf _ _ _ h (lv_sub hl [0, 1, 2, 3, 4] rfl)
  · refine g_src1 B h t1 ft1 hin_X3 hw105 s1 dX3_becomeCut_2 ?_
    refine g_put B h t0 (V_lt ft0) (C := RX3) (T := TX3) (N := 6) (V_row ft0 _) rfl hin_X3 tyX3 tyX3_ok nmX3 0 (by decide) hw105 rfl rfl rfl rfl (upd (σ t0) 0 (nI ts1)) (V_put0 ft0 (sSrc_T s1) _) (Nat.le_of_ble_eq_true rfl) dX3_becomeCut_5 (fun H locs h => ?_)
    obtain ⟨σ9, e9, hf⟩ := stl_some hf
    rw [← e9] at h
    refine lv_aload_n hx hb dX3_becomeCut_8 rfl (lv_at hl 0 rfl) ?_
    refine lv_aload_n hx hb dX3_becomeCut_9 rfl (lv_at hl 1 rfl) ?_
    refine g_get B h t1 (V_lt ft1) (C := RX3) (T := TX3) (N := 6) (V_row ft1 _) rfl hin_X3 1 (by decide) hw107 rfl rfl dX3_becomeCut_10 ?_
    refine lv_iconst (v := (1 : Int32)) hx hb dX3_becomeCut_13 (by decide) ?_
    refine lv_iadd hx hb dX3_becomeCut_14 ?_
    refine g_put B h t0 (V_lt ft0) (C := RX3) (T := TX3) (N := 6) (V_row ft0 _) rfl hin_X3 tyX3 tyX3_ok nmX3 1 (by decide) hw107 rfl rfl rfl rfl (upd (σ9 t0) 1 ((σ9 t1 1) + (1 : Int32))) (V_put1 ft0 _ _) (Nat.le_of_ble_eq_true rfl) dX3_becomeCut_15 (fun H locs h => ?_)
    obtain ⟨σ10, e10, hf⟩ := stl_some hf
    rw [← e10] at h
    refine lv_aload_n hx hb dX3_becomeCut_18 rfl (lv_at hl 0 rfl) ?_
    refine lv_iload_n hx hb dX3_becomeCut_19 rfl (lv_at hl 2 rfl) ?_
    refine lv_if_eq (tgt := 30) hx hb dX3_becomeCut_20 (by decide) (fun c11 => ?_) (fun c11 => ?_)
    · rw [if_pos c11] at hf
      refine lv_iload_n hx hb dX3_becomeCut_30 rfl (lv_at hl 3 rfl) ?_
      refine g_put B h t0 (V_lt ft0) (C := RX3) (T := TX3) (N := 6) (V_row ft0 _) rfl hin_X3 tyX3 tyX3_ok nmX3 2 (by decide) hw109 rfl rfl rfl rfl (upd (σ10 t0) 2 v3) (V_put2 ft0 _ _) (Nat.le_of_ble_eq_true rfl) dX3_becomeCut_31 (fun H locs h => ?_)
      obtain ⟨σ12, e12, hf⟩ := stl_some hf
      rw [← e12] at h
      refine lv_aload_n hx hb dX3_becomeCut_34 rfl (lv_at hl 0 rfl) ?_
      refine lv_iload_n hx hb dX3_becomeCut_35 rfl (lv_at hl 2 rfl) ?_
      refine lv_if_eq (tgt := 46) hx hb dX3_becomeCut_36 (by decide) (fun c13 => ?_) (fun c13 => ?_)
      · rw [if_pos c13] at hf
        refine lv_iload hx hb dX3_becomeCut_46 (lv_at hl 4 rfl) ?_
        exact k_X3_becomeCut_48 B hr  _ _ _ _ _ _ _ _ ft0 ft1 ft0 hf _ _ _ h (lv_sub hl [0, 1, 2, 3, 4] rfl)
      · rw [if_neg c13] at hf
        refine lv_aload_n hx hb dX3_becomeCut_39 rfl (lv_at hl 1 rfl) ?_
        refine g_get B h t1 (V_lt ft1) (C := RX3) (T := TX3) (N := 6) (V_row ft1 _) rfl hin_X3 3 (by decide) hw110 rfl rfl dX3_becomeCut_40 ?_
        refine lv_goto (tgt := 48) hx hb dX3_becomeCut_43 (by decide) ?_
        exact k_X3_becomeCut_48 B hr  _ _ _ _ _ _ _ _ ft0 ft1 ft0 hf _ _ _ h (lv_sub hl [0, 1, 2, 3, 4] rfl)
    · rw [if_neg c11] at hf
      refine lv_aload_n hx hb dX3_becomeCut_23 rfl (lv_at hl 1 rfl) ?_
      refine g_get B h t1 (V_lt ft1) (C := RX3) (T := TX3) (N := 6) (V_row ft1 _) rfl hin_X3 2 (by decide) hw109 rfl rfl dX3_becomeCut_24 ?_
      refine lv_goto (tgt := 31) hx hb dX3_becomeCut_27 (by decide) ?_
      refine g_put B h t0 (V_lt ft0) (C := RX3) (T := TX3) (N := 6) (V_row ft0 _) rfl hin_X3 tyX3 tyX3_ok nmX3 2 (by decide) hw109 rfl rfl rfl rfl (upd (σ10 t0) 2 (σ10 t1 2)) (V_put2 ft0 _ _) (Nat.le_of_ble_eq_true rfl) dX3_becomeCut_31 (fun H locs h => ?_)
      obtain ⟨σ14, e14, hf⟩ := stl_some hf
      rw [← e14] at h
      refine lv_aload_n hx hb dX3_becomeCut_34 rfl (lv_at hl 0 rfl) ?_
      refine lv_iload_n hx hb dX3_becomeCut_35 rfl (lv_at hl 2 rfl) ?_
      refine lv_if_eq (tgt := 46) hx hb dX3_becomeCut_36 (by decide) (fun c15 => ?_) (fun c15 => ?_)
      · rw [if_pos c15] at hf
        refine lv_iload hx hb dX3_becomeCut_46 (lv_at hl 4 rfl) ?_
        exact k_X3_becomeCut_48 B hr  _ _ _ _ _ _ _ _ ft0 ft1 ft0 hf _ _ _ h (lv_sub hl [0, 1, 2, 3, 4] rfl)
      · rw [if_neg c15] at hf
        refine lv_aload_n hx hb dX3_becomeCut_39 rfl (lv_at hl 1 rfl) ?_
        refine g_get B h t1 (V_lt ft1) (C := RX3) (T := TX3) (N := 6) (V_row ft1 _) rfl hin_X3 3 (by decide) hw110 rfl rfl dX3_becomeCut_40 ?_
        refine lv_goto (tgt := 48) hx hb dX3_becomeCut_43 (by decide) ?_
        exact k_X3_becomeCut_48 B hr  _ _ _ _ _ _ _ _ ft0 ft1 ft0 hf _ _ _ h (lv_sub hl [0, 1, 2, 3, 4] rfl)
set_option maxRecDepth 100000 in
theorem ok_X3_becomeCut {l : Launch} (hl0 : l.stackTraces = false) {D : va_G} {cy : Nat → ClassId} {ad : Nat → Nat} (hap : sAp ad) (X : sX) (σ : sM) {t0 : Nat} (ft0 : isV t0) {t1 : Nat} (ft1 : isV t1) (v2 : Int32) (v3 : Int32) (v4 : Int32) {r : Unit} {σ' : sM} (hf : f_X3_becomeCut t0 t1 v2 v3 v4 σ = some (r, σ')) : sMet l yX3_becomeCut (sWs yX3_becomeCut cX3_becomeCut 5 none) 0 0 0 0 D cy ad X σ [.ref (ad t0), .ref (ad t1), .int v2, .int v3, .int v4] (.inr none) X σ' := by
  refine sMet_of (by decide +kernel) (Nat.le_of_ble_eq_true rfl) hap hl0 ?_
  intro p e s m args below meth c ls B hr htab hl h
  exact k_X3_becomeCut_0 B hr _ _ _ _ _ _ ft0 ft1 hf _ _ _ h hl
set_option maxHeartbeats 4000000 in
set_option maxRecDepth 100000 in
theorem k_X3_becomeSpan_0 {p : Program} {l : Launch} {e : Env} {s : State} {m : MethodId} {args : Array Value} {below : List Frame} {meth : Method} {c : Code} {D : va_G} {cy : Nat → ClassId} {ad : Nat → Nat} {X : sX} {r : Unit} {σ' : sM} (B : sB p l s m meth c args cX3_becomeSpan 6 RX3 D cy ad) (hr : meth.sig.returnType = none) (t0 : Nat) (t1 : Nat) (v2 : Int32) (v3 : Int32) (v4 : Int32) (v5 : Int32) (σ : sM) (ft0 : isV t0) (ft1 : isT t1) (hf : f_X3_becomeSpan t0 t1 v2 v3 v4 v5 σ = some (r, σ')) : sGo p l e { frames := 0, cells := 0, slots := 0, locals := 0 } s m args below meth c D cy ad X 6 (sQ below args s 0 0 D cy ad (.inr none) X σ') σ 0 [(0, .ref (ad t0)), (1, .ref (ad t1)), (2, .int v2), (3, .int v3), (4, .int v4), (5, .int v5)] [] := by
  replace hf : (stl (va_up σ t0 (upd (σ t0) 0 (nI t1))) (fun σ1 => stl (va_up σ1 t0 (upd (σ1 t0) 1 (0 : Int32))) (fun σ2 => stl (va_up σ2 t0 (upd (σ2 t0) 2 v2)) (fun σ3 => chk (isb v3) (stl (va_up σ3 t0 (upd (σ3 t0) 3 v3)) (fun σ5 => stl (va_up σ5 t0 (upd (σ5 t0) 4 v4)) (fun σ6 => chk (isb v5) (stl (va_up σ6 t0 (upd (σ6 t0) 5 v5)) (fun σ8 => some ((), σ8)))))))))) = some (r, σ') := hf
  intro H locs ls h hl
  have hx := B.1
  have hb := B.2.1
  refine lv_aload_n hx hb dX3_becomeSpan_0 rfl (lv_at hl 0 rfl) ?_
  refine lv_aload_n hx hb dX3_becomeSpan_1 rfl (lv_at hl 1 rfl) ?_
  refine g_put B h t0 (V_lt ft0) (C := RX3) (T := TX3) (N := 6) (V_row ft0 _) rfl hin_X3 tyX3 tyX3_ok nmX3 0 (by decide) hw105 rfl rfl rfl rfl (upd (σ t0) 0 (nI t1)) (V_put0 ft0 ft1 _) (Nat.le_of_ble_eq_true rfl) dX3_becomeSpan_2 (fun H locs h => ?_)
  obtain ⟨σ1, e1, hf⟩ := stl_some hf
  rw [← e1] at h
  refine lv_aload_n hx hb dX3_becomeSpan_5 rfl (lv_at hl 0 rfl) ?_
  refine lv_iconst (v := (0 : Int32)) hx hb dX3_becomeSpan_6 (by decide) ?_
  refine g_put B h t0 (V_lt ft0) (C := RX3) (T := TX3) (N := 6) (V_row ft0 _) rfl hin_X3 tyX3 tyX3_ok nmX3 1 (by decide) hw107 rfl rfl rfl rfl (upd (σ1 t0) 1 (0 : Int32)) (V_put1 ft0 _ _) (Nat.le_of_ble_eq_true rfl) dX3_becomeSpan_7 (fun H locs h => ?_)
  obtain ⟨σ2, e2, hf⟩ := stl_some hf
  rw [← e2] at h
  refine lv_aload_n hx hb dX3_becomeSpan_10 rfl (lv_at hl 0 rfl) ?_
  refine lv_iload_n hx hb dX3_becomeSpan_11 rfl (lv_at hl 2 rfl) ?_
  refine g_put B h t0 (V_lt ft0) (C := RX3) (T := TX3) (N := 6) (V_row ft0 _) rfl hin_X3 tyX3 tyX3_ok nmX3 2 (by decide) hw109 rfl rfl rfl rfl (upd (σ2 t0) 2 v2) (V_put2 ft0 _ _) (Nat.le_of_ble_eq_true rfl) dX3_becomeSpan_12 (fun H locs h => ?_)
  obtain ⟨σ3, e3, hf⟩ := stl_some hf
  rw [← e3] at h
  refine lv_aload_n hx hb dX3_becomeSpan_15 rfl (lv_at hl 0 rfl) ?_
  refine lv_iload_n hx hb dX3_becomeSpan_16 rfl (lv_at hl 3 rfl) ?_
  obtain ⟨c4, hf⟩ := chk_some hf
  refine g_put B h t0 (V_lt ft0) (C := RX3) (T := TX3) (N := 6) (V_row ft0 _) rfl hin_X3 tyX3 tyX3_ok nmX3 3 (by decide) hw110 rfl rfl (isb_n c4) (isb_f c4) (upd (σ3 t0) 3 v3) (V_put3 ft0 _ _) (Nat.le_of_ble_eq_true rfl) dX3_becomeSpan_17 (fun H locs h => ?_)
  obtain ⟨σ5, e5, hf⟩ := stl_some hf
  rw [← e5] at h
  refine lv_aload_n hx hb dX3_becomeSpan_20 rfl (lv_at hl 0 rfl) ?_
  refine lv_iload hx hb dX3_becomeSpan_21 (lv_at hl 4 rfl) ?_
  refine g_put B h t0 (V_lt ft0) (C := RX3) (T := TX3) (N := 6) (V_row ft0 _) rfl hin_X3 tyX3 tyX3_ok nmX3 4 (by decide) hw111 rfl rfl rfl rfl (upd (σ5 t0) 4 v4) (V_put4 ft0 _ _) (Nat.le_of_ble_eq_true rfl) dX3_becomeSpan_23 (fun H locs h => ?_)
  obtain ⟨σ6, e6, hf⟩ := stl_some hf
  rw [← e6] at h
  refine lv_aload_n hx hb dX3_becomeSpan_26 rfl (lv_at hl 0 rfl) ?_
  refine lv_iload hx hb dX3_becomeSpan_27 (lv_at hl 5 rfl) ?_
  obtain ⟨c7, hf⟩ := chk_some hf
  refine g_put B h t0 (V_lt ft0) (C := RX3) (T := TX3) (N := 6) (V_row ft0 _) rfl hin_X3 tyX3 tyX3_ok nmX3 5 (by decide) hw112 rfl rfl (isb_n c7) (isb_f c7) (upd (σ6 t0) 5 v5) (V_put5 ft0 _ _) (Nat.le_of_ble_eq_true rfl) dX3_becomeSpan_29 (fun H locs h => ?_)
  obtain ⟨σ8, e8, hf⟩ := stl_some hf
  rw [← e8] at h
  obtain ⟨rfl, rfl⟩ := Prod.mk.inj (Option.some.inj hf)
  exact sE_v B hr h dX3_becomeSpan_32
set_option maxRecDepth 100000 in
theorem ok_X3_becomeSpan {l : Launch} (hl0 : l.stackTraces = false) {D : va_G} {cy : Nat → ClassId} {ad : Nat → Nat} (hap : sAp ad) (X : sX) (σ : sM) {t0 : Nat} (ft0 : isV t0) {t1 : Nat} (ft1 : isT t1) (v2 : Int32) (v3 : Int32) (v4 : Int32) (v5 : Int32) {r : Unit} {σ' : sM} (hf : f_X3_becomeSpan t0 t1 v2 v3 v4 v5 σ = some (r, σ')) : sMet l yX3_becomeSpan (sWs yX3_becomeSpan cX3_becomeSpan 6 none) 0 0 0 0 D cy ad X σ [.ref (ad t0), .ref (ad t1), .int v2, .int v3, .int v4, .int v5] (.inr none) X σ' := by
  refine sMet_of (by decide +kernel) (Nat.le_of_ble_eq_true rfl) hap hl0 ?_
  intro p e s m args below meth c ls B hr htab hl h
  exact k_X3_becomeSpan_0 B hr _ _ _ _ _ _ _ ft0 ft1 hf _ _ _ h hl
set_option maxHeartbeats 4000000 in
set_option maxRecDepth 100000 in
theorem k_X3_covers_36 {p : Program} {l : Launch} {e : Env} {s : State} {m : MethodId} {args : Array Value} {below : List Frame} {meth : Method} {c : Code} {D : va_G} {cy : Nat → ClassId} {ad : Nat → Nat} {X : sX} {r : Int32} (B : sB p l s m meth c args cX3_covers 4 RX3 D cy ad) (hr : meth.sig.returnType = (some .boolean)) (t0 : Nat) (v1 : Int32) (vs0 : Int32) (σ : sM) (ft0 : isV t0) (hf : b_X3_covers_36 t0 v1 vs0 σ = some r) : sGo p l e { frames := 0, cells := 0, slots := 0, locals := 0 } s m args below meth c D cy ad X 4 (sQ below args s 0 0 D cy ad (.inr (some (.int r))) X σ) σ 36 [(0, .ref (ad t0)), (1, .int v1)] [.int vs0] := by
  replace hf : (if (σ t0 5) = 0 then (if v1 < (σ t0 4) then (if vs0 = 0 then (some (1 : Int32)) else (some (0 : Int32))) else (if vs0 = 0 then (some (0 : Int32)) else (some (0 : Int32)))) else (if v1 ≤ (σ t0 4) then (if vs0 = 0 then (some (1 : Int32)) else (some (0 : Int32))) else (if vs0 = 0 then (some (0 : Int32)) else (some (0 : Int32))))) = some r := hf
  intro H locs ls h hl
  have hx := B.1
  have hb := B.2.1
  refine lv_istore_n (lv' := [(2, .int vs0), (0, .ref (ad t0)), (1, .int v1)]) hx hb dX3_covers_36 rfl hl (by decide) rfl (fun ls hl => ?_)
  refine lv_aload_n hx hb dX3_covers_37 rfl (lv_at hl 1 rfl) ?_
  refine g_get B h t0 (V_lt ft0) (C := RX3) (T := TX3) (N := 6) (V_row ft0 _) rfl hin_X3 5 (by decide) hw112 rfl rfl dX3_covers_38 ?_
  refine lv_if_eq (tgt := 60) hx hb dX3_covers_41 (by decide) (fun c4 => ?_) (fun c4 => ?_)
  · rw [if_pos c4] at hf
    refine lv_iload_n hx hb dX3_covers_60 rfl (lv_at hl 2 rfl) ?_
    refine lv_aload_n hx hb dX3_covers_61 rfl (lv_at hl 1 rfl) ?_
    refine g_get B h t0 (V_lt ft0) (C := RX3) (T := TX3) (N := 6) (V_row ft0 _) rfl hin_X3 4 (by decide) hw111 rfl rfl dX3_covers_62 ?_
    refine lv_icmp_lt (tgt := 72) hx hb dX3_covers_65 (by decide) (fun c5 => ?_) (fun c5 => ?_)
    · rw [if_pos c5] at hf
      refine lv_iconst (v := (0 : Int32)) hx hb dX3_covers_72 (by decide) ?_
      refine lv_istore_n (lv' := [(3, .int (0 : Int32)), (2, .int vs0), (0, .ref (ad t0)), (1, .int v1)]) hx hb dX3_covers_73 rfl hl (by decide) rfl (fun ls hl => ?_)
      refine lv_iload_n hx hb dX3_covers_74 rfl (lv_at hl 1 rfl) ?_
      refine lv_if_ne (tgt := 86) hx hb dX3_covers_75 (by decide) (fun c6 => ?_) (fun c6 => ?_)
      · rw [if_neg c6] at hf
        refine lv_iconst (v := (0 : Int32)) hx hb dX3_covers_86 (by decide) ?_
        obtain rfl := Option.some.inj hf
        exact sE_z B hr h rfl dX3_covers_87
      · rw [if_pos c6] at hf
        refine lv_iload_n hx hb dX3_covers_78 rfl (lv_at hl 0 rfl) ?_
        refine lv_if_ne (tgt := 86) hx hb dX3_covers_79 (by decide) (fun c7 => absurd (by decide) c7) (fun _ => ?_)
        refine lv_iconst (v := (1 : Int32)) hx hb dX3_covers_82 (by decide) ?_
        refine lv_goto (tgt := 87) hx hb dX3_covers_83 (by decide) ?_
        obtain rfl := Option.some.inj hf
        exact sE_z B hr h rfl dX3_covers_87
    · rw [if_neg c5] at hf
      refine lv_iconst (v := (1 : Int32)) hx hb dX3_covers_68 (by decide) ?_
      refine lv_goto (tgt := 73) hx hb dX3_covers_69 (by decide) ?_
      refine lv_istore_n (lv' := [(3, .int (1 : Int32)), (2, .int vs0), (0, .ref (ad t0)), (1, .int v1)]) hx hb dX3_covers_73 rfl hl (by decide) rfl (fun ls hl => ?_)
      refine lv_iload_n hx hb dX3_covers_74 rfl (lv_at hl 1 rfl) ?_
      refine lv_if_ne (tgt := 86) hx hb dX3_covers_75 (by decide) (fun c8 => ?_) (fun c8 => ?_)
      · rw [if_neg c8] at hf
        refine lv_iconst (v := (0 : Int32)) hx hb dX3_covers_86 (by decide) ?_
        obtain rfl := Option.some.inj hf
        exact sE_z B hr h rfl dX3_covers_87
      · rw [if_pos c8] at hf
        refine lv_iload_n hx hb dX3_covers_78 rfl (lv_at hl 0 rfl) ?_
        refine lv_if_ne (tgt := 86) hx hb dX3_covers_79 (by decide) (fun _ => ?_) (fun c9 => absurd c9 (by decide))
        refine lv_iconst (v := (0 : Int32)) hx hb dX3_covers_86 (by decide) ?_
        obtain rfl := Option.some.inj hf
        exact sE_z B hr h rfl dX3_covers_87
  · rw [if_neg c4] at hf
    refine lv_iload_n hx hb dX3_covers_44 rfl (lv_at hl 2 rfl) ?_
    refine lv_aload_n hx hb dX3_covers_45 rfl (lv_at hl 1 rfl) ?_
    refine g_get B h t0 (V_lt ft0) (C := RX3) (T := TX3) (N := 6) (V_row ft0 _) rfl hin_X3 4 (by decide) hw111 rfl rfl dX3_covers_46 ?_
    refine lv_icmp_le (tgt := 56) hx hb dX3_covers_49 (by decide) (fun c10 => ?_) (fun c10 => ?_)
    · rw [if_pos c10] at hf
      refine lv_iconst (v := (0 : Int32)) hx hb dX3_covers_56 (by decide) ?_
      refine lv_goto (tgt := 73) hx hb dX3_covers_57 (by decide) ?_
      refine lv_istore_n (lv' := [(3, .int (0 : Int32)), (2, .int vs0), (0, .ref (ad t0)), (1, .int v1)]) hx hb dX3_covers_73 rfl hl (by decide) rfl (fun ls hl => ?_)
      refine lv_iload_n hx hb dX3_covers_74 rfl (lv_at hl 1 rfl) ?_
      refine lv_if_ne (tgt := 86) hx hb dX3_covers_75 (by decide) (fun c11 => ?_) (fun c11 => ?_)
      · rw [if_neg c11] at hf
        refine lv_iconst (v := (0 : Int32)) hx hb dX3_covers_86 (by decide) ?_
        obtain rfl := Option.some.inj hf
        exact sE_z B hr h rfl dX3_covers_87
      · rw [if_pos c11] at hf
        refine lv_iload_n hx hb dX3_covers_78 rfl (lv_at hl 0 rfl) ?_
        refine lv_if_ne (tgt := 86) hx hb dX3_covers_79 (by decide) (fun c12 => absurd (by decide) c12) (fun _ => ?_)
        refine lv_iconst (v := (1 : Int32)) hx hb dX3_covers_82 (by decide) ?_
        refine lv_goto (tgt := 87) hx hb dX3_covers_83 (by decide) ?_
        obtain rfl := Option.some.inj hf
        exact sE_z B hr h rfl dX3_covers_87
    · rw [if_neg c10] at hf
      refine lv_iconst (v := (1 : Int32)) hx hb dX3_covers_52 (by decide) ?_
      refine lv_goto (tgt := 73) hx hb dX3_covers_53 (by decide) ?_
      refine lv_istore_n (lv' := [(3, .int (1 : Int32)), (2, .int vs0), (0, .ref (ad t0)), (1, .int v1)]) hx hb dX3_covers_73 rfl hl (by decide) rfl (fun ls hl => ?_)
      refine lv_iload_n hx hb dX3_covers_74 rfl (lv_at hl 1 rfl) ?_
      refine lv_if_ne (tgt := 86) hx hb dX3_covers_75 (by decide) (fun c13 => ?_) (fun c13 => ?_)
      · rw [if_neg c13] at hf
        refine lv_iconst (v := (0 : Int32)) hx hb dX3_covers_86 (by decide) ?_
        obtain rfl := Option.some.inj hf
        exact sE_z B hr h rfl dX3_covers_87
      · rw [if_pos c13] at hf
        refine lv_iload_n hx hb dX3_covers_78 rfl (lv_at hl 0 rfl) ?_
        refine lv_if_ne (tgt := 86) hx hb dX3_covers_79 (by decide) (fun _ => ?_) (fun c14 => absurd c14 (by decide))
        refine lv_iconst (v := (0 : Int32)) hx hb dX3_covers_86 (by decide) ?_
        obtain rfl := Option.some.inj hf
        exact sE_z B hr h rfl dX3_covers_87
set_option maxHeartbeats 4000000 in
set_option maxRecDepth 100000 in
theorem k_X3_covers_0 {p : Program} {l : Launch} {e : Env} {s : State} {m : MethodId} {args : Array Value} {below : List Frame} {meth : Method} {c : Code} {D : va_G} {cy : Nat → ClassId} {ad : Nat → Nat} {X : sX} {r : Int32} (B : sB p l s m meth c args cX3_covers 4 RX3 D cy ad) (hr : meth.sig.returnType = (some .boolean)) (t0 : Nat) (v1 : Int32) (σ : sM) (ft0 : isV t0) (hf : f_X3_covers t0 v1 σ = some r) : sGo p l e { frames := 0, cells := 0, slots := 0, locals := 0 } s m args below meth c D cy ad X 4 (sQ below args s 0 0 D cy ad (.inr (some (.int r))) X σ) σ 0 [(0, .ref (ad t0)), (1, .int v1)] [] := by
  replace hf : (if (σ t0 3) = 0 then (if (σ t0 2) < v1 then (b_X3_covers_36 t0 v1 (0 : Int32) σ) else (b_X3_covers_36 t0 v1 (1 : Int32) σ)) else (if (σ t0 2) ≤ v1 then (b_X3_covers_36 t0 v1 (0 : Int32) σ) else (b_X3_covers_36 t0 v1 (1 : Int32) σ))) = some r := hf
  intro H locs ls h hl
  have hx := B.1
  have hb := B.2.1
  refine lv_aload_n hx hb dX3_covers_0 rfl (lv_at hl 0 rfl) ?_
  refine g_get B h t0 (V_lt ft0) (C := RX3) (T := TX3) (N := 6) (V_row ft0 _) rfl hin_X3 3 (by decide) hw110 rfl rfl dX3_covers_1 ?_
  refine lv_if_eq (tgt := 23) hx hb dX3_covers_4 (by decide) (fun c1 => ?_) (fun c1 => ?_)
  · rw [if_pos c1] at hf
    refine lv_iload_n hx hb dX3_covers_23 rfl (lv_at hl 1 rfl) ?_
    refine lv_aload_n hx hb dX3_covers_24 rfl (lv_at hl 0 rfl) ?_
    refine g_get B h t0 (V_lt ft0) (C := RX3) (T := TX3) (N := 6) (V_row ft0 _) rfl hin_X3 2 (by decide) hw109 rfl rfl dX3_covers_25 ?_
    refine lv_icmp_gt (tgt := 35) hx hb dX3_covers_28 (by decide) (fun c2 => ?_) (fun c2 => ?_)
    · rw [if_pos c2] at hf
      refine lv_iconst (v := (0 : Int32)) hx hb dX3_covers_35 (by decide) ?_
      exact k_X3_covers_36 B hr  _ _ _ _ ft0 hf _ _ _ h (lv_sub hl [0, 1] rfl)
    · rw [if_neg c2] at hf
      refine lv_iconst (v := (1 : Int32)) hx hb dX3_covers_31 (by decide) ?_
      refine lv_goto (tgt := 36) hx hb dX3_covers_32 (by decide) ?_
      exact k_X3_covers_36 B hr  _ _ _ _ ft0 hf _ _ _ h (lv_sub hl [0, 1] rfl)
  · rw [if_neg c1] at hf
    refine lv_iload_n hx hb dX3_covers_7 rfl (lv_at hl 1 rfl) ?_
    refine lv_aload_n hx hb dX3_covers_8 rfl (lv_at hl 0 rfl) ?_
    refine g_get B h t0 (V_lt ft0) (C := RX3) (T := TX3) (N := 6) (V_row ft0 _) rfl hin_X3 2 (by decide) hw109 rfl rfl dX3_covers_9 ?_
    refine lv_icmp_ge (tgt := 19) hx hb dX3_covers_12 (by decide) (fun c3 => ?_) (fun c3 => ?_)
    · rw [if_pos c3] at hf
      refine lv_iconst (v := (0 : Int32)) hx hb dX3_covers_19 (by decide) ?_
      refine lv_goto (tgt := 36) hx hb dX3_covers_20 (by decide) ?_
      exact k_X3_covers_36 B hr  _ _ _ _ ft0 hf _ _ _ h (lv_sub hl [0, 1] rfl)
    · rw [if_neg c3] at hf
      refine lv_iconst (v := (1 : Int32)) hx hb dX3_covers_15 (by decide) ?_
      refine lv_goto (tgt := 36) hx hb dX3_covers_16 (by decide) ?_
      exact k_X3_covers_36 B hr  _ _ _ _ ft0 hf _ _ _ h (lv_sub hl [0, 1] rfl)
set_option maxRecDepth 100000 in
theorem ok_X3_covers {l : Launch} (hl0 : l.stackTraces = false) {D : va_G} {cy : Nat → ClassId} {ad : Nat → Nat} (hap : sAp ad) (X : sX) (σ : sM) {t0 : Nat} (ft0 : isV t0) (v1 : Int32) {r : Int32} (hf : f_X3_covers t0 v1 σ = some r) : sMet l yX3_covers (sWs yX3_covers cX3_covers 4 (some .boolean)) 0 0 0 0 D cy ad X σ [.ref (ad t0), .int v1] (.inr (some (.int r))) X σ := by
  refine sMet_of (by decide +kernel) (Nat.le_of_ble_eq_true rfl) hap hl0 ?_
  intro p e s m args below meth c ls B hr htab hl h
  exact k_X3_covers_0 B hr _ _ _ ft0 hf _ _ _ h hl
set_option maxHeartbeats 4000000 in
set_option maxRecDepth 100000 in
theorem k_X3_hasJustItsSpan_51 {p : Program} {l : Launch} {e : Env} {s : State} {m : MethodId} {args : Array Value} {below : List Frame} {meth : Method} {c : Code} {D : va_G} {cy : Nat → ClassId} {ad : Nat → Nat} {X : sX} {r : Int32} (B : sB p l s m meth c args cX3_hasJustItsSpan 6 RX3 D cy ad) (hr : meth.sig.returnType = (some .boolean)) {K26 : Nat → Nat → Int32 → Int32 → Int32 → sM → Option Int32} (hK26 : ∀ (t0 : Nat) (t1 : Nat) (v2 : Int32) (v3 : Int32) (v4 : Int32) (σ : sM) (ft0 : isV t0) (ft1 : isT t1), K26 t0 t1 v2 v3 v4 σ = some r → sGo p l e { frames := 4, cells := 0, slots := 0, locals := 89 } s m args below meth c D cy ad X 6 (sQ below args s 0 0 D cy ad (.inr (some (.int r))) X σ) σ 26 [(0, .ref (ad t0)), (1, .ref (ad t1)), (2, .int v2), (3, .int v3), (4, .int v4)] []) (t0 : Nat) (t1 : Nat) (v2 : Int32) (v3 : Int32) (v4 : Int32) (σ : sM) (ft0 : isV t0) (ft1 : isT t1) (hf : b_X3_hasJustItsSpan_51 K26 t0 t1 v2 v3 v4 σ = some r) : sGo p l e { frames := 4, cells := 0, slots := 0, locals := 89 } s m args below meth c D cy ad X 6 (sQ below args s 0 0 D cy ad (.inr (some (.int r))) X σ) σ 51 [(0, .ref (ad t0)), (1, .ref (ad t1)), (2, .int v2), (3, .int v3), (4, .int v4)] [] := by
  replace hf : (chk (inb v4 120) (rthn (f_X3_covers t0 (σ (t1 + 1) (v4).toNatClampNeg) σ) (fun vr11 => if (0 : Int32) = vr11 then (K26 t0 t1 v2 v3 (v4 + 1) σ) else (some (0 : Int32))))) = some r := hf
  intro H locs ls h hl
  have hx := B.1
  have hb := B.2.1
  refine lv_iconst (v := (0 : Int32)) hx hb dX3_hasJustItsSpan_51 (by decide) ?_
  refine lv_istore (lv' := [(5, .int (0 : Int32)), (0, .ref (ad t0)), (1, .ref (ad t1)), (2, .int v2), (3, .int v3), (4, .int v4)]) hx hb dX3_hasJustItsSpan_52 hl (by decide) rfl (fun ls hl => ?_)
  refine lv_iload hx hb dX3_hasJustItsSpan_54 (lv_at hl 0 rfl) ?_
  refine lv_aload_n hx hb dX3_hasJustItsSpan_56 rfl (lv_at hl 1 rfl) ?_
  refine lv_aload_n hx hb dX3_hasJustItsSpan_57 rfl (lv_at hl 2 rfl) ?_
  refine g_get B h t1 (T_lt ft1) (C := RX2) (T := TX2) (N := 3) (T_row ft1 _) rfl hin_X2 0 (by decide) hw48 rfl rfl dX3_hasJustItsSpan_58 ?_
  refine lv_iload hx hb dX3_hasJustItsSpan_61 (lv_at hl 5 rfl) ?_
  obtain ⟨c10, hf⟩ := chk_some hf
  refine g_iald B h (t1 + 1) (T_lt1 ft1) (n := 120) (T_keys ft1) (inb_in c10) dX3_hasJustItsSpan_63 ?_
  obtain ⟨vr11, hq11, hf⟩ := rthn_some hf
  refine sRetC1 (g_runV (k := t0) (T := TX3) (N := 6) B h (ok_X3_covers B.2.2.2.2.2.2.2.2 B.2.2.2.2.2.2.1 _ _ ft0 (σ (t1 + 1) (v4).toNatClampNeg) hq11) cw_X3_59 ⟨Nat.le_of_ble_eq_true rfl, Nat.le_of_ble_eq_true rfl⟩ (V_lt ft0) (V_row ft0 _) rfl rfl hl.1.symm rfl (Nat.le_of_ble_eq_true rfl) dX3_hasJustItsSpan_64 ⟨Nat.zero_le _, Nat.zero_le _⟩) h (fun H locs h => ?_)
  refine lv_icmp_eq (tgt := 72) hx hb dX3_hasJustItsSpan_67 (by decide) (fun c12 => ?_) (fun c12 => ?_)
  · rw [if_pos c12] at hf
    refine lv_iinc (v := (v4 + 1)) (lv' := [(4, .int (v4 + 1)), (5, .int (0 : Int32)), (0, .ref (ad t0)), (1, .ref (ad t1)), (2, .int v2), (3, .int v3)]) hx hb dX3_hasJustItsSpan_72 hl (k := 5) rfl rfl (by decide) rfl (fun ls hl => ?_)
    refine lv_goto (tgt := 26) hx hb dX3_hasJustItsSpan_75 (by decide) ?_
    exact hK26 _ _ _ _ _ _ ft0 ft1 hf _ _ _ h (lv_sub hl [2, 3, 4, 5, 0] rfl)
  · rw [if_neg c12] at hf
    refine lv_iconst (v := (0 : Int32)) hx hb dX3_hasJustItsSpan_70 (by decide) ?_
    obtain rfl := Option.some.inj hf
    exact sE_z B hr h rfl dX3_hasJustItsSpan_71
set_option maxHeartbeats 4000000 in
set_option maxRecDepth 100000 in
theorem k_X3_hasJustItsSpan_26 {p : Program} {l : Launch} {e : Env} {s : State} {m : MethodId} {args : Array Value} {below : List Frame} {meth : Method} {c : Code} {D : va_G} {cy : Nat → ClassId} {ad : Nat → Nat} {X : sX} {r : Int32} (B : sB p l s m meth c args cX3_hasJustItsSpan 6 RX3 D cy ad) (hr : meth.sig.returnType = (some .boolean)) : ∀ (n : Nat) (t0 : Nat) (t1 : Nat) (v2 : Int32) (v3 : Int32) (v4 : Int32) (σ : sM) (ft0 : isV t0) (ft1 : isT t1), b_X3_hasJustItsSpan_26 n t0 t1 v2 v3 v4 σ = some r → sGo p l e { frames := 4, cells := 0, slots := 0, locals := 89 } s m args below meth c D cy ad X 6 (sQ below args s 0 0 D cy ad (.inr (some (.int r))) X σ) σ 26 [(0, .ref (ad t0)), (1, .ref (ad t1)), (2, .int v2), (3, .int v3), (4, .int v4)] [] := by
  intro n
  induction n with
  | zero =>
    intro t0 t1 v2 v3 v4 σ ft0 ft1 hf
    exact nomatch (show none = some r from hf)
  | succ n ih =>
    intro t0 t1 v2 v3 v4 σ ft0 ft1 hf
    replace hf : (if (σ t1 2) ≤ v4 then (some (1 : Int32)) else (if v4 < v2 then (b_X3_hasJustItsSpan_51 (b_X3_hasJustItsSpan_26 n) t0 t1 v2 v3 v4 σ) else (if v3 ≤ v4 then (b_X3_hasJustItsSpan_51 (b_X3_hasJustItsSpan_26 n) t0 t1 v2 v3 v4 σ) else (chk (inb v4 120) (rthn (f_X3_covers t0 (σ (t1 + 1) (v4).toNatClampNeg) σ) (fun vr8 => if (1 : Int32) = vr8 then (b_X3_hasJustItsSpan_26 n t0 t1 v2 v3 (v4 + 1) σ) else (some (0 : Int32)))))))) = some r := hf
    intro H locs ls h hl
    have hx := B.1
    have hb := B.2.1
    refine lv_iload hx hb dX3_hasJustItsSpan_26 (lv_at hl 4 rfl) ?_
    refine lv_aload_n hx hb dX3_hasJustItsSpan_28 rfl (lv_at hl 1 rfl) ?_
    refine g_get B h t1 (T_lt ft1) (C := RX2) (T := TX2) (N := 3) (T_row ft1 _) rfl hin_X2 2 (by decide) hw55 rfl rfl dX3_hasJustItsSpan_29 ?_
    refine lv_icmp_ge (tgt := 78) hx hb dX3_hasJustItsSpan_32 (by decide) (fun c4 => ?_) (fun c4 => ?_)
    · rw [if_pos c4] at hf
      refine lv_iconst (v := (1 : Int32)) hx hb dX3_hasJustItsSpan_78 (by decide) ?_
      obtain rfl := Option.some.inj hf
      exact sE_z B hr h rfl dX3_hasJustItsSpan_79
    · rw [if_neg c4] at hf
      refine lv_iload hx hb dX3_hasJustItsSpan_35 (lv_at hl 4 rfl) ?_
      refine lv_iload_n hx hb dX3_hasJustItsSpan_37 rfl (lv_at hl 2 rfl) ?_
      refine lv_icmp_lt (tgt := 51) hx hb dX3_hasJustItsSpan_38 (by decide) (fun c5 => ?_) (fun c5 => ?_)
      · rw [if_pos c5] at hf
        exact k_X3_hasJustItsSpan_51 B hr ih _ _ _ _ _ _ ft0 ft1 hf _ _ _ h (lv_sub hl [0, 1, 2, 3, 4] rfl)
      · rw [if_neg c5] at hf
        refine lv_iload hx hb dX3_hasJustItsSpan_41 (lv_at hl 4 rfl) ?_
        refine lv_iload_n hx hb dX3_hasJustItsSpan_43 rfl (lv_at hl 3 rfl) ?_
        refine lv_icmp_ge (tgt := 51) hx hb dX3_hasJustItsSpan_44 (by decide) (fun c6 => ?_) (fun c6 => ?_)
        · rw [if_pos c6] at hf
          exact k_X3_hasJustItsSpan_51 B hr ih _ _ _ _ _ _ ft0 ft1 hf _ _ _ h (lv_sub hl [0, 1, 2, 3, 4] rfl)
        · rw [if_neg c6] at hf
          refine lv_iconst (v := (1 : Int32)) hx hb dX3_hasJustItsSpan_47 (by decide) ?_
          refine lv_goto (tgt := 52) hx hb dX3_hasJustItsSpan_48 (by decide) ?_
          refine lv_istore (lv' := [(5, .int (1 : Int32)), (0, .ref (ad t0)), (1, .ref (ad t1)), (2, .int v2), (3, .int v3), (4, .int v4)]) hx hb dX3_hasJustItsSpan_52 hl (by decide) rfl (fun ls hl => ?_)
          refine lv_iload hx hb dX3_hasJustItsSpan_54 (lv_at hl 0 rfl) ?_
          refine lv_aload_n hx hb dX3_hasJustItsSpan_56 rfl (lv_at hl 1 rfl) ?_
          refine lv_aload_n hx hb dX3_hasJustItsSpan_57 rfl (lv_at hl 2 rfl) ?_
          refine g_get B h t1 (T_lt ft1) (C := RX2) (T := TX2) (N := 3) (T_row ft1 _) rfl hin_X2 0 (by decide) hw48 rfl rfl dX3_hasJustItsSpan_58 ?_
          refine lv_iload hx hb dX3_hasJustItsSpan_61 (lv_at hl 5 rfl) ?_
          obtain ⟨c7, hf⟩ := chk_some hf
          refine g_iald B h (t1 + 1) (T_lt1 ft1) (n := 120) (T_keys ft1) (inb_in c7) dX3_hasJustItsSpan_63 ?_
          obtain ⟨vr8, hq8, hf⟩ := rthn_some hf
          refine sRetC1 (g_runV (k := t0) (T := TX3) (N := 6) B h (ok_X3_covers B.2.2.2.2.2.2.2.2 B.2.2.2.2.2.2.1 _ _ ft0 (σ (t1 + 1) (v4).toNatClampNeg) hq8) cw_X3_59 ⟨Nat.le_of_ble_eq_true rfl, Nat.le_of_ble_eq_true rfl⟩ (V_lt ft0) (V_row ft0 _) rfl rfl hl.1.symm rfl (Nat.le_of_ble_eq_true rfl) dX3_hasJustItsSpan_64 ⟨Nat.zero_le _, Nat.zero_le _⟩) h (fun H locs h => ?_)
          refine lv_icmp_eq (tgt := 72) hx hb dX3_hasJustItsSpan_67 (by decide) (fun c9 => ?_) (fun c9 => ?_)
          · rw [if_pos c9] at hf
            refine lv_iinc (v := (v4 + 1)) (lv' := [(4, .int (v4 + 1)), (5, .int (1 : Int32)), (0, .ref (ad t0)), (1, .ref (ad t1)), (2, .int v2), (3, .int v3)]) hx hb dX3_hasJustItsSpan_72 hl (k := 5) rfl rfl (by decide) rfl (fun ls hl => ?_)
            refine lv_goto (tgt := 26) hx hb dX3_hasJustItsSpan_75 (by decide) ?_
            exact ih _ _ _ _ _ _ ft0 ft1 hf _ _ _ h (lv_sub hl [2, 3, 4, 5, 0] rfl)
          · rw [if_neg c9] at hf
            refine lv_iconst (v := (0 : Int32)) hx hb dX3_hasJustItsSpan_70 (by decide) ?_
            obtain rfl := Option.some.inj hf
            exact sE_z B hr h rfl dX3_hasJustItsSpan_71
set_option maxHeartbeats 4000000 in
set_option maxRecDepth 100000 in
theorem k_X3_hasJustItsSpan_0 {p : Program} {l : Launch} {e : Env} {s : State} {m : MethodId} {args : Array Value} {below : List Frame} {meth : Method} {c : Code} {D : va_G} {cy : Nat → ClassId} {ad : Nat → Nat} {X : sX} {r : Int32} (B : sB p l s m meth c args cX3_hasJustItsSpan 6 RX3 D cy ad) (hr : meth.sig.returnType = (some .boolean)) (t0 : Nat) (σ : sM) (ft0 : isV t0) (hf : f_X3_hasJustItsSpan t0 σ = some r) : sGo p l e { frames := 4, cells := 0, slots := 0, locals := 89 } s m args below meth c D cy ad X 6 (sQ below args s 0 0 D cy ad (.inr (some (.int r))) X σ) σ 0 [(0, .ref (ad t0))] [] := by
  replace hf : (srcm (sSrc (σ t0 0)) (some (1 : Int32)) (fun ts1 => rthn (f_X3_beginIn t0 ts1 σ) (fun vr2 => rthn (f_X3_stopIn t0 ts1 σ) (fun vr3 => b_X3_hasJustItsSpan_26 FU t0 ts1 vr2 vr3 (0 : Int32) σ)))) = some r := hf
  intro H locs ls h hl
  have hx := B.1
  have hb := B.2.1
  refine lv_aload_n hx hb dX3_hasJustItsSpan_0 rfl (lv_at hl 0 rfl) ?_
  rcases srcm_cases hf with ⟨s1, hf⟩ | ⟨ts1, s1, hf⟩
  · refine g_src0 B h t0 ft0 hin_X3 hw105 s1 dX3_hasJustItsSpan_1 ?_
    refine lv_astore_nN (lv' := [(1, .null), (0, .ref (ad t0))]) hx hb dX3_hasJustItsSpan_4 rfl hl (by decide) rfl (fun ls hl => ?_)
    refine lv_aload_nN hx hb dX3_hasJustItsSpan_5 rfl (lv_at hl 0 rfl) ?_
    refine lv_ifnonnullN hx hb dX3_hasJustItsSpan_6 ?_
    refine lv_iconst (v := (1 : Int32)) hx hb dX3_hasJustItsSpan_9 (by decide) ?_
    obtain rfl := Option.some.inj hf
    exact sE_z B hr h rfl dX3_hasJustItsSpan_10
  · refine g_src1 B h t0 ft0 hin_X3 hw105 s1 dX3_hasJustItsSpan_1 ?_
    refine lv_astore_n (lv' := [(1, .ref (ad ts1)), (0, .ref (ad t0))]) hx hb dX3_hasJustItsSpan_4 rfl hl (by decide) rfl (fun ls hl => ?_)
    refine lv_aload_n hx hb dX3_hasJustItsSpan_5 rfl (lv_at hl 0 rfl) ?_
    refine lv_ifnonnull (tgt := 11) hx hb dX3_hasJustItsSpan_6 (by decide) ?_
    refine lv_aload_n hx hb dX3_hasJustItsSpan_11 rfl (lv_at hl 1 rfl) ?_
    refine lv_aload_n hx hb dX3_hasJustItsSpan_12 rfl (lv_at hl 0 rfl) ?_
    obtain ⟨vr2, hq2, hf⟩ := rthn_some hf
    refine sRetC1 (g_runV (k := t0) (T := TX3) (N := 6) B h (ok_X3_beginIn B.2.2.2.2.2.2.2.2 B.2.2.2.2.2.2.1 _ _ ft0 (sSrc_T s1) hq2) cw_X3_39 ⟨Nat.le_of_ble_eq_true rfl, Nat.le_of_ble_eq_true rfl⟩ (V_lt ft0) (V_row ft0 _) rfl rfl hl.1.symm rfl (Nat.le_of_ble_eq_true rfl) dX3_hasJustItsSpan_13 ⟨Nat.zero_le _, Nat.zero_le _⟩) h (fun H locs h => ?_)
    refine lv_istore_n (lv' := [(2, .int vr2), (1, .ref (ad ts1)), (0, .ref (ad t0))]) hx hb dX3_hasJustItsSpan_16 rfl hl (by decide) rfl (fun ls hl => ?_)
    refine lv_aload_n hx hb dX3_hasJustItsSpan_17 rfl (lv_at hl 2 rfl) ?_
    refine lv_aload_n hx hb dX3_hasJustItsSpan_18 rfl (lv_at hl 1 rfl) ?_
    obtain ⟨vr3, hq3, hf⟩ := rthn_some hf
    refine sRetC1 (g_runV (k := t0) (T := TX3) (N := 6) B h (ok_X3_stopIn B.2.2.2.2.2.2.2.2 B.2.2.2.2.2.2.1 _ _ ft0 (sSrc_T s1) hq3) cw_X3_49 ⟨Nat.le_of_ble_eq_true rfl, Nat.le_of_ble_eq_true rfl⟩ (V_lt ft0) (V_row ft0 _) rfl rfl hl.1.symm rfl (Nat.le_of_ble_eq_true rfl) dX3_hasJustItsSpan_19 ⟨Nat.zero_le _, Nat.zero_le _⟩) h (fun H locs h => ?_)
    refine lv_istore_n (lv' := [(3, .int vr3), (2, .int vr2), (1, .ref (ad ts1)), (0, .ref (ad t0))]) hx hb dX3_hasJustItsSpan_22 rfl hl (by decide) rfl (fun ls hl => ?_)
    refine lv_iconst (v := (0 : Int32)) hx hb dX3_hasJustItsSpan_23 (by decide) ?_
    refine lv_istore (lv' := [(4, .int (0 : Int32)), (3, .int vr3), (2, .int vr2), (1, .ref (ad ts1)), (0, .ref (ad t0))]) hx hb dX3_hasJustItsSpan_24 hl (by decide) rfl (fun ls hl => ?_)
    exact k_X3_hasJustItsSpan_26 B hr  _ _ _ _ _ _ _ ft0 (sSrc_T s1) hf _ _ _ h (lv_sub hl [4, 3, 2, 1, 0] rfl)
set_option maxRecDepth 100000 in
theorem ok_X3_hasJustItsSpan {l : Launch} (hl0 : l.stackTraces = false) {D : va_G} {cy : Nat → ClassId} {ad : Nat → Nat} (hap : sAp ad) (X : sX) (σ : sM) {t0 : Nat} (ft0 : isV t0) {r : Int32} (hf : f_X3_hasJustItsSpan t0 σ = some r) : sMet l yX3_hasJustItsSpan (sWs yX3_hasJustItsSpan cX3_hasJustItsSpan 6 (some .boolean)) 4 89 0 0 D cy ad X σ [.ref (ad t0)] (.inr (some (.int r))) X σ := by
  refine sMet_of (by decide +kernel) (Nat.le_of_ble_eq_true rfl) hap hl0 ?_
  intro p e s m args below meth c ls B hr htab hl h
  exact k_X3_hasJustItsSpan_0 B hr _ _ ft0 hf _ _ _ h hl
