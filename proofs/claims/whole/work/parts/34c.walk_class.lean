set_option maxHeartbeats 4000000 in
set_option maxRecDepth 100000 in
theorem k_X4_forget_0 {p : Program} {l : Launch} {e : Env} {s : State} {m : MethodId} {args : Array Value} {below : List Frame} {meth : Method} {c : Code} {D : va_G} {cy : Nat → ClassId} {ad : Nat → Nat} {X : sX} {oo : String ⊕ Int32} {σ' : sM} (B : sB p l s m meth c args cX4_forget 4 RX4 D cy ad) (hr : meth.sig.returnType = (some .int)) (htab : ∀ x ∈ c.exceptionTable.toList, False) (v1 : Int32) (σ : sM) (hf : f_X4_forget v1 σ = some (oo, σ')) : sGo p l e { frames := 7, cells := (sC (oI oo)), slots := (sS (oI oo)), locals := 121 } s m args below meth c D cy ad X 4 (sQ below args s (sC (oI oo)) (sS (oI oo)) D cy ad (oI oo) X σ') σ 0 [(0, .ref (ad 0)), (1, .int v1)] [] := by
  replace hf : (thn (f_X4_historyAt v1 σ) (fun tr1 σ1 => chk (isHb tr1) (stl (va_up σ1 tr1 (upd (σ1 tr1) 0 (0 : Int32))) (fun σ3 => some (.inr (σ1 tr1 0), σ3))))) = some (oo, σ') := hf
  intro H locs ls h hl
  have hx := B.1
  have hb := B.2.1
  refine lv_aload_n hx hb dX4_forget_0 rfl (lv_at hl 0 rfl) ?_
  refine lv_iload_n hx hb dX4_forget_1 rfl (lv_at hl 1 rfl) ?_
  rcases thn_cases hf with ⟨E1, σ1, hq1, ho⟩ | ⟨tr1, σ1, hq1, hf⟩
  · cases ho
    have hM := ok_X4_historyAt (D := D) (cy := cy) B.2.2.2.2.2.2.2.2 B.2.2.2.2.2.2.1 X _ v1 hq1
    exact sThrC (g_runV (o := .inl E1) (mc := 1) (ms := 6) (k := 0) (T := TX4) (N := 8) B h hM cw_X4_174 ⟨Nat.le_of_ble_eq_true rfl, Nat.le_of_ble_eq_true rfl⟩ (by decide) (S_row _) rfl rfl hl.1.symm rfl (Nat.le_of_ble_eq_true rfl) dX4_forget_2 ⟨Nat.le_of_eq (Nat.zero_add _), Nat.le_of_eq (Nat.zero_add _)⟩) h (fun H locs q ce h hc hv hcl => sE_out B htab h hc hv hcl (Nat.le_of_eq (Nat.zero_add _)) (Nat.le_of_eq (Nat.zero_add _)))
  have hM := ok_X4_historyAt (D := D) (cy := cy) B.2.2.2.2.2.2.2.2 B.2.2.2.2.2.2.1 X _ v1 hq1
  refine sRetC1 (g_runV (o := .inr (some (.ref (ad tr1)))) (mc := 0) (ms := 0) (k := 0) (T := TX4) (N := 8) B h hM cw_X4_174 ⟨Nat.le_of_ble_eq_true rfl, Nat.le_of_ble_eq_true rfl⟩ (by decide) (S_row _) rfl rfl hl.1.symm rfl (Nat.le_of_ble_eq_true rfl) dX4_forget_2 ⟨Nat.zero_le _, Nat.zero_le _⟩) h (fun H locs h => ?_)
  obtain ⟨c2, hf⟩ := chk_some hf
  refine lv_astore_n (lv' := [(2, .ref (ad tr1)), (0, .ref (ad 0)), (1, .int v1)]) hx hb dX4_forget_5 rfl hl (by decide) rfl (fun ls hl => ?_)
  refine lv_aload_n hx hb dX4_forget_6 rfl (lv_at hl 0 rfl) ?_
  refine g_get B h tr1 (H_lt (isHb_H c2)) (C := RX1) (T := TX1) (N := 4) (H_row (isHb_H c2) _) rfl hin_X1 0 (by decide) hw72 rfl rfl dX4_forget_7 ?_
  refine lv_istore_n (lv' := [(3, .int (σ1 tr1 0)), (2, .ref (ad tr1)), (0, .ref (ad 0)), (1, .int v1)]) hx hb dX4_forget_10 rfl hl (by decide) rfl (fun ls hl => ?_)
  refine lv_aload_n hx hb dX4_forget_11 rfl (lv_at hl 1 rfl) ?_
  refine lv_iconst (v := (0 : Int32)) hx hb dX4_forget_12 (by decide) ?_
  refine g_put B h tr1 (H_lt (isHb_H c2)) (C := RX1) (T := TX1) (N := 4) (H_row (isHb_H c2) _) rfl hin_X1 tyX1 tyX1_ok nmX1 0 (by decide) hw72 rfl rfl rfl rfl (upd (σ1 tr1) 0 (0 : Int32)) (H_put0 (isHb_H c2) _ _) (Nat.le_of_ble_eq_true rfl) dX4_forget_13 (fun H locs h => ?_)
  obtain ⟨σ3, e3, hf⟩ := stl_some hf
  rw [← e3] at h
  refine lv_iload_n hx hb dX4_forget_16 rfl (lv_at hl 0 rfl) ?_
  obtain ⟨rfl, rfl⟩ := Prod.mk.inj (Option.some.inj hf)
  exact sE_i B hr h dX4_forget_17
set_option maxRecDepth 100000 in
theorem ok_X4_forget {l : Launch} (hl0 : l.stackTraces = false) {D : va_G} {cy : Nat → ClassId} {ad : Nat → Nat} (hap : sAp ad) (X : sX) (σ : sM) (v1 : Int32) {oo : String ⊕ Int32} {σ' : sM} (hf : f_X4_forget v1 σ = some (oo, σ')) : sMet l yX4_forget (sWs yX4_forget cX4_forget 4 (some .int)) 7 121 (sC (oI oo)) (sS (oI oo)) D cy ad X σ [.ref (ad 0), .int v1] (oI oo) X σ' := by
  refine sMet_of (by decide +kernel) (Nat.le_of_ble_eq_true rfl) hap hl0 ?_
  intro p e s m args below meth c ls B hr htab hl h
  exact k_X4_forget_0 B hr htab _ _  hf _ _ _ h hl
set_option maxHeartbeats 4000000 in
set_option maxRecDepth 100000 in
theorem k_X4_fullShare_0 {p : Program} {l : Launch} {e : Env} {s : State} {m : MethodId} {args : Array Value} {below : List Frame} {meth : Method} {c : Code} {D : va_G} {cy : Nat → ClassId} {ad : Nat → Nat} {X : sX} {oo : String ⊕ UInt32} {σ' : sM} (B : sB p l s m meth c args cX4_fullShare 2 RX4 D cy ad) (hr : meth.sig.returnType = (some .float)) (htab : ∀ x ∈ c.exceptionTable.toList, False) (v1 : Int32) (σ : sM) (hf : f_X4_fullShare v1 σ = some (oo, σ')) : sGo p l e { frames := 7, cells := (sC (oF oo)), slots := (sS (oF oo)), locals := 121 } s m args below meth c D cy ad X 2 (sQ below args s (sC (oF oo)) (sS (oF oo)) D cy ad (oF oo) X σ') σ 0 [(0, .ref (ad 0)), (1, .int v1)] [] := by
  replace hf : (thn (f_X4_mapAt v1 σ) (fun tr1 σ1 => chk (isTb tr1) (chk (nn32 (FP.fdiv (FP.i2f (σ1 tr1 2)) (1114636288 : UInt32))) (some (.inr (FP.fdiv (FP.i2f (σ1 tr1 2)) (1114636288 : UInt32)), σ1))))) = some (oo, σ') := hf
  intro H locs ls h hl
  have hx := B.1
  have hb := B.2.1
  refine lv_aload_n hx hb dX4_fullShare_0 rfl (lv_at hl 0 rfl) ?_
  refine lv_iload_n hx hb dX4_fullShare_1 rfl (lv_at hl 1 rfl) ?_
  rcases thn_cases hf with ⟨E1, σ1, hq1, ho⟩ | ⟨tr1, σ1, hq1, hf⟩
  · cases ho
    have hM := ok_X4_mapAt (D := D) (cy := cy) B.2.2.2.2.2.2.2.2 B.2.2.2.2.2.2.1 X _ v1 hq1
    exact sThrC (g_runV (o := .inl E1) (mc := 1) (ms := 6) (k := 0) (T := TX4) (N := 8) B h hM cw_X4_41 ⟨Nat.le_of_ble_eq_true rfl, Nat.le_of_ble_eq_true rfl⟩ (by decide) (S_row _) rfl rfl hl.1.symm rfl (Nat.le_of_ble_eq_true rfl) dX4_fullShare_2 ⟨Nat.le_of_eq (Nat.zero_add _), Nat.le_of_eq (Nat.zero_add _)⟩) h (fun H locs q ce h hc hv hcl => sE_out B htab h hc hv hcl (Nat.le_of_eq (Nat.zero_add _)) (Nat.le_of_eq (Nat.zero_add _)))
  have hM := ok_X4_mapAt (D := D) (cy := cy) B.2.2.2.2.2.2.2.2 B.2.2.2.2.2.2.1 X _ v1 hq1
  refine sRetC1 (g_runV (o := .inr (some (.ref (ad tr1)))) (mc := 0) (ms := 0) (k := 0) (T := TX4) (N := 8) B h hM cw_X4_41 ⟨Nat.le_of_ble_eq_true rfl, Nat.le_of_ble_eq_true rfl⟩ (by decide) (S_row _) rfl rfl hl.1.symm rfl (Nat.le_of_ble_eq_true rfl) dX4_fullShare_2 ⟨Nat.zero_le _, Nat.zero_le _⟩) h (fun H locs h => ?_)
  obtain ⟨c2, hf⟩ := chk_some hf
  refine g_get B h tr1 (T_lt (isTb_T c2)) (C := RX2) (T := TX2) (N := 3) (T_row (isTb_T c2) _) rfl hin_X2 2 (by decide) hw53 rfl rfl dX4_fullShare_5 ?_
  refine lv_i2f hx hb dX4_fullShare_8 ?_
  refine lv_ldcf (own := RX4) (v := (1114636288 : UInt32)) hx hb B.2.2.2.1 (B.2.2.2.2.1 _ hw795) dX4_fullShare_9 ?_
  obtain ⟨c3, hf⟩ := chk_some hf
  refine lv_fdiv hx hb dX4_fullShare_11 (nn32_n c3) ?_
  obtain ⟨rfl, rfl⟩ := Prod.mk.inj (Option.some.inj hf)
  exact sE_f B hr h dX4_fullShare_12
set_option maxRecDepth 100000 in
theorem ok_X4_fullShare {l : Launch} (hl0 : l.stackTraces = false) {D : va_G} {cy : Nat → ClassId} {ad : Nat → Nat} (hap : sAp ad) (X : sX) (σ : sM) (v1 : Int32) {oo : String ⊕ UInt32} {σ' : sM} (hf : f_X4_fullShare v1 σ = some (oo, σ')) : sMet l yX4_fullShare (sWs yX4_fullShare cX4_fullShare 2 (some .float)) 7 121 (sC (oF oo)) (sS (oF oo)) D cy ad X σ [.ref (ad 0), .int v1] (oF oo) X σ' := by
  refine sMet_of (by decide +kernel) (Nat.le_of_ble_eq_true rfl) hap hl0 ?_
  intro p e s m args below meth c ls B hr htab hl h
  exact k_X4_fullShare_0 B hr htab _ _  hf _ _ _ h hl
set_option maxHeartbeats 4000000 in
set_option maxRecDepth 100000 in
theorem k_X4_isLike_0 {p : Program} {l : Launch} {e : Env} {s : State} {m : MethodId} {args : Array Value} {below : List Frame} {meth : Method} {c : Code} {D : va_G} {cy : Nat → ClassId} {ad : Nat → Nat} {X : sX} {oo : String ⊕ Int32} {σ' : sM} (B : sB p l s m meth c args cX4_isLike 4 RX4 D cy ad) (hr : meth.sig.returnType = (some .boolean)) (htab : ∀ x ∈ c.exceptionTable.toList, False) (v1 : Int32) (v2 : Int32) (σ : sM) (hf : f_X4_isLike v1 v2 σ = some (oo, σ')) : sGo p l e { frames := 7, cells := (sC (oI oo)), slots := (sS (oI oo)), locals := 121 } s m args below meth c D cy ad X 4 (sQ below args s (sC (oI oo)) (sS (oI oo)) D cy ad (oI oo) X σ') σ 0 [(0, .ref (ad 0)), (1, .int v1), (2, .int v2)] [] := by
  replace hf : (thn (f_X4_mapAt v1 σ) (fun tr1 σ1 => chk (isTb tr1) (thn (f_X4_mapAt v2 σ1) (fun tr3 σ3 => chk (isTb tr3) (rthn (f_X2_isSame tr1 tr3 σ3) (fun vr5 => chk (isb vr5) (some (.inr vr5, σ3)))))))) = some (oo, σ') := hf
  intro H locs ls h hl
  have hx := B.1
  have hb := B.2.1
  refine lv_aload_n hx hb dX4_isLike_0 rfl (lv_at hl 0 rfl) ?_
  refine lv_iload_n hx hb dX4_isLike_1 rfl (lv_at hl 1 rfl) ?_
  rcases thn_cases hf with ⟨E1, σ1, hq1, ho⟩ | ⟨tr1, σ1, hq1, hf⟩
  · cases ho
    have hM := ok_X4_mapAt (D := D) (cy := cy) B.2.2.2.2.2.2.2.2 B.2.2.2.2.2.2.1 X _ v1 hq1
    exact sThrC (g_runV (o := .inl E1) (mc := 1) (ms := 6) (k := 0) (T := TX4) (N := 8) B h hM cw_X4_41 ⟨Nat.le_of_ble_eq_true rfl, Nat.le_of_ble_eq_true rfl⟩ (by decide) (S_row _) rfl rfl hl.1.symm rfl (Nat.le_of_ble_eq_true rfl) dX4_isLike_2 ⟨Nat.le_of_eq (Nat.zero_add _), Nat.le_of_eq (Nat.zero_add _)⟩) h (fun H locs q ce h hc hv hcl => sE_out B htab h hc hv hcl (Nat.le_of_eq (Nat.zero_add _)) (Nat.le_of_eq (Nat.zero_add _)))
  have hM := ok_X4_mapAt (D := D) (cy := cy) B.2.2.2.2.2.2.2.2 B.2.2.2.2.2.2.1 X _ v1 hq1
  refine sRetC1 (g_runV (o := .inr (some (.ref (ad tr1)))) (mc := 0) (ms := 0) (k := 0) (T := TX4) (N := 8) B h hM cw_X4_41 ⟨Nat.le_of_ble_eq_true rfl, Nat.le_of_ble_eq_true rfl⟩ (by decide) (S_row _) rfl rfl hl.1.symm rfl (Nat.le_of_ble_eq_true rfl) dX4_isLike_2 ⟨Nat.zero_le _, Nat.zero_le _⟩) h (fun H locs h => ?_)
  obtain ⟨c2, hf⟩ := chk_some hf
  refine lv_astore_n (lv' := [(3, .ref (ad tr1)), (0, .ref (ad 0)), (1, .int v1), (2, .int v2)]) hx hb dX4_isLike_5 rfl hl (by decide) rfl (fun ls hl => ?_)
  refine lv_aload_n hx hb dX4_isLike_6 rfl (lv_at hl 0 rfl) ?_
  refine lv_aload_n hx hb dX4_isLike_7 rfl (lv_at hl 1 rfl) ?_
  refine lv_iload_n hx hb dX4_isLike_8 rfl (lv_at hl 3 rfl) ?_
  rcases thn_cases hf with ⟨E3, σ3, hq3, ho⟩ | ⟨tr3, σ3, hq3, hf⟩
  · cases ho
    have hM := ok_X4_mapAt (D := D) (cy := cy) B.2.2.2.2.2.2.2.2 B.2.2.2.2.2.2.1 X _ v2 hq3
    exact sThrC (g_runV (o := .inl E3) (mc := 1) (ms := 6) (k := 0) (T := TX4) (N := 8) B h hM cw_X4_41 ⟨Nat.le_of_ble_eq_true rfl, Nat.le_of_ble_eq_true rfl⟩ (by decide) (S_row _) rfl rfl hl.1.symm rfl (Nat.le_of_ble_eq_true rfl) dX4_isLike_9 ⟨Nat.le_of_eq (Nat.zero_add _), Nat.le_of_eq (Nat.zero_add _)⟩) h (fun H locs q ce h hc hv hcl => sE_out B htab h hc hv hcl (Nat.le_of_eq (Nat.zero_add _)) (Nat.le_of_eq (Nat.zero_add _)))
  have hM := ok_X4_mapAt (D := D) (cy := cy) B.2.2.2.2.2.2.2.2 B.2.2.2.2.2.2.1 X _ v2 hq3
  refine sRetC1 (g_runV (o := .inr (some (.ref (ad tr3)))) (mc := 0) (ms := 0) (k := 0) (T := TX4) (N := 8) B h hM cw_X4_41 ⟨Nat.le_of_ble_eq_true rfl, Nat.le_of_ble_eq_true rfl⟩ (by decide) (S_row _) rfl rfl hl.1.symm rfl (Nat.le_of_ble_eq_true rfl) dX4_isLike_9 ⟨Nat.zero_le _, Nat.zero_le _⟩) h (fun H locs h => ?_)
  obtain ⟨c4, hf⟩ := chk_some hf
  obtain ⟨vr5, hq5, hf⟩ := rthn_some hf
  refine sRetC1 (g_runV (k := tr1) (T := TX2) (N := 3) B h (ok_X2_isSame B.2.2.2.2.2.2.2.2 B.2.2.2.2.2.2.1 _ _ (isTb_T c2) (isTb_T c4) hq5) cw_X4_116 ⟨Nat.le_of_ble_eq_true rfl, Nat.le_of_ble_eq_true rfl⟩ (T_lt (isTb_T c2)) (T_row (isTb_T c2) _) rfl rfl hl.1.symm rfl (Nat.le_of_ble_eq_true rfl) dX4_isLike_12 ⟨Nat.zero_le _, Nat.zero_le _⟩) h (fun H locs h => ?_)
  obtain ⟨c6, hf⟩ := chk_some hf
  obtain ⟨rfl, rfl⟩ := Prod.mk.inj (Option.some.inj hf)
  exact sE_z B hr h (isb_n c6) dX4_isLike_15
set_option maxRecDepth 100000 in
theorem ok_X4_isLike {l : Launch} (hl0 : l.stackTraces = false) {D : va_G} {cy : Nat → ClassId} {ad : Nat → Nat} (hap : sAp ad) (X : sX) (σ : sM) (v1 : Int32) (v2 : Int32) {oo : String ⊕ Int32} {σ' : sM} (hf : f_X4_isLike v1 v2 σ = some (oo, σ')) : sMet l yX4_isLike (sWs yX4_isLike cX4_isLike 4 (some .boolean)) 7 121 (sC (oI oo)) (sS (oI oo)) D cy ad X σ [.ref (ad 0), .int v1, .int v2] (oI oo) X σ' := by
  refine sMet_of (by decide +kernel) (Nat.le_of_ble_eq_true rfl) hap hl0 ?_
  intro p e s m args below meth c ls B hr htab hl h
  exact k_X4_isLike_0 B hr htab _ _ _  hf _ _ _ h hl
set_option maxHeartbeats 4000000 in
set_option maxRecDepth 100000 in
theorem k_X4_isNearWay_0 {p : Program} {l : Launch} {e : Env} {s : State} {m : MethodId} {args : Array Value} {below : List Frame} {meth : Method} {c : Code} {D : va_G} {cy : Nat → ClassId} {ad : Nat → Nat} {X : sX} {r : Int32} (B : sB p l s m meth c args cX4_isNearWay 1 RX4 D cy ad) (hr : meth.sig.returnType = (some .boolean)) (v0 : Int32) (σ : sM) (hf : f_X4_isNearWay v0 σ = some r) : sGo p l e { frames := 0, cells := 0, slots := 0, locals := 0 } s m args below meth c D cy ad X 1 (sQ below args s 0 0 D cy ad (.inr (some (.int r))) X σ) σ 0 [(0, .int v0)] [] := by
  replace hf : (if v0 = (102 : Int32) then (some (1 : Int32)) else (if v0 = (99 : Int32) then (some (1 : Int32)) else (if v0 = (104 : Int32) then (some (1 : Int32)) else (if v0 = (108 : Int32) then (some (1 : Int32)) else (some (0 : Int32)))))) = some r := hf
  intro H locs ls h hl
  have hx := B.1
  have hb := B.2.1
  refine lv_iload_n hx hb dX4_isNearWay_0 rfl (lv_at hl 0 rfl) ?_
  refine lv_bipush (v := (102 : Int32)) hx hb dX4_isNearWay_1 (by decide) ?_
  refine lv_icmp_eq (tgt := 24) hx hb dX4_isNearWay_3 (by decide) (fun c1 => ?_) (fun c1 => ?_)
  · rw [if_pos c1] at hf
    refine lv_iconst (v := (1 : Int32)) hx hb dX4_isNearWay_24 (by decide) ?_
    refine lv_goto (tgt := 29) hx hb dX4_isNearWay_25 (by decide) ?_
    obtain rfl := Option.some.inj hf
    exact sE_z B hr h rfl dX4_isNearWay_29
  · rw [if_neg c1] at hf
    refine lv_iload_n hx hb dX4_isNearWay_6 rfl (lv_at hl 0 rfl) ?_
    refine lv_bipush (v := (99 : Int32)) hx hb dX4_isNearWay_7 (by decide) ?_
    refine lv_icmp_eq (tgt := 24) hx hb dX4_isNearWay_9 (by decide) (fun c2 => ?_) (fun c2 => ?_)
    · rw [if_pos c2] at hf
      refine lv_iconst (v := (1 : Int32)) hx hb dX4_isNearWay_24 (by decide) ?_
      refine lv_goto (tgt := 29) hx hb dX4_isNearWay_25 (by decide) ?_
      obtain rfl := Option.some.inj hf
      exact sE_z B hr h rfl dX4_isNearWay_29
    · rw [if_neg c2] at hf
      refine lv_iload_n hx hb dX4_isNearWay_12 rfl (lv_at hl 0 rfl) ?_
      refine lv_bipush (v := (104 : Int32)) hx hb dX4_isNearWay_13 (by decide) ?_
      refine lv_icmp_eq (tgt := 24) hx hb dX4_isNearWay_15 (by decide) (fun c3 => ?_) (fun c3 => ?_)
      · rw [if_pos c3] at hf
        refine lv_iconst (v := (1 : Int32)) hx hb dX4_isNearWay_24 (by decide) ?_
        refine lv_goto (tgt := 29) hx hb dX4_isNearWay_25 (by decide) ?_
        obtain rfl := Option.some.inj hf
        exact sE_z B hr h rfl dX4_isNearWay_29
      · rw [if_neg c3] at hf
        refine lv_iload_n hx hb dX4_isNearWay_18 rfl (lv_at hl 0 rfl) ?_
        refine lv_bipush (v := (108 : Int32)) hx hb dX4_isNearWay_19 (by decide) ?_
        refine lv_icmp_ne (tgt := 28) hx hb dX4_isNearWay_21 (by decide) (fun c4 => ?_) (fun c4 => ?_)
        · rw [if_neg c4] at hf
          refine lv_iconst (v := (0 : Int32)) hx hb dX4_isNearWay_28 (by decide) ?_
          obtain rfl := Option.some.inj hf
          exact sE_z B hr h rfl dX4_isNearWay_29
        · rw [if_pos c4] at hf
          refine lv_iconst (v := (1 : Int32)) hx hb dX4_isNearWay_24 (by decide) ?_
          refine lv_goto (tgt := 29) hx hb dX4_isNearWay_25 (by decide) ?_
          obtain rfl := Option.some.inj hf
          exact sE_z B hr h rfl dX4_isNearWay_29
set_option maxRecDepth 100000 in
theorem ok_X4_isNearWay {l : Launch} (hl0 : l.stackTraces = false) {D : va_G} {cy : Nat → ClassId} {ad : Nat → Nat} (hap : sAp ad) (X : sX) (σ : sM) (v0 : Int32) {r : Int32} (hf : f_X4_isNearWay v0 σ = some r) : sMet l yX4_isNearWay (sWs yX4_isNearWay cX4_isNearWay 1 (some .boolean)) 0 0 0 0 D cy ad X σ [.int v0] (.inr (some (.int r))) X σ := by
  refine sMet_of (by decide +kernel) (Nat.le_of_ble_eq_true rfl) hap hl0 ?_
  intro p e s m args below meth c ls B hr htab hl h
  exact k_X4_isNearWay_0 B hr _ _  hf _ _ _ h hl
set_option maxHeartbeats 4000000 in
set_option maxRecDepth 100000 in
theorem k_X4_isSound_0 {p : Program} {l : Launch} {e : Env} {s : State} {m : MethodId} {args : Array Value} {below : List Frame} {meth : Method} {c : Code} {D : va_G} {cy : Nat → ClassId} {ad : Nat → Nat} {X : sX} {r : Int32} {σ' : sM} (B : sB p l s m meth c args cX4_isSound 1 RX4 D cy ad) (hr : meth.sig.returnType = (some .boolean)) (σ : sM) (hf : f_X4_isSound σ = some (r, σ')) : sGo p l e { frames := 7, cells := 0, slots := 0, locals := 245 } s m args below meth c D cy ad X 1 (sQ below args s 0 0 D cy ad (.inr (some (.int r))) X σ') σ 0 [(0, .ref (ad 0))] [] := by
  replace hf : (wthn (f_X4_areMapsSound σ) (fun vr1 σ1 => if vr1 = 0 then (some ((0 : Int32), σ1)) else (rthn (f_X4_areViewsSound σ1) (fun vr3 => if vr3 = 0 then (some ((0 : Int32), σ1)) else (wthn (f_X4_areOrdersFree σ1) (fun vr5 σ5 => if vr5 = 0 then (some ((0 : Int32), σ5)) else (wthn (f_X4_areOppositesSound σ5) (fun vr7 σ7 => if vr7 = 0 then (some ((0 : Int32), σ7)) else (wthn (f_X4_areMixesSound σ7) (fun vr9 σ9 => if vr9 = 0 then (some ((0 : Int32), σ9)) else (some ((1 : Int32), σ9)))))))))))) = some (r, σ') := hf
  intro H locs ls h hl
  have hx := B.1
  have hb := B.2.1
  refine lv_aload_n hx hb dX4_isSound_0 rfl (lv_at hl 0 rfl) ?_
  obtain ⟨vr1, σ1, hq1, hf⟩ := wthn_some hf
  refine sRetC1 (g_runV (k := 0) (T := TX4) (N := 8) B h (ok_X4_areMapsSound B.2.2.2.2.2.2.2.2 B.2.2.2.2.2.2.1 _ _  hq1) cw_X4_241 ⟨Nat.le_of_ble_eq_true rfl, Nat.le_of_ble_eq_true rfl⟩ (by decide) (S_row _) rfl rfl hl.1.symm rfl (Nat.le_of_ble_eq_true rfl) dX4_isSound_1 ⟨Nat.zero_le _, Nat.zero_le _⟩) h (fun H locs h => ?_)
  refine lv_if_eq (tgt := 39) hx hb dX4_isSound_4 (by decide) (fun c2 => ?_) (fun c2 => ?_)
  · rw [if_pos c2] at hf
    refine lv_iconst (v := (0 : Int32)) hx hb dX4_isSound_39 (by decide) ?_
    obtain ⟨rfl, rfl⟩ := Prod.mk.inj (Option.some.inj hf)
    exact sE_z B hr h rfl dX4_isSound_40
  · rw [if_neg c2] at hf
    refine lv_aload_n hx hb dX4_isSound_7 rfl (lv_at hl 0 rfl) ?_
    obtain ⟨vr3, hq3, hf⟩ := rthn_some hf
    refine sRetC1 (g_runV (k := 0) (T := TX4) (N := 8) B h (ok_X4_areViewsSound B.2.2.2.2.2.2.2.2 B.2.2.2.2.2.2.1 _ _  hq3) cw_X4_245 ⟨Nat.le_of_ble_eq_true rfl, Nat.le_of_ble_eq_true rfl⟩ (by decide) (S_row _) rfl rfl hl.1.symm rfl (Nat.le_of_ble_eq_true rfl) dX4_isSound_8 ⟨Nat.zero_le _, Nat.zero_le _⟩) h (fun H locs h => ?_)
    refine lv_if_eq (tgt := 39) hx hb dX4_isSound_11 (by decide) (fun c4 => ?_) (fun c4 => ?_)
    · rw [if_pos c4] at hf
      refine lv_iconst (v := (0 : Int32)) hx hb dX4_isSound_39 (by decide) ?_
      obtain ⟨rfl, rfl⟩ := Prod.mk.inj (Option.some.inj hf)
      exact sE_z B hr h rfl dX4_isSound_40
    · rw [if_neg c4] at hf
      refine lv_aload_n hx hb dX4_isSound_14 rfl (lv_at hl 0 rfl) ?_
      obtain ⟨vr5, σ5, hq5, hf⟩ := wthn_some hf
      refine sRetC1 (g_runV (k := 0) (T := TX4) (N := 8) B h (ok_X4_areOrdersFree B.2.2.2.2.2.2.2.2 B.2.2.2.2.2.2.1 _ _  hq5) cw_X4_248 ⟨Nat.le_of_ble_eq_true rfl, Nat.le_of_ble_eq_true rfl⟩ (by decide) (S_row _) rfl rfl hl.1.symm rfl (Nat.le_of_ble_eq_true rfl) dX4_isSound_15 ⟨Nat.zero_le _, Nat.zero_le _⟩) h (fun H locs h => ?_)
      refine lv_if_eq (tgt := 39) hx hb dX4_isSound_18 (by decide) (fun c6 => ?_) (fun c6 => ?_)
      · rw [if_pos c6] at hf
        refine lv_iconst (v := (0 : Int32)) hx hb dX4_isSound_39 (by decide) ?_
        obtain ⟨rfl, rfl⟩ := Prod.mk.inj (Option.some.inj hf)
        exact sE_z B hr h rfl dX4_isSound_40
      · rw [if_neg c6] at hf
        refine lv_aload_n hx hb dX4_isSound_21 rfl (lv_at hl 0 rfl) ?_
        obtain ⟨vr7, σ7, hq7, hf⟩ := wthn_some hf
        refine sRetC1 (g_runV (k := 0) (T := TX4) (N := 8) B h (ok_X4_areOppositesSound B.2.2.2.2.2.2.2.2 B.2.2.2.2.2.2.1 _ _  hq7) cw_X4_251 ⟨Nat.le_of_ble_eq_true rfl, Nat.le_of_ble_eq_true rfl⟩ (by decide) (S_row _) rfl rfl hl.1.symm rfl (Nat.le_of_ble_eq_true rfl) dX4_isSound_22 ⟨Nat.zero_le _, Nat.zero_le _⟩) h (fun H locs h => ?_)
        refine lv_if_eq (tgt := 39) hx hb dX4_isSound_25 (by decide) (fun c8 => ?_) (fun c8 => ?_)
        · rw [if_pos c8] at hf
          refine lv_iconst (v := (0 : Int32)) hx hb dX4_isSound_39 (by decide) ?_
          obtain ⟨rfl, rfl⟩ := Prod.mk.inj (Option.some.inj hf)
          exact sE_z B hr h rfl dX4_isSound_40
        · rw [if_neg c8] at hf
          refine lv_aload_n hx hb dX4_isSound_28 rfl (lv_at hl 0 rfl) ?_
          obtain ⟨vr9, σ9, hq9, hf⟩ := wthn_some hf
          refine sRetC1 (g_runV (k := 0) (T := TX4) (N := 8) B h (ok_X4_areMixesSound B.2.2.2.2.2.2.2.2 B.2.2.2.2.2.2.1 _ _  hq9) cw_X4_254 ⟨Nat.le_of_ble_eq_true rfl, Nat.le_of_ble_eq_true rfl⟩ (by decide) (S_row _) rfl rfl hl.1.symm rfl (Nat.le_of_ble_eq_true rfl) dX4_isSound_29 ⟨Nat.zero_le _, Nat.zero_le _⟩) h (fun H locs h => ?_)
          refine lv_if_eq (tgt := 39) hx hb dX4_isSound_32 (by decide) (fun c10 => ?_) (fun c10 => ?_)
          · rw [if_pos c10] at hf
            refine lv_iconst (v := (0 : Int32)) hx hb dX4_isSound_39 (by decide) ?_
            obtain ⟨rfl, rfl⟩ := Prod.mk.inj (Option.some.inj hf)
            exact sE_z B hr h rfl dX4_isSound_40
          · rw [if_neg c10] at hf
            refine lv_iconst (v := (1 : Int32)) hx hb dX4_isSound_35 (by decide) ?_
            refine lv_goto (tgt := 40) hx hb dX4_isSound_36 (by decide) ?_
            obtain ⟨rfl, rfl⟩ := Prod.mk.inj (Option.some.inj hf)
            exact sE_z B hr h rfl dX4_isSound_40
set_option maxRecDepth 100000 in
theorem ok_X4_isSound {l : Launch} (hl0 : l.stackTraces = false) {D : va_G} {cy : Nat → ClassId} {ad : Nat → Nat} (hap : sAp ad) (X : sX) (σ : sM) {r : Int32} {σ' : sM} (hf : f_X4_isSound σ = some (r, σ')) : sMet l yX4_isSound (sWs yX4_isSound cX4_isSound 1 (some .boolean)) 7 245 0 0 D cy ad X σ [.ref (ad 0)] (.inr (some (.int r))) X σ' := by
  refine sMet_of (by decide +kernel) (Nat.le_of_ble_eq_true rfl) hap hl0 ?_
  intro p e s m args below meth c ls B hr htab hl h
  exact k_X4_isSound_0 B hr  _  hf _ _ _ h hl
set_option maxHeartbeats 4000000 in
set_option maxRecDepth 100000 in
theorem k_X4_isStepKind_0 {p : Program} {l : Launch} {e : Env} {s : State} {m : MethodId} {args : Array Value} {below : List Frame} {meth : Method} {c : Code} {D : va_G} {cy : Nat → ClassId} {ad : Nat → Nat} {X : sX} {r : Int32} (B : sB p l s m meth c args cX4_isStepKind 1 RX4 D cy ad) (hr : meth.sig.returnType = (some .boolean)) (v0 : Int32) (σ : sM) (hf : f_X4_isStepKind v0 σ = some r) : sGo p l e { frames := 0, cells := 0, slots := 0, locals := 0 } s m args below meth c D cy ad X 1 (sQ below args s 0 0 D cy ad (.inr (some (.int r))) X σ) σ 0 [(0, .int v0)] [] := by
  replace hf : (if v0 = (112 : Int32) then (some (1 : Int32)) else (if v0 = (114 : Int32) then (some (1 : Int32)) else (if v0 = (115 : Int32) then (some (1 : Int32)) else (if v0 = (97 : Int32) then (some (1 : Int32)) else (if v0 = (120 : Int32) then (some (1 : Int32)) else (some (0 : Int32))))))) = some r := hf
  intro H locs ls h hl
  have hx := B.1
  have hb := B.2.1
  refine lv_iload_n hx hb dX4_isStepKind_0 rfl (lv_at hl 0 rfl) ?_
  refine lv_bipush (v := (112 : Int32)) hx hb dX4_isStepKind_1 (by decide) ?_
  refine lv_icmp_eq (tgt := 30) hx hb dX4_isStepKind_3 (by decide) (fun c1 => ?_) (fun c1 => ?_)
  · rw [if_pos c1] at hf
    refine lv_iconst (v := (1 : Int32)) hx hb dX4_isStepKind_30 (by decide) ?_
    refine lv_goto (tgt := 35) hx hb dX4_isStepKind_31 (by decide) ?_
    obtain rfl := Option.some.inj hf
    exact sE_z B hr h rfl dX4_isStepKind_35
  · rw [if_neg c1] at hf
    refine lv_iload_n hx hb dX4_isStepKind_6 rfl (lv_at hl 0 rfl) ?_
    refine lv_bipush (v := (114 : Int32)) hx hb dX4_isStepKind_7 (by decide) ?_
    refine lv_icmp_eq (tgt := 30) hx hb dX4_isStepKind_9 (by decide) (fun c2 => ?_) (fun c2 => ?_)
    · rw [if_pos c2] at hf
      refine lv_iconst (v := (1 : Int32)) hx hb dX4_isStepKind_30 (by decide) ?_
      refine lv_goto (tgt := 35) hx hb dX4_isStepKind_31 (by decide) ?_
      obtain rfl := Option.some.inj hf
      exact sE_z B hr h rfl dX4_isStepKind_35
    · rw [if_neg c2] at hf
      refine lv_iload_n hx hb dX4_isStepKind_12 rfl (lv_at hl 0 rfl) ?_
      refine lv_bipush (v := (115 : Int32)) hx hb dX4_isStepKind_13 (by decide) ?_
      refine lv_icmp_eq (tgt := 30) hx hb dX4_isStepKind_15 (by decide) (fun c3 => ?_) (fun c3 => ?_)
      · rw [if_pos c3] at hf
        refine lv_iconst (v := (1 : Int32)) hx hb dX4_isStepKind_30 (by decide) ?_
        refine lv_goto (tgt := 35) hx hb dX4_isStepKind_31 (by decide) ?_
        obtain rfl := Option.some.inj hf
        exact sE_z B hr h rfl dX4_isStepKind_35
      · rw [if_neg c3] at hf
        refine lv_iload_n hx hb dX4_isStepKind_18 rfl (lv_at hl 0 rfl) ?_
        refine lv_bipush (v := (97 : Int32)) hx hb dX4_isStepKind_19 (by decide) ?_
        refine lv_icmp_eq (tgt := 30) hx hb dX4_isStepKind_21 (by decide) (fun c4 => ?_) (fun c4 => ?_)
        · rw [if_pos c4] at hf
          refine lv_iconst (v := (1 : Int32)) hx hb dX4_isStepKind_30 (by decide) ?_
          refine lv_goto (tgt := 35) hx hb dX4_isStepKind_31 (by decide) ?_
          obtain rfl := Option.some.inj hf
          exact sE_z B hr h rfl dX4_isStepKind_35
        · rw [if_neg c4] at hf
          refine lv_iload_n hx hb dX4_isStepKind_24 rfl (lv_at hl 0 rfl) ?_
          refine lv_bipush (v := (120 : Int32)) hx hb dX4_isStepKind_25 (by decide) ?_
          refine lv_icmp_ne (tgt := 34) hx hb dX4_isStepKind_27 (by decide) (fun c5 => ?_) (fun c5 => ?_)
          · rw [if_neg c5] at hf
            refine lv_iconst (v := (0 : Int32)) hx hb dX4_isStepKind_34 (by decide) ?_
            obtain rfl := Option.some.inj hf
            exact sE_z B hr h rfl dX4_isStepKind_35
          · rw [if_pos c5] at hf
            refine lv_iconst (v := (1 : Int32)) hx hb dX4_isStepKind_30 (by decide) ?_
            refine lv_goto (tgt := 35) hx hb dX4_isStepKind_31 (by decide) ?_
            obtain rfl := Option.some.inj hf
            exact sE_z B hr h rfl dX4_isStepKind_35
set_option maxRecDepth 100000 in
theorem ok_X4_isStepKind {l : Launch} (hl0 : l.stackTraces = false) {D : va_G} {cy : Nat → ClassId} {ad : Nat → Nat} (hap : sAp ad) (X : sX) (σ : sM) (v0 : Int32) {r : Int32} (hf : f_X4_isStepKind v0 σ = some r) : sMet l yX4_isStepKind (sWs yX4_isStepKind cX4_isStepKind 1 (some .boolean)) 0 0 0 0 D cy ad X σ [.int v0] (.inr (some (.int r))) X σ := by
  refine sMet_of (by decide +kernel) (Nat.le_of_ble_eq_true rfl) hap hl0 ?_
  intro p e s m args below meth c ls B hr htab hl h
  exact k_X4_isStepKind_0 B hr _ _  hf _ _ _ h hl
set_option maxHeartbeats 4000000 in
set_option maxRecDepth 100000 in
theorem k_X4_keyAt_0 {p : Program} {l : Launch} {e : Env} {s : State} {m : MethodId} {args : Array Value} {below : List Frame} {meth : Method} {c : Code} {D : va_G} {cy : Nat → ClassId} {ad : Nat → Nat} {X : sX} {oo : String ⊕ Int32} {σ' : sM} (B : sB p l s m meth c args cX4_keyAt 5 RX4 D cy ad) (hr : meth.sig.returnType = (some .int)) (htab : ∀ x ∈ c.exceptionTable.toList, False) (v1 : Int32) (v2 : Int32) (v3 : Int32) (σ : sM) (hf : f_X4_keyAt v1 v2 v3 σ = some (oo, σ')) : sGo p l e { frames := 7, cells := (sC (oI oo)), slots := (sS (oI oo)), locals := 121 } s m args below meth c D cy ad X 5 (sQ below args s (sC (oI oo)) (sS (oI oo)) D cy ad (oI oo) X σ') σ 0 [(0, .ref (ad 0)), (1, .int v1), (2, .int v2), (3, .int v3)] [] := by
  replace hf : (thn (f_X4_mapAt v1 σ) (fun tr1 σ1 => chk (isTb tr1) (if v2 < 0 then (some (.inl "java/lang/IndexOutOfBoundsException", σ1)) else (if v2 < (σ1 tr1 2) then (if v3 = 0 then (chk (inb v2 120) (some (.inr (σ1 (tr1 + 1) (v2).toNatClampNeg), σ1))) else (chk (inb (((σ1 tr1 2) - (1 : Int32)) - v2) 120) (some (.inr (σ1 (tr1 + 1) ((((σ1 tr1 2) - (1 : Int32)) - v2)).toNatClampNeg), σ1)))) else (some (.inl "java/lang/IndexOutOfBoundsException", σ1)))))) = some (oo, σ') := hf
  intro H locs ls h hl
  have hx := B.1
  have hb := B.2.1
  refine lv_aload_n hx hb dX4_keyAt_0 rfl (lv_at hl 0 rfl) ?_
  refine lv_iload_n hx hb dX4_keyAt_1 rfl (lv_at hl 1 rfl) ?_
  rcases thn_cases hf with ⟨E1, σ1, hq1, ho⟩ | ⟨tr1, σ1, hq1, hf⟩
  · cases ho
    have hM := ok_X4_mapAt (D := D) (cy := cy) B.2.2.2.2.2.2.2.2 B.2.2.2.2.2.2.1 X _ v1 hq1
    exact sThrC (g_runV (o := .inl E1) (mc := 1) (ms := 6) (k := 0) (T := TX4) (N := 8) B h hM cw_X4_41 ⟨Nat.le_of_ble_eq_true rfl, Nat.le_of_ble_eq_true rfl⟩ (by decide) (S_row _) rfl rfl hl.1.symm rfl (Nat.le_of_ble_eq_true rfl) dX4_keyAt_2 ⟨Nat.le_of_eq (Nat.zero_add _), Nat.le_of_eq (Nat.zero_add _)⟩) h (fun H locs q ce h hc hv hcl => sE_out B htab h hc hv hcl (Nat.le_of_eq (Nat.zero_add _)) (Nat.le_of_eq (Nat.zero_add _)))
  have hM := ok_X4_mapAt (D := D) (cy := cy) B.2.2.2.2.2.2.2.2 B.2.2.2.2.2.2.1 X _ v1 hq1
  refine sRetC1 (g_runV (o := .inr (some (.ref (ad tr1)))) (mc := 0) (ms := 0) (k := 0) (T := TX4) (N := 8) B h hM cw_X4_41 ⟨Nat.le_of_ble_eq_true rfl, Nat.le_of_ble_eq_true rfl⟩ (by decide) (S_row _) rfl rfl hl.1.symm rfl (Nat.le_of_ble_eq_true rfl) dX4_keyAt_2 ⟨Nat.zero_le _, Nat.zero_le _⟩) h (fun H locs h => ?_)
  obtain ⟨c2, hf⟩ := chk_some hf
  refine lv_astore (lv' := [(4, .ref (ad tr1)), (0, .ref (ad 0)), (1, .int v1), (2, .int v2), (3, .int v3)]) hx hb dX4_keyAt_5 hl (by decide) rfl (fun ls hl => ?_)
  refine lv_iload_n hx hb dX4_keyAt_7 rfl (lv_at hl 3 rfl) ?_
  refine lv_if_lt (tgt := 20) hx hb dX4_keyAt_8 (by decide) (fun c3 => ?_) (fun c3 => ?_)
  · rw [if_pos c3] at hf
    obtain ⟨rfl, rfl⟩ := Prod.mk.inj (Option.some.inj hf)
    exact sE_thr (own := RX4) (E := "java/lang/IndexOutOfBoundsException") (text := "no such place in the map") (ic := 113) B htab h hl.1.symm ["java/lang/RuntimeException", "java/lang/Exception"] (by decide +kernel) (by decide +kernel) hw431 hw10 (by decide +kernel) (by decide +kernel) at_X4_113_g at_X4_113_n at_X4_113_o dX4_keyAt_20 dX4_keyAt_23 dX4_keyAt_24 dX4_keyAt_26 dX4_keyAt_29 (Nat.le_of_ble_eq_true rfl) (Nat.le_of_ble_eq_true rfl) (Nat.le_of_eq (Nat.zero_add _)) (Nat.le_of_eq (Nat.zero_add _)) (Nat.le_of_eq (Nat.zero_add _)) (Nat.le_of_eq (Nat.zero_add _))
  · rw [if_neg c3] at hf
    refine lv_iload_n hx hb dX4_keyAt_11 rfl (lv_at hl 3 rfl) ?_
    refine lv_aload hx hb dX4_keyAt_12 (lv_at hl 0 rfl) ?_
    refine g_get B h tr1 (T_lt (isTb_T c2)) (C := RX2) (T := TX2) (N := 3) (T_row (isTb_T c2) _) rfl hin_X2 2 (by decide) hw53 rfl rfl dX4_keyAt_14 ?_
    refine lv_icmp_lt (tgt := 30) hx hb dX4_keyAt_17 (by decide) (fun c4 => ?_) (fun c4 => ?_)
    · rw [if_pos c4] at hf
      refine lv_aload hx hb dX4_keyAt_30 (lv_at hl 0 rfl) ?_
      refine g_get B h tr1 (T_lt (isTb_T c2)) (C := RX2) (T := TX2) (N := 3) (T_row (isTb_T c2) _) rfl hin_X2 0 (by decide) hw47 rfl rfl dX4_keyAt_32 ?_
      refine lv_iload_n hx hb dX4_keyAt_35 rfl (lv_at hl 4 rfl) ?_
      refine lv_if_eq (tgt := 51) hx hb dX4_keyAt_36 (by decide) (fun c5 => ?_) (fun c5 => ?_)
      · rw [if_pos c5] at hf
        refine lv_iload_n hx hb dX4_keyAt_51 rfl (lv_at hl 3 rfl) ?_
        obtain ⟨c6, hf⟩ := chk_some hf
        refine g_iald B h (tr1 + 1) (T_lt1 (isTb_T c2)) (n := 120) (T_keys (isTb_T c2)) (inb_in c6) dX4_keyAt_52 ?_
        obtain ⟨rfl, rfl⟩ := Prod.mk.inj (Option.some.inj hf)
        exact sE_i B hr h dX4_keyAt_53
      · rw [if_neg c5] at hf
        refine lv_aload hx hb dX4_keyAt_39 (lv_at hl 0 rfl) ?_
        refine g_get B h tr1 (T_lt (isTb_T c2)) (C := RX2) (T := TX2) (N := 3) (T_row (isTb_T c2) _) rfl hin_X2 2 (by decide) hw53 rfl rfl dX4_keyAt_41 ?_
        refine lv_iconst (v := (1 : Int32)) hx hb dX4_keyAt_44 (by decide) ?_
        refine lv_isub hx hb dX4_keyAt_45 ?_
        refine lv_iload_n hx hb dX4_keyAt_46 rfl (lv_at hl 3 rfl) ?_
        refine lv_isub hx hb dX4_keyAt_47 ?_
        refine lv_goto (tgt := 52) hx hb dX4_keyAt_48 (by decide) ?_
        obtain ⟨c7, hf⟩ := chk_some hf
        refine g_iald B h (tr1 + 1) (T_lt1 (isTb_T c2)) (n := 120) (T_keys (isTb_T c2)) (inb_in c7) dX4_keyAt_52 ?_
        obtain ⟨rfl, rfl⟩ := Prod.mk.inj (Option.some.inj hf)
        exact sE_i B hr h dX4_keyAt_53
    · rw [if_neg c4] at hf
      obtain ⟨rfl, rfl⟩ := Prod.mk.inj (Option.some.inj hf)
      exact sE_thr (own := RX4) (E := "java/lang/IndexOutOfBoundsException") (text := "no such place in the map") (ic := 113) B htab h hl.1.symm ["java/lang/RuntimeException", "java/lang/Exception"] (by decide +kernel) (by decide +kernel) hw431 hw10 (by decide +kernel) (by decide +kernel) at_X4_113_g at_X4_113_n at_X4_113_o dX4_keyAt_20 dX4_keyAt_23 dX4_keyAt_24 dX4_keyAt_26 dX4_keyAt_29 (Nat.le_of_ble_eq_true rfl) (Nat.le_of_ble_eq_true rfl) (Nat.le_of_eq (Nat.zero_add _)) (Nat.le_of_eq (Nat.zero_add _)) (Nat.le_of_eq (Nat.zero_add _)) (Nat.le_of_eq (Nat.zero_add _))
set_option maxRecDepth 100000 in
theorem ok_X4_keyAt {l : Launch} (hl0 : l.stackTraces = false) {D : va_G} {cy : Nat → ClassId} {ad : Nat → Nat} (hap : sAp ad) (X : sX) (σ : sM) (v1 : Int32) (v2 : Int32) (v3 : Int32) {oo : String ⊕ Int32} {σ' : sM} (hf : f_X4_keyAt v1 v2 v3 σ = some (oo, σ')) : sMet l yX4_keyAt (sWs yX4_keyAt cX4_keyAt 5 (some .int)) 7 121 (sC (oI oo)) (sS (oI oo)) D cy ad X σ [.ref (ad 0), .int v1, .int v2, .int v3] (oI oo) X σ' := by
  refine sMet_of (by decide +kernel) (Nat.le_of_ble_eq_true rfl) hap hl0 ?_
  intro p e s m args below meth c ls B hr htab hl h
  exact k_X4_keyAt_0 B hr htab _ _ _ _  hf _ _ _ h hl
set_option maxHeartbeats 4000000 in
set_option maxRecDepth 100000 in
theorem k_X4_lies_0 {p : Program} {l : Launch} {e : Env} {s : State} {m : MethodId} {args : Array Value} {below : List Frame} {meth : Method} {c : Code} {D : va_G} {cy : Nat → ClassId} {ad : Nat → Nat} {X : sX} {oo : String ⊕ Int32} {σ' : sM} (B : sB p l s m meth c args cX4_lies 4 RX4 D cy ad) (hr : meth.sig.returnType = (some .boolean)) (htab : ∀ x ∈ c.exceptionTable.toList, False) (v1 : Int32) (v2 : Int32) (σ : sM) (hf : f_X4_lies v1 v2 σ = some (oo, σ')) : sGo p l e { frames := 7, cells := (sC (oI oo)), slots := (sS (oI oo)), locals := 121 } s m args below meth c D cy ad X 4 (sQ below args s (sC (oI oo)) (sS (oI oo)) D cy ad (oI oo) X σ') σ 0 [(0, .ref (ad 0)), (1, .int v1), (2, .int v2)] [] := by
  replace hf : (thn (f_X4_viewAt v1 σ) (fun tr1 σ1 => chk (isVb tr1) (thn (f_X4_refuseClosed tr1 σ1) (fun _ σ3 => rthn (f_X3_covers tr1 v2 σ3) (fun vr4 => chk (isb vr4) (some (.inr vr4, σ3))))))) = some (oo, σ') := hf
  intro H locs ls h hl
  have hx := B.1
  have hb := B.2.1
  refine lv_aload_n hx hb dX4_lies_0 rfl (lv_at hl 0 rfl) ?_
  refine lv_iload_n hx hb dX4_lies_1 rfl (lv_at hl 1 rfl) ?_
  rcases thn_cases hf with ⟨E1, σ1, hq1, ho⟩ | ⟨tr1, σ1, hq1, hf⟩
  · cases ho
    have hM := ok_X4_viewAt (D := D) (cy := cy) B.2.2.2.2.2.2.2.2 B.2.2.2.2.2.2.1 X _ v1 hq1
    exact sThrC (g_runV (o := .inl E1) (mc := 1) (ms := 6) (k := 0) (T := TX4) (N := 8) B h hM cw_X4_120 ⟨Nat.le_of_ble_eq_true rfl, Nat.le_of_ble_eq_true rfl⟩ (by decide) (S_row _) rfl rfl hl.1.symm rfl (Nat.le_of_ble_eq_true rfl) dX4_lies_2 ⟨Nat.le_of_eq (Nat.zero_add _), Nat.le_of_eq (Nat.zero_add _)⟩) h (fun H locs q ce h hc hv hcl => sE_out B htab h hc hv hcl (Nat.le_of_eq (Nat.zero_add _)) (Nat.le_of_eq (Nat.zero_add _)))
  have hM := ok_X4_viewAt (D := D) (cy := cy) B.2.2.2.2.2.2.2.2 B.2.2.2.2.2.2.1 X _ v1 hq1
  refine sRetC1 (g_runV (o := .inr (some (.ref (ad tr1)))) (mc := 0) (ms := 0) (k := 0) (T := TX4) (N := 8) B h hM cw_X4_120 ⟨Nat.le_of_ble_eq_true rfl, Nat.le_of_ble_eq_true rfl⟩ (by decide) (S_row _) rfl rfl hl.1.symm rfl (Nat.le_of_ble_eq_true rfl) dX4_lies_2 ⟨Nat.zero_le _, Nat.zero_le _⟩) h (fun H locs h => ?_)
  obtain ⟨c2, hf⟩ := chk_some hf
  refine lv_astore_n (lv' := [(3, .ref (ad tr1)), (0, .ref (ad 0)), (1, .int v1), (2, .int v2)]) hx hb dX4_lies_5 rfl hl (by decide) rfl (fun ls hl => ?_)
  refine lv_aload_n hx hb dX4_lies_6 rfl (lv_at hl 0 rfl) ?_
  rcases thn_cases hf with ⟨E3, σ3, hq3, ho⟩ | ⟨vr3, σ3, hq3, hf⟩
  · cases ho
    have hM := ok_X4_refuseClosed (D := D) (cy := cy) B.2.2.2.2.2.2.2.2 B.2.2.2.2.2.2.1 X _ (isVb_V c2) hq3
    exact sThrC (g_runS (o := .inl E3) (mc := 1) (ms := 6) B h hM cw_X4_134 ⟨Nat.le_of_ble_eq_true rfl, Nat.le_of_ble_eq_true rfl⟩ rfl hl.1.symm rfl (Nat.le_of_ble_eq_true rfl) dX4_lies_7 ⟨Nat.le_of_eq (Nat.zero_add _), Nat.le_of_eq (Nat.zero_add _)⟩) h (fun H locs q ce h hc hv hcl => sE_out B htab h hc hv hcl (Nat.le_of_eq (Nat.zero_add _)) (Nat.le_of_eq (Nat.zero_add _)))
  have hM := ok_X4_refuseClosed (D := D) (cy := cy) B.2.2.2.2.2.2.2.2 B.2.2.2.2.2.2.1 X _ (isVb_V c2) hq3
  refine sRetC0 (g_runS (o := .inr none) (mc := 0) (ms := 0) B h hM cw_X4_134 ⟨Nat.le_of_ble_eq_true rfl, Nat.le_of_ble_eq_true rfl⟩ rfl hl.1.symm rfl (Nat.le_of_ble_eq_true rfl) dX4_lies_7 ⟨Nat.zero_le _, Nat.zero_le _⟩) h (fun H locs h => ?_)
  refine lv_aload_n hx hb dX4_lies_10 rfl (lv_at hl 0 rfl) ?_
  refine lv_iload_n hx hb dX4_lies_11 rfl (lv_at hl 3 rfl) ?_
  obtain ⟨vr4, hq4, hf⟩ := rthn_some hf
  refine sRetC1 (g_runV (k := tr1) (T := TX3) (N := 6) B h (ok_X3_covers B.2.2.2.2.2.2.2.2 B.2.2.2.2.2.2.1 _ _ (isVb_V c2) v2 hq4) cw_X4_138 ⟨Nat.le_of_ble_eq_true rfl, Nat.le_of_ble_eq_true rfl⟩ (V_lt (isVb_V c2)) (V_row (isVb_V c2) _) rfl rfl hl.1.symm rfl (Nat.le_of_ble_eq_true rfl) dX4_lies_12 ⟨Nat.zero_le _, Nat.zero_le _⟩) h (fun H locs h => ?_)
  obtain ⟨c5, hf⟩ := chk_some hf
  obtain ⟨rfl, rfl⟩ := Prod.mk.inj (Option.some.inj hf)
  exact sE_z B hr h (isb_n c5) dX4_lies_15
set_option maxRecDepth 100000 in
theorem ok_X4_lies {l : Launch} (hl0 : l.stackTraces = false) {D : va_G} {cy : Nat → ClassId} {ad : Nat → Nat} (hap : sAp ad) (X : sX) (σ : sM) (v1 : Int32) (v2 : Int32) {oo : String ⊕ Int32} {σ' : sM} (hf : f_X4_lies v1 v2 σ = some (oo, σ')) : sMet l yX4_lies (sWs yX4_lies cX4_lies 4 (some .boolean)) 7 121 (sC (oI oo)) (sS (oI oo)) D cy ad X σ [.ref (ad 0), .int v1, .int v2] (oI oo) X σ' := by
  refine sMet_of (by decide +kernel) (Nat.le_of_ble_eq_true rfl) hap hl0 ?_
  intro p e s m args below meth c ls B hr htab hl h
  exact k_X4_lies_0 B hr htab _ _ _  hf _ _ _ h hl
set_option maxHeartbeats 4000000 in
set_option maxRecDepth 100000 in
theorem k_X4_mark_11 {p : Program} {l : Launch} {e : Env} {s : State} {m : MethodId} {args : Array Value} {below : List Frame} {meth : Method} {c : Code} {D : va_G} {cy : Nat → ClassId} {ad : Nat → Nat} {X : sX} {oo : String ⊕ Int32} {σ' : sM} (B : sB p l s m meth c args cX4_mark 5 RX4 D cy ad) (hr : meth.sig.returnType = (some .int)) (htab : ∀ x ∈ c.exceptionTable.toList, False) : ∀ (n : Nat) (t2 : Nat) (v3 : Int32) (v4 : Int32) (σ : sM) (ft2 : isT t2), b_X4_mark_11 n t2 v3 v4 σ = some (oo, σ') → sGo p l e { frames := 7, cells := (sC (oI oo)), slots := (sS (oI oo)), locals := 121 } s m args below meth c D cy ad X 5 (sQ below args s (sC (oI oo)) (sS (oI oo)) D cy ad (oI oo) X σ') σ 11 [(2, .ref (ad t2)), (3, .int v3), (4, .int v4)] [] := by
  intro n
  induction n with
  | zero =>
    intro t2 v3 v4 σ ft2 hf
    exact nomatch (show none = some (oo, σ') from hf)
  | succ n ih =>
    intro t2 v3 v4 σ ft2 hf
    replace hf : (if (σ t2 2) ≤ v4 then (some (.inr v3, σ)) else (chk (inb v4 120) (chk (inb v4 120) (b_X4_mark_11 n t2 (v3 + ((σ (t2 + 1) (v4).toNatClampNeg) ^^^ (σ (t2 + 2) (v4).toNatClampNeg))) (v4 + 1) σ)))) = some (oo, σ') := hf
    intro H locs ls h hl
    have hx := B.1
    have hb := B.2.1
    refine lv_iload hx hb dX4_mark_11 (lv_at hl 2 rfl) ?_
    refine lv_aload_n hx hb dX4_mark_13 rfl (lv_at hl 0 rfl) ?_
    refine g_get B h t2 (T_lt ft2) (C := RX2) (T := TX2) (N := 3) (T_row ft2 _) rfl hin_X2 2 (by decide) hw53 rfl rfl dX4_mark_14 ?_
    refine lv_icmp_ge (tgt := 44) hx hb dX4_mark_17 (by decide) (fun c3 => ?_) (fun c3 => ?_)
    · rw [if_pos c3] at hf
      refine lv_iload_n hx hb dX4_mark_44 rfl (lv_at hl 1 rfl) ?_
      obtain ⟨rfl, rfl⟩ := Prod.mk.inj (Option.some.inj hf)
      exact sE_i B hr h dX4_mark_45
    · rw [if_neg c3] at hf
      refine lv_iload_n hx hb dX4_mark_20 rfl (lv_at hl 1 rfl) ?_
      refine lv_aload_n hx hb dX4_mark_21 rfl (lv_at hl 0 rfl) ?_
      refine g_get B h t2 (T_lt ft2) (C := RX2) (T := TX2) (N := 3) (T_row ft2 _) rfl hin_X2 0 (by decide) hw47 rfl rfl dX4_mark_22 ?_
      refine lv_iload hx hb dX4_mark_25 (lv_at hl 2 rfl) ?_
      obtain ⟨c4, hf⟩ := chk_some hf
      refine g_iald B h (t2 + 1) (T_lt1 ft2) (n := 120) (T_keys ft2) (inb_in c4) dX4_mark_27 ?_
      refine lv_aload_n hx hb dX4_mark_28 rfl (lv_at hl 0 rfl) ?_
      refine g_get B h t2 (T_lt ft2) (C := RX2) (T := TX2) (N := 3) (T_row ft2 _) rfl hin_X2 1 (by decide) hw50 rfl rfl dX4_mark_29 ?_
      refine lv_iload hx hb dX4_mark_32 (lv_at hl 2 rfl) ?_
      obtain ⟨c5, hf⟩ := chk_some hf
      refine g_iald B h (t2 + 2) (T_lt2 ft2) (n := 120) (T_vals ft2) (inb_in c5) dX4_mark_34 ?_
      refine lv_ixor hx hb dX4_mark_35 ?_
      refine lv_iadd hx hb dX4_mark_36 ?_
      refine lv_istore_n (lv' := [(3, .int (v3 + ((σ (t2 + 1) (v4).toNatClampNeg) ^^^ (σ (t2 + 2) (v4).toNatClampNeg)))), (2, .ref (ad t2)), (4, .int v4)]) hx hb dX4_mark_37 rfl hl (by decide) rfl (fun ls hl => ?_)
      refine lv_iinc (v := (v4 + 1)) (lv' := [(4, .int (v4 + 1)), (3, .int (v3 + ((σ (t2 + 1) (v4).toNatClampNeg) ^^^ (σ (t2 + 2) (v4).toNatClampNeg)))), (2, .ref (ad t2))]) hx hb dX4_mark_38 hl (k := 2) rfl rfl (by decide) rfl (fun ls hl => ?_)
      refine lv_goto (tgt := 11) hx hb dX4_mark_41 (by decide) ?_
      exact ih _ _ _ _ ft2 hf _ _ _ h (lv_sub hl [2, 1, 0] rfl)
set_option maxHeartbeats 4000000 in
set_option maxRecDepth 100000 in
theorem k_X4_mark_0 {p : Program} {l : Launch} {e : Env} {s : State} {m : MethodId} {args : Array Value} {below : List Frame} {meth : Method} {c : Code} {D : va_G} {cy : Nat → ClassId} {ad : Nat → Nat} {X : sX} {oo : String ⊕ Int32} {σ' : sM} (B : sB p l s m meth c args cX4_mark 5 RX4 D cy ad) (hr : meth.sig.returnType = (some .int)) (htab : ∀ x ∈ c.exceptionTable.toList, False) (v1 : Int32) (σ : sM) (hf : f_X4_mark v1 σ = some (oo, σ')) : sGo p l e { frames := 7, cells := (sC (oI oo)), slots := (sS (oI oo)), locals := 121 } s m args below meth c D cy ad X 5 (sQ below args s (sC (oI oo)) (sS (oI oo)) D cy ad (oI oo) X σ') σ 0 [(0, .ref (ad 0)), (1, .int v1)] [] := by
  replace hf : (thn (f_X4_mapAt v1 σ) (fun tr1 σ1 => chk (isTb tr1) (b_X4_mark_11 FU tr1 (0 : Int32) (0 : Int32) σ1))) = some (oo, σ') := hf
  intro H locs ls h hl
  have hx := B.1
  have hb := B.2.1
  refine lv_aload_n hx hb dX4_mark_0 rfl (lv_at hl 0 rfl) ?_
  refine lv_iload_n hx hb dX4_mark_1 rfl (lv_at hl 1 rfl) ?_
  rcases thn_cases hf with ⟨E1, σ1, hq1, ho⟩ | ⟨tr1, σ1, hq1, hf⟩
  · cases ho
    have hM := ok_X4_mapAt (D := D) (cy := cy) B.2.2.2.2.2.2.2.2 B.2.2.2.2.2.2.1 X _ v1 hq1
    exact sThrC (g_runV (o := .inl E1) (mc := 1) (ms := 6) (k := 0) (T := TX4) (N := 8) B h hM cw_X4_41 ⟨Nat.le_of_ble_eq_true rfl, Nat.le_of_ble_eq_true rfl⟩ (by decide) (S_row _) rfl rfl hl.1.symm rfl (Nat.le_of_ble_eq_true rfl) dX4_mark_2 ⟨Nat.le_of_eq (Nat.zero_add _), Nat.le_of_eq (Nat.zero_add _)⟩) h (fun H locs q ce h hc hv hcl => sE_out B htab h hc hv hcl (Nat.le_of_eq (Nat.zero_add _)) (Nat.le_of_eq (Nat.zero_add _)))
  have hM := ok_X4_mapAt (D := D) (cy := cy) B.2.2.2.2.2.2.2.2 B.2.2.2.2.2.2.1 X _ v1 hq1
  refine sRetC1 (g_runV (o := .inr (some (.ref (ad tr1)))) (mc := 0) (ms := 0) (k := 0) (T := TX4) (N := 8) B h hM cw_X4_41 ⟨Nat.le_of_ble_eq_true rfl, Nat.le_of_ble_eq_true rfl⟩ (by decide) (S_row _) rfl rfl hl.1.symm rfl (Nat.le_of_ble_eq_true rfl) dX4_mark_2 ⟨Nat.zero_le _, Nat.zero_le _⟩) h (fun H locs h => ?_)
  obtain ⟨c2, hf⟩ := chk_some hf
  refine lv_astore_n (lv' := [(2, .ref (ad tr1)), (0, .ref (ad 0)), (1, .int v1)]) hx hb dX4_mark_5 rfl hl (by decide) rfl (fun ls hl => ?_)
  refine lv_iconst (v := (0 : Int32)) hx hb dX4_mark_6 (by decide) ?_
  refine lv_istore_n (lv' := [(3, .int (0 : Int32)), (2, .ref (ad tr1)), (0, .ref (ad 0)), (1, .int v1)]) hx hb dX4_mark_7 rfl hl (by decide) rfl (fun ls hl => ?_)
  refine lv_iconst (v := (0 : Int32)) hx hb dX4_mark_8 (by decide) ?_
  refine lv_istore (lv' := [(4, .int (0 : Int32)), (3, .int (0 : Int32)), (2, .ref (ad tr1)), (0, .ref (ad 0)), (1, .int v1)]) hx hb dX4_mark_9 hl (by decide) rfl (fun ls hl => ?_)
  exact k_X4_mark_11 B hr htab  _ _ _ _ _ (isTb_T c2) hf _ _ _ h (lv_sub hl [2, 1, 0] rfl)
set_option maxRecDepth 100000 in
theorem ok_X4_mark {l : Launch} (hl0 : l.stackTraces = false) {D : va_G} {cy : Nat → ClassId} {ad : Nat → Nat} (hap : sAp ad) (X : sX) (σ : sM) (v1 : Int32) {oo : String ⊕ Int32} {σ' : sM} (hf : f_X4_mark v1 σ = some (oo, σ')) : sMet l yX4_mark (sWs yX4_mark cX4_mark 5 (some .int)) 7 121 (sC (oI oo)) (sS (oI oo)) D cy ad X σ [.ref (ad 0), .int v1] (oI oo) X σ' := by
  refine sMet_of (by decide +kernel) (Nat.le_of_ble_eq_true rfl) hap hl0 ?_
  intro p e s m args below meth c ls B hr htab hl h
  exact k_X4_mark_0 B hr htab _ _  hf _ _ _ h hl
set_option maxHeartbeats 4000000 in
set_option maxRecDepth 100000 in
theorem k_X4_meanKey_28 {p : Program} {l : Launch} {e : Env} {s : State} {m : MethodId} {args : Array Value} {below : List Frame} {meth : Method} {c : Code} {D : va_G} {cy : Nat → ClassId} {ad : Nat → Nat} {X : sX} {oo : String ⊕ UInt64} {σ' : sM} (B : sB p l s m meth c args cX4_meanKey 6 RX4 D cy ad) (hr : meth.sig.returnType = (some .double)) (htab : ∀ x ∈ c.exceptionTable.toList, False) : ∀ (n : Nat) (t2 : Nat) (v3 : Int64) (v5 : Int32) (σ : sM) (ft2 : isT t2), b_X4_meanKey_28 n t2 v3 v5 σ = some (oo, σ') → sGo p l e { frames := 7, cells := (sC (oD oo)), slots := (sS (oD oo)), locals := 121 } s m args below meth c D cy ad X 6 (sQ below args s (sC (oD oo)) (sS (oD oo)) D cy ad (oD oo) X σ') σ 28 [(2, .ref (ad t2)), (3, .long v3), (5, .int v5)] [] := by
  intro n
  induction n with
  | zero =>
    intro t2 v3 v5 σ ft2 hf
    exact nomatch (show none = some (oo, σ') from hf)
  | succ n ih =>
    intro t2 v3 v5 σ ft2 hf
    replace hf : (if (σ t2 2) ≤ v5 then (chk (nn64 (FP.ddiv (FP.l2d v3) (FP.i2d (σ t2 2)))) (some (.inr (FP.ddiv (FP.l2d v3) (FP.i2d (σ t2 2))), σ))) else (chk (inb v5 120) (b_X4_meanKey_28 n t2 (v3 + ((σ (t2 + 1) (v5).toNatClampNeg).toInt64)) (v5 + 1) σ))) = some (oo, σ') := hf
    intro H locs ls h hl
    have hx := B.1
    have hb := B.2.1
    refine lv_iload hx hb dX4_meanKey_28 (lv_at hl 2 rfl) ?_
    refine lv_aload_n hx hb dX4_meanKey_30 rfl (lv_at hl 0 rfl) ?_
    refine g_get B h t2 (T_lt ft2) (C := RX2) (T := TX2) (N := 3) (T_row ft2 _) rfl hin_X2 2 (by decide) hw53 rfl rfl dX4_meanKey_31 ?_
    refine lv_icmp_ge (tgt := 54) hx hb dX4_meanKey_34 (by decide) (fun c4 => ?_) (fun c4 => ?_)
    · rw [if_pos c4] at hf
      refine lv_lload_n hx hb dX4_meanKey_54 rfl (lv_at hl 1 rfl) ?_
      refine lv_l2d hx hb dX4_meanKey_55 ?_
      refine lv_aload_n hx hb dX4_meanKey_56 rfl (lv_at hl 0 rfl) ?_
      refine g_get B h t2 (T_lt ft2) (C := RX2) (T := TX2) (N := 3) (T_row ft2 _) rfl hin_X2 2 (by decide) hw53 rfl rfl dX4_meanKey_57 ?_
      refine lv_i2d hx hb dX4_meanKey_60 ?_
      obtain ⟨c5, hf⟩ := chk_some hf
      refine lv_ddiv hx hb dX4_meanKey_61 (nn64_n c5) ?_
      obtain ⟨rfl, rfl⟩ := Prod.mk.inj (Option.some.inj hf)
      exact sE_d B hr h dX4_meanKey_62
    · rw [if_neg c4] at hf
      refine lv_lload_n hx hb dX4_meanKey_37 rfl (lv_at hl 1 rfl) ?_
      refine lv_aload_n hx hb dX4_meanKey_38 rfl (lv_at hl 0 rfl) ?_
      refine g_get B h t2 (T_lt ft2) (C := RX2) (T := TX2) (N := 3) (T_row ft2 _) rfl hin_X2 0 (by decide) hw47 rfl rfl dX4_meanKey_39 ?_
      refine lv_iload hx hb dX4_meanKey_42 (lv_at hl 2 rfl) ?_
      obtain ⟨c6, hf⟩ := chk_some hf
      refine g_iald B h (t2 + 1) (T_lt1 ft2) (n := 120) (T_keys ft2) (inb_in c6) dX4_meanKey_44 ?_
      refine lv_i2l (v := ((σ (t2 + 1) (v5).toNatClampNeg).toInt64)) hx hb dX4_meanKey_45 rfl ?_
      refine lv_ladd hx hb dX4_meanKey_46 ?_
      refine lv_lstore_n (lv' := [(3, .long (v3 + ((σ (t2 + 1) (v5).toNatClampNeg).toInt64))), (2, .ref (ad t2)), (5, .int v5)]) hx hb dX4_meanKey_47 rfl hl (by decide) rfl (fun ls hl => ?_)
      refine lv_iinc (v := (v5 + 1)) (lv' := [(5, .int (v5 + 1)), (3, .long (v3 + ((σ (t2 + 1) (v5).toNatClampNeg).toInt64))), (2, .ref (ad t2))]) hx hb dX4_meanKey_48 hl (k := 2) rfl rfl (by decide) rfl (fun ls hl => ?_)
      refine lv_goto (tgt := 28) hx hb dX4_meanKey_51 (by decide) ?_
      exact ih _ _ _ _ ft2 hf _ _ _ h (lv_sub hl [2, 1, 0] rfl)
set_option maxHeartbeats 4000000 in
set_option maxRecDepth 100000 in
theorem k_X4_meanKey_0 {p : Program} {l : Launch} {e : Env} {s : State} {m : MethodId} {args : Array Value} {below : List Frame} {meth : Method} {c : Code} {D : va_G} {cy : Nat → ClassId} {ad : Nat → Nat} {X : sX} {oo : String ⊕ UInt64} {σ' : sM} (B : sB p l s m meth c args cX4_meanKey 6 RX4 D cy ad) (hr : meth.sig.returnType = (some .double)) (htab : ∀ x ∈ c.exceptionTable.toList, False) (v1 : Int32) (σ : sM) (hf : f_X4_meanKey v1 σ = some (oo, σ')) : sGo p l e { frames := 7, cells := (sC (oD oo)), slots := (sS (oD oo)), locals := 121 } s m args below meth c D cy ad X 6 (sQ below args s (sC (oD oo)) (sS (oD oo)) D cy ad (oD oo) X σ') σ 0 [(0, .ref (ad 0)), (1, .int v1)] [] := by
  replace hf : (thn (f_X4_mapAt v1 σ) (fun tr1 σ1 => chk (isTb tr1) (if (σ1 tr1 2) = 0 then (some (.inl "java/lang/ArithmeticException", σ1)) else (b_X4_meanKey_28 FU tr1 (0 : Int64) (0 : Int32) σ1)))) = some (oo, σ') := hf
  intro H locs ls h hl
  have hx := B.1
  have hb := B.2.1
  refine lv_aload_n hx hb dX4_meanKey_0 rfl (lv_at hl 0 rfl) ?_
  refine lv_iload_n hx hb dX4_meanKey_1 rfl (lv_at hl 1 rfl) ?_
  rcases thn_cases hf with ⟨E1, σ1, hq1, ho⟩ | ⟨tr1, σ1, hq1, hf⟩
  · cases ho
    have hM := ok_X4_mapAt (D := D) (cy := cy) B.2.2.2.2.2.2.2.2 B.2.2.2.2.2.2.1 X _ v1 hq1
    exact sThrC (g_runV (o := .inl E1) (mc := 1) (ms := 6) (k := 0) (T := TX4) (N := 8) B h hM cw_X4_41 ⟨Nat.le_of_ble_eq_true rfl, Nat.le_of_ble_eq_true rfl⟩ (by decide) (S_row _) rfl rfl hl.1.symm rfl (Nat.le_of_ble_eq_true rfl) dX4_meanKey_2 ⟨Nat.le_of_eq (Nat.zero_add _), Nat.le_of_eq (Nat.zero_add _)⟩) h (fun H locs q ce h hc hv hcl => sE_out B htab h hc hv hcl (Nat.le_of_eq (Nat.zero_add _)) (Nat.le_of_eq (Nat.zero_add _)))
  have hM := ok_X4_mapAt (D := D) (cy := cy) B.2.2.2.2.2.2.2.2 B.2.2.2.2.2.2.1 X _ v1 hq1
  refine sRetC1 (g_runV (o := .inr (some (.ref (ad tr1)))) (mc := 0) (ms := 0) (k := 0) (T := TX4) (N := 8) B h hM cw_X4_41 ⟨Nat.le_of_ble_eq_true rfl, Nat.le_of_ble_eq_true rfl⟩ (by decide) (S_row _) rfl rfl hl.1.symm rfl (Nat.le_of_ble_eq_true rfl) dX4_meanKey_2 ⟨Nat.zero_le _, Nat.zero_le _⟩) h (fun H locs h => ?_)
  obtain ⟨c2, hf⟩ := chk_some hf
  refine lv_astore_n (lv' := [(2, .ref (ad tr1)), (0, .ref (ad 0)), (1, .int v1)]) hx hb dX4_meanKey_5 rfl hl (by decide) rfl (fun ls hl => ?_)
  refine lv_aload_n hx hb dX4_meanKey_6 rfl (lv_at hl 0 rfl) ?_
  refine g_get B h tr1 (T_lt (isTb_T c2)) (C := RX2) (T := TX2) (N := 3) (T_row (isTb_T c2) _) rfl hin_X2 2 (by decide) hw53 rfl rfl dX4_meanKey_7 ?_
  refine lv_if_ne (tgt := 23) hx hb dX4_meanKey_10 (by decide) (fun c3 => ?_) (fun c3 => ?_)
  · rw [if_neg c3] at hf
    refine lv_lconst (v := (0 : Int64)) hx hb dX4_meanKey_23 (by decide) ?_
    refine lv_lstore_n (lv' := [(3, .long (0 : Int64)), (2, .ref (ad tr1)), (0, .ref (ad 0)), (1, .int v1)]) hx hb dX4_meanKey_24 rfl hl (by decide) rfl (fun ls hl => ?_)
    refine lv_iconst (v := (0 : Int32)) hx hb dX4_meanKey_25 (by decide) ?_
    refine lv_istore (lv' := [(5, .int (0 : Int32)), (3, .long (0 : Int64)), (2, .ref (ad tr1)), (0, .ref (ad 0)), (1, .int v1)]) hx hb dX4_meanKey_26 hl (by decide) rfl (fun ls hl => ?_)
    exact k_X4_meanKey_28 B hr htab  _ _ _ _ _ (isTb_T c2) hf _ _ _ h (lv_sub hl [2, 1, 0] rfl)
  · rw [if_pos c3] at hf
    obtain ⟨rfl, rfl⟩ := Prod.mk.inj (Option.some.inj hf)
    exact sE_thr (own := RX4) (E := "java/lang/ArithmeticException") (text := "no mean of no keys") (ic := 232) B htab h hl.1.symm ["java/lang/RuntimeException", "java/lang/Exception"] (by decide +kernel) (by decide +kernel) hw817 hw18 (by decide +kernel) (by decide +kernel) at_X4_232_g at_X4_232_n at_X4_232_o dX4_meanKey_13 dX4_meanKey_16 dX4_meanKey_17 dX4_meanKey_19 dX4_meanKey_22 (Nat.le_of_ble_eq_true rfl) (Nat.le_of_ble_eq_true rfl) (Nat.le_of_eq (Nat.zero_add _)) (Nat.le_of_eq (Nat.zero_add _)) (Nat.le_of_eq (Nat.zero_add _)) (Nat.le_of_eq (Nat.zero_add _))
set_option maxRecDepth 100000 in
theorem ok_X4_meanKey {l : Launch} (hl0 : l.stackTraces = false) {D : va_G} {cy : Nat → ClassId} {ad : Nat → Nat} (hap : sAp ad) (X : sX) (σ : sM) (v1 : Int32) {oo : String ⊕ UInt64} {σ' : sM} (hf : f_X4_meanKey v1 σ = some (oo, σ')) : sMet l yX4_meanKey (sWs yX4_meanKey cX4_meanKey 6 (some .double)) 7 121 (sC (oD oo)) (sS (oD oo)) D cy ad X σ [.ref (ad 0), .int v1] (oD oo) X σ' := by
  refine sMet_of (by decide +kernel) (Nat.le_of_ble_eq_true rfl) hap hl0 ?_
  intro p e s m args below meth c ls B hr htab hl h
  exact k_X4_meanKey_0 B hr htab _ _  hf _ _ _ h hl
set_option maxHeartbeats 4000000 in
set_option maxRecDepth 100000 in
theorem k_X4_meet_0 {p : Program} {l : Launch} {e : Env} {s : State} {m : MethodId} {args : Array Value} {below : List Frame} {meth : Method} {c : Code} {D : va_G} {cy : Nat → ClassId} {ad : Nat → Nat} {X : sX} {oo : String ⊕ Int32} {σ' : sM} (B : sB p l s m meth c args cX4_meet 4 RX4 D cy ad) (hr : meth.sig.returnType = (some .int)) (htab : ∀ x ∈ c.exceptionTable.toList, False) (v1 : Int32) (v2 : Int32) (σ : sM) (hf : f_X4_meet v1 v2 σ = some (oo, σ')) : sGo p l e { frames := 7, cells := (sC (oI oo)), slots := (sS (oI oo)), locals := 198 } s m args below meth c D cy ad X 4 (sQ below args s (sC (oI oo)) (sS (oI oo)) D cy ad (oI oo) X σ') σ 0 [(0, .ref (ad 0)), (1, .int v1), (2, .int v2)] [] := by
  replace hf : (thn (f_X4_historyAt v1 σ) (fun tr1 σ1 => chk (isHb tr1) (thn (f_X4_historyAt v2 σ1) (fun tr3 σ3 => chk (isHb tr3) (wthn (f_X0_countCommonKeys tr1 tr3 σ3) (fun vr5 σ5 => some (.inr vr5, σ5))))))) = some (oo, σ') := hf
  intro H locs ls h hl
  have hx := B.1
  have hb := B.2.1
  refine lv_aload_n hx hb dX4_meet_0 rfl (lv_at hl 0 rfl) ?_
  refine lv_iload_n hx hb dX4_meet_1 rfl (lv_at hl 1 rfl) ?_
  rcases thn_cases hf with ⟨E1, σ1, hq1, ho⟩ | ⟨tr1, σ1, hq1, hf⟩
  · cases ho
    have hM := ok_X4_historyAt (D := D) (cy := cy) B.2.2.2.2.2.2.2.2 B.2.2.2.2.2.2.1 X _ v1 hq1
    exact sThrC (g_runV (o := .inl E1) (mc := 1) (ms := 6) (k := 0) (T := TX4) (N := 8) B h hM cw_X4_174 ⟨Nat.le_of_ble_eq_true rfl, Nat.le_of_ble_eq_true rfl⟩ (by decide) (S_row _) rfl rfl hl.1.symm rfl (Nat.le_of_ble_eq_true rfl) dX4_meet_2 ⟨Nat.le_of_eq (Nat.zero_add _), Nat.le_of_eq (Nat.zero_add _)⟩) h (fun H locs q ce h hc hv hcl => sE_out B htab h hc hv hcl (Nat.le_of_eq (Nat.zero_add _)) (Nat.le_of_eq (Nat.zero_add _)))
  have hM := ok_X4_historyAt (D := D) (cy := cy) B.2.2.2.2.2.2.2.2 B.2.2.2.2.2.2.1 X _ v1 hq1
  refine sRetC1 (g_runV (o := .inr (some (.ref (ad tr1)))) (mc := 0) (ms := 0) (k := 0) (T := TX4) (N := 8) B h hM cw_X4_174 ⟨Nat.le_of_ble_eq_true rfl, Nat.le_of_ble_eq_true rfl⟩ (by decide) (S_row _) rfl rfl hl.1.symm rfl (Nat.le_of_ble_eq_true rfl) dX4_meet_2 ⟨Nat.zero_le _, Nat.zero_le _⟩) h (fun H locs h => ?_)
  obtain ⟨c2, hf⟩ := chk_some hf
  refine lv_astore_n (lv' := [(3, .ref (ad tr1)), (0, .ref (ad 0)), (1, .int v1), (2, .int v2)]) hx hb dX4_meet_5 rfl hl (by decide) rfl (fun ls hl => ?_)
  refine lv_aload_n hx hb dX4_meet_6 rfl (lv_at hl 1 rfl) ?_
  refine g_get B h 0 (by decide) (C := RX4) (T := TX4) (N := 8) (S_row _) rfl hin_X4 3 (by decide) hw130 rfl rfl dX4_meet_7 ?_
  refine lv_aload_n hx hb dX4_meet_10 rfl (lv_at hl 0 rfl) ?_
  refine lv_aload_n hx hb dX4_meet_11 rfl (lv_at hl 1 rfl) ?_
  refine lv_iload_n hx hb dX4_meet_12 rfl (lv_at hl 3 rfl) ?_
  rcases thn_cases hf with ⟨E3, σ3, hq3, ho⟩ | ⟨tr3, σ3, hq3, hf⟩
  · cases ho
    have hM := ok_X4_historyAt (D := D) (cy := cy) B.2.2.2.2.2.2.2.2 B.2.2.2.2.2.2.1 X _ v2 hq3
    exact sThrC (g_runV (o := .inl E3) (mc := 1) (ms := 6) (k := 0) (T := TX4) (N := 8) B h hM cw_X4_174 ⟨Nat.le_of_ble_eq_true rfl, Nat.le_of_ble_eq_true rfl⟩ (by decide) (S_row _) rfl rfl hl.1.symm rfl (Nat.le_of_ble_eq_true rfl) dX4_meet_13 ⟨Nat.le_of_eq (Nat.zero_add _), Nat.le_of_eq (Nat.zero_add _)⟩) h (fun H locs q ce h hc hv hcl => sE_out B htab h hc hv hcl (Nat.le_of_eq (Nat.zero_add _)) (Nat.le_of_eq (Nat.zero_add _)))
  have hM := ok_X4_historyAt (D := D) (cy := cy) B.2.2.2.2.2.2.2.2 B.2.2.2.2.2.2.1 X _ v2 hq3
  refine sRetC1 (g_runV (o := .inr (some (.ref (ad tr3)))) (mc := 0) (ms := 0) (k := 0) (T := TX4) (N := 8) B h hM cw_X4_174 ⟨Nat.le_of_ble_eq_true rfl, Nat.le_of_ble_eq_true rfl⟩ (by decide) (S_row _) rfl rfl hl.1.symm rfl (Nat.le_of_ble_eq_true rfl) dX4_meet_13 ⟨Nat.zero_le _, Nat.zero_le _⟩) h (fun H locs h => ?_)
  obtain ⟨c4, hf⟩ := chk_some hf
  obtain ⟨vr5, σ5, hq5, hf⟩ := wthn_some hf
  refine sRetC1 (g_runV (k := 4) (T := TX0) (N := 4) B h (ok_X0_countCommonKeys B.2.2.2.2.2.2.2.2 B.2.2.2.2.2.2.1 _ _ (isHb_H c2) (isHb_H c4) hq5) cw_X4_205 ⟨Nat.le_of_ble_eq_true rfl, Nat.le_of_ble_eq_true rfl⟩ (by decide) (B_row _) rfl rfl hl.1.symm rfl (Nat.le_of_ble_eq_true rfl) dX4_meet_16 ⟨Nat.zero_le _, Nat.zero_le _⟩) h (fun H locs h => ?_)
  obtain ⟨rfl, rfl⟩ := Prod.mk.inj (Option.some.inj hf)
  exact sE_i B hr h dX4_meet_19
set_option maxRecDepth 100000 in
theorem ok_X4_meet {l : Launch} (hl0 : l.stackTraces = false) {D : va_G} {cy : Nat → ClassId} {ad : Nat → Nat} (hap : sAp ad) (X : sX) (σ : sM) (v1 : Int32) (v2 : Int32) {oo : String ⊕ Int32} {σ' : sM} (hf : f_X4_meet v1 v2 σ = some (oo, σ')) : sMet l yX4_meet (sWs yX4_meet cX4_meet 4 (some .int)) 7 198 (sC (oI oo)) (sS (oI oo)) D cy ad X σ [.ref (ad 0), .int v1, .int v2] (oI oo) X σ' := by
  refine sMet_of (by decide +kernel) (Nat.le_of_ble_eq_true rfl) hap hl0 ?_
  intro p e s m args below meth c ls B hr htab hl h
  exact k_X4_meet_0 B hr htab _ _ _  hf _ _ _ h hl
set_option maxHeartbeats 4000000 in
set_option maxRecDepth 100000 in
theorem k_X4_near_0 {p : Program} {l : Launch} {e : Env} {s : State} {m : MethodId} {args : Array Value} {below : List Frame} {meth : Method} {c : Code} {D : va_G} {cy : Nat → ClassId} {ad : Nat → Nat} {X : sX} {oo : String ⊕ Int32} {σ' : sM} (B : sB p l s m meth c args cX4_near 6 RX4 D cy ad) (hr : meth.sig.returnType = (some .int)) (htab : ∀ x ∈ c.exceptionTable.toList, False) (v1 : Int32) (v2 : Int32) (v3 : Int32) (σ : sM) (hf : f_X4_near v1 v2 v3 σ = some (oo, σ')) : sGo p l e { frames := 7, cells := (sC (oI oo)), slots := (sS (oI oo)), locals := 121 } s m args below meth c D cy ad X 6 (sQ below args s (sC (oI oo)) (sS (oI oo)) D cy ad (oI oo) X σ') σ 0 [(0, .ref (ad 0)), (1, .int v1), (2, .int v2), (3, .int v3)] [] := by
  replace hf : (thn (f_X4_mapAt v1 σ) (fun tr1 σ1 => chk (isTb tr1) (rthn (f_X4_isNearWay v3 σ1) (fun vr3 => if vr3 = 0 then (some (.inl "java/lang/IllegalArgumentException", σ1)) else (rthn (f_X2_placeNear tr1 v2 v3 (0 : Int32) (σ1 tr1 2) σ1) (fun vr5 => if 0 ≤ vr5 then (chk (inb vr5 120) (some (.inr (σ1 (tr1 + 1) (vr5).toNatClampNeg), σ1))) else (some (.inl "java/util/NoSuchElementException", σ1)))))))) = some (oo, σ') := hf
  intro H locs ls h hl
  have hx := B.1
  have hb := B.2.1
  refine lv_aload_n hx hb dX4_near_0 rfl (lv_at hl 0 rfl) ?_
  refine lv_iload_n hx hb dX4_near_1 rfl (lv_at hl 1 rfl) ?_
  rcases thn_cases hf with ⟨E1, σ1, hq1, ho⟩ | ⟨tr1, σ1, hq1, hf⟩
  · cases ho
    have hM := ok_X4_mapAt (D := D) (cy := cy) B.2.2.2.2.2.2.2.2 B.2.2.2.2.2.2.1 X _ v1 hq1
    exact sThrC (g_runV (o := .inl E1) (mc := 1) (ms := 6) (k := 0) (T := TX4) (N := 8) B h hM cw_X4_41 ⟨Nat.le_of_ble_eq_true rfl, Nat.le_of_ble_eq_true rfl⟩ (by decide) (S_row _) rfl rfl hl.1.symm rfl (Nat.le_of_ble_eq_true rfl) dX4_near_2 ⟨Nat.le_of_eq (Nat.zero_add _), Nat.le_of_eq (Nat.zero_add _)⟩) h (fun H locs q ce h hc hv hcl => sE_out B htab h hc hv hcl (Nat.le_of_eq (Nat.zero_add _)) (Nat.le_of_eq (Nat.zero_add _)))
  have hM := ok_X4_mapAt (D := D) (cy := cy) B.2.2.2.2.2.2.2.2 B.2.2.2.2.2.2.1 X _ v1 hq1
  refine sRetC1 (g_runV (o := .inr (some (.ref (ad tr1)))) (mc := 0) (ms := 0) (k := 0) (T := TX4) (N := 8) B h hM cw_X4_41 ⟨Nat.le_of_ble_eq_true rfl, Nat.le_of_ble_eq_true rfl⟩ (by decide) (S_row _) rfl rfl hl.1.symm rfl (Nat.le_of_ble_eq_true rfl) dX4_near_2 ⟨Nat.zero_le _, Nat.zero_le _⟩) h (fun H locs h => ?_)
  obtain ⟨c2, hf⟩ := chk_some hf
  refine lv_astore (lv' := [(4, .ref (ad tr1)), (0, .ref (ad 0)), (1, .int v1), (2, .int v2), (3, .int v3)]) hx hb dX4_near_5 hl (by decide) rfl (fun ls hl => ?_)
  refine lv_iload_n hx hb dX4_near_7 rfl (lv_at hl 4 rfl) ?_
  obtain ⟨vr3, hq3, hf⟩ := rthn_some hf
  refine sRetC1 (g_runS B h (ok_X4_isNearWay B.2.2.2.2.2.2.2.2 B.2.2.2.2.2.2.1 _ _ v3 hq3) cw_X4_71 ⟨Nat.le_of_ble_eq_true rfl, Nat.le_of_ble_eq_true rfl⟩ rfl hl.1.symm rfl (Nat.le_of_ble_eq_true rfl) dX4_near_8 ⟨Nat.zero_le _, Nat.zero_le _⟩) h (fun H locs h => ?_)
  refine lv_if_ne (tgt := 24) hx hb dX4_near_11 (by decide) (fun c4 => ?_) (fun c4 => ?_)
  · rw [if_neg c4] at hf
    refine lv_aload hx hb dX4_near_24 (lv_at hl 0 rfl) ?_
    refine lv_iload_n hx hb dX4_near_26 rfl (lv_at hl 3 rfl) ?_
    refine lv_iload_n hx hb dX4_near_27 rfl (lv_at hl 4 rfl) ?_
    refine lv_iconst (v := (0 : Int32)) hx hb dX4_near_28 (by decide) ?_
    refine lv_aload hx hb dX4_near_29 (lv_at hl 0 rfl) ?_
    refine g_get B h tr1 (T_lt (isTb_T c2)) (C := RX2) (T := TX2) (N := 3) (T_row (isTb_T c2) _) rfl hin_X2 2 (by decide) hw53 rfl rfl dX4_near_31 ?_
    obtain ⟨vr5, hq5, hf⟩ := rthn_some hf
    refine sRetC1 (g_runV (k := tr1) (T := TX2) (N := 3) B h (ok_X2_placeNear B.2.2.2.2.2.2.2.2 B.2.2.2.2.2.2.1 _ _ (isTb_T c2) v2 v3 (0 : Int32) (σ1 tr1 2) hq5) cw_X4_80 ⟨Nat.le_of_ble_eq_true rfl, Nat.le_of_ble_eq_true rfl⟩ (T_lt (isTb_T c2)) (T_row (isTb_T c2) _) rfl rfl hl.1.symm rfl (Nat.le_of_ble_eq_true rfl) dX4_near_34 ⟨Nat.zero_le _, Nat.zero_le _⟩) h (fun H locs h => ?_)
    refine lv_istore (lv' := [(5, .int vr5), (4, .ref (ad tr1)), (0, .ref (ad 0)), (1, .int v1), (2, .int v2), (3, .int v3)]) hx hb dX4_near_37 hl (by decide) rfl (fun ls hl => ?_)
    refine lv_iload hx hb dX4_near_39 (lv_at hl 0 rfl) ?_
    refine lv_if_ge (tgt := 54) hx hb dX4_near_41 (by decide) (fun c6 => ?_) (fun c6 => ?_)
    · rw [if_pos c6] at hf
      refine lv_aload hx hb dX4_near_54 (lv_at hl 1 rfl) ?_
      refine g_get B h tr1 (T_lt (isTb_T c2)) (C := RX2) (T := TX2) (N := 3) (T_row (isTb_T c2) _) rfl hin_X2 0 (by decide) hw47 rfl rfl dX4_near_56 ?_
      refine lv_iload hx hb dX4_near_59 (lv_at hl 0 rfl) ?_
      obtain ⟨c7, hf⟩ := chk_some hf
      refine g_iald B h (tr1 + 1) (T_lt1 (isTb_T c2)) (n := 120) (T_keys (isTb_T c2)) (inb_in c7) dX4_near_61 ?_
      obtain ⟨rfl, rfl⟩ := Prod.mk.inj (Option.some.inj hf)
      exact sE_i B hr h dX4_near_62
    · rw [if_neg c6] at hf
      obtain ⟨rfl, rfl⟩ := Prod.mk.inj (Option.some.inj hf)
      exact sE_thrX (own := RX4) (E := "java/util/NoSuchElementException") (text := "the map has no such near key") (ic := 61) (ix := 13) (rx := nseeRx) nsee0 nsee1 nsee2 nsee5 B htab h hl.1.symm ["java/lang/RuntimeException", "java/lang/Exception"] (by decide +kernel) (by decide +kernel) hw473 hw15 (by decide +kernel) (by decide +kernel) at_X4_61_g at_X4_61_n at_X4_61_o dX4_near_44 dX4_near_47 (Or.inl ⟨dX4_near_48, rfl⟩) dX4_near_50 dX4_near_53 (Nat.le_of_ble_eq_true rfl) (Nat.le_of_ble_eq_true rfl) (Nat.le_of_eq (Nat.zero_add _)) (Nat.le_of_eq (Nat.zero_add _)) (Nat.le_of_eq (Nat.zero_add _)) (Nat.le_of_eq (Nat.zero_add _))
  · rw [if_pos c4] at hf
    obtain ⟨rfl, rfl⟩ := Prod.mk.inj (Option.some.inj hf)
    exact sE_thr (own := RX4) (E := "java/lang/IllegalArgumentException") (text := "no such way") (ic := 79) B htab h hl.1.symm ["java/lang/RuntimeException", "java/lang/Exception"] (by decide +kernel) (by decide +kernel) hw508 hw16 (by decide +kernel) (by decide +kernel) at_X4_79_g at_X4_79_n at_X4_79_o dX4_near_14 dX4_near_17 dX4_near_18 dX4_near_20 dX4_near_23 (Nat.le_of_ble_eq_true rfl) (Nat.le_of_ble_eq_true rfl) (Nat.le_of_eq (Nat.zero_add _)) (Nat.le_of_eq (Nat.zero_add _)) (Nat.le_of_eq (Nat.zero_add _)) (Nat.le_of_eq (Nat.zero_add _))
set_option maxRecDepth 100000 in
theorem ok_X4_near {l : Launch} (hl0 : l.stackTraces = false) {D : va_G} {cy : Nat → ClassId} {ad : Nat → Nat} (hap : sAp ad) (X : sX) (σ : sM) (v1 : Int32) (v2 : Int32) (v3 : Int32) {oo : String ⊕ Int32} {σ' : sM} (hf : f_X4_near v1 v2 v3 σ = some (oo, σ')) : sMet l yX4_near (sWs yX4_near cX4_near 6 (some .int)) 7 121 (sC (oI oo)) (sS (oI oo)) D cy ad X σ [.ref (ad 0), .int v1, .int v2, .int v3] (oI oo) X σ' := by
  refine sMet_of (by decide +kernel) (Nat.le_of_ble_eq_true rfl) hap hl0 ?_
  intro p e s m args below meth c ls B hr htab hl h
  exact k_X4_near_0 B hr htab _ _ _ _  hf _ _ _ h hl
