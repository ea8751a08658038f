set_option maxHeartbeats 4000000 in
set_option maxRecDepth 100000 in
theorem k_X5_drained_0 {p : Program} {l : Launch} {e : Env} {s : State} {m : MethodId} {args : Array Value} {below : List Frame} {meth : Method} {c : Code} {D : va_G} {cy : Nat → ClassId} {ad : Nat → Nat} {X : sX} {r : Int32} {σ' : sM} (B : sB p l s m meth c args cX5_drained 2 RX5 D cy ad) (hr : meth.sig.returnType = (some .int)) (v1 : Int32) (σ : sM) (hf : f_X5_drained v1 σ = some (r, σ')) : sGo p l e { frames := 1, cells := 0, slots := 0, locals := 22 } s m args below meth c D cy ad X 2 (sQ below args s 0 0 D cy ad (.inr (some (.int r))) X σ') σ 0 [(0, .ref (ad 44)), (1, .int v1)] [] := by
  replace hf : (rthn (f_X5_in v1 (0 : Int32) ((σ 44 17) - (1 : Int32)) σ) (fun vr1 => if vr1 = 0 then (wthn (f_X5_refused (1 : Int32) σ) (fun vr6 σ6 => if vr6 = 0 then (chk (inb v1 60) (some ((σ6 60 (v1).toNatClampNeg), σ6))) else (some ((0 : Int32), σ6)))) else (wthn (f_X5_refused (0 : Int32) σ) (fun vr3 σ3 => if vr3 = 0 then (chk (inb v1 60) (some ((σ3 60 (v1).toNatClampNeg), σ3))) else (some ((0 : Int32), σ3)))))) = some (r, σ') := hf
  intro H locs ls h hl
  have hx := B.1
  have hb := B.2.1
  refine lv_aload_n hx hb dX5_drained_0 rfl (lv_at hl 0 rfl) ?_
  refine lv_iload_n hx hb dX5_drained_1 rfl (lv_at hl 1 rfl) ?_
  refine lv_iconst (v := (0 : Int32)) hx hb dX5_drained_2 (by decide) ?_
  refine lv_aload_n hx hb dX5_drained_3 rfl (lv_at hl 0 rfl) ?_
  refine g_get B h 44 (by decide) (C := RX5) (T := TX5) (N := 21) (M_row _) rfl hin_X5 17 (by decide) hw843 rfl rfl dX5_drained_4 ?_
  refine lv_iconst (v := (1 : Int32)) hx hb dX5_drained_7 (by decide) ?_
  refine lv_isub hx hb dX5_drained_8 ?_
  obtain ⟨vr1, hq1, hf⟩ := rthn_some hf
  refine sRetC1 (g_runS B h (ok_X5_in B.2.2.2.2.2.2.2.2 B.2.2.2.2.2.2.1 _ _ v1 (0 : Int32) ((σ 44 17) - (1 : Int32)) hq1) cw_X5_64 ⟨Nat.le_of_ble_eq_true rfl, Nat.le_of_ble_eq_true rfl⟩ rfl hl.1.symm rfl (Nat.le_of_ble_eq_true rfl) dX5_drained_9 ⟨Nat.zero_le _, Nat.zero_le _⟩) h (fun H locs h => ?_)
  refine lv_if_ne (tgt := 19) hx hb dX5_drained_12 (by decide) (fun c2 => ?_) (fun c2 => ?_)
  · rw [if_neg c2] at hf
    refine lv_iconst (v := (0 : Int32)) hx hb dX5_drained_19 (by decide) ?_
    obtain ⟨vr3, σ3, hq3, hf⟩ := wthn_some hf
    refine sRetC1 (g_runV (k := 44) (T := TX5) (N := 21) B h (ok_X5_refused B.2.2.2.2.2.2.2.2 B.2.2.2.2.2.2.1 _ _ (0 : Int32) hq3) cw_X5_95 ⟨Nat.le_of_ble_eq_true rfl, Nat.le_of_ble_eq_true rfl⟩ (by decide) (M_row _) rfl rfl hl.1.symm rfl (Nat.le_of_ble_eq_true rfl) dX5_drained_20 ⟨Nat.zero_le _, Nat.zero_le _⟩) h (fun H locs h => ?_)
    refine lv_if_eq (tgt := 30) hx hb dX5_drained_23 (by decide) (fun c4 => ?_) (fun c4 => ?_)
    · rw [if_pos c4] at hf
      refine lv_aload_n hx hb dX5_drained_30 rfl (lv_at hl 0 rfl) ?_
      refine g_get B h 44 (by decide) (C := RX5) (T := TX5) (N := 21) (M_row _) rfl hin_X5 16 (by decide) hw842 rfl rfl dX5_drained_31 ?_
      refine lv_iload_n hx hb dX5_drained_34 rfl (lv_at hl 1 rfl) ?_
      obtain ⟨c5, hf⟩ := chk_some hf
      refine g_iald B h 60 (by decide) (n := 60) (fun _ => rfl) (inb_in c5) dX5_drained_35 ?_
      obtain ⟨rfl, rfl⟩ := Prod.mk.inj (Option.some.inj hf)
      exact sE_i B hr h dX5_drained_36
    · rw [if_neg c4] at hf
      refine lv_iconst (v := (0 : Int32)) hx hb dX5_drained_26 (by decide) ?_
      refine lv_goto (tgt := 36) hx hb dX5_drained_27 (by decide) ?_
      obtain ⟨rfl, rfl⟩ := Prod.mk.inj (Option.some.inj hf)
      exact sE_i B hr h dX5_drained_36
  · rw [if_pos c2] at hf
    refine lv_iconst (v := (1 : Int32)) hx hb dX5_drained_15 (by decide) ?_
    refine lv_goto (tgt := 20) hx hb dX5_drained_16 (by decide) ?_
    obtain ⟨vr6, σ6, hq6, hf⟩ := wthn_some hf
    refine sRetC1 (g_runV (k := 44) (T := TX5) (N := 21) B h (ok_X5_refused B.2.2.2.2.2.2.2.2 B.2.2.2.2.2.2.1 _ _ (1 : Int32) hq6) cw_X5_95 ⟨Nat.le_of_ble_eq_true rfl, Nat.le_of_ble_eq_true rfl⟩ (by decide) (M_row _) rfl rfl hl.1.symm rfl (Nat.le_of_ble_eq_true rfl) dX5_drained_20 ⟨Nat.zero_le _, Nat.zero_le _⟩) h (fun H locs h => ?_)
    refine lv_if_eq (tgt := 30) hx hb dX5_drained_23 (by decide) (fun c7 => ?_) (fun c7 => ?_)
    · rw [if_pos c7] at hf
      refine lv_aload_n hx hb dX5_drained_30 rfl (lv_at hl 0 rfl) ?_
      refine g_get B h 44 (by decide) (C := RX5) (T := TX5) (N := 21) (M_row _) rfl hin_X5 16 (by decide) hw842 rfl rfl dX5_drained_31 ?_
      refine lv_iload_n hx hb dX5_drained_34 rfl (lv_at hl 1 rfl) ?_
      obtain ⟨c8, hf⟩ := chk_some hf
      refine g_iald B h 60 (by decide) (n := 60) (fun _ => rfl) (inb_in c8) dX5_drained_35 ?_
      obtain ⟨rfl, rfl⟩ := Prod.mk.inj (Option.some.inj hf)
      exact sE_i B hr h dX5_drained_36
    · rw [if_neg c7] at hf
      refine lv_iconst (v := (0 : Int32)) hx hb dX5_drained_26 (by decide) ?_
      refine lv_goto (tgt := 36) hx hb dX5_drained_27 (by decide) ?_
      obtain ⟨rfl, rfl⟩ := Prod.mk.inj (Option.some.inj hf)
      exact sE_i B hr h dX5_drained_36
set_option maxRecDepth 100000 in
theorem ok_X5_drained {l : Launch} (hl0 : l.stackTraces = false) {D : va_G} {cy : Nat → ClassId} {ad : Nat → Nat} (hap : sAp ad) (X : sX) (σ : sM) (v1 : Int32) {r : Int32} {σ' : sM} (hf : f_X5_drained v1 σ = some (r, σ')) : sMet l yX5_drained (sWs yX5_drained cX5_drained 2 (some .int)) 1 22 0 0 D cy ad X σ [.ref (ad 44), .int v1] (.inr (some (.int r))) X σ' := by
  refine sMet_of (by decide +kernel) (Nat.le_of_ble_eq_true rfl) hap hl0 ?_
  intro p e s m args below meth c ls B hr htab hl h
  exact k_X5_drained_0 B hr _ _  hf _ _ _ h hl
set_option maxHeartbeats 4000000 in
set_option maxRecDepth 100000 in
theorem k_X5_end_26 {p : Program} {l : Launch} {e : Env} {s : State} {m : MethodId} {args : Array Value} {below : List Frame} {meth : Method} {c : Code} {D : va_G} {cy : Nat → ClassId} {ad : Nat → Nat} {X : sX} {r : Int32} {σ' : sM} (B : sB p l s m meth c args cX5_end 3 RX5 D cy ad) (hr : meth.sig.returnType = (some .int)) (v1 : Int32) (v2 : Int32) (vs1 : Int32) (σ : sM) (hf : b_X5_end_26 v1 v2 vs1 σ = some (r, σ')) : sGo p l e { frames := 2, cells := 0, slots := 0, locals := 42 } s m args below meth c D cy ad X 3 (sQ below args s 0 0 D cy ad (.inr (some (.int r))) X σ') σ 26 [(0, .ref (ad 44)), (1, .int v1), (2, .int v2)] [.int vs1, .ref (ad 44)] := by
  replace hf : (wthn (f_X5_refused vs1 σ) (fun vr5 σ5 => if vr5 = 0 then (if v2 = 0 then (chk (inb (((60 : Int32) * v1) + (0 : Int32)) 180) (some ((σ5 45 ((((60 : Int32) * v1) + (0 : Int32))).toNatClampNeg), σ5))) else (chk (inb v1 3) (chk (inb (((60 : Int32) * v1) + ((σ5 47 (v1).toNatClampNeg) - (1 : Int32))) 180) (some ((σ5 45 ((((60 : Int32) * v1) + ((σ5 47 (v1).toNatClampNeg) - (1 : Int32)))).toNatClampNeg), σ5))))) else (some ((0 : Int32), σ5)))) = some (r, σ') := hf
  intro H locs ls h hl
  have hx := B.1
  have hb := B.2.1
  obtain ⟨vr5, σ5, hq5, hf⟩ := wthn_some hf
  refine sRetC1 (g_runV (k := 44) (T := TX5) (N := 21) B h (ok_X5_refused B.2.2.2.2.2.2.2.2 B.2.2.2.2.2.2.1 _ _ vs1 hq5) cw_X5_95 ⟨Nat.le_of_ble_eq_true rfl, Nat.le_of_ble_eq_true rfl⟩ (by decide) (M_row _) rfl rfl hl.1.symm rfl (Nat.le_of_ble_eq_true rfl) dX5_end_26 ⟨Nat.zero_le _, Nat.zero_le _⟩) h (fun H locs h => ?_)
  refine lv_if_eq (tgt := 34) hx hb dX5_end_29 (by decide) (fun c6 => ?_) (fun c6 => ?_)
  · rw [if_pos c6] at hf
    refine lv_aload_n hx hb dX5_end_34 rfl (lv_at hl 0 rfl) ?_
    refine g_get B h 44 (by decide) (C := RX5) (T := TX5) (N := 21) (M_row _) rfl hin_X5 0 (by decide) hw826 rfl rfl dX5_end_35 ?_
    refine lv_bipush (v := (60 : Int32)) hx hb dX5_end_38 (by decide) ?_
    refine lv_iload_n hx hb dX5_end_40 rfl (lv_at hl 1 rfl) ?_
    refine lv_imul hx hb dX5_end_41 ?_
    refine lv_iload_n hx hb dX5_end_42 rfl (lv_at hl 2 rfl) ?_
    refine lv_if_eq (tgt := 57) hx hb dX5_end_43 (by decide) (fun c7 => ?_) (fun c7 => ?_)
    · rw [if_pos c7] at hf
      refine lv_iconst (v := (0 : Int32)) hx hb dX5_end_57 (by decide) ?_
      refine lv_iadd hx hb dX5_end_58 ?_
      obtain ⟨c8, hf⟩ := chk_some hf
      refine g_iald B h 45 (by decide) (n := 180) (fun _ => rfl) (inb_in c8) dX5_end_59 ?_
      obtain ⟨rfl, rfl⟩ := Prod.mk.inj (Option.some.inj hf)
      exact sE_i B hr h dX5_end_60
    · rw [if_neg c7] at hf
      refine lv_aload_n hx hb dX5_end_46 rfl (lv_at hl 0 rfl) ?_
      refine g_get B h 44 (by decide) (C := RX5) (T := TX5) (N := 21) (M_row _) rfl hin_X5 2 (by decide) hw828 rfl rfl dX5_end_47 ?_
      refine lv_iload_n hx hb dX5_end_50 rfl (lv_at hl 1 rfl) ?_
      obtain ⟨c9, hf⟩ := chk_some hf
      refine g_iald B h 47 (by decide) (n := 3) (fun _ => rfl) (inb_in c9) dX5_end_51 ?_
      refine lv_iconst (v := (1 : Int32)) hx hb dX5_end_52 (by decide) ?_
      refine lv_isub hx hb dX5_end_53 ?_
      refine lv_goto (tgt := 58) hx hb dX5_end_54 (by decide) ?_
      refine lv_iadd hx hb dX5_end_58 ?_
      obtain ⟨c10, hf⟩ := chk_some hf
      refine g_iald B h 45 (by decide) (n := 180) (fun _ => rfl) (inb_in c10) dX5_end_59 ?_
      obtain ⟨rfl, rfl⟩ := Prod.mk.inj (Option.some.inj hf)
      exact sE_i B hr h dX5_end_60
  · rw [if_neg c6] at hf
    refine lv_iconst (v := (0 : Int32)) hx hb dX5_end_32 (by decide) ?_
    obtain ⟨rfl, rfl⟩ := Prod.mk.inj (Option.some.inj hf)
    exact sE_i B hr h dX5_end_33
set_option maxHeartbeats 4000000 in
set_option maxRecDepth 100000 in
theorem k_X5_end_0 {p : Program} {l : Launch} {e : Env} {s : State} {m : MethodId} {args : Array Value} {below : List Frame} {meth : Method} {c : Code} {D : va_G} {cy : Nat → ClassId} {ad : Nat → Nat} {X : sX} {r : Int32} {σ' : sM} (B : sB p l s m meth c args cX5_end 3 RX5 D cy ad) (hr : meth.sig.returnType = (some .int)) (v1 : Int32) (v2 : Int32) (σ : sM) (hf : f_X5_end v1 v2 σ = some (r, σ')) : sGo p l e { frames := 2, cells := 0, slots := 0, locals := 42 } s m args below meth c D cy ad X 3 (sQ below args s 0 0 D cy ad (.inr (some (.int r))) X σ') σ 0 [(0, .ref (ad 44)), (1, .int v1), (2, .int v2)] [] := by
  replace hf : (rthn (f_X5_isMap v1 σ) (fun vr1 => if vr1 = 0 then (b_X5_end_26 v1 v2 (1 : Int32) σ) else (chk (inb v1 3) (if (σ 47 (v1).toNatClampNeg) = 0 then (b_X5_end_26 v1 v2 (2 : Int32) σ) else (b_X5_end_26 v1 v2 (0 : Int32) σ))))) = some (r, σ') := hf
  intro H locs ls h hl
  have hx := B.1
  have hb := B.2.1
  refine lv_aload_n hx hb dX5_end_0 rfl (lv_at hl 0 rfl) ?_
  refine lv_iload_n hx hb dX5_end_1 rfl (lv_at hl 1 rfl) ?_
  obtain ⟨vr1, hq1, hf⟩ := rthn_some hf
  refine sRetC1 (g_runS B h (ok_X5_isMap B.2.2.2.2.2.2.2.2 B.2.2.2.2.2.2.1 _ _ v1 hq1) cw_X5_87 ⟨Nat.le_of_ble_eq_true rfl, Nat.le_of_ble_eq_true rfl⟩ rfl hl.1.symm rfl (Nat.le_of_ble_eq_true rfl) dX5_end_2 ⟨Nat.zero_le _, Nat.zero_le _⟩) h (fun H locs h => ?_)
  refine lv_if_ne (tgt := 12) hx hb dX5_end_5 (by decide) (fun c2 => ?_) (fun c2 => ?_)
  · rw [if_neg c2] at hf
    refine lv_aload_n hx hb dX5_end_12 rfl (lv_at hl 0 rfl) ?_
    refine g_get B h 44 (by decide) (C := RX5) (T := TX5) (N := 21) (M_row _) rfl hin_X5 2 (by decide) hw828 rfl rfl dX5_end_13 ?_
    refine lv_iload_n hx hb dX5_end_16 rfl (lv_at hl 1 rfl) ?_
    obtain ⟨c3, hf⟩ := chk_some hf
    refine g_iald B h 47 (by decide) (n := 3) (fun _ => rfl) (inb_in c3) dX5_end_17 ?_
    refine lv_if_ne (tgt := 25) hx hb dX5_end_18 (by decide) (fun c4 => ?_) (fun c4 => ?_)
    · rw [if_neg c4] at hf
      refine lv_iconst (v := (0 : Int32)) hx hb dX5_end_25 (by decide) ?_
      exact k_X5_end_26 B hr  _ _ _ _ hf _ _ _ h (lv_sub hl [0, 1, 2] rfl)
    · rw [if_pos c4] at hf
      refine lv_iconst (v := (2 : Int32)) hx hb dX5_end_21 (by decide) ?_
      refine lv_goto (tgt := 26) hx hb dX5_end_22 (by decide) ?_
      exact k_X5_end_26 B hr  _ _ _ _ hf _ _ _ h (lv_sub hl [0, 1, 2] rfl)
  · rw [if_pos c2] at hf
    refine lv_iconst (v := (1 : Int32)) hx hb dX5_end_8 (by decide) ?_
    refine lv_goto (tgt := 26) hx hb dX5_end_9 (by decide) ?_
    exact k_X5_end_26 B hr  _ _ _ _ hf _ _ _ h (lv_sub hl [0, 1, 2] rfl)
set_option maxRecDepth 100000 in
theorem ok_X5_end {l : Launch} (hl0 : l.stackTraces = false) {D : va_G} {cy : Nat → ClassId} {ad : Nat → Nat} (hap : sAp ad) (X : sX) (σ : sM) (v1 : Int32) (v2 : Int32) {r : Int32} {σ' : sM} (hf : f_X5_end v1 v2 σ = some (r, σ')) : sMet l yX5_end (sWs yX5_end cX5_end 3 (some .int)) 2 42 0 0 D cy ad X σ [.ref (ad 44), .int v1, .int v2] (.inr (some (.int r))) X σ' := by
  refine sMet_of (by decide +kernel) (Nat.le_of_ble_eq_true rfl) hap hl0 ?_
  intro p e s m args below meth c ls B hr htab hl h
  exact k_X5_end_0 B hr _ _ _  hf _ _ _ h hl
set_option maxHeartbeats 4000000 in
set_option maxRecDepth 100000 in
theorem k_X5_isHistory_0 {p : Program} {l : Launch} {e : Env} {s : State} {m : MethodId} {args : Array Value} {below : List Frame} {meth : Method} {c : Code} {D : va_G} {cy : Nat → ClassId} {ad : Nat → Nat} {X : sX} {r : Int32} (B : sB p l s m meth c args cX5_isHistory 1 RX5 D cy ad) (hr : meth.sig.returnType = (some .boolean)) (v0 : Int32) (σ : sM) (hf : f_X5_isHistory v0 σ = some r) : sGo p l e { frames := 1, cells := 0, slots := 0, locals := 22 } s m args below meth c D cy ad X 1 (sQ below args s 0 0 D cy ad (.inr (some (.int r))) X σ) σ 0 [(0, .int v0)] [] := by
  replace hf : (rthn (f_X5_in v0 (0 : Int32) (2 : Int32) σ) (fun vr1 => chk (isb vr1) (some vr1))) = some r := hf
  intro H locs ls h hl
  have hx := B.1
  have hb := B.2.1
  refine lv_iload_n hx hb dX5_isHistory_0 rfl (lv_at hl 0 rfl) ?_
  refine lv_iconst (v := (0 : Int32)) hx hb dX5_isHistory_1 (by decide) ?_
  refine lv_iconst (v := (2 : Int32)) hx hb dX5_isHistory_2 (by decide) ?_
  obtain ⟨vr1, hq1, hf⟩ := rthn_some hf
  refine sRetC1 (g_runS B h (ok_X5_in B.2.2.2.2.2.2.2.2 B.2.2.2.2.2.2.1 _ _ v0 (0 : Int32) (2 : Int32) hq1) cw_X5_64 ⟨Nat.le_of_ble_eq_true rfl, Nat.le_of_ble_eq_true rfl⟩ rfl hl.1.symm rfl (Nat.le_of_ble_eq_true rfl) dX5_isHistory_3 ⟨Nat.zero_le _, Nat.zero_le _⟩) h (fun H locs h => ?_)
  obtain ⟨c2, hf⟩ := chk_some hf
  obtain rfl := Option.some.inj hf
  exact sE_z B hr h (isb_n c2) dX5_isHistory_6
set_option maxRecDepth 100000 in
theorem ok_X5_isHistory {l : Launch} (hl0 : l.stackTraces = false) {D : va_G} {cy : Nat → ClassId} {ad : Nat → Nat} (hap : sAp ad) (X : sX) (σ : sM) (v0 : Int32) {r : Int32} (hf : f_X5_isHistory v0 σ = some r) : sMet l yX5_isHistory (sWs yX5_isHistory cX5_isHistory 1 (some .boolean)) 1 22 0 0 D cy ad X σ [.int v0] (.inr (some (.int r))) X σ := by
  refine sMet_of (by decide +kernel) (Nat.le_of_ble_eq_true rfl) hap hl0 ?_
  intro p e s m args below meth c ls B hr htab hl h
  exact k_X5_isHistory_0 B hr _ _  hf _ _ _ h hl
set_option maxHeartbeats 4000000 in
set_option maxRecDepth 100000 in
theorem k_X5_forget_13 {p : Program} {l : Launch} {e : Env} {s : State} {m : MethodId} {args : Array Value} {below : List Frame} {meth : Method} {c : Code} {D : va_G} {cy : Nat → ClassId} {ad : Nat → Nat} {X : sX} {r : Int32} {σ' : sM} (B : sB p l s m meth c args cX5_forget 3 RX5 D cy ad) (hr : meth.sig.returnType = (some .int)) (v1 : Int32) (vs1 : Int32) (σ : sM) (hf : b_X5_forget_13 v1 vs1 σ = some (r, σ')) : sGo p l e { frames := 2, cells := 0, slots := 0, locals := 42 } s m args below meth c D cy ad X 3 (sQ below args s 0 0 D cy ad (.inr (some (.int r))) X σ') σ 13 [(0, .ref (ad 44)), (1, .int v1)] [.int vs1, .ref (ad 44)] := by
  replace hf : (wthn (f_X5_refused vs1 σ) (fun vr3 σ3 => if vr3 = 0 then (chk (inb v1 3) (chk (inb v1 3) (stl (va_up σ3 58 (upd (σ3 58) (v1).toNatClampNeg (0 : Int32))) (fun σ7 => some ((σ3 58 (v1).toNatClampNeg), σ7))))) else (some ((0 : Int32), σ3)))) = some (r, σ') := hf
  intro H locs ls h hl
  have hx := B.1
  have hb := B.2.1
  obtain ⟨vr3, σ3, hq3, hf⟩ := wthn_some hf
  refine sRetC1 (g_runV (k := 44) (T := TX5) (N := 21) B h (ok_X5_refused B.2.2.2.2.2.2.2.2 B.2.2.2.2.2.2.1 _ _ vs1 hq3) cw_X5_95 ⟨Nat.le_of_ble_eq_true rfl, Nat.le_of_ble_eq_true rfl⟩ (by decide) (M_row _) rfl rfl hl.1.symm rfl (Nat.le_of_ble_eq_true rfl) dX5_forget_13 ⟨Nat.zero_le _, Nat.zero_le _⟩) h (fun H locs h => ?_)
  refine lv_if_eq (tgt := 21) hx hb dX5_forget_16 (by decide) (fun c4 => ?_) (fun c4 => ?_)
  · rw [if_pos c4] at hf
    refine lv_aload_n hx hb dX5_forget_21 rfl (lv_at hl 0 rfl) ?_
    refine g_get B h 44 (by decide) (C := RX5) (T := TX5) (N := 21) (M_row _) rfl hin_X5 13 (by decide) hw839 rfl rfl dX5_forget_22 ?_
    refine lv_iload_n hx hb dX5_forget_25 rfl (lv_at hl 1 rfl) ?_
    obtain ⟨c5, hf⟩ := chk_some hf
    refine g_iald B h 58 (by decide) (n := 3) (fun _ => rfl) (inb_in c5) dX5_forget_26 ?_
    refine lv_istore_n (lv' := [(2, .int (σ3 58 (v1).toNatClampNeg)), (0, .ref (ad 44)), (1, .int v1)]) hx hb dX5_forget_27 rfl hl (by decide) rfl (fun ls hl => ?_)
    refine lv_aload_n hx hb dX5_forget_28 rfl (lv_at hl 1 rfl) ?_
    refine g_get B h 44 (by decide) (C := RX5) (T := TX5) (N := 21) (M_row _) rfl hin_X5 13 (by decide) hw839 rfl rfl dX5_forget_29 ?_
    refine lv_iload_n hx hb dX5_forget_32 rfl (lv_at hl 2 rfl) ?_
    refine lv_iconst (v := (0 : Int32)) hx hb dX5_forget_33 (by decide) ?_
    obtain ⟨c6, hf⟩ := chk_some hf
    refine g_iast B h 58 (by decide) (n := 3) (fun _ => rfl) (inb_in c6) dX5_forget_34 (fun H locs h => ?_)
    obtain ⟨σ7, e7, hf⟩ := stl_some hf
    rw [← e7] at h
    refine lv_iload_n hx hb dX5_forget_35 rfl (lv_at hl 0 rfl) ?_
    obtain ⟨rfl, rfl⟩ := Prod.mk.inj (Option.some.inj hf)
    exact sE_i B hr h dX5_forget_36
  · rw [if_neg c4] at hf
    refine lv_iconst (v := (0 : Int32)) hx hb dX5_forget_19 (by decide) ?_
    obtain ⟨rfl, rfl⟩ := Prod.mk.inj (Option.some.inj hf)
    exact sE_i B hr h dX5_forget_20
set_option maxHeartbeats 4000000 in
set_option maxRecDepth 100000 in
theorem k_X5_forget_0 {p : Program} {l : Launch} {e : Env} {s : State} {m : MethodId} {args : Array Value} {below : List Frame} {meth : Method} {c : Code} {D : va_G} {cy : Nat → ClassId} {ad : Nat → Nat} {X : sX} {r : Int32} {σ' : sM} (B : sB p l s m meth c args cX5_forget 3 RX5 D cy ad) (hr : meth.sig.returnType = (some .int)) (v1 : Int32) (σ : sM) (hf : f_X5_forget v1 σ = some (r, σ')) : sGo p l e { frames := 2, cells := 0, slots := 0, locals := 42 } s m args below meth c D cy ad X 3 (sQ below args s 0 0 D cy ad (.inr (some (.int r))) X σ') σ 0 [(0, .ref (ad 44)), (1, .int v1)] [] := by
  replace hf : (rthn (f_X5_isHistory v1 σ) (fun vr1 => if vr1 = 0 then (b_X5_forget_13 v1 (1 : Int32) σ) else (b_X5_forget_13 v1 (0 : Int32) σ))) = some (r, σ') := hf
  intro H locs ls h hl
  have hx := B.1
  have hb := B.2.1
  refine lv_aload_n hx hb dX5_forget_0 rfl (lv_at hl 0 rfl) ?_
  refine lv_iload_n hx hb dX5_forget_1 rfl (lv_at hl 1 rfl) ?_
  obtain ⟨vr1, hq1, hf⟩ := rthn_some hf
  refine sRetC1 (g_runS B h (ok_X5_isHistory B.2.2.2.2.2.2.2.2 B.2.2.2.2.2.2.1 _ _ v1 hq1) cw_X5_136 ⟨Nat.le_of_ble_eq_true rfl, Nat.le_of_ble_eq_true rfl⟩ rfl hl.1.symm rfl (Nat.le_of_ble_eq_true rfl) dX5_forget_2 ⟨Nat.zero_le _, Nat.zero_le _⟩) h (fun H locs h => ?_)
  refine lv_if_ne (tgt := 12) hx hb dX5_forget_5 (by decide) (fun c2 => ?_) (fun c2 => ?_)
  · rw [if_neg c2] at hf
    refine lv_iconst (v := (0 : Int32)) hx hb dX5_forget_12 (by decide) ?_
    exact k_X5_forget_13 B hr  _ _ _ hf _ _ _ h (lv_sub hl [0, 1] rfl)
  · rw [if_pos c2] at hf
    refine lv_iconst (v := (1 : Int32)) hx hb dX5_forget_8 (by decide) ?_
    refine lv_goto (tgt := 13) hx hb dX5_forget_9 (by decide) ?_
    exact k_X5_forget_13 B hr  _ _ _ hf _ _ _ h (lv_sub hl [0, 1] rfl)
set_option maxRecDepth 100000 in
theorem ok_X5_forget {l : Launch} (hl0 : l.stackTraces = false) {D : va_G} {cy : Nat → ClassId} {ad : Nat → Nat} (hap : sAp ad) (X : sX) (σ : sM) (v1 : Int32) {r : Int32} {σ' : sM} (hf : f_X5_forget v1 σ = some (r, σ')) : sMet l yX5_forget (sWs yX5_forget cX5_forget 3 (some .int)) 2 42 0 0 D cy ad X σ [.ref (ad 44), .int v1] (.inr (some (.int r))) X σ' := by
  refine sMet_of (by decide +kernel) (Nat.le_of_ble_eq_true rfl) hap hl0 ?_
  intro p e s m args below meth c ls B hr htab hl h
  exact k_X5_forget_0 B hr _ _  hf _ _ _ h hl
set_option maxHeartbeats 4000000 in
set_option maxRecDepth 100000 in
theorem k_X5_fullShare_0 {p : Program} {l : Launch} {e : Env} {s : State} {m : MethodId} {args : Array Value} {below : List Frame} {meth : Method} {c : Code} {D : va_G} {cy : Nat → ClassId} {ad : Nat → Nat} {X : sX} {r : UInt32} {σ' : sM} (B : sB p l s m meth c args cX5_fullShare 2 RX5 D cy ad) (hr : meth.sig.returnType = (some .float)) (v1 : Int32) (σ : sM) (hf : f_X5_fullShare v1 σ = some (r, σ')) : sGo p l e { frames := 2, cells := 0, slots := 0, locals := 42 } s m args below meth c D cy ad X 2 (sQ below args s 0 0 D cy ad (.inr (some (.float r))) X σ') σ 0 [(0, .ref (ad 44)), (1, .int v1)] [] := by
  replace hf : (rthn (f_X5_isMap v1 σ) (fun vr1 => if vr1 = 0 then (wthn (f_X5_refused (1 : Int32) σ) (fun vr7 σ7 => if vr7 = 0 then (chk (inb v1 3) (chk (nn32 (FP.fdiv (FP.i2f (σ7 47 (v1).toNatClampNeg)) (1114636288 : UInt32))) (some ((FP.fdiv (FP.i2f (σ7 47 (v1).toNatClampNeg)) (1114636288 : UInt32)), σ7)))) else (some (FP.fconst0, σ7)))) else (wthn (f_X5_refused (0 : Int32) σ) (fun vr3 σ3 => if vr3 = 0 then (chk (inb v1 3) (chk (nn32 (FP.fdiv (FP.i2f (σ3 47 (v1).toNatClampNeg)) (1114636288 : UInt32))) (some ((FP.fdiv (FP.i2f (σ3 47 (v1).toNatClampNeg)) (1114636288 : UInt32)), σ3)))) else (some (FP.fconst0, σ3)))))) = some (r, σ') := hf
  intro H locs ls h hl
  have hx := B.1
  have hb := B.2.1
  refine lv_aload_n hx hb dX5_fullShare_0 rfl (lv_at hl 0 rfl) ?_
  refine lv_iload_n hx hb dX5_fullShare_1 rfl (lv_at hl 1 rfl) ?_
  obtain ⟨vr1, hq1, hf⟩ := rthn_some hf
  refine sRetC1 (g_runS B h (ok_X5_isMap B.2.2.2.2.2.2.2.2 B.2.2.2.2.2.2.1 _ _ v1 hq1) cw_X5_87 ⟨Nat.le_of_ble_eq_true rfl, Nat.le_of_ble_eq_true rfl⟩ rfl hl.1.symm rfl (Nat.le_of_ble_eq_true rfl) dX5_fullShare_2 ⟨Nat.zero_le _, Nat.zero_le _⟩) h (fun H locs h => ?_)
  refine lv_if_ne (tgt := 12) hx hb dX5_fullShare_5 (by decide) (fun c2 => ?_) (fun c2 => ?_)
  · rw [if_neg c2] at hf
    refine lv_iconst (v := (0 : Int32)) hx hb dX5_fullShare_12 (by decide) ?_
    obtain ⟨vr3, σ3, hq3, hf⟩ := wthn_some hf
    refine sRetC1 (g_runV (k := 44) (T := TX5) (N := 21) B h (ok_X5_refused B.2.2.2.2.2.2.2.2 B.2.2.2.2.2.2.1 _ _ (0 : Int32) hq3) cw_X5_95 ⟨Nat.le_of_ble_eq_true rfl, Nat.le_of_ble_eq_true rfl⟩ (by decide) (M_row _) rfl rfl hl.1.symm rfl (Nat.le_of_ble_eq_true rfl) dX5_fullShare_13 ⟨Nat.zero_le _, Nat.zero_le _⟩) h (fun H locs h => ?_)
    refine lv_if_eq (tgt := 23) hx hb dX5_fullShare_16 (by decide) (fun c4 => ?_) (fun c4 => ?_)
    · rw [if_pos c4] at hf
      refine lv_aload_n hx hb dX5_fullShare_23 rfl (lv_at hl 0 rfl) ?_
      refine g_get B h 44 (by decide) (C := RX5) (T := TX5) (N := 21) (M_row _) rfl hin_X5 2 (by decide) hw828 rfl rfl dX5_fullShare_24 ?_
      refine lv_iload_n hx hb dX5_fullShare_27 rfl (lv_at hl 1 rfl) ?_
      obtain ⟨c5, hf⟩ := chk_some hf
      refine g_iald B h 47 (by decide) (n := 3) (fun _ => rfl) (inb_in c5) dX5_fullShare_28 ?_
      refine lv_i2f hx hb dX5_fullShare_29 ?_
      refine lv_ldcf (own := RX5) (v := (1114636288 : UInt32)) hx hb B.2.2.2.1 (B.2.2.2.2.1 _ hw1109) dX5_fullShare_30 ?_
      obtain ⟨c6, hf⟩ := chk_some hf
      refine lv_fdiv hx hb dX5_fullShare_32 (nn32_n c6) ?_
      obtain ⟨rfl, rfl⟩ := Prod.mk.inj (Option.some.inj hf)
      exact sE_f B hr h dX5_fullShare_33
    · rw [if_neg c4] at hf
      refine lv_fconst0 hx hb dX5_fullShare_19 ?_
      refine lv_goto (tgt := 33) hx hb dX5_fullShare_20 (by decide) ?_
      obtain ⟨rfl, rfl⟩ := Prod.mk.inj (Option.some.inj hf)
      exact sE_f B hr h dX5_fullShare_33
  · rw [if_pos c2] at hf
    refine lv_iconst (v := (1 : Int32)) hx hb dX5_fullShare_8 (by decide) ?_
    refine lv_goto (tgt := 13) hx hb dX5_fullShare_9 (by decide) ?_
    obtain ⟨vr7, σ7, hq7, hf⟩ := wthn_some hf
    refine sRetC1 (g_runV (k := 44) (T := TX5) (N := 21) B h (ok_X5_refused B.2.2.2.2.2.2.2.2 B.2.2.2.2.2.2.1 _ _ (1 : Int32) hq7) cw_X5_95 ⟨Nat.le_of_ble_eq_true rfl, Nat.le_of_ble_eq_true rfl⟩ (by decide) (M_row _) rfl rfl hl.1.symm rfl (Nat.le_of_ble_eq_true rfl) dX5_fullShare_13 ⟨Nat.zero_le _, Nat.zero_le _⟩) h (fun H locs h => ?_)
    refine lv_if_eq (tgt := 23) hx hb dX5_fullShare_16 (by decide) (fun c8 => ?_) (fun c8 => ?_)
    · rw [if_pos c8] at hf
      refine lv_aload_n hx hb dX5_fullShare_23 rfl (lv_at hl 0 rfl) ?_
      refine g_get B h 44 (by decide) (C := RX5) (T := TX5) (N := 21) (M_row _) rfl hin_X5 2 (by decide) hw828 rfl rfl dX5_fullShare_24 ?_
      refine lv_iload_n hx hb dX5_fullShare_27 rfl (lv_at hl 1 rfl) ?_
      obtain ⟨c9, hf⟩ := chk_some hf
      refine g_iald B h 47 (by decide) (n := 3) (fun _ => rfl) (inb_in c9) dX5_fullShare_28 ?_
      refine lv_i2f hx hb dX5_fullShare_29 ?_
      refine lv_ldcf (own := RX5) (v := (1114636288 : UInt32)) hx hb B.2.2.2.1 (B.2.2.2.2.1 _ hw1109) dX5_fullShare_30 ?_
      obtain ⟨c10, hf⟩ := chk_some hf
      refine lv_fdiv hx hb dX5_fullShare_32 (nn32_n c10) ?_
      obtain ⟨rfl, rfl⟩ := Prod.mk.inj (Option.some.inj hf)
      exact sE_f B hr h dX5_fullShare_33
    · rw [if_neg c8] at hf
      refine lv_fconst0 hx hb dX5_fullShare_19 ?_
      refine lv_goto (tgt := 33) hx hb dX5_fullShare_20 (by decide) ?_
      obtain ⟨rfl, rfl⟩ := Prod.mk.inj (Option.some.inj hf)
      exact sE_f B hr h dX5_fullShare_33
set_option maxRecDepth 100000 in
theorem ok_X5_fullShare {l : Launch} (hl0 : l.stackTraces = false) {D : va_G} {cy : Nat → ClassId} {ad : Nat → Nat} (hap : sAp ad) (X : sX) (σ : sM) (v1 : Int32) {r : UInt32} {σ' : sM} (hf : f_X5_fullShare v1 σ = some (r, σ')) : sMet l yX5_fullShare (sWs yX5_fullShare cX5_fullShare 2 (some .float)) 2 42 0 0 D cy ad X σ [.ref (ad 44), .int v1] (.inr (some (.float r))) X σ' := by
  refine sMet_of (by decide +kernel) (Nat.le_of_ble_eq_true rfl) hap hl0 ?_
  intro p e s m args below meth c ls B hr htab hl h
  exact k_X5_fullShare_0 B hr _ _  hf _ _ _ h hl
set_option maxHeartbeats 4000000 in
set_option maxRecDepth 100000 in
theorem k_X5_gathers_108 {p : Program} {l : Launch} {e : Env} {s : State} {m : MethodId} {args : Array Value} {below : List Frame} {meth : Method} {c : Code} {D : va_G} {cy : Nat → ClassId} {ad : Nat → Nat} {X : sX} {r : Unit} {σ' : sM} (B : sB p l s m meth c args cX5_gathers 8 RX5 D cy ad) (hr : meth.sig.returnType = none) {K2 : Int32 → Int32 → Int32 → sM → Option (Unit × sM)} (hK2 : ∀ (v1 : Int32) (v2 : Int32) (v3 : Int32) (σ : sM), K2 v1 v2 v3 σ = some (r, σ') → sGo p l e { frames := 2, cells := 0, slots := 0, locals := 45 } s m args below meth c D cy ad X 8 (sQ below args s 0 0 D cy ad (.inr none) X σ') σ 2 [(0, .ref (ad 44)), (1, .int v1), (2, .int v2), (3, .int v3)] []) : ∀ (n : Nat) (v1 : Int32) (v2 : Int32) (v3 : Int32) (v4 : Int32) (v5 : Int32) (v7 : Int32) (σ : sM), b_X5_gathers_108 K2 n v1 v2 v3 v4 v5 v7 σ = some (r, σ') → sGo p l e { frames := 2, cells := 0, slots := 0, locals := 45 } s m args below meth c D cy ad X 8 (sQ below args s 0 0 D cy ad (.inr none) X σ') σ 108 [(0, .ref (ad 44)), (1, .int v1), (2, .int v2), (3, .int v3), (4, .int v4), (5, .int v5), (7, .int v7)] [] := by
  intro n
  induction n with
  | zero =>
    intro v1 v2 v3 v4 v5 v7 σ hf
    exact nomatch (show none = some (r, σ') from hf)
  | succ n ih =>
    intro v1 v2 v3 v4 v5 v7 σ hf
    replace hf : (if v7 ≤ v5 then (chk (inb v5 60) (stl (va_up σ 59 (upd (σ 59) (v5).toNatClampNeg v4)) (fun σ16 => stl (va_up σ16 44 (upd (σ16 44) 15 ((σ16 44 15) + (1 : Int32)))) (fun σ17 => K2 v1 v2 (v3 + 1) σ17)))) else (chk (inb (v7 - (1 : Int32)) 60) (chk (inb v7 60) (stl (va_up σ 59 (upd (σ 59) (v7).toNatClampNeg (σ 59 ((v7 - (1 : Int32))).toNatClampNeg))) (fun σ20 => b_X5_gathers_108 K2 n v1 v2 v3 v4 v5 (v7 + (-1)) σ20))))) = some (r, σ') := hf
    intro H locs ls h hl
    have hx := B.1
    have hb := B.2.1
    refine lv_iload hx hb dX5_gathers_108 (lv_at hl 6 rfl) ?_
    refine lv_iload hx hb dX5_gathers_110 (lv_at hl 5 rfl) ?_
    refine lv_icmp_le (tgt := 137) hx hb dX5_gathers_112 (by decide) (fun c14 => ?_) (fun c14 => ?_)
    · rw [if_pos c14] at hf
      refine lv_aload_n hx hb dX5_gathers_137 rfl (lv_at hl 0 rfl) ?_
      refine g_get B h 44 (by decide) (C := RX5) (T := TX5) (N := 21) (M_row _) rfl hin_X5 14 (by decide) hw840 rfl rfl dX5_gathers_138 ?_
      refine lv_iload hx hb dX5_gathers_141 (lv_at hl 5 rfl) ?_
      refine lv_iload hx hb dX5_gathers_143 (lv_at hl 4 rfl) ?_
      obtain ⟨c15, hf⟩ := chk_some hf
      refine g_iast B h 59 (by decide) (n := 60) (fun _ => rfl) (inb_in c15) dX5_gathers_145 (fun H locs h => ?_)
      obtain ⟨σ16, e16, hf⟩ := stl_some hf
      rw [← e16] at h
      refine lv_aload_n hx hb dX5_gathers_146 rfl (lv_at hl 0 rfl) ?_
      refine lv_dup hx hb dX5_gathers_147 rfl ?_
      refine g_get B h 44 (by decide) (C := RX5) (T := TX5) (N := 21) (M_row _) rfl hin_X5 15 (by decide) hw841 rfl rfl dX5_gathers_148 ?_
      refine lv_iconst (v := (1 : Int32)) hx hb dX5_gathers_151 (by decide) ?_
      refine lv_iadd hx hb dX5_gathers_152 ?_
      refine g_put B h 44 (by decide) (C := RX5) (T := TX5) (N := 21) (M_row _) rfl hin_X5 tyX5 tyX5_ok nmX5 15 (by decide) hw841 rfl rfl rfl rfl (upd (σ16 44) 15 ((σ16 44 15) + (1 : Int32))) (M_put15 _ _) (Nat.le_of_ble_eq_true rfl) dX5_gathers_153 (fun H locs h => ?_)
      obtain ⟨σ17, e17, hf⟩ := stl_some hf
      rw [← e17] at h
      refine lv_iinc (v := (v3 + 1)) (lv' := [(3, .int (v3 + 1)), (0, .ref (ad 44)), (1, .int v1), (2, .int v2), (4, .int v4), (5, .int v5), (7, .int v7)]) hx hb dX5_gathers_156 hl (k := 3) rfl rfl (by decide) rfl (fun ls hl => ?_)
      refine lv_goto (tgt := 2) hx hb dX5_gathers_159 (by decide) ?_
      exact hK2 _ _ _ _ hf _ _ _ h (lv_sub hl [1, 2, 3, 0] rfl)
    · rw [if_neg c14] at hf
      refine lv_aload_n hx hb dX5_gathers_115 rfl (lv_at hl 0 rfl) ?_
      refine g_get B h 44 (by decide) (C := RX5) (T := TX5) (N := 21) (M_row _) rfl hin_X5 14 (by decide) hw840 rfl rfl dX5_gathers_116 ?_
      refine lv_iload hx hb dX5_gathers_119 (lv_at hl 6 rfl) ?_
      refine lv_aload_n hx hb dX5_gathers_121 rfl (lv_at hl 0 rfl) ?_
      refine g_get B h 44 (by decide) (C := RX5) (T := TX5) (N := 21) (M_row _) rfl hin_X5 14 (by decide) hw840 rfl rfl dX5_gathers_122 ?_
      refine lv_iload hx hb dX5_gathers_125 (lv_at hl 6 rfl) ?_
      refine lv_iconst (v := (1 : Int32)) hx hb dX5_gathers_127 (by decide) ?_
      refine lv_isub hx hb dX5_gathers_128 ?_
      obtain ⟨c18, hf⟩ := chk_some hf
      refine g_iald B h 59 (by decide) (n := 60) (fun _ => rfl) (inb_in c18) dX5_gathers_129 ?_
      obtain ⟨c19, hf⟩ := chk_some hf
      refine g_iast B h 59 (by decide) (n := 60) (fun _ => rfl) (inb_in c19) dX5_gathers_130 (fun H locs h => ?_)
      obtain ⟨σ20, e20, hf⟩ := stl_some hf
      rw [← e20] at h
      refine lv_iinc (v := (v7 + (-1))) (lv' := [(7, .int (v7 + (-1))), (0, .ref (ad 44)), (1, .int v1), (2, .int v2), (3, .int v3), (4, .int v4), (5, .int v5)]) hx hb dX5_gathers_131 hl (k := 6) rfl rfl (by decide) rfl (fun ls hl => ?_)
      refine lv_goto (tgt := 108) hx hb dX5_gathers_134 (by decide) ?_
      exact ih _ _ _ _ _ _ _ hf _ _ _ h (lv_sub hl [1, 2, 3, 4, 5, 6, 0] rfl)
set_option maxHeartbeats 4000000 in
set_option maxRecDepth 100000 in
theorem k_X5_gathers_81 {p : Program} {l : Launch} {e : Env} {s : State} {m : MethodId} {args : Array Value} {below : List Frame} {meth : Method} {c : Code} {D : va_G} {cy : Nat → ClassId} {ad : Nat → Nat} {X : sX} {r : Unit} {σ' : sM} (B : sB p l s m meth c args cX5_gathers 8 RX5 D cy ad) (hr : meth.sig.returnType = none) {K2 : Int32 → Int32 → Int32 → sM → Option (Unit × sM)} (hK2 : ∀ (v1 : Int32) (v2 : Int32) (v3 : Int32) (σ : sM), K2 v1 v2 v3 σ = some (r, σ') → sGo p l e { frames := 2, cells := 0, slots := 0, locals := 45 } s m args below meth c D cy ad X 8 (sQ below args s 0 0 D cy ad (.inr none) X σ') σ 2 [(0, .ref (ad 44)), (1, .int v1), (2, .int v2), (3, .int v3)] []) (v1 : Int32) (v2 : Int32) (v3 : Int32) (v4 : Int32) (v5 : Int32) (vs0 : Int32) (σ : sM) (hf : b_X5_gathers_81 K2 v1 v2 v3 v4 v5 vs0 σ = some (r, σ')) : sGo p l e { frames := 2, cells := 0, slots := 0, locals := 45 } s m args below meth c D cy ad X 8 (sQ below args s 0 0 D cy ad (.inr none) X σ') σ 81 [(0, .ref (ad 44)), (1, .int v1), (2, .int v2), (3, .int v3), (4, .int v4), (5, .int v5)] [.int vs0] := by
  replace hf : (if vs0 = 0 then (if v2 < 0 then (b_X5_gathers_108 K2 FU v1 v2 v3 v4 v5 (σ 44 15) σ) else (rthn (f_X5_has v2 v4 σ) (fun vr12 => if vr12 = 0 then (b_X5_gathers_108 K2 FU v1 v2 v3 v4 v5 (σ 44 15) σ) else (K2 v1 v2 (v3 + 1) σ)))) else (K2 v1 v2 (v3 + 1) σ)) = some (r, σ') := hf
  intro H locs ls h hl
  have hx := B.1
  have hb := B.2.1
  refine lv_istore (lv' := [(6, .int vs0), (0, .ref (ad 44)), (1, .int v1), (2, .int v2), (3, .int v3), (4, .int v4), (5, .int v5)]) hx hb dX5_gathers_81 hl (by decide) rfl (fun ls hl => ?_)
  refine lv_iload hx hb dX5_gathers_83 (lv_at hl 0 rfl) ?_
  refine lv_if_ne (tgt := 156) hx hb dX5_gathers_85 (by decide) (fun c10 => ?_) (fun c10 => ?_)
  · rw [if_neg c10] at hf
    refine lv_iinc (v := (v3 + 1)) (lv' := [(3, .int (v3 + 1)), (6, .int vs0), (0, .ref (ad 44)), (1, .int v1), (2, .int v2), (4, .int v4), (5, .int v5)]) hx hb dX5_gathers_156 hl (k := 4) rfl rfl (by decide) rfl (fun ls hl => ?_)
    refine lv_goto (tgt := 2) hx hb dX5_gathers_159 (by decide) ?_
    exact hK2 _ _ _ _ hf _ _ _ h (lv_sub hl [2, 3, 4, 0] rfl)
  · rw [if_pos c10] at hf
    refine lv_iload_n hx hb dX5_gathers_88 rfl (lv_at hl 3 rfl) ?_
    refine lv_if_lt (tgt := 102) hx hb dX5_gathers_89 (by decide) (fun c11 => ?_) (fun c11 => ?_)
    · rw [if_pos c11] at hf
      refine lv_aload_n hx hb dX5_gathers_102 rfl (lv_at hl 1 rfl) ?_
      refine g_get B h 44 (by decide) (C := RX5) (T := TX5) (N := 21) (M_row _) rfl hin_X5 15 (by decide) hw841 rfl rfl dX5_gathers_103 ?_
      refine lv_istore (lv' := [(7, .int (σ 44 15)), (6, .int vs0), (0, .ref (ad 44)), (1, .int v1), (2, .int v2), (3, .int v3), (4, .int v4), (5, .int v5)]) hx hb dX5_gathers_106 hl (by decide) rfl (fun ls hl => ?_)
      exact k_X5_gathers_108 B hr hK2 _ _ _ _ _ _ _ _ hf _ _ _ h (lv_sub hl [2, 3, 4, 5, 6, 7, 0] rfl)
    · rw [if_neg c11] at hf
      refine lv_aload_n hx hb dX5_gathers_92 rfl (lv_at hl 1 rfl) ?_
      refine lv_iload_n hx hb dX5_gathers_93 rfl (lv_at hl 3 rfl) ?_
      refine lv_iload hx hb dX5_gathers_94 (lv_at hl 5 rfl) ?_
      obtain ⟨vr12, hq12, hf⟩ := rthn_some hf
      refine sRetC1 (g_runV (k := 44) (T := TX5) (N := 21) B h (ok_X5_has B.2.2.2.2.2.2.2.2 B.2.2.2.2.2.2.1 _ _ v2 v4 hq12) cw_X5_91 ⟨Nat.le_of_ble_eq_true rfl, Nat.le_of_ble_eq_true rfl⟩ (by decide) (M_row _) rfl rfl hl.1.symm rfl (Nat.le_of_ble_eq_true rfl) dX5_gathers_96 ⟨Nat.zero_le _, Nat.zero_le _⟩) h (fun H locs h => ?_)
      refine lv_if_ne (tgt := 156) hx hb dX5_gathers_99 (by decide) (fun c13 => ?_) (fun c13 => ?_)
      · rw [if_neg c13] at hf
        refine lv_iinc (v := (v3 + 1)) (lv' := [(3, .int (v3 + 1)), (6, .int vs0), (0, .ref (ad 44)), (1, .int v1), (2, .int v2), (4, .int v4), (5, .int v5)]) hx hb dX5_gathers_156 hl (k := 4) rfl rfl (by decide) rfl (fun ls hl => ?_)
        refine lv_goto (tgt := 2) hx hb dX5_gathers_159 (by decide) ?_
        exact hK2 _ _ _ _ hf _ _ _ h (lv_sub hl [2, 3, 4, 0] rfl)
      · rw [if_pos c13] at hf
        refine lv_aload_n hx hb dX5_gathers_102 rfl (lv_at hl 1 rfl) ?_
        refine g_get B h 44 (by decide) (C := RX5) (T := TX5) (N := 21) (M_row _) rfl hin_X5 15 (by decide) hw841 rfl rfl dX5_gathers_103 ?_
        refine lv_istore (lv' := [(7, .int (σ 44 15)), (6, .int vs0), (0, .ref (ad 44)), (1, .int v1), (2, .int v2), (3, .int v3), (4, .int v4), (5, .int v5)]) hx hb dX5_gathers_106 hl (by decide) rfl (fun ls hl => ?_)
        exact k_X5_gathers_108 B hr hK2 _ _ _ _ _ _ _ _ hf _ _ _ h (lv_sub hl [2, 3, 4, 5, 6, 7, 0] rfl)
set_option maxHeartbeats 4000000 in
set_option maxRecDepth 100000 in
theorem k_X5_gathers_55 {p : Program} {l : Launch} {e : Env} {s : State} {m : MethodId} {args : Array Value} {below : List Frame} {meth : Method} {c : Code} {D : va_G} {cy : Nat → ClassId} {ad : Nat → Nat} {X : sX} {r : Unit} {σ' : sM} (B : sB p l s m meth c args cX5_gathers 8 RX5 D cy ad) (hr : meth.sig.returnType = none) {K2 : Int32 → Int32 → Int32 → sM → Option (Unit × sM)} (hK2 : ∀ (v1 : Int32) (v2 : Int32) (v3 : Int32) (σ : sM), K2 v1 v2 v3 σ = some (r, σ') → sGo p l e { frames := 2, cells := 0, slots := 0, locals := 45 } s m args below meth c D cy ad X 8 (sQ below args s 0 0 D cy ad (.inr none) X σ') σ 2 [(0, .ref (ad 44)), (1, .int v1), (2, .int v2), (3, .int v3)] []) (v1 : Int32) (v2 : Int32) (v3 : Int32) (v4 : Int32) (v5 : Int32) (σ : sM) (hf : b_X5_gathers_55 K2 v1 v2 v3 v4 v5 σ = some (r, σ')) : sGo p l e { frames := 2, cells := 0, slots := 0, locals := 45 } s m args below meth c D cy ad X 8 (sQ below args s 0 0 D cy ad (.inr none) X σ') σ 55 [(0, .ref (ad 44)), (1, .int v1), (2, .int v2), (3, .int v3), (4, .int v4), (5, .int v5)] [] := by
  replace hf : (if (σ 44 15) ≤ v5 then (b_X5_gathers_81 K2 v1 v2 v3 v4 v5 (0 : Int32) σ) else (chk (inb v5 60) (if (σ 59 (v5).toNatClampNeg) = v4 then (b_X5_gathers_81 K2 v1 v2 v3 v4 v5 (1 : Int32) σ) else (b_X5_gathers_81 K2 v1 v2 v3 v4 v5 (0 : Int32) σ)))) = some (r, σ') := hf
  intro H locs ls h hl
  have hx := B.1
  have hb := B.2.1
  refine lv_iload hx hb dX5_gathers_55 (lv_at hl 5 rfl) ?_
  refine lv_aload_n hx hb dX5_gathers_57 rfl (lv_at hl 0 rfl) ?_
  refine g_get B h 44 (by decide) (C := RX5) (T := TX5) (N := 21) (M_row _) rfl hin_X5 15 (by decide) hw841 rfl rfl dX5_gathers_58 ?_
  refine lv_icmp_ge (tgt := 80) hx hb dX5_gathers_61 (by decide) (fun c7 => ?_) (fun c7 => ?_)
  · rw [if_pos c7] at hf
    refine lv_iconst (v := (0 : Int32)) hx hb dX5_gathers_80 (by decide) ?_
    exact k_X5_gathers_81 B hr hK2 _ _ _ _ _ _ _ hf _ _ _ h (lv_sub hl [0, 1, 2, 3, 4, 5] rfl)
  · rw [if_neg c7] at hf
    refine lv_aload_n hx hb dX5_gathers_64 rfl (lv_at hl 0 rfl) ?_
    refine g_get B h 44 (by decide) (C := RX5) (T := TX5) (N := 21) (M_row _) rfl hin_X5 14 (by decide) hw840 rfl rfl dX5_gathers_65 ?_
    refine lv_iload hx hb dX5_gathers_68 (lv_at hl 5 rfl) ?_
    obtain ⟨c8, hf⟩ := chk_some hf
    refine g_iald B h 59 (by decide) (n := 60) (fun _ => rfl) (inb_in c8) dX5_gathers_70 ?_
    refine lv_iload hx hb dX5_gathers_71 (lv_at hl 4 rfl) ?_
    refine lv_icmp_ne (tgt := 80) hx hb dX5_gathers_73 (by decide) (fun c9 => ?_) (fun c9 => ?_)
    · rw [if_neg c9] at hf
      refine lv_iconst (v := (0 : Int32)) hx hb dX5_gathers_80 (by decide) ?_
      exact k_X5_gathers_81 B hr hK2 _ _ _ _ _ _ _ hf _ _ _ h (lv_sub hl [0, 1, 2, 3, 4, 5] rfl)
    · rw [if_pos c9] at hf
      refine lv_iconst (v := (1 : Int32)) hx hb dX5_gathers_76 (by decide) ?_
      refine lv_goto (tgt := 81) hx hb dX5_gathers_77 (by decide) ?_
      exact k_X5_gathers_81 B hr hK2 _ _ _ _ _ _ _ hf _ _ _ h (lv_sub hl [0, 1, 2, 3, 4, 5] rfl)
set_option maxHeartbeats 4000000 in
set_option maxRecDepth 100000 in
theorem k_X5_gathers_28 {p : Program} {l : Launch} {e : Env} {s : State} {m : MethodId} {args : Array Value} {below : List Frame} {meth : Method} {c : Code} {D : va_G} {cy : Nat → ClassId} {ad : Nat → Nat} {X : sX} {r : Unit} {σ' : sM} (B : sB p l s m meth c args cX5_gathers 8 RX5 D cy ad) (hr : meth.sig.returnType = none) {K2 : Int32 → Int32 → Int32 → sM → Option (Unit × sM)} (hK2 : ∀ (v1 : Int32) (v2 : Int32) (v3 : Int32) (σ : sM), K2 v1 v2 v3 σ = some (r, σ') → sGo p l e { frames := 2, cells := 0, slots := 0, locals := 45 } s m args below meth c D cy ad X 8 (sQ below args s 0 0 D cy ad (.inr none) X σ') σ 2 [(0, .ref (ad 44)), (1, .int v1), (2, .int v2), (3, .int v3)] []) : ∀ (n : Nat) (v1 : Int32) (v2 : Int32) (v3 : Int32) (v4 : Int32) (v5 : Int32) (σ : sM), b_X5_gathers_28 K2 n v1 v2 v3 v4 v5 σ = some (r, σ') → sGo p l e { frames := 2, cells := 0, slots := 0, locals := 45 } s m args below meth c D cy ad X 8 (sQ below args s 0 0 D cy ad (.inr none) X σ') σ 28 [(0, .ref (ad 44)), (1, .int v1), (2, .int v2), (3, .int v3), (4, .int v4), (5, .int v5)] [] := by
  intro n
  induction n with
  | zero =>
    intro v1 v2 v3 v4 v5 σ hf
    exact nomatch (show none = some (r, σ') from hf)
  | succ n ih =>
    intro v1 v2 v3 v4 v5 σ hf
    replace hf : (if (σ 44 15) ≤ v5 then (b_X5_gathers_55 K2 v1 v2 v3 v4 v5 σ) else (chk (inb v5 60) (if v4 ≤ (σ 59 (v5).toNatClampNeg) then (b_X5_gathers_55 K2 v1 v2 v3 v4 v5 σ) else (b_X5_gathers_28 K2 n v1 v2 v3 v4 (v5 + 1) σ)))) = some (r, σ') := hf
    intro H locs ls h hl
    have hx := B.1
    have hb := B.2.1
    refine lv_iload hx hb dX5_gathers_28 (lv_at hl 5 rfl) ?_
    refine lv_aload_n hx hb dX5_gathers_30 rfl (lv_at hl 0 rfl) ?_
    refine g_get B h 44 (by decide) (C := RX5) (T := TX5) (N := 21) (M_row _) rfl hin_X5 15 (by decide) hw841 rfl rfl dX5_gathers_31 ?_
    refine lv_icmp_ge (tgt := 55) hx hb dX5_gathers_34 (by decide) (fun c4 => ?_) (fun c4 => ?_)
    · rw [if_pos c4] at hf
      exact k_X5_gathers_55 B hr hK2 _ _ _ _ _ _ hf _ _ _ h (lv_sub hl [0, 1, 2, 3, 4, 5] rfl)
    · rw [if_neg c4] at hf
      refine lv_aload_n hx hb dX5_gathers_37 rfl (lv_at hl 0 rfl) ?_
      refine g_get B h 44 (by decide) (C := RX5) (T := TX5) (N := 21) (M_row _) rfl hin_X5 14 (by decide) hw840 rfl rfl dX5_gathers_38 ?_
      refine lv_iload hx hb dX5_gathers_41 (lv_at hl 5 rfl) ?_
      obtain ⟨c5, hf⟩ := chk_some hf
      refine g_iald B h 59 (by decide) (n := 60) (fun _ => rfl) (inb_in c5) dX5_gathers_43 ?_
      refine lv_iload hx hb dX5_gathers_44 (lv_at hl 4 rfl) ?_
      refine lv_icmp_ge (tgt := 55) hx hb dX5_gathers_46 (by decide) (fun c6 => ?_) (fun c6 => ?_)
      · rw [if_pos c6] at hf
        exact k_X5_gathers_55 B hr hK2 _ _ _ _ _ _ hf _ _ _ h (lv_sub hl [0, 1, 2, 3, 4, 5] rfl)
      · rw [if_neg c6] at hf
        refine lv_iinc (v := (v5 + 1)) (lv' := [(5, .int (v5 + 1)), (0, .ref (ad 44)), (1, .int v1), (2, .int v2), (3, .int v3), (4, .int v4)]) hx hb dX5_gathers_49 hl (k := 5) rfl rfl (by decide) rfl (fun ls hl => ?_)
        refine lv_goto (tgt := 28) hx hb dX5_gathers_52 (by decide) ?_
        exact ih _ _ _ _ _ _ hf _ _ _ h (lv_sub hl [1, 2, 3, 4, 5, 0] rfl)
set_option maxHeartbeats 4000000 in
set_option maxRecDepth 100000 in
theorem k_X5_gathers_2 {p : Program} {l : Launch} {e : Env} {s : State} {m : MethodId} {args : Array Value} {below : List Frame} {meth : Method} {c : Code} {D : va_G} {cy : Nat → ClassId} {ad : Nat → Nat} {X : sX} {r : Unit} {σ' : sM} (B : sB p l s m meth c args cX5_gathers 8 RX5 D cy ad) (hr : meth.sig.returnType = none) : ∀ (n : Nat) (v1 : Int32) (v2 : Int32) (v3 : Int32) (σ : sM), b_X5_gathers_2 n v1 v2 v3 σ = some (r, σ') → sGo p l e { frames := 2, cells := 0, slots := 0, locals := 45 } s m args below meth c D cy ad X 8 (sQ below args s 0 0 D cy ad (.inr none) X σ') σ 2 [(0, .ref (ad 44)), (1, .int v1), (2, .int v2), (3, .int v3)] [] := by
  intro n
  induction n with
  | zero =>
    intro v1 v2 v3 σ hf
    exact nomatch (show none = some (r, σ') from hf)
  | succ n ih =>
    intro v1 v2 v3 σ hf
    replace hf : (chk (inb v1 3) (if (σ 58 (v1).toNatClampNeg) ≤ v3 then (some ((), σ)) else (chk (inb (((30 : Int32) * v1) + v3) 90) (b_X5_gathers_28 (b_X5_gathers_2 n) FU v1 v2 v3 (σ 56 ((((30 : Int32) * v1) + v3)).toNatClampNeg) (0 : Int32) σ)))) = some (r, σ') := hf
    intro H locs ls h hl
    have hx := B.1
    have hb := B.2.1
    refine lv_iload_n hx hb dX5_gathers_2 rfl (lv_at hl 3 rfl) ?_
    refine lv_aload_n hx hb dX5_gathers_3 rfl (lv_at hl 0 rfl) ?_
    refine g_get B h 44 (by decide) (C := RX5) (T := TX5) (N := 21) (M_row _) rfl hin_X5 13 (by decide) hw839 rfl rfl dX5_gathers_4 ?_
    refine lv_iload_n hx hb dX5_gathers_7 rfl (lv_at hl 1 rfl) ?_
    obtain ⟨c1, hf⟩ := chk_some hf
    refine g_iald B h 58 (by decide) (n := 3) (fun _ => rfl) (inb_in c1) dX5_gathers_8 ?_
    refine lv_icmp_ge (tgt := 162) hx hb dX5_gathers_9 (by decide) (fun c2 => ?_) (fun c2 => ?_)
    · rw [if_pos c2] at hf
      obtain ⟨rfl, rfl⟩ := Prod.mk.inj (Option.some.inj hf)
      exact sE_v B hr h dX5_gathers_162
    · rw [if_neg c2] at hf
      refine lv_aload_n hx hb dX5_gathers_12 rfl (lv_at hl 0 rfl) ?_
      refine g_get B h 44 (by decide) (C := RX5) (T := TX5) (N := 21) (M_row _) rfl hin_X5 11 (by decide) hw837 rfl rfl dX5_gathers_13 ?_
      refine lv_bipush (v := (30 : Int32)) hx hb dX5_gathers_16 (by decide) ?_
      refine lv_iload_n hx hb dX5_gathers_18 rfl (lv_at hl 1 rfl) ?_
      refine lv_imul hx hb dX5_gathers_19 ?_
      refine lv_iload_n hx hb dX5_gathers_20 rfl (lv_at hl 3 rfl) ?_
      refine lv_iadd hx hb dX5_gathers_21 ?_
      obtain ⟨c3, hf⟩ := chk_some hf
      refine g_iald B h 56 (by decide) (n := 90) (fun _ => rfl) (inb_in c3) dX5_gathers_22 ?_
      refine lv_istore (lv' := [(4, .int (σ 56 ((((30 : Int32) * v1) + v3)).toNatClampNeg)), (0, .ref (ad 44)), (1, .int v1), (2, .int v2), (3, .int v3)]) hx hb dX5_gathers_23 hl (by decide) rfl (fun ls hl => ?_)
      refine lv_iconst (v := (0 : Int32)) hx hb dX5_gathers_25 (by decide) ?_
      refine lv_istore (lv' := [(5, .int (0 : Int32)), (4, .int (σ 56 ((((30 : Int32) * v1) + v3)).toNatClampNeg)), (0, .ref (ad 44)), (1, .int v1), (2, .int v2), (3, .int v3)]) hx hb dX5_gathers_26 hl (by decide) rfl (fun ls hl => ?_)
      exact k_X5_gathers_28 B hr ih _ _ _ _ _ _ _ hf _ _ _ h (lv_sub hl [2, 3, 4, 5, 1, 0] rfl)
set_option maxHeartbeats 4000000 in
set_option maxRecDepth 100000 in
theorem k_X5_gathers_0 {p : Program} {l : Launch} {e : Env} {s : State} {m : MethodId} {args : Array Value} {below : List Frame} {meth : Method} {c : Code} {D : va_G} {cy : Nat → ClassId} {ad : Nat → Nat} {X : sX} {r : Unit} {σ' : sM} (B : sB p l s m meth c args cX5_gathers 8 RX5 D cy ad) (hr : meth.sig.returnType = none) (v1 : Int32) (v2 : Int32) (σ : sM) (hf : f_X5_gathers v1 v2 σ = some (r, σ')) : sGo p l e { frames := 2, cells := 0, slots := 0, locals := 45 } s m args below meth c D cy ad X 8 (sQ below args s 0 0 D cy ad (.inr none) X σ') σ 0 [(0, .ref (ad 44)), (1, .int v1), (2, .int v2)] [] := by
  replace hf : (b_X5_gathers_2 FU v1 v2 (0 : Int32) σ) = some (r, σ') := hf
  intro H locs ls h hl
  have hx := B.1
  have hb := B.2.1
  refine lv_iconst (v := (0 : Int32)) hx hb dX5_gathers_0 (by decide) ?_
  refine lv_istore_n (lv' := [(3, .int (0 : Int32)), (0, .ref (ad 44)), (1, .int v1), (2, .int v2)]) hx hb dX5_gathers_1 rfl hl (by decide) rfl (fun ls hl => ?_)
  exact k_X5_gathers_2 B hr  _ _ _ _ _ hf _ _ _ h (lv_sub hl [1, 2, 3, 0] rfl)
set_option maxRecDepth 100000 in
theorem ok_X5_gathers {l : Launch} (hl0 : l.stackTraces = false) {D : va_G} {cy : Nat → ClassId} {ad : Nat → Nat} (hap : sAp ad) (X : sX) (σ : sM) (v1 : Int32) (v2 : Int32) {r : Unit} {σ' : sM} (hf : f_X5_gathers v1 v2 σ = some (r, σ')) : sMet l yX5_gathers (sWs yX5_gathers cX5_gathers 8 none) 2 45 0 0 D cy ad X σ [.ref (ad 44), .int v1, .int v2] (.inr none) X σ' := by
  refine sMet_of (by decide +kernel) (Nat.le_of_ble_eq_true rfl) hap hl0 ?_
  intro p e s m args below meth c ls B hr htab hl h
  exact k_X5_gathers_0 B hr _ _ _  hf _ _ _ h hl
set_option maxHeartbeats 4000000 in
set_option maxRecDepth 100000 in
theorem k_X5_hasKey_5 {p : Program} {l : Launch} {e : Env} {s : State} {m : MethodId} {args : Array Value} {below : List Frame} {meth : Method} {c : Code} {D : va_G} {cy : Nat → ClassId} {ad : Nat → Nat} {X : sX} {r : Int32} (B : sB p l s m meth c args cX5_hasKey 5 RX5 D cy ad) (hr : meth.sig.returnType = (some .boolean)) : ∀ (n : Nat) (v1 : Int32) (v2 : Int32) (v3 : Int32) (v4 : Int32) (σ : sM), b_X5_hasKey_5 n v1 v2 v3 v4 σ = some r → sGo p l e { frames := 0, cells := 0, slots := 0, locals := 0 } s m args below meth c D cy ad X 5 (sQ below args s 0 0 D cy ad (.inr (some (.int r))) X σ) σ 5 [(0, .ref (ad 44)), (1, .int v1), (2, .int v2), (3, .int v3), (4, .int v4)] [] := by
  intro n
  induction n with
  | zero =>
    intro v1 v2 v3 v4 σ hf
    exact nomatch (show none = some r from hf)
  | succ n ih =>
    intro v1 v2 v3 v4 σ hf
    replace hf : (chk (inb v1 3) (if (σ 58 (v1).toNatClampNeg) ≤ v4 then (chk (isb v3) (some v3)) else (if v3 = 0 then (chk (inb (((30 : Int32) * v1) + v4) 90) (if (σ 56 ((((30 : Int32) * v1) + v4)).toNatClampNeg) = v2 then (b_X5_hasKey_5 n v1 v2 (1 : Int32) (v4 + 1) σ) else (b_X5_hasKey_5 n v1 v2 (0 : Int32) (v4 + 1) σ))) else (b_X5_hasKey_5 n v1 v2 (1 : Int32) (v4 + 1) σ)))) = some r := hf
    intro H locs ls h hl
    have hx := B.1
    have hb := B.2.1
    refine lv_iload hx hb dX5_hasKey_5 (lv_at hl 4 rfl) ?_
    refine lv_aload_n hx hb dX5_hasKey_7 rfl (lv_at hl 0 rfl) ?_
    refine g_get B h 44 (by decide) (C := RX5) (T := TX5) (N := 21) (M_row _) rfl hin_X5 13 (by decide) hw839 rfl rfl dX5_hasKey_8 ?_
    refine lv_iload_n hx hb dX5_hasKey_11 rfl (lv_at hl 1 rfl) ?_
    obtain ⟨c1, hf⟩ := chk_some hf
    refine g_iald B h 58 (by decide) (n := 3) (fun _ => rfl) (inb_in c1) dX5_hasKey_12 ?_
    refine lv_icmp_ge (tgt := 48) hx hb dX5_hasKey_13 (by decide) (fun c2 => ?_) (fun c2 => ?_)
    · rw [if_pos c2] at hf
      refine lv_iload_n hx hb dX5_hasKey_48 rfl (lv_at hl 3 rfl) ?_
      obtain ⟨c3, hf⟩ := chk_some hf
      obtain rfl := Option.some.inj hf
      exact sE_z B hr h (isb_n c3) dX5_hasKey_49
    · rw [if_neg c2] at hf
      refine lv_iload_n hx hb dX5_hasKey_16 rfl (lv_at hl 3 rfl) ?_
      refine lv_if_ne (tgt := 36) hx hb dX5_hasKey_17 (by decide) (fun c4 => ?_) (fun c4 => ?_)
      · rw [if_neg c4] at hf
        refine lv_iconst (v := (1 : Int32)) hx hb dX5_hasKey_36 (by decide) ?_
        refine lv_goto (tgt := 41) hx hb dX5_hasKey_37 (by decide) ?_
        refine lv_istore_n (lv' := [(3, .int (1 : Int32)), (0, .ref (ad 44)), (1, .int v1), (2, .int v2), (4, .int v4)]) hx hb dX5_hasKey_41 rfl hl (by decide) rfl (fun ls hl => ?_)
        refine lv_iinc (v := (v4 + 1)) (lv' := [(4, .int (v4 + 1)), (3, .int (1 : Int32)), (0, .ref (ad 44)), (1, .int v1), (2, .int v2)]) hx hb dX5_hasKey_42 hl (k := 4) rfl rfl (by decide) rfl (fun ls hl => ?_)
        refine lv_goto (tgt := 5) hx hb dX5_hasKey_45 (by decide) ?_
        exact ih _ _ _ _ _ hf _ _ _ h (lv_sub hl [2, 3, 4, 1, 0] rfl)
      · rw [if_pos c4] at hf
        refine lv_aload_n hx hb dX5_hasKey_20 rfl (lv_at hl 0 rfl) ?_
        refine g_get B h 44 (by decide) (C := RX5) (T := TX5) (N := 21) (M_row _) rfl hin_X5 11 (by decide) hw837 rfl rfl dX5_hasKey_21 ?_
        refine lv_bipush (v := (30 : Int32)) hx hb dX5_hasKey_24 (by decide) ?_
        refine lv_iload_n hx hb dX5_hasKey_26 rfl (lv_at hl 1 rfl) ?_
        refine lv_imul hx hb dX5_hasKey_27 ?_
        refine lv_iload hx hb dX5_hasKey_28 (lv_at hl 4 rfl) ?_
        refine lv_iadd hx hb dX5_hasKey_30 ?_
        obtain ⟨c5, hf⟩ := chk_some hf
        refine g_iald B h 56 (by decide) (n := 90) (fun _ => rfl) (inb_in c5) dX5_hasKey_31 ?_
        refine lv_iload_n hx hb dX5_hasKey_32 rfl (lv_at hl 2 rfl) ?_
        refine lv_icmp_ne (tgt := 40) hx hb dX5_hasKey_33 (by decide) (fun c6 => ?_) (fun c6 => ?_)
        · rw [if_neg c6] at hf
          refine lv_iconst (v := (0 : Int32)) hx hb dX5_hasKey_40 (by decide) ?_
          refine lv_istore_n (lv' := [(3, .int (0 : Int32)), (0, .ref (ad 44)), (1, .int v1), (2, .int v2), (4, .int v4)]) hx hb dX5_hasKey_41 rfl hl (by decide) rfl (fun ls hl => ?_)
          refine lv_iinc (v := (v4 + 1)) (lv' := [(4, .int (v4 + 1)), (3, .int (0 : Int32)), (0, .ref (ad 44)), (1, .int v1), (2, .int v2)]) hx hb dX5_hasKey_42 hl (k := 4) rfl rfl (by decide) rfl (fun ls hl => ?_)
          refine lv_goto (tgt := 5) hx hb dX5_hasKey_45 (by decide) ?_
          exact ih _ _ _ _ _ hf _ _ _ h (lv_sub hl [2, 3, 4, 1, 0] rfl)
        · rw [if_pos c6] at hf
          refine lv_iconst (v := (1 : Int32)) hx hb dX5_hasKey_36 (by decide) ?_
          refine lv_goto (tgt := 41) hx hb dX5_hasKey_37 (by decide) ?_
          refine lv_istore_n (lv' := [(3, .int (1 : Int32)), (0, .ref (ad 44)), (1, .int v1), (2, .int v2), (4, .int v4)]) hx hb dX5_hasKey_41 rfl hl (by decide) rfl (fun ls hl => ?_)
          refine lv_iinc (v := (v4 + 1)) (lv' := [(4, .int (v4 + 1)), (3, .int (1 : Int32)), (0, .ref (ad 44)), (1, .int v1), (2, .int v2)]) hx hb dX5_hasKey_42 hl (k := 4) rfl rfl (by decide) rfl (fun ls hl => ?_)
          refine lv_goto (tgt := 5) hx hb dX5_hasKey_45 (by decide) ?_
          exact ih _ _ _ _ _ hf _ _ _ h (lv_sub hl [2, 3, 4, 1, 0] rfl)
set_option maxHeartbeats 4000000 in
set_option maxRecDepth 100000 in
theorem k_X5_hasKey_0 {p : Program} {l : Launch} {e : Env} {s : State} {m : MethodId} {args : Array Value} {below : List Frame} {meth : Method} {c : Code} {D : va_G} {cy : Nat → ClassId} {ad : Nat → Nat} {X : sX} {r : Int32} (B : sB p l s m meth c args cX5_hasKey 5 RX5 D cy ad) (hr : meth.sig.returnType = (some .boolean)) (v1 : Int32) (v2 : Int32) (σ : sM) (hf : f_X5_hasKey v1 v2 σ = some r) : sGo p l e { frames := 0, cells := 0, slots := 0, locals := 0 } s m args below meth c D cy ad X 5 (sQ below args s 0 0 D cy ad (.inr (some (.int r))) X σ) σ 0 [(0, .ref (ad 44)), (1, .int v1), (2, .int v2)] [] := by
  replace hf : (b_X5_hasKey_5 FU v1 v2 (0 : Int32) (0 : Int32) σ) = some r := hf
  intro H locs ls h hl
  have hx := B.1
  have hb := B.2.1
  refine lv_iconst (v := (0 : Int32)) hx hb dX5_hasKey_0 (by decide) ?_
  refine lv_istore_n (lv' := [(3, .int (0 : Int32)), (0, .ref (ad 44)), (1, .int v1), (2, .int v2)]) hx hb dX5_hasKey_1 rfl hl (by decide) rfl (fun ls hl => ?_)
  refine lv_iconst (v := (0 : Int32)) hx hb dX5_hasKey_2 (by decide) ?_
  refine lv_istore (lv' := [(4, .int (0 : Int32)), (3, .int (0 : Int32)), (0, .ref (ad 44)), (1, .int v1), (2, .int v2)]) hx hb dX5_hasKey_3 hl (by decide) rfl (fun ls hl => ?_)
  exact k_X5_hasKey_5 B hr  _ _ _ _ _ _ hf _ _ _ h (lv_sub hl [2, 3, 4, 1, 0] rfl)
set_option maxRecDepth 100000 in
theorem ok_X5_hasKey {l : Launch} (hl0 : l.stackTraces = false) {D : va_G} {cy : Nat → ClassId} {ad : Nat → Nat} (hap : sAp ad) (X : sX) (σ : sM) (v1 : Int32) (v2 : Int32) {r : Int32} (hf : f_X5_hasKey v1 v2 σ = some r) : sMet l yX5_hasKey (sWs yX5_hasKey cX5_hasKey 5 (some .boolean)) 0 0 0 0 D cy ad X σ [.ref (ad 44), .int v1, .int v2] (.inr (some (.int r))) X σ := by
  refine sMet_of (by decide +kernel) (Nat.le_of_ble_eq_true rfl) hap hl0 ?_
  intro p e s m args below meth c ls B hr htab hl h
  exact k_X5_hasKey_0 B hr _ _ _  hf _ _ _ h hl
set_option maxHeartbeats 4000000 in
set_option maxRecDepth 100000 in
theorem k_X5_isLike_52 {p : Program} {l : Launch} {e : Env} {s : State} {m : MethodId} {args : Array Value} {below : List Frame} {meth : Method} {c : Code} {D : va_G} {cy : Nat → ClassId} {ad : Nat → Nat} {X : sX} {r : Int32} {σ' : sM} (B : sB p l s m meth c args cX5_isLike 5 RX5 D cy ad) (hr : meth.sig.returnType = (some .boolean)) : ∀ (n : Nat) (v1 : Int32) (v2 : Int32) (v3 : Int32) (v4 : Int32) (σ : sM), b_X5_isLike_52 n v1 v2 v3 v4 σ = some (r, σ') → sGo p l e { frames := 2, cells := 0, slots := 0, locals := 42 } s m args below meth c D cy ad X 5 (sQ below args s 0 0 D cy ad (.inr (some (.int r))) X σ') σ 52 [(0, .ref (ad 44)), (1, .int v1), (2, .int v2), (3, .int v3), (4, .int v4)] [] := by
  intro n
  induction n with
  | zero =>
    intro v1 v2 v3 v4 σ hf
    exact nomatch (show none = some (r, σ') from hf)
  | succ n ih =>
    intro v1 v2 v3 v4 σ hf
    replace hf : (chk (inb v1 3) (if (σ 47 (v1).toNatClampNeg) ≤ v4 then (chk (isb v3) (some (v3, σ))) else (if v3 = 0 then (chk (isb v3) (some (v3, σ))) else (chk (inb (((60 : Int32) * v1) + v4) 180) (chk (inb (((60 : Int32) * v2) + v4) 180) (if (σ 45 ((((60 : Int32) * v1) + v4)).toNatClampNeg) = (σ 45 ((((60 : Int32) * v2) + v4)).toNatClampNeg) then (chk (inb (((60 : Int32) * v1) + v4) 180) (chk (inb (((60 : Int32) * v2) + v4) 180) (if (σ 46 ((((60 : Int32) * v1) + v4)).toNatClampNeg) = (σ 46 ((((60 : Int32) * v2) + v4)).toNatClampNeg) then (b_X5_isLike_52 n v1 v2 (1 : Int32) (v4 + 1) σ) else (b_X5_isLike_52 n v1 v2 (0 : Int32) (v4 + 1) σ)))) else (b_X5_isLike_52 n v1 v2 (0 : Int32) (v4 + 1) σ))))))) = some (r, σ') := hf
    intro H locs ls h hl
    have hx := B.1
    have hb := B.2.1
    refine lv_iload hx hb dX5_isLike_52 (lv_at hl 4 rfl) ?_
    refine lv_aload_n hx hb dX5_isLike_54 rfl (lv_at hl 0 rfl) ?_
    refine g_get B h 44 (by decide) (C := RX5) (T := TX5) (N := 21) (M_row _) rfl hin_X5 2 (by decide) hw828 rfl rfl dX5_isLike_55 ?_
    refine lv_iload_n hx hb dX5_isLike_58 rfl (lv_at hl 1 rfl) ?_
    obtain ⟨c10, hf⟩ := chk_some hf
    refine g_iald B h 47 (by decide) (n := 3) (fun _ => rfl) (inb_in c10) dX5_isLike_59 ?_
    refine lv_icmp_ge (tgt := 133) hx hb dX5_isLike_60 (by decide) (fun c11 => ?_) (fun c11 => ?_)
    · rw [if_pos c11] at hf
      refine lv_iload_n hx hb dX5_isLike_133 rfl (lv_at hl 3 rfl) ?_
      obtain ⟨c12, hf⟩ := chk_some hf
      obtain ⟨rfl, rfl⟩ := Prod.mk.inj (Option.some.inj hf)
      exact sE_z B hr h (isb_n c12) dX5_isLike_134
    · rw [if_neg c11] at hf
      refine lv_iload_n hx hb dX5_isLike_63 rfl (lv_at hl 3 rfl) ?_
      refine lv_if_eq (tgt := 133) hx hb dX5_isLike_64 (by decide) (fun c13 => ?_) (fun c13 => ?_)
      · rw [if_pos c13] at hf
        refine lv_iload_n hx hb dX5_isLike_133 rfl (lv_at hl 3 rfl) ?_
        obtain ⟨c14, hf⟩ := chk_some hf
        obtain ⟨rfl, rfl⟩ := Prod.mk.inj (Option.some.inj hf)
        exact sE_z B hr h (isb_n c14) dX5_isLike_134
      · rw [if_neg c13] at hf
        refine lv_aload_n hx hb dX5_isLike_67 rfl (lv_at hl 0 rfl) ?_
        refine g_get B h 44 (by decide) (C := RX5) (T := TX5) (N := 21) (M_row _) rfl hin_X5 0 (by decide) hw826 rfl rfl dX5_isLike_68 ?_
        refine lv_bipush (v := (60 : Int32)) hx hb dX5_isLike_71 (by decide) ?_
        refine lv_iload_n hx hb dX5_isLike_73 rfl (lv_at hl 1 rfl) ?_
        refine lv_imul hx hb dX5_isLike_74 ?_
        refine lv_iload hx hb dX5_isLike_75 (lv_at hl 4 rfl) ?_
        refine lv_iadd hx hb dX5_isLike_77 ?_
        obtain ⟨c15, hf⟩ := chk_some hf
        refine g_iald B h 45 (by decide) (n := 180) (fun _ => rfl) (inb_in c15) dX5_isLike_78 ?_
        refine lv_aload_n hx hb dX5_isLike_79 rfl (lv_at hl 0 rfl) ?_
        refine g_get B h 44 (by decide) (C := RX5) (T := TX5) (N := 21) (M_row _) rfl hin_X5 0 (by decide) hw826 rfl rfl dX5_isLike_80 ?_
        refine lv_bipush (v := (60 : Int32)) hx hb dX5_isLike_83 (by decide) ?_
        refine lv_iload_n hx hb dX5_isLike_85 rfl (lv_at hl 2 rfl) ?_
        refine lv_imul hx hb dX5_isLike_86 ?_
        refine lv_iload hx hb dX5_isLike_87 (lv_at hl 4 rfl) ?_
        refine lv_iadd hx hb dX5_isLike_89 ?_
        obtain ⟨c16, hf⟩ := chk_some hf
        refine g_iald B h 45 (by decide) (n := 180) (fun _ => rfl) (inb_in c16) dX5_isLike_90 ?_
        refine lv_icmp_ne (tgt := 125) hx hb dX5_isLike_91 (by decide) (fun c17 => ?_) (fun c17 => ?_)
        · rw [if_neg c17] at hf
          refine lv_iconst (v := (0 : Int32)) hx hb dX5_isLike_125 (by decide) ?_
          refine lv_istore_n (lv' := [(3, .int (0 : Int32)), (0, .ref (ad 44)), (1, .int v1), (2, .int v2), (4, .int v4)]) hx hb dX5_isLike_126 rfl hl (by decide) rfl (fun ls hl => ?_)
          refine lv_iinc (v := (v4 + 1)) (lv' := [(4, .int (v4 + 1)), (3, .int (0 : Int32)), (0, .ref (ad 44)), (1, .int v1), (2, .int v2)]) hx hb dX5_isLike_127 hl (k := 4) rfl rfl (by decide) rfl (fun ls hl => ?_)
          refine lv_goto (tgt := 52) hx hb dX5_isLike_130 (by decide) ?_
          exact ih _ _ _ _ _ hf _ _ _ h (lv_sub hl [2, 3, 4, 1, 0] rfl)
        · rw [if_pos c17] at hf
          refine lv_aload_n hx hb dX5_isLike_94 rfl (lv_at hl 0 rfl) ?_
          refine g_get B h 44 (by decide) (C := RX5) (T := TX5) (N := 21) (M_row _) rfl hin_X5 1 (by decide) hw827 rfl rfl dX5_isLike_95 ?_
          refine lv_bipush (v := (60 : Int32)) hx hb dX5_isLike_98 (by decide) ?_
          refine lv_iload_n hx hb dX5_isLike_100 rfl (lv_at hl 1 rfl) ?_
          refine lv_imul hx hb dX5_isLike_101 ?_
          refine lv_iload hx hb dX5_isLike_102 (lv_at hl 4 rfl) ?_
          refine lv_iadd hx hb dX5_isLike_104 ?_
          obtain ⟨c18, hf⟩ := chk_some hf
          refine g_iald B h 46 (by decide) (n := 180) (fun _ => rfl) (inb_in c18) dX5_isLike_105 ?_
          refine lv_aload_n hx hb dX5_isLike_106 rfl (lv_at hl 0 rfl) ?_
          refine g_get B h 44 (by decide) (C := RX5) (T := TX5) (N := 21) (M_row _) rfl hin_X5 1 (by decide) hw827 rfl rfl dX5_isLike_107 ?_
          refine lv_bipush (v := (60 : Int32)) hx hb dX5_isLike_110 (by decide) ?_
          refine lv_iload_n hx hb dX5_isLike_112 rfl (lv_at hl 2 rfl) ?_
          refine lv_imul hx hb dX5_isLike_113 ?_
          refine lv_iload hx hb dX5_isLike_114 (lv_at hl 4 rfl) ?_
          refine lv_iadd hx hb dX5_isLike_116 ?_
          obtain ⟨c19, hf⟩ := chk_some hf
          refine g_iald B h 46 (by decide) (n := 180) (fun _ => rfl) (inb_in c19) dX5_isLike_117 ?_
          refine lv_icmp_ne (tgt := 125) hx hb dX5_isLike_118 (by decide) (fun c20 => ?_) (fun c20 => ?_)
          · rw [if_neg c20] at hf
            refine lv_iconst (v := (0 : Int32)) hx hb dX5_isLike_125 (by decide) ?_
            refine lv_istore_n (lv' := [(3, .int (0 : Int32)), (0, .ref (ad 44)), (1, .int v1), (2, .int v2), (4, .int v4)]) hx hb dX5_isLike_126 rfl hl (by decide) rfl (fun ls hl => ?_)
            refine lv_iinc (v := (v4 + 1)) (lv' := [(4, .int (v4 + 1)), (3, .int (0 : Int32)), (0, .ref (ad 44)), (1, .int v1), (2, .int v2)]) hx hb dX5_isLike_127 hl (k := 4) rfl rfl (by decide) rfl (fun ls hl => ?_)
            refine lv_goto (tgt := 52) hx hb dX5_isLike_130 (by decide) ?_
            exact ih _ _ _ _ _ hf _ _ _ h (lv_sub hl [2, 3, 4, 1, 0] rfl)
          · rw [if_pos c20] at hf
            refine lv_iconst (v := (1 : Int32)) hx hb dX5_isLike_121 (by decide) ?_
            refine lv_goto (tgt := 126) hx hb dX5_isLike_122 (by decide) ?_
            refine lv_istore_n (lv' := [(3, .int (1 : Int32)), (0, .ref (ad 44)), (1, .int v1), (2, .int v2), (4, .int v4)]) hx hb dX5_isLike_126 rfl hl (by decide) rfl (fun ls hl => ?_)
            refine lv_iinc (v := (v4 + 1)) (lv' := [(4, .int (v4 + 1)), (3, .int (1 : Int32)), (0, .ref (ad 44)), (1, .int v1), (2, .int v2)]) hx hb dX5_isLike_127 hl (k := 4) rfl rfl (by decide) rfl (fun ls hl => ?_)
            refine lv_goto (tgt := 52) hx hb dX5_isLike_130 (by decide) ?_
            exact ih _ _ _ _ _ hf _ _ _ h (lv_sub hl [2, 3, 4, 1, 0] rfl)
set_option maxHeartbeats 4000000 in
set_option maxRecDepth 100000 in
theorem k_X5_isLike_20 {p : Program} {l : Launch} {e : Env} {s : State} {m : MethodId} {args : Array Value} {below : List Frame} {meth : Method} {c : Code} {D : va_G} {cy : Nat → ClassId} {ad : Nat → Nat} {X : sX} {r : Int32} {σ' : sM} (B : sB p l s m meth c args cX5_isLike 5 RX5 D cy ad) (hr : meth.sig.returnType = (some .boolean)) (v1 : Int32) (v2 : Int32) (vs1 : Int32) (σ : sM) (hf : b_X5_isLike_20 v1 v2 vs1 σ = some (r, σ')) : sGo p l e { frames := 2, cells := 0, slots := 0, locals := 42 } s m args below meth c D cy ad X 5 (sQ below args s 0 0 D cy ad (.inr (some (.int r))) X σ') σ 20 [(0, .ref (ad 44)), (1, .int v1), (2, .int v2)] [.int vs1, .ref (ad 44)] := by
  replace hf : (wthn (f_X5_refused vs1 σ) (fun vr5 σ5 => if vr5 = 0 then (chk (inb v1 3) (chk (inb v2 3) (if (σ5 47 (v1).toNatClampNeg) = (σ5 47 (v2).toNatClampNeg) then (b_X5_isLike_52 FU v1 v2 (1 : Int32) (0 : Int32) σ5) else (b_X5_isLike_52 FU v1 v2 (0 : Int32) (0 : Int32) σ5)))) else (some ((0 : Int32), σ5)))) = some (r, σ') := hf
  intro H locs ls h hl
  have hx := B.1
  have hb := B.2.1
  obtain ⟨vr5, σ5, hq5, hf⟩ := wthn_some hf
  refine sRetC1 (g_runV (k := 44) (T := TX5) (N := 21) B h (ok_X5_refused B.2.2.2.2.2.2.2.2 B.2.2.2.2.2.2.1 _ _ vs1 hq5) cw_X5_95 ⟨Nat.le_of_ble_eq_true rfl, Nat.le_of_ble_eq_true rfl⟩ (by decide) (M_row _) rfl rfl hl.1.symm rfl (Nat.le_of_ble_eq_true rfl) dX5_isLike_20 ⟨Nat.zero_le _, Nat.zero_le _⟩) h (fun H locs h => ?_)
  refine lv_if_eq (tgt := 28) hx hb dX5_isLike_23 (by decide) (fun c6 => ?_) (fun c6 => ?_)
  · rw [if_pos c6] at hf
    refine lv_aload_n hx hb dX5_isLike_28 rfl (lv_at hl 0 rfl) ?_
    refine g_get B h 44 (by decide) (C := RX5) (T := TX5) (N := 21) (M_row _) rfl hin_X5 2 (by decide) hw828 rfl rfl dX5_isLike_29 ?_
    refine lv_iload_n hx hb dX5_isLike_32 rfl (lv_at hl 1 rfl) ?_
    obtain ⟨c7, hf⟩ := chk_some hf
    refine g_iald B h 47 (by decide) (n := 3) (fun _ => rfl) (inb_in c7) dX5_isLike_33 ?_
    refine lv_aload_n hx hb dX5_isLike_34 rfl (lv_at hl 0 rfl) ?_
    refine g_get B h 44 (by decide) (C := RX5) (T := TX5) (N := 21) (M_row _) rfl hin_X5 2 (by decide) hw828 rfl rfl dX5_isLike_35 ?_
    refine lv_iload_n hx hb dX5_isLike_38 rfl (lv_at hl 2 rfl) ?_
    obtain ⟨c8, hf⟩ := chk_some hf
    refine g_iald B h 47 (by decide) (n := 3) (fun _ => rfl) (inb_in c8) dX5_isLike_39 ?_
    refine lv_icmp_ne (tgt := 47) hx hb dX5_isLike_40 (by decide) (fun c9 => ?_) (fun c9 => ?_)
    · rw [if_neg c9] at hf
      refine lv_iconst (v := (0 : Int32)) hx hb dX5_isLike_47 (by decide) ?_
      refine lv_istore_n (lv' := [(3, .int (0 : Int32)), (0, .ref (ad 44)), (1, .int v1), (2, .int v2)]) hx hb dX5_isLike_48 rfl hl (by decide) rfl (fun ls hl => ?_)
      refine lv_iconst (v := (0 : Int32)) hx hb dX5_isLike_49 (by decide) ?_
      refine lv_istore (lv' := [(4, .int (0 : Int32)), (3, .int (0 : Int32)), (0, .ref (ad 44)), (1, .int v1), (2, .int v2)]) hx hb dX5_isLike_50 hl (by decide) rfl (fun ls hl => ?_)
      exact k_X5_isLike_52 B hr  _ _ _ _ _ _ hf _ _ _ h (lv_sub hl [2, 3, 4, 1, 0] rfl)
    · rw [if_pos c9] at hf
      refine lv_iconst (v := (1 : Int32)) hx hb dX5_isLike_43 (by decide) ?_
      refine lv_goto (tgt := 48) hx hb dX5_isLike_44 (by decide) ?_
      refine lv_istore_n (lv' := [(3, .int (1 : Int32)), (0, .ref (ad 44)), (1, .int v1), (2, .int v2)]) hx hb dX5_isLike_48 rfl hl (by decide) rfl (fun ls hl => ?_)
      refine lv_iconst (v := (0 : Int32)) hx hb dX5_isLike_49 (by decide) ?_
      refine lv_istore (lv' := [(4, .int (0 : Int32)), (3, .int (1 : Int32)), (0, .ref (ad 44)), (1, .int v1), (2, .int v2)]) hx hb dX5_isLike_50 hl (by decide) rfl (fun ls hl => ?_)
      exact k_X5_isLike_52 B hr  _ _ _ _ _ _ hf _ _ _ h (lv_sub hl [2, 3, 4, 1, 0] rfl)
  · rw [if_neg c6] at hf
    refine lv_iconst (v := (0 : Int32)) hx hb dX5_isLike_26 (by decide) ?_
    obtain ⟨rfl, rfl⟩ := Prod.mk.inj (Option.some.inj hf)
    exact sE_z B hr h rfl dX5_isLike_27
set_option maxHeartbeats 4000000 in
set_option maxRecDepth 100000 in
theorem k_X5_isLike_0 {p : Program} {l : Launch} {e : Env} {s : State} {m : MethodId} {args : Array Value} {below : List Frame} {meth : Method} {c : Code} {D : va_G} {cy : Nat → ClassId} {ad : Nat → Nat} {X : sX} {r : Int32} {σ' : sM} (B : sB p l s m meth c args cX5_isLike 5 RX5 D cy ad) (hr : meth.sig.returnType = (some .boolean)) (v1 : Int32) (v2 : Int32) (σ : sM) (hf : f_X5_isLike v1 v2 σ = some (r, σ')) : sGo p l e { frames := 2, cells := 0, slots := 0, locals := 42 } s m args below meth c D cy ad X 5 (sQ below args s 0 0 D cy ad (.inr (some (.int r))) X σ') σ 0 [(0, .ref (ad 44)), (1, .int v1), (2, .int v2)] [] := by
  replace hf : (rthn (f_X5_isMap v1 σ) (fun vr1 => if vr1 = 0 then (b_X5_isLike_20 v1 v2 (1 : Int32) σ) else (rthn (f_X5_isMap v2 σ) (fun vr3 => if vr3 = 0 then (b_X5_isLike_20 v1 v2 (1 : Int32) σ) else (b_X5_isLike_20 v1 v2 (0 : Int32) σ))))) = some (r, σ') := hf
  intro H locs ls h hl
  have hx := B.1
  have hb := B.2.1
  refine lv_aload_n hx hb dX5_isLike_0 rfl (lv_at hl 0 rfl) ?_
  refine lv_iload_n hx hb dX5_isLike_1 rfl (lv_at hl 1 rfl) ?_
  obtain ⟨vr1, hq1, hf⟩ := rthn_some hf
  refine sRetC1 (g_runS B h (ok_X5_isMap B.2.2.2.2.2.2.2.2 B.2.2.2.2.2.2.1 _ _ v1 hq1) cw_X5_87 ⟨Nat.le_of_ble_eq_true rfl, Nat.le_of_ble_eq_true rfl⟩ rfl hl.1.symm rfl (Nat.le_of_ble_eq_true rfl) dX5_isLike_2 ⟨Nat.zero_le _, Nat.zero_le _⟩) h (fun H locs h => ?_)
  refine lv_if_eq (tgt := 15) hx hb dX5_isLike_5 (by decide) (fun c2 => ?_) (fun c2 => ?_)
  · rw [if_pos c2] at hf
    refine lv_iconst (v := (1 : Int32)) hx hb dX5_isLike_15 (by decide) ?_
    refine lv_goto (tgt := 20) hx hb dX5_isLike_16 (by decide) ?_
    exact k_X5_isLike_20 B hr  _ _ _ _ hf _ _ _ h (lv_sub hl [0, 1, 2] rfl)
  · rw [if_neg c2] at hf
    refine lv_iload_n hx hb dX5_isLike_8 rfl (lv_at hl 2 rfl) ?_
    obtain ⟨vr3, hq3, hf⟩ := rthn_some hf
    refine sRetC1 (g_runS B h (ok_X5_isMap B.2.2.2.2.2.2.2.2 B.2.2.2.2.2.2.1 _ _ v2 hq3) cw_X5_87 ⟨Nat.le_of_ble_eq_true rfl, Nat.le_of_ble_eq_true rfl⟩ rfl hl.1.symm rfl (Nat.le_of_ble_eq_true rfl) dX5_isLike_9 ⟨Nat.zero_le _, Nat.zero_le _⟩) h (fun H locs h => ?_)
    refine lv_if_ne (tgt := 19) hx hb dX5_isLike_12 (by decide) (fun c4 => ?_) (fun c4 => ?_)
    · rw [if_neg c4] at hf
      refine lv_iconst (v := (0 : Int32)) hx hb dX5_isLike_19 (by decide) ?_
      exact k_X5_isLike_20 B hr  _ _ _ _ hf _ _ _ h (lv_sub hl [0, 1, 2] rfl)
    · rw [if_pos c4] at hf
      refine lv_iconst (v := (1 : Int32)) hx hb dX5_isLike_15 (by decide) ?_
      refine lv_goto (tgt := 20) hx hb dX5_isLike_16 (by decide) ?_
      exact k_X5_isLike_20 B hr  _ _ _ _ hf _ _ _ h (lv_sub hl [0, 1, 2] rfl)
set_option maxRecDepth 100000 in
theorem ok_X5_isLike {l : Launch} (hl0 : l.stackTraces = false) {D : va_G} {cy : Nat → ClassId} {ad : Nat → Nat} (hap : sAp ad) (X : sX) (σ : sM) (v1 : Int32) (v2 : Int32) {r : Int32} {σ' : sM} (hf : f_X5_isLike v1 v2 σ = some (r, σ')) : sMet l yX5_isLike (sWs yX5_isLike cX5_isLike 5 (some .boolean)) 2 42 0 0 D cy ad X σ [.ref (ad 44), .int v1, .int v2] (.inr (some (.int r))) X σ' := by
  refine sMet_of (by decide +kernel) (Nat.le_of_ble_eq_true rfl) hap hl0 ?_
  intro p e s m args below meth c ls B hr htab hl h
  exact k_X5_isLike_0 B hr _ _ _  hf _ _ _ h hl
