set_option maxHeartbeats 4000000 in
set_option maxRecDepth 100000 in
theorem k_X4_areMapsSound_2 {p : Program} {l : Launch} {e : Env} {s : State} {m : MethodId} {args : Array Value} {below : List Frame} {meth : Method} {c : Code} {D : va_G} {cy : Nat → ClassId} {ad : Nat → Nat} {X : sX} {r : Int32} {σ' : sM} (B : sB p l s m meth c args cX4_areMapsSound 2 RX4 D cy ad) (hr : meth.sig.returnType = (some .boolean)) : ∀ (n : Nat) (v1 : Int32) (σ : sM), b_X4_areMapsSound_2 n v1 σ = some (r, σ') → sGo p l e { frames := 5, cells := 0, slots := 0, locals := 175 } s m args below meth c D cy ad X 2 (sQ below args s 0 0 D cy ad (.inr (some (.int r))) X σ') σ 2 [(0, .ref (ad 0)), (1, .int v1)] [] := by
  intro n
  induction n with
  | zero =>
    intro v1 σ hf
    exact nomatch (show none = some (r, σ') from hf)
  | succ n ih =>
    intro v1 σ hf
    replace hf : (if (3 : Int32) ≤ v1 then (some ((1 : Int32), σ)) else (chk (inb v1 3) (rthn (f_X0_areNearKeysSound (6 + 3 * v1.toNatClampNeg) σ) (fun vr3 => if vr3 = 0 then (some ((0 : Int32), σ)) else (chk (inb v1 3) (wthn (f_X0_arePollsSound (6 + 3 * v1.toNatClampNeg) σ) (fun vr6 σ6 => if vr6 = 0 then (some ((0 : Int32), σ6)) else (b_X4_areMapsSound_2 n (v1 + 1) σ6)))))))) = some (r, σ') := hf
    intro H locs ls h hl
    have hx := B.1
    have hb := B.2.1
    refine lv_iload_n hx hb dX4_areMapsSound_2 rfl (lv_at hl 1 rfl) ?_
    refine lv_aload_n hx hb dX4_areMapsSound_3 rfl (lv_at hl 0 rfl) ?_
    refine g_get B h 0 (by decide) (C := RX4) (T := TX4) (N := 8) (S_row _) rfl hin_X4 0 (by decide) hw127 rfl rfl dX4_areMapsSound_4 ?_
    refine g_alen B h 1 (by decide) 3 rfl rfl (v := (3 : Int32)) rfl dX4_areMapsSound_7 ?_
    refine lv_icmp_ge (tgt := 51) hx hb dX4_areMapsSound_8 (by decide) (fun c1 => ?_) (fun c1 => ?_)
    · rw [if_pos c1] at hf
      refine lv_iconst (v := (1 : Int32)) hx hb dX4_areMapsSound_51 (by decide) ?_
      cases hf
      exact sE_z B hr h rfl dX4_areMapsSound_52
    · rw [if_neg c1] at hf
      refine lv_aload_n hx hb dX4_areMapsSound_11 rfl (lv_at hl 0 rfl) ?_
      refine g_get B h 0 (by decide) (C := RX4) (T := TX4) (N := 8) (S_row _) rfl hin_X4 3 (by decide) hw130 rfl rfl dX4_areMapsSound_12 ?_
      refine lv_aload_n hx hb dX4_areMapsSound_15 rfl (lv_at hl 0 rfl) ?_
      refine g_get B h 0 (by decide) (C := RX4) (T := TX4) (N := 8) (S_row _) rfl hin_X4 0 (by decide) hw127 rfl rfl dX4_areMapsSound_16 ?_
      refine lv_iload_n hx hb dX4_areMapsSound_19 rfl (lv_at hl 1 rfl) ?_
      obtain ⟨c2, hf⟩ := chk_some hf
      refine g_aald B h 1 (by decide) 3 (C := RX2) (n := 3) rfl rfl (inb_in c2) (r := (6 + 3 * v1.toNatClampNeg)) (maps_at c2) dX4_areMapsSound_20 ?_
      obtain ⟨vr3, hq3, hf⟩ := rthn_some hf
      refine sRetC1 (g_runV (k := 4) (T := TX0) (N := 4) B h (ok_X0_areNearKeysSound B.2.2.2.2.2.2.2.2 B.2.2.2.2.2.2.1 _ _ (maps_T c2) hq3) cw_X4_257 ⟨Nat.le_of_ble_eq_true rfl, Nat.le_of_ble_eq_true rfl⟩ (by decide) (B_row _) rfl rfl hl.1.symm rfl (Nat.le_of_ble_eq_true rfl) dX4_areMapsSound_21 ⟨Nat.zero_le _, Nat.zero_le _⟩) h (fun H locs h => ?_)
      refine lv_if_eq (tgt := 43) hx hb dX4_areMapsSound_24 (by decide) (fun c4 => ?_) (fun c4 => ?_)
      · rw [if_pos c4] at hf
        refine lv_iconst (v := (0 : Int32)) hx hb dX4_areMapsSound_43 (by decide) ?_
        cases hf
        exact sE_z B hr h rfl dX4_areMapsSound_44
      · rw [if_neg c4] at hf
        refine lv_aload_n hx hb dX4_areMapsSound_27 rfl (lv_at hl 0 rfl) ?_
        refine g_get B h 0 (by decide) (C := RX4) (T := TX4) (N := 8) (S_row _) rfl hin_X4 3 (by decide) hw130 rfl rfl dX4_areMapsSound_28 ?_
        refine lv_aload_n hx hb dX4_areMapsSound_31 rfl (lv_at hl 0 rfl) ?_
        refine g_get B h 0 (by decide) (C := RX4) (T := TX4) (N := 8) (S_row _) rfl hin_X4 0 (by decide) hw127 rfl rfl dX4_areMapsSound_32 ?_
        refine lv_iload_n hx hb dX4_areMapsSound_35 rfl (lv_at hl 1 rfl) ?_
        obtain ⟨c5, hf⟩ := chk_some hf
        refine g_aald B h 1 (by decide) 3 (C := RX2) (n := 3) rfl rfl (inb_in c5) (r := (6 + 3 * v1.toNatClampNeg)) (maps_at c5) dX4_areMapsSound_36 ?_
        obtain ⟨vr6, σ6, hq6, hf⟩ := wthn_some hf
        refine sRetC1 (g_runV (k := 4) (T := TX0) (N := 4) B h (ok_X0_arePollsSound B.2.2.2.2.2.2.2.2 B.2.2.2.2.2.2.1 _ _ (maps_T c5) hq6) cw_X4_260 ⟨Nat.le_of_ble_eq_true rfl, Nat.le_of_ble_eq_true rfl⟩ (by decide) (B_row _) rfl rfl hl.1.symm rfl (Nat.le_of_ble_eq_true rfl) dX4_areMapsSound_37 ⟨Nat.zero_le _, Nat.zero_le _⟩) h (fun H locs h => ?_)
        refine lv_if_ne (tgt := 45) hx hb dX4_areMapsSound_40 (by decide) (fun c7 => ?_) (fun c7 => ?_)
        · rw [if_neg c7] at hf
          refine lv_iinc (v := (v1 + 1)) (lv' := [(1, .int (v1 + 1)), (0, .ref (ad 0))]) hx hb dX4_areMapsSound_45 hl (k := 1) rfl rfl (by decide) rfl (fun ls hl => ?_)
          refine lv_goto (tgt := 2) hx hb dX4_areMapsSound_48 (by decide) ?_
          exact ih _ _ hf _ _ _ h (lv_sub hl [1, 0] rfl)
        · rw [if_pos c7] at hf
          refine lv_iconst (v := (0 : Int32)) hx hb dX4_areMapsSound_43 (by decide) ?_
          cases hf
          exact sE_z B hr h rfl dX4_areMapsSound_44
set_option maxHeartbeats 4000000 in
set_option maxRecDepth 100000 in
theorem k_X4_areMapsSound_0 {p : Program} {l : Launch} {e : Env} {s : State} {m : MethodId} {args : Array Value} {below : List Frame} {meth : Method} {c : Code} {D : va_G} {cy : Nat → ClassId} {ad : Nat → Nat} {X : sX} {r : Int32} {σ' : sM} (B : sB p l s m meth c args cX4_areMapsSound 2 RX4 D cy ad) (hr : meth.sig.returnType = (some .boolean)) (σ : sM) (hf : f_X4_areMapsSound σ = some (r, σ')) : sGo p l e { frames := 5, cells := 0, slots := 0, locals := 175 } s m args below meth c D cy ad X 2 (sQ below args s 0 0 D cy ad (.inr (some (.int r))) X σ') σ 0 [(0, .ref (ad 0))] [] := by
  replace hf : (b_X4_areMapsSound_2 FU (0 : Int32) σ) = some (r, σ') := hf
  intro H locs ls h hl
  have hx := B.1
  have hb := B.2.1
  refine lv_iconst (v := (0 : Int32)) hx hb dX4_areMapsSound_0 (by decide) ?_
  refine lv_istore_n (lv' := [(1, .int (0 : Int32)), (0, .ref (ad 0))]) hx hb dX4_areMapsSound_1 rfl hl (by decide) rfl (fun ls hl => ?_)
  exact k_X4_areMapsSound_2 B hr  _ _ _ hf _ _ _ h (lv_sub hl [1, 0] rfl)
set_option maxRecDepth 100000 in
theorem ok_X4_areMapsSound {l : Launch} (hl0 : l.stackTraces = false) {D : va_G} {cy : Nat → ClassId} {ad : Nat → Nat} (hap : sAp ad) (X : sX) (σ : sM) {r : Int32} {σ' : sM} (hf : f_X4_areMapsSound σ = some (r, σ')) : sMet l yX4_areMapsSound (sWs yX4_areMapsSound cX4_areMapsSound 2 (some .boolean)) 5 175 0 0 D cy ad X σ [.ref (ad 0)] (.inr (some (.int r))) X σ' := by
  refine sMet_of (by decide +kernel) (Nat.le_of_ble_eq_true rfl) hap hl0 ?_
  intro p e s m args below meth c ls B hr htab hl h
  exact k_X4_areMapsSound_0 B hr  _  hf _ _ _ h hl
set_option maxHeartbeats 4000000 in
set_option maxRecDepth 100000 in
theorem k_X4_areMixesSound_15 {p : Program} {l : Launch} {e : Env} {s : State} {m : MethodId} {args : Array Value} {below : List Frame} {meth : Method} {c : Code} {D : va_G} {cy : Nat → ClassId} {ad : Nat → Nat} {X : sX} {r : Int32} {σ' : sM} (B : sB p l s m meth c args cX4_areMixesSound 3 RX4 D cy ad) (hr : meth.sig.returnType = (some .boolean)) {K2 : Int32 → sM → Option (Int32 × sM)} (hK2 : ∀ (v1 : Int32) (σ : sM), K2 v1 σ = some (r, σ') → sGo p l e { frames := 4, cells := 0, slots := 0, locals := 181 } s m args below meth c D cy ad X 3 (sQ below args s 0 0 D cy ad (.inr (some (.int r))) X σ') σ 2 [(0, .ref (ad 0)), (1, .int v1)] []) : ∀ (n : Nat) (v1 : Int32) (v2 : Int32) (σ : sM), b_X4_areMixesSound_15 K2 n v1 v2 σ = some (r, σ') → sGo p l e { frames := 4, cells := 0, slots := 0, locals := 181 } s m args below meth c D cy ad X 3 (sQ below args s 0 0 D cy ad (.inr (some (.int r))) X σ') σ 15 [(0, .ref (ad 0)), (1, .int v1), (2, .int v2)] [] := by
  intro n
  induction n with
  | zero =>
    intro v1 v2 σ hf
    exact nomatch (show none = some (r, σ') from hf)
  | succ n ih =>
    intro v1 v2 σ hf
    replace hf : (if (3 : Int32) ≤ v2 then (K2 (v1 + 1) σ) else (chk (inb v1 3) (chk (inb v2 3) (wthn (f_X0_isMixAlike (6 + 3 * v1.toNatClampNeg) (6 + 3 * v2.toNatClampNeg) (115 : Int32) σ) (fun vr5 σ5 => if vr5 = 0 then (some ((0 : Int32), σ5)) else (chk (inb v1 3) (chk (inb v2 3) (wthn (f_X0_isMixAlike (6 + 3 * v1.toNatClampNeg) (6 + 3 * v2.toNatClampNeg) (103 : Int32) σ5) (fun vr9 σ9 => if vr9 = 0 then (some ((0 : Int32), σ9)) else (chk (inb v1 3) (chk (inb v2 3) (wthn (f_X0_isMixAlike (6 + 3 * v1.toNatClampNeg) (6 + 3 * v2.toNatClampNeg) (108 : Int32) σ9) (fun vr13 σ13 => if vr13 = 0 then (some ((0 : Int32), σ13)) else (b_X4_areMixesSound_15 K2 n v1 (v2 + 1) σ13)))))))))))))) = some (r, σ') := hf
    intro H locs ls h hl
    have hx := B.1
    have hb := B.2.1
    refine lv_iload_n hx hb dX4_areMixesSound_15 rfl (lv_at hl 2 rfl) ?_
    refine lv_aload_n hx hb dX4_areMixesSound_16 rfl (lv_at hl 0 rfl) ?_
    refine g_get B h 0 (by decide) (C := RX4) (T := TX4) (N := 8) (S_row _) rfl hin_X4 0 (by decide) hw127 rfl rfl dX4_areMixesSound_17 ?_
    refine g_alen B h 1 (by decide) 3 rfl rfl (v := (3 : Int32)) rfl dX4_areMixesSound_20 ?_
    refine lv_icmp_ge (tgt := 104) hx hb dX4_areMixesSound_21 (by decide) (fun c2 => ?_) (fun c2 => ?_)
    · rw [if_pos c2] at hf
      refine lv_iinc (v := (v1 + 1)) (lv' := [(1, .int (v1 + 1)), (0, .ref (ad 0)), (2, .int v2)]) hx hb dX4_areMixesSound_104 hl (k := 1) rfl rfl (by decide) rfl (fun ls hl => ?_)
      refine lv_goto (tgt := 2) hx hb dX4_areMixesSound_107 (by decide) ?_
      exact hK2 _ _ hf _ _ _ h (lv_sub hl [1, 0] rfl)
    · rw [if_neg c2] at hf
      refine lv_aload_n hx hb dX4_areMixesSound_24 rfl (lv_at hl 0 rfl) ?_
      refine g_get B h 0 (by decide) (C := RX4) (T := TX4) (N := 8) (S_row _) rfl hin_X4 3 (by decide) hw130 rfl rfl dX4_areMixesSound_25 ?_
      refine lv_aload_n hx hb dX4_areMixesSound_28 rfl (lv_at hl 0 rfl) ?_
      refine g_get B h 0 (by decide) (C := RX4) (T := TX4) (N := 8) (S_row _) rfl hin_X4 0 (by decide) hw127 rfl rfl dX4_areMixesSound_29 ?_
      refine lv_iload_n hx hb dX4_areMixesSound_32 rfl (lv_at hl 1 rfl) ?_
      obtain ⟨c3, hf⟩ := chk_some hf
      refine g_aald B h 1 (by decide) 3 (C := RX2) (n := 3) rfl rfl (inb_in c3) (r := (6 + 3 * v1.toNatClampNeg)) (maps_at c3) dX4_areMixesSound_33 ?_
      refine lv_aload_n hx hb dX4_areMixesSound_34 rfl (lv_at hl 0 rfl) ?_
      refine g_get B h 0 (by decide) (C := RX4) (T := TX4) (N := 8) (S_row _) rfl hin_X4 0 (by decide) hw127 rfl rfl dX4_areMixesSound_35 ?_
      refine lv_iload_n hx hb dX4_areMixesSound_38 rfl (lv_at hl 2 rfl) ?_
      obtain ⟨c4, hf⟩ := chk_some hf
      refine g_aald B h 1 (by decide) 3 (C := RX2) (n := 3) rfl rfl (inb_in c4) (r := (6 + 3 * v2.toNatClampNeg)) (maps_at c4) dX4_areMixesSound_39 ?_
      refine lv_bipush (v := (115 : Int32)) hx hb dX4_areMixesSound_40 (by decide) ?_
      obtain ⟨vr5, σ5, hq5, hf⟩ := wthn_some hf
      refine sRetC1 (g_runV (k := 4) (T := TX0) (N := 4) B h (ok_X0_isMixAlike B.2.2.2.2.2.2.2.2 B.2.2.2.2.2.2.1 _ _ (maps_T c3) (maps_T c4) (115 : Int32) hq5) cw_X4_278 ⟨Nat.le_of_ble_eq_true rfl, Nat.le_of_ble_eq_true rfl⟩ (by decide) (B_row _) rfl rfl hl.1.symm rfl (Nat.le_of_ble_eq_true rfl) dX4_areMixesSound_42 ⟨Nat.zero_le _, Nat.zero_le _⟩) h (fun H locs h => ?_)
      refine lv_if_eq (tgt := 96) hx hb dX4_areMixesSound_45 (by decide) (fun c6 => ?_) (fun c6 => ?_)
      · rw [if_pos c6] at hf
        refine lv_iconst (v := (0 : Int32)) hx hb dX4_areMixesSound_96 (by decide) ?_
        cases hf
        exact sE_z B hr h rfl dX4_areMixesSound_97
      · rw [if_neg c6] at hf
        refine lv_aload_n hx hb dX4_areMixesSound_48 rfl (lv_at hl 0 rfl) ?_
        refine g_get B h 0 (by decide) (C := RX4) (T := TX4) (N := 8) (S_row _) rfl hin_X4 3 (by decide) hw130 rfl rfl dX4_areMixesSound_49 ?_
        refine lv_aload_n hx hb dX4_areMixesSound_52 rfl (lv_at hl 0 rfl) ?_
        refine g_get B h 0 (by decide) (C := RX4) (T := TX4) (N := 8) (S_row _) rfl hin_X4 0 (by decide) hw127 rfl rfl dX4_areMixesSound_53 ?_
        refine lv_iload_n hx hb dX4_areMixesSound_56 rfl (lv_at hl 1 rfl) ?_
        obtain ⟨c7, hf⟩ := chk_some hf
        refine g_aald B h 1 (by decide) 3 (C := RX2) (n := 3) rfl rfl (inb_in c7) (r := (6 + 3 * v1.toNatClampNeg)) (maps_at c7) dX4_areMixesSound_57 ?_
        refine lv_aload_n hx hb dX4_areMixesSound_58 rfl (lv_at hl 0 rfl) ?_
        refine g_get B h 0 (by decide) (C := RX4) (T := TX4) (N := 8) (S_row _) rfl hin_X4 0 (by decide) hw127 rfl rfl dX4_areMixesSound_59 ?_
        refine lv_iload_n hx hb dX4_areMixesSound_62 rfl (lv_at hl 2 rfl) ?_
        obtain ⟨c8, hf⟩ := chk_some hf
        refine g_aald B h 1 (by decide) 3 (C := RX2) (n := 3) rfl rfl (inb_in c8) (r := (6 + 3 * v2.toNatClampNeg)) (maps_at c8) dX4_areMixesSound_63 ?_
        refine lv_bipush (v := (103 : Int32)) hx hb dX4_areMixesSound_64 (by decide) ?_
        obtain ⟨vr9, σ9, hq9, hf⟩ := wthn_some hf
        refine sRetC1 (g_runV (k := 4) (T := TX0) (N := 4) B h (ok_X0_isMixAlike B.2.2.2.2.2.2.2.2 B.2.2.2.2.2.2.1 _ _ (maps_T c7) (maps_T c8) (103 : Int32) hq9) cw_X4_278 ⟨Nat.le_of_ble_eq_true rfl, Nat.le_of_ble_eq_true rfl⟩ (by decide) (B_row _) rfl rfl hl.1.symm rfl (Nat.le_of_ble_eq_true rfl) dX4_areMixesSound_66 ⟨Nat.zero_le _, Nat.zero_le _⟩) h (fun H locs h => ?_)
        refine lv_if_eq (tgt := 96) hx hb dX4_areMixesSound_69 (by decide) (fun c10 => ?_) (fun c10 => ?_)
        · rw [if_pos c10] at hf
          refine lv_iconst (v := (0 : Int32)) hx hb dX4_areMixesSound_96 (by decide) ?_
          cases hf
          exact sE_z B hr h rfl dX4_areMixesSound_97
        · rw [if_neg c10] at hf
          refine lv_aload_n hx hb dX4_areMixesSound_72 rfl (lv_at hl 0 rfl) ?_
          refine g_get B h 0 (by decide) (C := RX4) (T := TX4) (N := 8) (S_row _) rfl hin_X4 3 (by decide) hw130 rfl rfl dX4_areMixesSound_73 ?_
          refine lv_aload_n hx hb dX4_areMixesSound_76 rfl (lv_at hl 0 rfl) ?_
          refine g_get B h 0 (by decide) (C := RX4) (T := TX4) (N := 8) (S_row _) rfl hin_X4 0 (by decide) hw127 rfl rfl dX4_areMixesSound_77 ?_
          refine lv_iload_n hx hb dX4_areMixesSound_80 rfl (lv_at hl 1 rfl) ?_
          obtain ⟨c11, hf⟩ := chk_some hf
          refine g_aald B h 1 (by decide) 3 (C := RX2) (n := 3) rfl rfl (inb_in c11) (r := (6 + 3 * v1.toNatClampNeg)) (maps_at c11) dX4_areMixesSound_81 ?_
          refine lv_aload_n hx hb dX4_areMixesSound_82 rfl (lv_at hl 0 rfl) ?_
          refine g_get B h 0 (by decide) (C := RX4) (T := TX4) (N := 8) (S_row _) rfl hin_X4 0 (by decide) hw127 rfl rfl dX4_areMixesSound_83 ?_
          refine lv_iload_n hx hb dX4_areMixesSound_86 rfl (lv_at hl 2 rfl) ?_
          obtain ⟨c12, hf⟩ := chk_some hf
          refine g_aald B h 1 (by decide) 3 (C := RX2) (n := 3) rfl rfl (inb_in c12) (r := (6 + 3 * v2.toNatClampNeg)) (maps_at c12) dX4_areMixesSound_87 ?_
          refine lv_bipush (v := (108 : Int32)) hx hb dX4_areMixesSound_88 (by decide) ?_
          obtain ⟨vr13, σ13, hq13, hf⟩ := wthn_some hf
          refine sRetC1 (g_runV (k := 4) (T := TX0) (N := 4) B h (ok_X0_isMixAlike B.2.2.2.2.2.2.2.2 B.2.2.2.2.2.2.1 _ _ (maps_T c11) (maps_T c12) (108 : Int32) hq13) cw_X4_278 ⟨Nat.le_of_ble_eq_true rfl, Nat.le_of_ble_eq_true rfl⟩ (by decide) (B_row _) rfl rfl hl.1.symm rfl (Nat.le_of_ble_eq_true rfl) dX4_areMixesSound_90 ⟨Nat.zero_le _, Nat.zero_le _⟩) h (fun H locs h => ?_)
          refine lv_if_ne (tgt := 98) hx hb dX4_areMixesSound_93 (by decide) (fun c14 => ?_) (fun c14 => ?_)
          · rw [if_neg c14] at hf
            refine lv_iinc (v := (v2 + 1)) (lv' := [(2, .int (v2 + 1)), (0, .ref (ad 0)), (1, .int v1)]) hx hb dX4_areMixesSound_98 hl (k := 2) rfl rfl (by decide) rfl (fun ls hl => ?_)
            refine lv_goto (tgt := 15) hx hb dX4_areMixesSound_101 (by decide) ?_
            exact ih _ _ _ hf _ _ _ h (lv_sub hl [1, 2, 0] rfl)
          · rw [if_pos c14] at hf
            refine lv_iconst (v := (0 : Int32)) hx hb dX4_areMixesSound_96 (by decide) ?_
            cases hf
            exact sE_z B hr h rfl dX4_areMixesSound_97
set_option maxHeartbeats 4000000 in
set_option maxRecDepth 100000 in
theorem k_X4_areMixesSound_2 {p : Program} {l : Launch} {e : Env} {s : State} {m : MethodId} {args : Array Value} {below : List Frame} {meth : Method} {c : Code} {D : va_G} {cy : Nat → ClassId} {ad : Nat → Nat} {X : sX} {r : Int32} {σ' : sM} (B : sB p l s m meth c args cX4_areMixesSound 3 RX4 D cy ad) (hr : meth.sig.returnType = (some .boolean)) : ∀ (n : Nat) (v1 : Int32) (σ : sM), b_X4_areMixesSound_2 n v1 σ = some (r, σ') → sGo p l e { frames := 4, cells := 0, slots := 0, locals := 181 } s m args below meth c D cy ad X 3 (sQ below args s 0 0 D cy ad (.inr (some (.int r))) X σ') σ 2 [(0, .ref (ad 0)), (1, .int v1)] [] := by
  intro n
  induction n with
  | zero =>
    intro v1 σ hf
    exact nomatch (show none = some (r, σ') from hf)
  | succ n ih =>
    intro v1 σ hf
    replace hf : (if (3 : Int32) ≤ v1 then (some ((1 : Int32), σ)) else (b_X4_areMixesSound_15 (b_X4_areMixesSound_2 n) FU v1 (v1 + (1 : Int32)) σ)) = some (r, σ') := hf
    intro H locs ls h hl
    have hx := B.1
    have hb := B.2.1
    refine lv_iload_n hx hb dX4_areMixesSound_2 rfl (lv_at hl 1 rfl) ?_
    refine lv_aload_n hx hb dX4_areMixesSound_3 rfl (lv_at hl 0 rfl) ?_
    refine g_get B h 0 (by decide) (C := RX4) (T := TX4) (N := 8) (S_row _) rfl hin_X4 0 (by decide) hw127 rfl rfl dX4_areMixesSound_4 ?_
    refine g_alen B h 1 (by decide) 3 rfl rfl (v := (3 : Int32)) rfl dX4_areMixesSound_7 ?_
    refine lv_icmp_ge (tgt := 110) hx hb dX4_areMixesSound_8 (by decide) (fun c1 => ?_) (fun c1 => ?_)
    · rw [if_pos c1] at hf
      refine lv_iconst (v := (1 : Int32)) hx hb dX4_areMixesSound_110 (by decide) ?_
      cases hf
      exact sE_z B hr h rfl dX4_areMixesSound_111
    · rw [if_neg c1] at hf
      refine lv_iload_n hx hb dX4_areMixesSound_11 rfl (lv_at hl 1 rfl) ?_
      refine lv_iconst (v := (1 : Int32)) hx hb dX4_areMixesSound_12 (by decide) ?_
      refine lv_iadd hx hb dX4_areMixesSound_13 ?_
      refine lv_istore_n (lv' := [(2, .int (v1 + (1 : Int32))), (0, .ref (ad 0)), (1, .int v1)]) hx hb dX4_areMixesSound_14 rfl hl (by decide) rfl (fun ls hl => ?_)
      exact k_X4_areMixesSound_15 B hr ih _ _ _ _ hf _ _ _ h (lv_sub hl [1, 2, 0] rfl)
set_option maxHeartbeats 4000000 in
set_option maxRecDepth 100000 in
theorem k_X4_areMixesSound_0 {p : Program} {l : Launch} {e : Env} {s : State} {m : MethodId} {args : Array Value} {below : List Frame} {meth : Method} {c : Code} {D : va_G} {cy : Nat → ClassId} {ad : Nat → Nat} {X : sX} {r : Int32} {σ' : sM} (B : sB p l s m meth c args cX4_areMixesSound 3 RX4 D cy ad) (hr : meth.sig.returnType = (some .boolean)) (σ : sM) (hf : f_X4_areMixesSound σ = some (r, σ')) : sGo p l e { frames := 4, cells := 0, slots := 0, locals := 181 } s m args below meth c D cy ad X 3 (sQ below args s 0 0 D cy ad (.inr (some (.int r))) X σ') σ 0 [(0, .ref (ad 0))] [] := by
  replace hf : (b_X4_areMixesSound_2 FU (0 : Int32) σ) = some (r, σ') := hf
  intro H locs ls h hl
  have hx := B.1
  have hb := B.2.1
  refine lv_iconst (v := (0 : Int32)) hx hb dX4_areMixesSound_0 (by decide) ?_
  refine lv_istore_n (lv' := [(1, .int (0 : Int32)), (0, .ref (ad 0))]) hx hb dX4_areMixesSound_1 rfl hl (by decide) rfl (fun ls hl => ?_)
  exact k_X4_areMixesSound_2 B hr  _ _ _ hf _ _ _ h (lv_sub hl [1, 0] rfl)
set_option maxRecDepth 100000 in
theorem ok_X4_areMixesSound {l : Launch} (hl0 : l.stackTraces = false) {D : va_G} {cy : Nat → ClassId} {ad : Nat → Nat} (hap : sAp ad) (X : sX) (σ : sM) {r : Int32} {σ' : sM} (hf : f_X4_areMixesSound σ = some (r, σ')) : sMet l yX4_areMixesSound (sWs yX4_areMixesSound cX4_areMixesSound 3 (some .boolean)) 4 181 0 0 D cy ad X σ [.ref (ad 0)] (.inr (some (.int r))) X σ' := by
  refine sMet_of (by decide +kernel) (Nat.le_of_ble_eq_true rfl) hap hl0 ?_
  intro p e s m args below meth c ls B hr htab hl h
  exact k_X4_areMixesSound_0 B hr  _  hf _ _ _ h hl
set_option maxHeartbeats 4000000 in
set_option maxRecDepth 100000 in
theorem k_X4_areOppositesSound_13 {p : Program} {l : Launch} {e : Env} {s : State} {m : MethodId} {args : Array Value} {below : List Frame} {meth : Method} {c : Code} {D : va_G} {cy : Nat → ClassId} {ad : Nat → Nat} {X : sX} {r : Int32} {σ' : sM} (B : sB p l s m meth c args cX4_areOppositesSound 3 RX4 D cy ad) (hr : meth.sig.returnType = (some .boolean)) {K2 : Int32 → sM → Option (Int32 × sM)} (hK2 : ∀ (v1 : Int32) (σ : sM), K2 v1 σ = some (r, σ') → sGo p l e { frames := 6, cells := 0, slots := 0, locals := 221 } s m args below meth c D cy ad X 3 (sQ below args s 0 0 D cy ad (.inr (some (.int r))) X σ') σ 2 [(0, .ref (ad 0)), (1, .int v1)] []) : ∀ (n : Nat) (v1 : Int32) (v2 : Int32) (σ : sM), b_X4_areOppositesSound_13 K2 n v1 v2 σ = some (r, σ') → sGo p l e { frames := 6, cells := 0, slots := 0, locals := 221 } s m args below meth c D cy ad X 3 (sQ below args s 0 0 D cy ad (.inr (some (.int r))) X σ') σ 13 [(0, .ref (ad 0)), (1, .int v1), (2, .int v2)] [] := by
  intro n
  induction n with
  | zero =>
    intro v1 v2 σ hf
    exact nomatch (show none = some (r, σ') from hf)
  | succ n ih =>
    intro v1 v2 σ hf
    replace hf : (if (3 : Int32) ≤ v2 then (K2 (v1 + 1) σ) else (chk (inb v1 3) (chk (inb v2 3) (wthn (f_X0_isUndone (28 + 4 * v1.toNatClampNeg) (6 + 3 * v2.toNatClampNeg) σ) (fun vr5 σ5 => if vr5 = 0 then (some ((0 : Int32), σ5)) else (b_X4_areOppositesSound_13 K2 n v1 (v2 + 1) σ5)))))) = some (r, σ') := hf
    intro H locs ls h hl
    have hx := B.1
    have hb := B.2.1
    refine lv_iload_n hx hb dX4_areOppositesSound_13 rfl (lv_at hl 2 rfl) ?_
    refine lv_aload_n hx hb dX4_areOppositesSound_14 rfl (lv_at hl 0 rfl) ?_
    refine g_get B h 0 (by decide) (C := RX4) (T := TX4) (N := 8) (S_row _) rfl hin_X4 0 (by decide) hw127 rfl rfl dX4_areOppositesSound_15 ?_
    refine g_alen B h 1 (by decide) 3 rfl rfl (v := (3 : Int32)) rfl dX4_areOppositesSound_18 ?_
    refine lv_icmp_ge (tgt := 52) hx hb dX4_areOppositesSound_19 (by decide) (fun c2 => ?_) (fun c2 => ?_)
    · rw [if_pos c2] at hf
      refine lv_iinc (v := (v1 + 1)) (lv' := [(1, .int (v1 + 1)), (0, .ref (ad 0)), (2, .int v2)]) hx hb dX4_areOppositesSound_52 hl (k := 1) rfl rfl (by decide) rfl (fun ls hl => ?_)
      refine lv_goto (tgt := 2) hx hb dX4_areOppositesSound_55 (by decide) ?_
      exact hK2 _ _ hf _ _ _ h (lv_sub hl [1, 0] rfl)
    · rw [if_neg c2] at hf
      refine lv_aload_n hx hb dX4_areOppositesSound_22 rfl (lv_at hl 0 rfl) ?_
      refine g_get B h 0 (by decide) (C := RX4) (T := TX4) (N := 8) (S_row _) rfl hin_X4 3 (by decide) hw130 rfl rfl dX4_areOppositesSound_23 ?_
      refine lv_aload_n hx hb dX4_areOppositesSound_26 rfl (lv_at hl 0 rfl) ?_
      refine g_get B h 0 (by decide) (C := RX4) (T := TX4) (N := 8) (S_row _) rfl hin_X4 2 (by decide) hw129 rfl rfl dX4_areOppositesSound_27 ?_
      refine lv_iload_n hx hb dX4_areOppositesSound_30 rfl (lv_at hl 1 rfl) ?_
      obtain ⟨c3, hf⟩ := chk_some hf
      refine g_aald B h 3 (by decide) 5 (C := RX1) (n := 3) rfl rfl (inb_in c3) (r := (28 + 4 * v1.toNatClampNeg)) (hists_at c3) dX4_areOppositesSound_31 ?_
      refine lv_aload_n hx hb dX4_areOppositesSound_32 rfl (lv_at hl 0 rfl) ?_
      refine g_get B h 0 (by decide) (C := RX4) (T := TX4) (N := 8) (S_row _) rfl hin_X4 0 (by decide) hw127 rfl rfl dX4_areOppositesSound_33 ?_
      refine lv_iload_n hx hb dX4_areOppositesSound_36 rfl (lv_at hl 2 rfl) ?_
      obtain ⟨c4, hf⟩ := chk_some hf
      refine g_aald B h 1 (by decide) 3 (C := RX2) (n := 3) rfl rfl (inb_in c4) (r := (6 + 3 * v2.toNatClampNeg)) (maps_at c4) dX4_areOppositesSound_37 ?_
      obtain ⟨vr5, σ5, hq5, hf⟩ := wthn_some hf
      refine sRetC1 (g_runV (k := 4) (T := TX0) (N := 4) B h (ok_X0_isUndone B.2.2.2.2.2.2.2.2 B.2.2.2.2.2.2.1 _ _ (hists_H c3) (maps_T c4) hq5) cw_X4_274 ⟨Nat.le_of_ble_eq_true rfl, Nat.le_of_ble_eq_true rfl⟩ (by decide) (B_row _) rfl rfl hl.1.symm rfl (Nat.le_of_ble_eq_true rfl) dX4_areOppositesSound_38 ⟨Nat.zero_le _, Nat.zero_le _⟩) h (fun H locs h => ?_)
      refine lv_if_ne (tgt := 46) hx hb dX4_areOppositesSound_41 (by decide) (fun c6 => ?_) (fun c6 => ?_)
      · rw [if_neg c6] at hf
        refine lv_iinc (v := (v2 + 1)) (lv' := [(2, .int (v2 + 1)), (0, .ref (ad 0)), (1, .int v1)]) hx hb dX4_areOppositesSound_46 hl (k := 2) rfl rfl (by decide) rfl (fun ls hl => ?_)
        refine lv_goto (tgt := 13) hx hb dX4_areOppositesSound_49 (by decide) ?_
        exact ih _ _ _ hf _ _ _ h (lv_sub hl [1, 2, 0] rfl)
      · rw [if_pos c6] at hf
        refine lv_iconst (v := (0 : Int32)) hx hb dX4_areOppositesSound_44 (by decide) ?_
        cases hf
        exact sE_z B hr h rfl dX4_areOppositesSound_45
set_option maxHeartbeats 4000000 in
set_option maxRecDepth 100000 in
theorem k_X4_areOppositesSound_2 {p : Program} {l : Launch} {e : Env} {s : State} {m : MethodId} {args : Array Value} {below : List Frame} {meth : Method} {c : Code} {D : va_G} {cy : Nat → ClassId} {ad : Nat → Nat} {X : sX} {r : Int32} {σ' : sM} (B : sB p l s m meth c args cX4_areOppositesSound 3 RX4 D cy ad) (hr : meth.sig.returnType = (some .boolean)) : ∀ (n : Nat) (v1 : Int32) (σ : sM), b_X4_areOppositesSound_2 n v1 σ = some (r, σ') → sGo p l e { frames := 6, cells := 0, slots := 0, locals := 221 } s m args below meth c D cy ad X 3 (sQ below args s 0 0 D cy ad (.inr (some (.int r))) X σ') σ 2 [(0, .ref (ad 0)), (1, .int v1)] [] := by
  intro n
  induction n with
  | zero =>
    intro v1 σ hf
    exact nomatch (show none = some (r, σ') from hf)
  | succ n ih =>
    intro v1 σ hf
    replace hf : (if (3 : Int32) ≤ v1 then (some ((1 : Int32), σ)) else (b_X4_areOppositesSound_13 (b_X4_areOppositesSound_2 n) FU v1 (0 : Int32) σ)) = some (r, σ') := hf
    intro H locs ls h hl
    have hx := B.1
    have hb := B.2.1
    refine lv_iload_n hx hb dX4_areOppositesSound_2 rfl (lv_at hl 1 rfl) ?_
    refine lv_aload_n hx hb dX4_areOppositesSound_3 rfl (lv_at hl 0 rfl) ?_
    refine g_get B h 0 (by decide) (C := RX4) (T := TX4) (N := 8) (S_row _) rfl hin_X4 2 (by decide) hw129 rfl rfl dX4_areOppositesSound_4 ?_
    refine g_alen B h 3 (by decide) 5 rfl rfl (v := (3 : Int32)) rfl dX4_areOppositesSound_7 ?_
    refine lv_icmp_ge (tgt := 58) hx hb dX4_areOppositesSound_8 (by decide) (fun c1 => ?_) (fun c1 => ?_)
    · rw [if_pos c1] at hf
      refine lv_iconst (v := (1 : Int32)) hx hb dX4_areOppositesSound_58 (by decide) ?_
      cases hf
      exact sE_z B hr h rfl dX4_areOppositesSound_59
    · rw [if_neg c1] at hf
      refine lv_iconst (v := (0 : Int32)) hx hb dX4_areOppositesSound_11 (by decide) ?_
      refine lv_istore_n (lv' := [(2, .int (0 : Int32)), (0, .ref (ad 0)), (1, .int v1)]) hx hb dX4_areOppositesSound_12 rfl hl (by decide) rfl (fun ls hl => ?_)
      exact k_X4_areOppositesSound_13 B hr ih _ _ _ _ hf _ _ _ h (lv_sub hl [1, 2, 0] rfl)
set_option maxHeartbeats 4000000 in
set_option maxRecDepth 100000 in
theorem k_X4_areOppositesSound_0 {p : Program} {l : Launch} {e : Env} {s : State} {m : MethodId} {args : Array Value} {below : List Frame} {meth : Method} {c : Code} {D : va_G} {cy : Nat → ClassId} {ad : Nat → Nat} {X : sX} {r : Int32} {σ' : sM} (B : sB p l s m meth c args cX4_areOppositesSound 3 RX4 D cy ad) (hr : meth.sig.returnType = (some .boolean)) (σ : sM) (hf : f_X4_areOppositesSound σ = some (r, σ')) : sGo p l e { frames := 6, cells := 0, slots := 0, locals := 221 } s m args below meth c D cy ad X 3 (sQ below args s 0 0 D cy ad (.inr (some (.int r))) X σ') σ 0 [(0, .ref (ad 0))] [] := by
  replace hf : (b_X4_areOppositesSound_2 FU (0 : Int32) σ) = some (r, σ') := hf
  intro H locs ls h hl
  have hx := B.1
  have hb := B.2.1
  refine lv_iconst (v := (0 : Int32)) hx hb dX4_areOppositesSound_0 (by decide) ?_
  refine lv_istore_n (lv' := [(1, .int (0 : Int32)), (0, .ref (ad 0))]) hx hb dX4_areOppositesSound_1 rfl hl (by decide) rfl (fun ls hl => ?_)
  exact k_X4_areOppositesSound_2 B hr  _ _ _ hf _ _ _ h (lv_sub hl [1, 0] rfl)
set_option maxRecDepth 100000 in
theorem ok_X4_areOppositesSound {l : Launch} (hl0 : l.stackTraces = false) {D : va_G} {cy : Nat → ClassId} {ad : Nat → Nat} (hap : sAp ad) (X : sX) (σ : sM) {r : Int32} {σ' : sM} (hf : f_X4_areOppositesSound σ = some (r, σ')) : sMet l yX4_areOppositesSound (sWs yX4_areOppositesSound cX4_areOppositesSound 3 (some .boolean)) 6 221 0 0 D cy ad X σ [.ref (ad 0)] (.inr (some (.int r))) X σ' := by
  refine sMet_of (by decide +kernel) (Nat.le_of_ble_eq_true rfl) hap hl0 ?_
  intro p e s m args below meth c ls B hr htab hl h
  exact k_X4_areOppositesSound_0 B hr  _  hf _ _ _ h hl
set_option maxHeartbeats 4000000 in
set_option maxRecDepth 100000 in
theorem k_X4_isOrderFreeOnAll_2 {p : Program} {l : Launch} {e : Env} {s : State} {m : MethodId} {args : Array Value} {below : List Frame} {meth : Method} {c : Code} {D : va_G} {cy : Nat → ClassId} {ad : Nat → Nat} {X : sX} {r : Int32} {σ' : sM} (B : sB p l s m meth c args cX4_isOrderFreeOnAll 4 RX4 D cy ad) (hr : meth.sig.returnType = (some .boolean)) : ∀ (n : Nat) (t1 : Nat) (t2 : Nat) (v3 : Int32) (σ : sM) (ft1 : isH t1) (ft2 : isH t2), b_X4_isOrderFreeOnAll_2 n t1 t2 v3 σ = some (r, σ') → sGo p l e { frames := 6, cells := 0, slots := 0, locals := 222 } s m args below meth c D cy ad X 4 (sQ below args s 0 0 D cy ad (.inr (some (.int r))) X σ') σ 2 [(0, .ref (ad 0)), (1, .ref (ad t1)), (2, .ref (ad t2)), (3, .int v3)] [] := by
  intro n
  induction n with
  | zero =>
    intro t1 t2 v3 σ ft1 ft2 hf
    exact nomatch (show none = some (r, σ') from hf)
  | succ n ih =>
    intro t1 t2 v3 σ ft1 ft2 hf
    replace hf : (if (3 : Int32) ≤ v3 then (some ((1 : Int32), σ)) else (chk (inb v3 3) (wthn (f_X0_isOrderFree t1 t2 (6 + 3 * v3.toNatClampNeg) σ) (fun vr3 σ3 => if vr3 = 0 then (some ((0 : Int32), σ3)) else (b_X4_isOrderFreeOnAll_2 n t1 t2 (v3 + 1) σ3))))) = some (r, σ') := hf
    intro H locs ls h hl
    have hx := B.1
    have hb := B.2.1
    refine lv_iload_n hx hb dX4_isOrderFreeOnAll_2 rfl (lv_at hl 3 rfl) ?_
    refine lv_aload_n hx hb dX4_isOrderFreeOnAll_3 rfl (lv_at hl 0 rfl) ?_
    refine g_get B h 0 (by decide) (C := RX4) (T := TX4) (N := 8) (S_row _) rfl hin_X4 0 (by decide) hw127 rfl rfl dX4_isOrderFreeOnAll_4 ?_
    refine g_alen B h 1 (by decide) 3 rfl rfl (v := (3 : Int32)) rfl dX4_isOrderFreeOnAll_7 ?_
    refine lv_icmp_ge (tgt := 37) hx hb dX4_isOrderFreeOnAll_8 (by decide) (fun c1 => ?_) (fun c1 => ?_)
    · rw [if_pos c1] at hf
      refine lv_iconst (v := (1 : Int32)) hx hb dX4_isOrderFreeOnAll_37 (by decide) ?_
      cases hf
      exact sE_z B hr h rfl dX4_isOrderFreeOnAll_38
    · rw [if_neg c1] at hf
      refine lv_aload_n hx hb dX4_isOrderFreeOnAll_11 rfl (lv_at hl 0 rfl) ?_
      refine g_get B h 0 (by decide) (C := RX4) (T := TX4) (N := 8) (S_row _) rfl hin_X4 3 (by decide) hw130 rfl rfl dX4_isOrderFreeOnAll_12 ?_
      refine lv_aload_n hx hb dX4_isOrderFreeOnAll_15 rfl (lv_at hl 1 rfl) ?_
      refine lv_aload_n hx hb dX4_isOrderFreeOnAll_16 rfl (lv_at hl 2 rfl) ?_
      refine lv_aload_n hx hb dX4_isOrderFreeOnAll_17 rfl (lv_at hl 0 rfl) ?_
      refine g_get B h 0 (by decide) (C := RX4) (T := TX4) (N := 8) (S_row _) rfl hin_X4 0 (by decide) hw127 rfl rfl dX4_isOrderFreeOnAll_18 ?_
      refine lv_iload_n hx hb dX4_isOrderFreeOnAll_21 rfl (lv_at hl 3 rfl) ?_
      obtain ⟨c2, hf⟩ := chk_some hf
      refine g_aald B h 1 (by decide) 3 (C := RX2) (n := 3) rfl rfl (inb_in c2) (r := (6 + 3 * v3.toNatClampNeg)) (maps_at c2) dX4_isOrderFreeOnAll_22 ?_
      obtain ⟨vr3, σ3, hq3, hf⟩ := wthn_some hf
      refine sRetC1 (g_runV (k := 4) (T := TX0) (N := 4) B h (ok_X0_isOrderFree B.2.2.2.2.2.2.2.2 B.2.2.2.2.2.2.1 _ _ ft1 ft2 (maps_T c2) hq3) cw_X4_270 ⟨Nat.le_of_ble_eq_true rfl, Nat.le_of_ble_eq_true rfl⟩ (by decide) (B_row _) rfl rfl hl.1.symm rfl (Nat.le_of_ble_eq_true rfl) dX4_isOrderFreeOnAll_23 ⟨Nat.zero_le _, Nat.zero_le _⟩) h (fun H locs h => ?_)
      refine lv_if_ne (tgt := 31) hx hb dX4_isOrderFreeOnAll_26 (by decide) (fun c4 => ?_) (fun c4 => ?_)
      · rw [if_neg c4] at hf
        refine lv_iinc (v := (v3 + 1)) (lv' := [(3, .int (v3 + 1)), (0, .ref (ad 0)), (1, .ref (ad t1)), (2, .ref (ad t2))]) hx hb dX4_isOrderFreeOnAll_31 hl (k := 3) rfl rfl (by decide) rfl (fun ls hl => ?_)
        refine lv_goto (tgt := 2) hx hb dX4_isOrderFreeOnAll_34 (by decide) ?_
        exact ih _ _ _ _ ft1 ft2 hf _ _ _ h (lv_sub hl [1, 2, 3, 0] rfl)
      · rw [if_pos c4] at hf
        refine lv_iconst (v := (0 : Int32)) hx hb dX4_isOrderFreeOnAll_29 (by decide) ?_
        cases hf
        exact sE_z B hr h rfl dX4_isOrderFreeOnAll_30
set_option maxHeartbeats 4000000 in
set_option maxRecDepth 100000 in
theorem k_X4_isOrderFreeOnAll_0 {p : Program} {l : Launch} {e : Env} {s : State} {m : MethodId} {args : Array Value} {below : List Frame} {meth : Method} {c : Code} {D : va_G} {cy : Nat → ClassId} {ad : Nat → Nat} {X : sX} {r : Int32} {σ' : sM} (B : sB p l s m meth c args cX4_isOrderFreeOnAll 4 RX4 D cy ad) (hr : meth.sig.returnType = (some .boolean)) (t1 : Nat) (t2 : Nat) (σ : sM) (ft1 : isH t1) (ft2 : isH t2) (hf : f_X4_isOrderFreeOnAll t1 t2 σ = some (r, σ')) : sGo p l e { frames := 6, cells := 0, slots := 0, locals := 222 } s m args below meth c D cy ad X 4 (sQ below args s 0 0 D cy ad (.inr (some (.int r))) X σ') σ 0 [(0, .ref (ad 0)), (1, .ref (ad t1)), (2, .ref (ad t2))] [] := by
  replace hf : (b_X4_isOrderFreeOnAll_2 FU t1 t2 (0 : Int32) σ) = some (r, σ') := hf
  intro H locs ls h hl
  have hx := B.1
  have hb := B.2.1
  refine lv_iconst (v := (0 : Int32)) hx hb dX4_isOrderFreeOnAll_0 (by decide) ?_
  refine lv_istore_n (lv' := [(3, .int (0 : Int32)), (0, .ref (ad 0)), (1, .ref (ad t1)), (2, .ref (ad t2))]) hx hb dX4_isOrderFreeOnAll_1 rfl hl (by decide) rfl (fun ls hl => ?_)
  exact k_X4_isOrderFreeOnAll_2 B hr  _ _ _ _ _ ft1 ft2 hf _ _ _ h (lv_sub hl [1, 2, 3, 0] rfl)
set_option maxRecDepth 100000 in
theorem ok_X4_isOrderFreeOnAll {l : Launch} (hl0 : l.stackTraces = false) {D : va_G} {cy : Nat → ClassId} {ad : Nat → Nat} (hap : sAp ad) (X : sX) (σ : sM) {t1 : Nat} (ft1 : isH t1) {t2 : Nat} (ft2 : isH t2) {r : Int32} {σ' : sM} (hf : f_X4_isOrderFreeOnAll t1 t2 σ = some (r, σ')) : sMet l yX4_isOrderFreeOnAll (sWs yX4_isOrderFreeOnAll cX4_isOrderFreeOnAll 4 (some .boolean)) 6 222 0 0 D cy ad X σ [.ref (ad 0), .ref (ad t1), .ref (ad t2)] (.inr (some (.int r))) X σ' := by
  refine sMet_of (by decide +kernel) (Nat.le_of_ble_eq_true rfl) hap hl0 ?_
  intro p e s m args below meth c ls B hr htab hl h
  exact k_X4_isOrderFreeOnAll_0 B hr _ _ _ ft1 ft2 hf _ _ _ h hl
set_option maxHeartbeats 4000000 in
set_option maxRecDepth 100000 in
theorem k_X4_areOrdersFree_15 {p : Program} {l : Launch} {e : Env} {s : State} {m : MethodId} {args : Array Value} {below : List Frame} {meth : Method} {c : Code} {D : va_G} {cy : Nat → ClassId} {ad : Nat → Nat} {X : sX} {r : Int32} {σ' : sM} (B : sB p l s m meth c args cX4_areOrdersFree 3 RX4 D cy ad) (hr : meth.sig.returnType = (some .boolean)) {K2 : Int32 → sM → Option (Int32 × sM)} (hK2 : ∀ (v1 : Int32) (σ : sM), K2 v1 σ = some (r, σ') → sGo p l e { frames := 7, cells := 0, slots := 0, locals := 245 } s m args below meth c D cy ad X 3 (sQ below args s 0 0 D cy ad (.inr (some (.int r))) X σ') σ 2 [(0, .ref (ad 0)), (1, .int v1)] []) : ∀ (n : Nat) (v1 : Int32) (v2 : Int32) (σ : sM), b_X4_areOrdersFree_15 K2 n v1 v2 σ = some (r, σ') → sGo p l e { frames := 7, cells := 0, slots := 0, locals := 245 } s m args below meth c D cy ad X 3 (sQ below args s 0 0 D cy ad (.inr (some (.int r))) X σ') σ 15 [(0, .ref (ad 0)), (1, .int v1), (2, .int v2)] [] := by
  intro n
  induction n with
  | zero =>
    intro v1 v2 σ hf
    exact nomatch (show none = some (r, σ') from hf)
  | succ n ih =>
    intro v1 v2 σ hf
    replace hf : (if (3 : Int32) ≤ v2 then (K2 (v1 + 1) σ) else (chk (inb v1 3) (chk (inb v2 3) (wthn (f_X0_countCommonKeys (28 + 4 * v1.toNatClampNeg) (28 + 4 * v2.toNatClampNeg) σ) (fun vr5 σ5 => if vr5 = 0 then (chk (inb v1 3) (chk (inb v2 3) (wthn (f_X4_isOrderFreeOnAll (28 + 4 * v1.toNatClampNeg) (28 + 4 * v2.toNatClampNeg) σ5) (fun vr9 σ9 => if vr9 = 0 then (some ((0 : Int32), σ9)) else (b_X4_areOrdersFree_15 K2 n v1 (v2 + 1) σ9))))) else (b_X4_areOrdersFree_15 K2 n v1 (v2 + 1) σ5)))))) = some (r, σ') := hf
    intro H locs ls h hl
    have hx := B.1
    have hb := B.2.1
    refine lv_iload_n hx hb dX4_areOrdersFree_15 rfl (lv_at hl 2 rfl) ?_
    refine lv_aload_n hx hb dX4_areOrdersFree_16 rfl (lv_at hl 0 rfl) ?_
    refine g_get B h 0 (by decide) (C := RX4) (T := TX4) (N := 8) (S_row _) rfl hin_X4 2 (by decide) hw129 rfl rfl dX4_areOrdersFree_17 ?_
    refine g_alen B h 3 (by decide) 5 rfl rfl (v := (3 : Int32)) rfl dX4_areOrdersFree_20 ?_
    refine lv_icmp_ge (tgt := 73) hx hb dX4_areOrdersFree_21 (by decide) (fun c2 => ?_) (fun c2 => ?_)
    · rw [if_pos c2] at hf
      refine lv_iinc (v := (v1 + 1)) (lv' := [(1, .int (v1 + 1)), (0, .ref (ad 0)), (2, .int v2)]) hx hb dX4_areOrdersFree_73 hl (k := 1) rfl rfl (by decide) rfl (fun ls hl => ?_)
      refine lv_goto (tgt := 2) hx hb dX4_areOrdersFree_76 (by decide) ?_
      exact hK2 _ _ hf _ _ _ h (lv_sub hl [1, 0] rfl)
    · rw [if_neg c2] at hf
      refine lv_aload_n hx hb dX4_areOrdersFree_24 rfl (lv_at hl 0 rfl) ?_
      refine g_get B h 0 (by decide) (C := RX4) (T := TX4) (N := 8) (S_row _) rfl hin_X4 3 (by decide) hw130 rfl rfl dX4_areOrdersFree_25 ?_
      refine lv_aload_n hx hb dX4_areOrdersFree_28 rfl (lv_at hl 0 rfl) ?_
      refine g_get B h 0 (by decide) (C := RX4) (T := TX4) (N := 8) (S_row _) rfl hin_X4 2 (by decide) hw129 rfl rfl dX4_areOrdersFree_29 ?_
      refine lv_iload_n hx hb dX4_areOrdersFree_32 rfl (lv_at hl 1 rfl) ?_
      obtain ⟨c3, hf⟩ := chk_some hf
      refine g_aald B h 3 (by decide) 5 (C := RX1) (n := 3) rfl rfl (inb_in c3) (r := (28 + 4 * v1.toNatClampNeg)) (hists_at c3) dX4_areOrdersFree_33 ?_
      refine lv_aload_n hx hb dX4_areOrdersFree_34 rfl (lv_at hl 0 rfl) ?_
      refine g_get B h 0 (by decide) (C := RX4) (T := TX4) (N := 8) (S_row _) rfl hin_X4 2 (by decide) hw129 rfl rfl dX4_areOrdersFree_35 ?_
      refine lv_iload_n hx hb dX4_areOrdersFree_38 rfl (lv_at hl 2 rfl) ?_
      obtain ⟨c4, hf⟩ := chk_some hf
      refine g_aald B h 3 (by decide) 5 (C := RX1) (n := 3) rfl rfl (inb_in c4) (r := (28 + 4 * v2.toNatClampNeg)) (hists_at c4) dX4_areOrdersFree_39 ?_
      obtain ⟨vr5, σ5, hq5, hf⟩ := wthn_some hf
      refine sRetC1 (g_runV (k := 4) (T := TX0) (N := 4) B h (ok_X0_countCommonKeys B.2.2.2.2.2.2.2.2 B.2.2.2.2.2.2.1 _ _ (hists_H c3) (hists_H c4) hq5) cw_X4_205 ⟨Nat.le_of_ble_eq_true rfl, Nat.le_of_ble_eq_true rfl⟩ (by decide) (B_row _) rfl rfl hl.1.symm rfl (Nat.le_of_ble_eq_true rfl) dX4_areOrdersFree_40 ⟨Nat.zero_le _, Nat.zero_le _⟩) h (fun H locs h => ?_)
      refine lv_if_ne (tgt := 67) hx hb dX4_areOrdersFree_43 (by decide) (fun c6 => ?_) (fun c6 => ?_)
      · rw [if_neg c6] at hf
        refine lv_iinc (v := (v2 + 1)) (lv' := [(2, .int (v2 + 1)), (0, .ref (ad 0)), (1, .int v1)]) hx hb dX4_areOrdersFree_67 hl (k := 2) rfl rfl (by decide) rfl (fun ls hl => ?_)
        refine lv_goto (tgt := 15) hx hb dX4_areOrdersFree_70 (by decide) ?_
        exact ih _ _ _ hf _ _ _ h (lv_sub hl [1, 2, 0] rfl)
      · rw [if_pos c6] at hf
        refine lv_aload_n hx hb dX4_areOrdersFree_46 rfl (lv_at hl 0 rfl) ?_
        refine lv_aload_n hx hb dX4_areOrdersFree_47 rfl (lv_at hl 0 rfl) ?_
        refine g_get B h 0 (by decide) (C := RX4) (T := TX4) (N := 8) (S_row _) rfl hin_X4 2 (by decide) hw129 rfl rfl dX4_areOrdersFree_48 ?_
        refine lv_iload_n hx hb dX4_areOrdersFree_51 rfl (lv_at hl 1 rfl) ?_
        obtain ⟨c7, hf⟩ := chk_some hf
        refine g_aald B h 3 (by decide) 5 (C := RX1) (n := 3) rfl rfl (inb_in c7) (r := (28 + 4 * v1.toNatClampNeg)) (hists_at c7) dX4_areOrdersFree_52 ?_
        refine lv_aload_n hx hb dX4_areOrdersFree_53 rfl (lv_at hl 0 rfl) ?_
        refine g_get B h 0 (by decide) (C := RX4) (T := TX4) (N := 8) (S_row _) rfl hin_X4 2 (by decide) hw129 rfl rfl dX4_areOrdersFree_54 ?_
        refine lv_iload_n hx hb dX4_areOrdersFree_57 rfl (lv_at hl 2 rfl) ?_
        obtain ⟨c8, hf⟩ := chk_some hf
        refine g_aald B h 3 (by decide) 5 (C := RX1) (n := 3) rfl rfl (inb_in c8) (r := (28 + 4 * v2.toNatClampNeg)) (hists_at c8) dX4_areOrdersFree_58 ?_
        obtain ⟨vr9, σ9, hq9, hf⟩ := wthn_some hf
        refine sRetC1 (g_runV (k := 0) (T := TX4) (N := 8) B h (ok_X4_isOrderFreeOnAll B.2.2.2.2.2.2.2.2 B.2.2.2.2.2.2.1 _ _ (hists_H c7) (hists_H c8) hq9) cw_X4_266 ⟨Nat.le_of_ble_eq_true rfl, Nat.le_of_ble_eq_true rfl⟩ (by decide) (S_row _) rfl rfl hl.1.symm rfl (Nat.le_of_ble_eq_true rfl) dX4_areOrdersFree_59 ⟨Nat.zero_le _, Nat.zero_le _⟩) h (fun H locs h => ?_)
        refine lv_if_ne (tgt := 67) hx hb dX4_areOrdersFree_62 (by decide) (fun c10 => ?_) (fun c10 => ?_)
        · rw [if_neg c10] at hf
          refine lv_iinc (v := (v2 + 1)) (lv' := [(2, .int (v2 + 1)), (0, .ref (ad 0)), (1, .int v1)]) hx hb dX4_areOrdersFree_67 hl (k := 2) rfl rfl (by decide) rfl (fun ls hl => ?_)
          refine lv_goto (tgt := 15) hx hb dX4_areOrdersFree_70 (by decide) ?_
          exact ih _ _ _ hf _ _ _ h (lv_sub hl [1, 2, 0] rfl)
        · rw [if_pos c10] at hf
          refine lv_iconst (v := (0 : Int32)) hx hb dX4_areOrdersFree_65 (by decide) ?_
          cases hf
          exact sE_z B hr h rfl dX4_areOrdersFree_66
set_option maxHeartbeats 4000000 in
set_option maxRecDepth 100000 in
theorem k_X4_areOrdersFree_2 {p : Program} {l : Launch} {e : Env} {s : State} {m : MethodId} {args : Array Value} {below : List Frame} {meth : Method} {c : Code} {D : va_G} {cy : Nat → ClassId} {ad : Nat → Nat} {X : sX} {r : Int32} {σ' : sM} (B : sB p l s m meth c args cX4_areOrdersFree 3 RX4 D cy ad) (hr : meth.sig.returnType = (some .boolean)) : ∀ (n : Nat) (v1 : Int32) (σ : sM), b_X4_areOrdersFree_2 n v1 σ = some (r, σ') → sGo p l e { frames := 7, cells := 0, slots := 0, locals := 245 } s m args below meth c D cy ad X 3 (sQ below args s 0 0 D cy ad (.inr (some (.int r))) X σ') σ 2 [(0, .ref (ad 0)), (1, .int v1)] [] := by
  intro n
  induction n with
  | zero =>
    intro v1 σ hf
    exact nomatch (show none = some (r, σ') from hf)
  | succ n ih =>
    intro v1 σ hf
    replace hf : (if (3 : Int32) ≤ v1 then (some ((1 : Int32), σ)) else (b_X4_areOrdersFree_15 (b_X4_areOrdersFree_2 n) FU v1 (v1 + (1 : Int32)) σ)) = some (r, σ') := hf
    intro H locs ls h hl
    have hx := B.1
    have hb := B.2.1
    refine lv_iload_n hx hb dX4_areOrdersFree_2 rfl (lv_at hl 1 rfl) ?_
    refine lv_aload_n hx hb dX4_areOrdersFree_3 rfl (lv_at hl 0 rfl) ?_
    refine g_get B h 0 (by decide) (C := RX4) (T := TX4) (N := 8) (S_row _) rfl hin_X4 2 (by decide) hw129 rfl rfl dX4_areOrdersFree_4 ?_
    refine g_alen B h 3 (by decide) 5 rfl rfl (v := (3 : Int32)) rfl dX4_areOrdersFree_7 ?_
    refine lv_icmp_ge (tgt := 79) hx hb dX4_areOrdersFree_8 (by decide) (fun c1 => ?_) (fun c1 => ?_)
    · rw [if_pos c1] at hf
      refine lv_iconst (v := (1 : Int32)) hx hb dX4_areOrdersFree_79 (by decide) ?_
      cases hf
      exact sE_z B hr h rfl dX4_areOrdersFree_80
    · rw [if_neg c1] at hf
      refine lv_iload_n hx hb dX4_areOrdersFree_11 rfl (lv_at hl 1 rfl) ?_
      refine lv_iconst (v := (1 : Int32)) hx hb dX4_areOrdersFree_12 (by decide) ?_
      refine lv_iadd hx hb dX4_areOrdersFree_13 ?_
      refine lv_istore_n (lv' := [(2, .int (v1 + (1 : Int32))), (0, .ref (ad 0)), (1, .int v1)]) hx hb dX4_areOrdersFree_14 rfl hl (by decide) rfl (fun ls hl => ?_)
      exact k_X4_areOrdersFree_15 B hr ih _ _ _ _ hf _ _ _ h (lv_sub hl [1, 2, 0] rfl)
set_option maxHeartbeats 4000000 in
set_option maxRecDepth 100000 in
theorem k_X4_areOrdersFree_0 {p : Program} {l : Launch} {e : Env} {s : State} {m : MethodId} {args : Array Value} {below : List Frame} {meth : Method} {c : Code} {D : va_G} {cy : Nat → ClassId} {ad : Nat → Nat} {X : sX} {r : Int32} {σ' : sM} (B : sB p l s m meth c args cX4_areOrdersFree 3 RX4 D cy ad) (hr : meth.sig.returnType = (some .boolean)) (σ : sM) (hf : f_X4_areOrdersFree σ = some (r, σ')) : sGo p l e { frames := 7, cells := 0, slots := 0, locals := 245 } s m args below meth c D cy ad X 3 (sQ below args s 0 0 D cy ad (.inr (some (.int r))) X σ') σ 0 [(0, .ref (ad 0))] [] := by
  replace hf : (b_X4_areOrdersFree_2 FU (0 : Int32) σ) = some (r, σ') := hf
  intro H locs ls h hl
  have hx := B.1
  have hb := B.2.1
  refine lv_iconst (v := (0 : Int32)) hx hb dX4_areOrdersFree_0 (by decide) ?_
  refine lv_istore_n (lv' := [(1, .int (0 : Int32)), (0, .ref (ad 0))]) hx hb dX4_areOrdersFree_1 rfl hl (by decide) rfl (fun ls hl => ?_)
  exact k_X4_areOrdersFree_2 B hr  _ _ _ hf _ _ _ h (lv_sub hl [1, 0] rfl)
set_option maxRecDepth 100000 in
theorem ok_X4_areOrdersFree {l : Launch} (hl0 : l.stackTraces = false) {D : va_G} {cy : Nat → ClassId} {ad : Nat → Nat} (hap : sAp ad) (X : sX) (σ : sM) {r : Int32} {σ' : sM} (hf : f_X4_areOrdersFree σ = some (r, σ')) : sMet l yX4_areOrdersFree (sWs yX4_areOrdersFree cX4_areOrdersFree 3 (some .boolean)) 7 245 0 0 D cy ad X σ [.ref (ad 0)] (.inr (some (.int r))) X σ' := by
  refine sMet_of (by decide +kernel) (Nat.le_of_ble_eq_true rfl) hap hl0 ?_
  intro p e s m args below meth c ls B hr htab hl h
  exact k_X4_areOrdersFree_0 B hr  _  hf _ _ _ h hl
set_option maxHeartbeats 4000000 in
set_option maxRecDepth 100000 in
theorem k_X4_areViewsSound_2 {p : Program} {l : Launch} {e : Env} {s : State} {m : MethodId} {args : Array Value} {below : List Frame} {meth : Method} {c : Code} {D : va_G} {cy : Nat → ClassId} {ad : Nat → Nat} {X : sX} {r : Int32} (B : sB p l s m meth c args cX4_areViewsSound 2 RX4 D cy ad) (hr : meth.sig.returnType = (some .boolean)) : ∀ (n : Nat) (v1 : Int32) (σ : sM), b_X4_areViewsSound_2 n v1 σ = some r → sGo p l e { frames := 5, cells := 0, slots := 0, locals := 114 } s m args below meth c D cy ad X 2 (sQ below args s 0 0 D cy ad (.inr (some (.int r))) X σ) σ 2 [(0, .ref (ad 0)), (1, .int v1)] [] := by
  intro n
  induction n with
  | zero =>
    intro v1 σ hf
    exact nomatch (show none = some r from hf)
  | succ n ih =>
    intro v1 σ hf
    replace hf : (if (4 : Int32) ≤ v1 then (some (1 : Int32)) else (chk (inb v1 4) (rthn (f_X3_hasJustItsSpan (24 + v1.toNatClampNeg) σ) (fun vr3 => if vr3 = 0 then (some (0 : Int32)) else (b_X4_areViewsSound_2 n (v1 + 1) σ))))) = some r := hf
    intro H locs ls h hl
    have hx := B.1
    have hb := B.2.1
    refine lv_iload_n hx hb dX4_areViewsSound_2 rfl (lv_at hl 1 rfl) ?_
    refine lv_aload_n hx hb dX4_areViewsSound_3 rfl (lv_at hl 0 rfl) ?_
    refine g_get B h 0 (by decide) (C := RX4) (T := TX4) (N := 8) (S_row _) rfl hin_X4 1 (by decide) hw128 rfl rfl dX4_areViewsSound_4 ?_
    refine g_alen B h 2 (by decide) 4 rfl rfl (v := (4 : Int32)) rfl dX4_areViewsSound_7 ?_
    refine lv_icmp_ge (tgt := 31) hx hb dX4_areViewsSound_8 (by decide) (fun c1 => ?_) (fun c1 => ?_)
    · rw [if_pos c1] at hf
      refine lv_iconst (v := (1 : Int32)) hx hb dX4_areViewsSound_31 (by decide) ?_
      cases hf
      exact sE_z B hr h rfl dX4_areViewsSound_32
    · rw [if_neg c1] at hf
      refine lv_aload_n hx hb dX4_areViewsSound_11 rfl (lv_at hl 0 rfl) ?_
      refine g_get B h 0 (by decide) (C := RX4) (T := TX4) (N := 8) (S_row _) rfl hin_X4 1 (by decide) hw128 rfl rfl dX4_areViewsSound_12 ?_
      refine lv_iload_n hx hb dX4_areViewsSound_15 rfl (lv_at hl 1 rfl) ?_
      obtain ⟨c2, hf⟩ := chk_some hf
      refine g_aald B h 2 (by decide) 4 (C := RX3) (n := 4) rfl rfl (inb_in c2) (r := (24 + v1.toNatClampNeg)) (views_at c2) dX4_areViewsSound_16 ?_
      obtain ⟨vr3, hq3, hf⟩ := rthn_some hf
      refine sRetC1 (g_runV (k := (24 + v1.toNatClampNeg)) (T := TX3) (N := 6) B h (ok_X3_hasJustItsSpan B.2.2.2.2.2.2.2.2 B.2.2.2.2.2.2.1 _ _ (views_V c2) hq3) cw_X4_263 ⟨Nat.le_of_ble_eq_true rfl, Nat.le_of_ble_eq_true rfl⟩ (V_lt (views_V c2)) (V_row (views_V c2) _) rfl rfl hl.1.symm rfl (Nat.le_of_ble_eq_true rfl) dX4_areViewsSound_17 ⟨Nat.zero_le _, Nat.zero_le _⟩) h (fun H locs h => ?_)
      refine lv_if_ne (tgt := 25) hx hb dX4_areViewsSound_20 (by decide) (fun c4 => ?_) (fun c4 => ?_)
      · rw [if_neg c4] at hf
        refine lv_iinc (v := (v1 + 1)) (lv' := [(1, .int (v1 + 1)), (0, .ref (ad 0))]) hx hb dX4_areViewsSound_25 hl (k := 1) rfl rfl (by decide) rfl (fun ls hl => ?_)
        refine lv_goto (tgt := 2) hx hb dX4_areViewsSound_28 (by decide) ?_
        exact ih _ _ hf _ _ _ h (lv_sub hl [1, 0] rfl)
      · rw [if_pos c4] at hf
        refine lv_iconst (v := (0 : Int32)) hx hb dX4_areViewsSound_23 (by decide) ?_
        cases hf
        exact sE_z B hr h rfl dX4_areViewsSound_24
set_option maxHeartbeats 4000000 in
set_option maxRecDepth 100000 in
theorem k_X4_areViewsSound_0 {p : Program} {l : Launch} {e : Env} {s : State} {m : MethodId} {args : Array Value} {below : List Frame} {meth : Method} {c : Code} {D : va_G} {cy : Nat → ClassId} {ad : Nat → Nat} {X : sX} {r : Int32} (B : sB p l s m meth c args cX4_areViewsSound 2 RX4 D cy ad) (hr : meth.sig.returnType = (some .boolean)) (σ : sM) (hf : f_X4_areViewsSound σ = some r) : sGo p l e { frames := 5, cells := 0, slots := 0, locals := 114 } s m args below meth c D cy ad X 2 (sQ below args s 0 0 D cy ad (.inr (some (.int r))) X σ) σ 0 [(0, .ref (ad 0))] [] := by
  replace hf : (b_X4_areViewsSound_2 FU (0 : Int32) σ) = some r := hf
  intro H locs ls h hl
  have hx := B.1
  have hb := B.2.1
  refine lv_iconst (v := (0 : Int32)) hx hb dX4_areViewsSound_0 (by decide) ?_
  refine lv_istore_n (lv' := [(1, .int (0 : Int32)), (0, .ref (ad 0))]) hx hb dX4_areViewsSound_1 rfl hl (by decide) rfl (fun ls hl => ?_)
  exact k_X4_areViewsSound_2 B hr  _ _ _ hf _ _ _ h (lv_sub hl [1, 0] rfl)
set_option maxRecDepth 100000 in
theorem ok_X4_areViewsSound {l : Launch} (hl0 : l.stackTraces = false) {D : va_G} {cy : Nat → ClassId} {ad : Nat → Nat} (hap : sAp ad) (X : sX) (σ : sM) {r : Int32} (hf : f_X4_areViewsSound σ = some r) : sMet l yX4_areViewsSound (sWs yX4_areViewsSound cX4_areViewsSound 2 (some .boolean)) 5 114 0 0 D cy ad X σ [.ref (ad 0)] (.inr (some (.int r))) X σ := by
  refine sMet_of (by decide +kernel) (Nat.le_of_ble_eq_true rfl) hap hl0 ?_
  intro p e s m args below meth c ls B hr htab hl h
  exact k_X4_areViewsSound_0 B hr  _  hf _ _ _ h hl
set_option maxHeartbeats 4000000 in
set_option maxRecDepth 100000 in
theorem k_X4_checksum_62 {p : Program} {l : Launch} {e : Env} {s : State} {m : MethodId} {args : Array Value} {below : List Frame} {meth : Method} {c : Code} {D : va_G} {cy : Nat → ClassId} {ad : Nat → Nat} {X : sX} {r : Int64} (B : sB p l s m meth c args cX4_checksum 4 RX4 D cy ad) (hr : meth.sig.returnType = (some .long)) : ∀ (n : Nat) (v1 : Int64) (v3 : Int32) (σ : sM), b_X4_checksum_62 n v1 v3 σ = some r → sGo p l e { frames := 6, cells := 0, slots := 0, locals := 135 } s m args below meth c D cy ad X 4 (sQ below args s 0 0 D cy ad (.inr (some (.long r))) X σ) σ 62 [(0, .ref (ad 0)), (1, .long v1), (3, .int v3)] [] := by
  intro n
  induction n with
  | zero =>
    intro v1 v3 σ hf
    exact nomatch (show none = some r from hf)
  | succ n ih =>
    intro v1 v3 σ hf
    replace hf : (if (3 : Int32) ≤ v3 then (some v1) else (chk (inb v3 3) (rthn (f_X1_addTo (28 + 4 * v3.toNatClampNeg) v1 σ) (fun vr9 => b_X4_checksum_62 n vr9 (v3 + 1) σ)))) = some r := hf
    intro H locs ls h hl
    have hx := B.1
    have hb := B.2.1
    refine lv_iload_n hx hb dX4_checksum_62 rfl (lv_at hl 2 rfl) ?_
    refine lv_aload_n hx hb dX4_checksum_63 rfl (lv_at hl 0 rfl) ?_
    refine g_get B h 0 (by decide) (C := RX4) (T := TX4) (N := 8) (S_row _) rfl hin_X4 2 (by decide) hw129 rfl rfl dX4_checksum_64 ?_
    refine g_alen B h 3 (by decide) 5 rfl rfl (v := (3 : Int32)) rfl dX4_checksum_67 ?_
    refine lv_icmp_ge (tgt := 88) hx hb dX4_checksum_68 (by decide) (fun c7 => ?_) (fun c7 => ?_)
    · rw [if_pos c7] at hf
      refine lv_lload_n hx hb dX4_checksum_88 rfl (lv_at hl 1 rfl) ?_
      cases hf
      exact sE_l B hr h dX4_checksum_89
    · rw [if_neg c7] at hf
      refine lv_aload_n hx hb dX4_checksum_71 rfl (lv_at hl 0 rfl) ?_
      refine g_get B h 0 (by decide) (C := RX4) (T := TX4) (N := 8) (S_row _) rfl hin_X4 2 (by decide) hw129 rfl rfl dX4_checksum_72 ?_
      refine lv_iload_n hx hb dX4_checksum_75 rfl (lv_at hl 2 rfl) ?_
      obtain ⟨c8, hf⟩ := chk_some hf
      refine g_aald B h 3 (by decide) 5 (C := RX1) (n := 3) rfl rfl (inb_in c8) (r := (28 + 4 * v3.toNatClampNeg)) (hists_at c8) dX4_checksum_76 ?_
      refine lv_lload_n hx hb dX4_checksum_77 rfl (lv_at hl 1 rfl) ?_
      obtain ⟨vr9, hq9, hf⟩ := rthn_some hf
      refine sRetC1 (g_runV (k := (28 + 4 * v3.toNatClampNeg)) (T := TX1) (N := 4) B h (ok_X1_addTo B.2.2.2.2.2.2.2.2 B.2.2.2.2.2.2.1 _ _ (hists_H c8) v1 hq9) cw_X4_240 ⟨Nat.le_of_ble_eq_true rfl, Nat.le_of_ble_eq_true rfl⟩ (H_lt (hists_H c8)) (H_row (hists_H c8) _) rfl rfl hl.1.symm rfl (Nat.le_of_ble_eq_true rfl) dX4_checksum_78 ⟨Nat.zero_le _, Nat.zero_le _⟩) h (fun H locs h => ?_)
      refine lv_lstore_n (lv' := [(1, .long vr9), (0, .ref (ad 0)), (3, .int v3)]) hx hb dX4_checksum_81 rfl hl (by decide) rfl (fun ls hl => ?_)
      refine lv_iinc (v := (v3 + 1)) (lv' := [(3, .int (v3 + 1)), (1, .long vr9), (0, .ref (ad 0))]) hx hb dX4_checksum_82 hl (k := 2) rfl rfl (by decide) rfl (fun ls hl => ?_)
      refine lv_goto (tgt := 62) hx hb dX4_checksum_85 (by decide) ?_
      exact ih _ _ _ hf _ _ _ h (lv_sub hl [2, 1, 0] rfl)
set_option maxHeartbeats 4000000 in
set_option maxRecDepth 100000 in
theorem k_X4_checksum_34 {p : Program} {l : Launch} {e : Env} {s : State} {m : MethodId} {args : Array Value} {below : List Frame} {meth : Method} {c : Code} {D : va_G} {cy : Nat → ClassId} {ad : Nat → Nat} {X : sX} {r : Int64} (B : sB p l s m meth c args cX4_checksum 4 RX4 D cy ad) (hr : meth.sig.returnType = (some .long)) : ∀ (n : Nat) (v1 : Int64) (v3 : Int32) (σ : sM), b_X4_checksum_34 n v1 v3 σ = some r → sGo p l e { frames := 6, cells := 0, slots := 0, locals := 135 } s m args below meth c D cy ad X 4 (sQ below args s 0 0 D cy ad (.inr (some (.long r))) X σ) σ 34 [(0, .ref (ad 0)), (1, .long v1), (3, .int v3)] [] := by
  intro n
  induction n with
  | zero =>
    intro v1 v3 σ hf
    exact nomatch (show none = some r from hf)
  | succ n ih =>
    intro v1 v3 σ hf
    replace hf : (if (4 : Int32) ≤ v3 then (b_X4_checksum_62 FU v1 (0 : Int32) σ) else (chk (inb v3 4) (rthn (f_X3_addTo (24 + v3.toNatClampNeg) v1 σ) (fun vr6 => b_X4_checksum_34 n vr6 (v3 + 1) σ)))) = some r := hf
    intro H locs ls h hl
    have hx := B.1
    have hb := B.2.1
    refine lv_iload_n hx hb dX4_checksum_34 rfl (lv_at hl 2 rfl) ?_
    refine lv_aload_n hx hb dX4_checksum_35 rfl (lv_at hl 0 rfl) ?_
    refine g_get B h 0 (by decide) (C := RX4) (T := TX4) (N := 8) (S_row _) rfl hin_X4 1 (by decide) hw128 rfl rfl dX4_checksum_36 ?_
    refine g_alen B h 2 (by decide) 4 rfl rfl (v := (4 : Int32)) rfl dX4_checksum_39 ?_
    refine lv_icmp_ge (tgt := 60) hx hb dX4_checksum_40 (by decide) (fun c4 => ?_) (fun c4 => ?_)
    · rw [if_pos c4] at hf
      refine lv_iconst (v := (0 : Int32)) hx hb dX4_checksum_60 (by decide) ?_
      refine lv_istore_n (lv' := [(3, .int (0 : Int32)), (0, .ref (ad 0)), (1, .long v1)]) hx hb dX4_checksum_61 rfl hl (by decide) rfl (fun ls hl => ?_)
      exact k_X4_checksum_62 B hr  _ _ _ _ hf _ _ _ h (lv_sub hl [1, 2, 0] rfl)
    · rw [if_neg c4] at hf
      refine lv_aload_n hx hb dX4_checksum_43 rfl (lv_at hl 0 rfl) ?_
      refine g_get B h 0 (by decide) (C := RX4) (T := TX4) (N := 8) (S_row _) rfl hin_X4 1 (by decide) hw128 rfl rfl dX4_checksum_44 ?_
      refine lv_iload_n hx hb dX4_checksum_47 rfl (lv_at hl 2 rfl) ?_
      obtain ⟨c5, hf⟩ := chk_some hf
      refine g_aald B h 2 (by decide) 4 (C := RX3) (n := 4) rfl rfl (inb_in c5) (r := (24 + v3.toNatClampNeg)) (views_at c5) dX4_checksum_48 ?_
      refine lv_lload_n hx hb dX4_checksum_49 rfl (lv_at hl 1 rfl) ?_
      obtain ⟨vr6, hq6, hf⟩ := rthn_some hf
      refine sRetC1 (g_runV (k := (24 + v3.toNatClampNeg)) (T := TX3) (N := 6) B h (ok_X3_addTo B.2.2.2.2.2.2.2.2 B.2.2.2.2.2.2.1 _ _ (views_V c5) v1 hq6) cw_X4_239 ⟨Nat.le_of_ble_eq_true rfl, Nat.le_of_ble_eq_true rfl⟩ (V_lt (views_V c5)) (V_row (views_V c5) _) rfl rfl hl.1.symm rfl (Nat.le_of_ble_eq_true rfl) dX4_checksum_50 ⟨Nat.zero_le _, Nat.zero_le _⟩) h (fun H locs h => ?_)
      refine lv_lstore_n (lv' := [(1, .long vr6), (0, .ref (ad 0)), (3, .int v3)]) hx hb dX4_checksum_53 rfl hl (by decide) rfl (fun ls hl => ?_)
      refine lv_iinc (v := (v3 + 1)) (lv' := [(3, .int (v3 + 1)), (1, .long vr6), (0, .ref (ad 0))]) hx hb dX4_checksum_54 hl (k := 2) rfl rfl (by decide) rfl (fun ls hl => ?_)
      refine lv_goto (tgt := 34) hx hb dX4_checksum_57 (by decide) ?_
      exact ih _ _ _ hf _ _ _ h (lv_sub hl [2, 1, 0] rfl)
set_option maxHeartbeats 4000000 in
set_option maxRecDepth 100000 in
theorem k_X4_checksum_6 {p : Program} {l : Launch} {e : Env} {s : State} {m : MethodId} {args : Array Value} {below : List Frame} {meth : Method} {c : Code} {D : va_G} {cy : Nat → ClassId} {ad : Nat → Nat} {X : sX} {r : Int64} (B : sB p l s m meth c args cX4_checksum 4 RX4 D cy ad) (hr : meth.sig.returnType = (some .long)) : ∀ (n : Nat) (v1 : Int64) (v3 : Int32) (σ : sM), b_X4_checksum_6 n v1 v3 σ = some r → sGo p l e { frames := 6, cells := 0, slots := 0, locals := 135 } s m args below meth c D cy ad X 4 (sQ below args s 0 0 D cy ad (.inr (some (.long r))) X σ) σ 6 [(0, .ref (ad 0)), (1, .long v1), (3, .int v3)] [] := by
  intro n
  induction n with
  | zero =>
    intro v1 v3 σ hf
    exact nomatch (show none = some r from hf)
  | succ n ih =>
    intro v1 v3 σ hf
    replace hf : (if (3 : Int32) ≤ v3 then (b_X4_checksum_34 FU v1 (0 : Int32) σ) else (chk (inb v3 3) (rthn (f_X2_addTo (6 + 3 * v3.toNatClampNeg) v1 σ) (fun vr3 => b_X4_checksum_6 n vr3 (v3 + 1) σ)))) = some r := hf
    intro H locs ls h hl
    have hx := B.1
    have hb := B.2.1
    refine lv_iload_n hx hb dX4_checksum_6 rfl (lv_at hl 2 rfl) ?_
    refine lv_aload_n hx hb dX4_checksum_7 rfl (lv_at hl 0 rfl) ?_
    refine g_get B h 0 (by decide) (C := RX4) (T := TX4) (N := 8) (S_row _) rfl hin_X4 0 (by decide) hw127 rfl rfl dX4_checksum_8 ?_
    refine g_alen B h 1 (by decide) 3 rfl rfl (v := (3 : Int32)) rfl dX4_checksum_11 ?_
    refine lv_icmp_ge (tgt := 32) hx hb dX4_checksum_12 (by decide) (fun c1 => ?_) (fun c1 => ?_)
    · rw [if_pos c1] at hf
      refine lv_iconst (v := (0 : Int32)) hx hb dX4_checksum_32 (by decide) ?_
      refine lv_istore_n (lv' := [(3, .int (0 : Int32)), (0, .ref (ad 0)), (1, .long v1)]) hx hb dX4_checksum_33 rfl hl (by decide) rfl (fun ls hl => ?_)
      exact k_X4_checksum_34 B hr  _ _ _ _ hf _ _ _ h (lv_sub hl [1, 2, 0] rfl)
    · rw [if_neg c1] at hf
      refine lv_aload_n hx hb dX4_checksum_15 rfl (lv_at hl 0 rfl) ?_
      refine g_get B h 0 (by decide) (C := RX4) (T := TX4) (N := 8) (S_row _) rfl hin_X4 0 (by decide) hw127 rfl rfl dX4_checksum_16 ?_
      refine lv_iload_n hx hb dX4_checksum_19 rfl (lv_at hl 2 rfl) ?_
      obtain ⟨c2, hf⟩ := chk_some hf
      refine g_aald B h 1 (by decide) 3 (C := RX2) (n := 3) rfl rfl (inb_in c2) (r := (6 + 3 * v3.toNatClampNeg)) (maps_at c2) dX4_checksum_20 ?_
      refine lv_lload_n hx hb dX4_checksum_21 rfl (lv_at hl 1 rfl) ?_
      obtain ⟨vr3, hq3, hf⟩ := rthn_some hf
      refine sRetC1 (g_runV (k := (6 + 3 * v3.toNatClampNeg)) (T := TX2) (N := 3) B h (ok_X2_addTo B.2.2.2.2.2.2.2.2 B.2.2.2.2.2.2.1 _ _ (maps_T c2) v1 hq3) cw_X4_235 ⟨Nat.le_of_ble_eq_true rfl, Nat.le_of_ble_eq_true rfl⟩ (T_lt (maps_T c2)) (T_row (maps_T c2) _) rfl rfl hl.1.symm rfl (Nat.le_of_ble_eq_true rfl) dX4_checksum_22 ⟨Nat.zero_le _, Nat.zero_le _⟩) h (fun H locs h => ?_)
      refine lv_lstore_n (lv' := [(1, .long vr3), (0, .ref (ad 0)), (3, .int v3)]) hx hb dX4_checksum_25 rfl hl (by decide) rfl (fun ls hl => ?_)
      refine lv_iinc (v := (v3 + 1)) (lv' := [(3, .int (v3 + 1)), (1, .long vr3), (0, .ref (ad 0))]) hx hb dX4_checksum_26 hl (k := 2) rfl rfl (by decide) rfl (fun ls hl => ?_)
      refine lv_goto (tgt := 6) hx hb dX4_checksum_29 (by decide) ?_
      exact ih _ _ _ hf _ _ _ h (lv_sub hl [2, 1, 0] rfl)
set_option maxHeartbeats 4000000 in
set_option maxRecDepth 100000 in
theorem k_X4_checksum_0 {p : Program} {l : Launch} {e : Env} {s : State} {m : MethodId} {args : Array Value} {below : List Frame} {meth : Method} {c : Code} {D : va_G} {cy : Nat → ClassId} {ad : Nat → Nat} {X : sX} {r : Int64} (B : sB p l s m meth c args cX4_checksum 4 RX4 D cy ad) (hr : meth.sig.returnType = (some .long)) (σ : sM) (hf : f_X4_checksum σ = some r) : sGo p l e { frames := 6, cells := 0, slots := 0, locals := 135 } s m args below meth c D cy ad X 4 (sQ below args s 0 0 D cy ad (.inr (some (.long r))) X σ) σ 0 [(0, .ref (ad 0))] [] := by
  replace hf : (b_X4_checksum_6 FU (7 : Int64) (0 : Int32) σ) = some r := hf
  intro H locs ls h hl
  have hx := B.1
  have hb := B.2.1
  refine lv_ldc2 (own := RX4) (v := (7 : Int64)) hx hb B.2.2.2.1 (B.2.2.2.2.1 _ hw156) dX4_checksum_0 ?_
  refine lv_lstore_n (lv' := [(1, .long (7 : Int64)), (0, .ref (ad 0))]) hx hb dX4_checksum_3 rfl hl (by decide) rfl (fun ls hl => ?_)
  refine lv_iconst (v := (0 : Int32)) hx hb dX4_checksum_4 (by decide) ?_
  refine lv_istore_n (lv' := [(3, .int (0 : Int32)), (1, .long (7 : Int64)), (0, .ref (ad 0))]) hx hb dX4_checksum_5 rfl hl (by decide) rfl (fun ls hl => ?_)
  exact k_X4_checksum_6 B hr  _ _ _ _ hf _ _ _ h (lv_sub hl [2, 1, 0] rfl)
set_option maxRecDepth 100000 in
theorem ok_X4_checksum {l : Launch} (hl0 : l.stackTraces = false) {D : va_G} {cy : Nat → ClassId} {ad : Nat → Nat} (hap : sAp ad) (X : sX) (σ : sM) {r : Int64} (hf : f_X4_checksum σ = some r) : sMet l yX4_checksum (sWs yX4_checksum cX4_checksum 4 (some .long)) 6 135 0 0 D cy ad X σ [.ref (ad 0)] (.inr (some (.long r))) X σ := by
  refine sMet_of (by decide +kernel) (Nat.le_of_ble_eq_true rfl) hap hl0 ?_
  intro p e s m args below meth c ls B hr htab hl h
  exact k_X4_checksum_0 B hr  _  hf _ _ _ h hl
set_option maxHeartbeats 4000000 in
set_option maxRecDepth 100000 in
theorem k_X4_mapAt_0 {p : Program} {l : Launch} {e : Env} {s : State} {m : MethodId} {args : Array Value} {below : List Frame} {meth : Method} {c : Code} {D : va_G} {cy : Nat → ClassId} {ad : Nat → Nat} {X : sX} {oo : String ⊕ Nat} {σ' : sM} (B : sB p l s m meth c args cX4_mapAt 2 RX4 D cy ad) (hr : meth.sig.returnType = (some (.object "Spanwarden$Table"))) (htab : ∀ x ∈ c.exceptionTable.toList, False) (v1 : Int32) (σ : sM) (hf : f_X4_mapAt v1 σ = some (oo, σ')) : sGo p l e { frames := 6, cells := (sC (oA ad oo)), slots := (sS (oA ad oo)), locals := 100 } s m args below meth c D cy ad X 2 (sQ below args s (sC (oA ad oo)) (sS (oA ad oo)) D cy ad (oA ad oo) X σ') σ 0 [(0, .ref (ad 0)), (1, .int v1)] [] := by
  replace hf : (if v1 < 0 then (some (.inl "java/lang/IndexOutOfBoundsException", σ)) else (if v1 < (3 : Int32) then (chk (inb v1 3) (some (.inr (6 + 3 * v1.toNatClampNeg), σ))) else (some (.inl "java/lang/IndexOutOfBoundsException", σ)))) = some (oo, σ') := hf
  intro H locs ls h hl
  have hx := B.1
  have hb := B.2.1
  refine lv_iload_n hx hb dX4_mapAt_0 rfl (lv_at hl 1 rfl) ?_
  refine lv_if_lt (tgt := 13) hx hb dX4_mapAt_1 (by decide) (fun c1 => ?_) (fun c1 => ?_)
  · rw [if_pos c1] at hf
    cases hf
    exact sE_thrW (text := "no such map") (ic := 113) B htab h hl.1.symm ["java/lang/RuntimeException", "java/lang/Exception"] (by decide +kernel) (by decide +kernel) hw435 hw10 (by decide +kernel) (by decide +kernel) at_X4_113_g at_X4_113_n at_X4_113_o dX4_mapAt_13 dX4_mapAt_16 dX4_mapAt_17 dX4_mapAt_20 dX4_mapAt_23 (Nat.le_of_ble_eq_true rfl) (Nat.le_of_ble_eq_true rfl) (Nat.le_of_eq (Nat.zero_add _)) (Nat.le_of_eq (Nat.zero_add _)) (Nat.le_of_eq (Nat.zero_add _)) (Nat.le_of_eq (Nat.zero_add _))
  · rw [if_neg c1] at hf
    refine lv_iload_n hx hb dX4_mapAt_4 rfl (lv_at hl 1 rfl) ?_
    refine lv_aload_n hx hb dX4_mapAt_5 rfl (lv_at hl 0 rfl) ?_
    refine g_get B h 0 (by decide) (C := RX4) (T := TX4) (N := 8) (S_row _) rfl hin_X4 0 (by decide) hw127 rfl rfl dX4_mapAt_6 ?_
    refine g_alen B h 1 (by decide) 3 rfl rfl (v := (3 : Int32)) rfl dX4_mapAt_9 ?_
    refine lv_icmp_lt (tgt := 24) hx hb dX4_mapAt_10 (by decide) (fun c2 => ?_) (fun c2 => ?_)
    · rw [if_pos c2] at hf
      refine lv_aload_n hx hb dX4_mapAt_24 rfl (lv_at hl 0 rfl) ?_
      refine g_get B h 0 (by decide) (C := RX4) (T := TX4) (N := 8) (S_row _) rfl hin_X4 0 (by decide) hw127 rfl rfl dX4_mapAt_25 ?_
      refine lv_iload_n hx hb dX4_mapAt_28 rfl (lv_at hl 1 rfl) ?_
      obtain ⟨c3, hf⟩ := chk_some hf
      refine g_aald B h 1 (by decide) 3 (C := RX2) (n := 3) rfl rfl (inb_in c3) (r := (6 + 3 * v1.toNatClampNeg)) (maps_at c3) dX4_mapAt_29 ?_
      cases hf
      exact sE_a B hr h dX4_mapAt_30
    · rw [if_neg c2] at hf
      cases hf
      exact sE_thrW (text := "no such map") (ic := 113) B htab h hl.1.symm ["java/lang/RuntimeException", "java/lang/Exception"] (by decide +kernel) (by decide +kernel) hw435 hw10 (by decide +kernel) (by decide +kernel) at_X4_113_g at_X4_113_n at_X4_113_o dX4_mapAt_13 dX4_mapAt_16 dX4_mapAt_17 dX4_mapAt_20 dX4_mapAt_23 (Nat.le_of_ble_eq_true rfl) (Nat.le_of_ble_eq_true rfl) (Nat.le_of_eq (Nat.zero_add _)) (Nat.le_of_eq (Nat.zero_add _)) (Nat.le_of_eq (Nat.zero_add _)) (Nat.le_of_eq (Nat.zero_add _))
set_option maxRecDepth 100000 in
theorem ok_X4_mapAt {l : Launch} (hl0 : l.stackTraces = false) {D : va_G} {cy : Nat → ClassId} {ad : Nat → Nat} (hap : sAp ad) (X : sX) (σ : sM) (v1 : Int32) {oo : String ⊕ Nat} {σ' : sM} (hf : f_X4_mapAt v1 σ = some (oo, σ')) : sMet l yX4_mapAt (sWs yX4_mapAt cX4_mapAt 2 (some (.object "Spanwarden$Table"))) 6 100 (sC (oA ad oo)) (sS (oA ad oo)) D cy ad X σ [.ref (ad 0), .int v1] (oA ad oo) X σ' := by
  refine sMet_of (by decide +kernel) (Nat.le_of_ble_eq_true rfl) hap hl0 ?_
  intro p e s m args below meth c ls B hr htab hl h
  exact k_X4_mapAt_0 B hr htab _ _  hf _ _ _ h hl
set_option maxHeartbeats 4000000 in
set_option maxRecDepth 100000 in
theorem k_X4_isMixWay_0 {p : Program} {l : Launch} {e : Env} {s : State} {m : MethodId} {args : Array Value} {below : List Frame} {meth : Method} {c : Code} {D : va_G} {cy : Nat → ClassId} {ad : Nat → Nat} {X : sX} {r : Int32} (B : sB p l s m meth c args cX4_isMixWay 1 RX4 D cy ad) (hr : meth.sig.returnType = (some .boolean)) (v0 : Int32) (σ : sM) (hf : f_X4_isMixWay v0 σ = some r) : sGo p l e { frames := 0, cells := 0, slots := 0, locals := 0 } s m args below meth c D cy ad X 1 (sQ below args s 0 0 D cy ad (.inr (some (.int r))) X σ) σ 0 [(0, .int v0)] [] := by
  replace hf : (if v0 = (115 : Int32) then (some (1 : Int32)) else (if v0 = (103 : Int32) then (some (1 : Int32)) else (if v0 = (108 : Int32) then (some (1 : Int32)) else (some (0 : Int32))))) = some r := hf
  intro H locs ls h hl
  have hx := B.1
  have hb := B.2.1
  refine lv_iload_n hx hb dX4_isMixWay_0 rfl (lv_at hl 0 rfl) ?_
  refine lv_bipush (v := (115 : Int32)) hx hb dX4_isMixWay_1 (by decide) ?_
  refine lv_icmp_eq (tgt := 18) hx hb dX4_isMixWay_3 (by decide) (fun c1 => ?_) (fun c1 => ?_)
  · rw [if_pos c1] at hf
    refine lv_iconst (v := (1 : Int32)) hx hb dX4_isMixWay_18 (by decide) ?_
    refine lv_goto (tgt := 23) hx hb dX4_isMixWay_19 (by decide) ?_
    cases hf
    exact sE_z B hr h rfl dX4_isMixWay_23
  · rw [if_neg c1] at hf
    refine lv_iload_n hx hb dX4_isMixWay_6 rfl (lv_at hl 0 rfl) ?_
    refine lv_bipush (v := (103 : Int32)) hx hb dX4_isMixWay_7 (by decide) ?_
    refine lv_icmp_eq (tgt := 18) hx hb dX4_isMixWay_9 (by decide) (fun c2 => ?_) (fun c2 => ?_)
    · rw [if_pos c2] at hf
      refine lv_iconst (v := (1 : Int32)) hx hb dX4_isMixWay_18 (by decide) ?_
      refine lv_goto (tgt := 23) hx hb dX4_isMixWay_19 (by decide) ?_
      cases hf
      exact sE_z B hr h rfl dX4_isMixWay_23
    · rw [if_neg c2] at hf
      refine lv_iload_n hx hb dX4_isMixWay_12 rfl (lv_at hl 0 rfl) ?_
      refine lv_bipush (v := (108 : Int32)) hx hb dX4_isMixWay_13 (by decide) ?_
      refine lv_icmp_ne (tgt := 22) hx hb dX4_isMixWay_15 (by decide) (fun c3 => ?_) (fun c3 => ?_)
      · rw [if_neg c3] at hf
        refine lv_iconst (v := (0 : Int32)) hx hb dX4_isMixWay_22 (by decide) ?_
        cases hf
        exact sE_z B hr h rfl dX4_isMixWay_23
      · rw [if_pos c3] at hf
        refine lv_iconst (v := (1 : Int32)) hx hb dX4_isMixWay_18 (by decide) ?_
        refine lv_goto (tgt := 23) hx hb dX4_isMixWay_19 (by decide) ?_
        cases hf
        exact sE_z B hr h rfl dX4_isMixWay_23
set_option maxRecDepth 100000 in
theorem ok_X4_isMixWay {l : Launch} (hl0 : l.stackTraces = false) {D : va_G} {cy : Nat → ClassId} {ad : Nat → Nat} (hap : sAp ad) (X : sX) (σ : sM) (v0 : Int32) {r : Int32} (hf : f_X4_isMixWay v0 σ = some r) : sMet l yX4_isMixWay (sWs yX4_isMixWay cX4_isMixWay 1 (some .boolean)) 0 0 0 0 D cy ad X σ [.int v0] (.inr (some (.int r))) X σ := by
  refine sMet_of (by decide +kernel) (Nat.le_of_ble_eq_true rfl) hap hl0 ?_
  intro p e s m args below meth c ls B hr htab hl h
  exact k_X4_isMixWay_0 B hr _ _  hf _ _ _ h hl
set_option maxHeartbeats 4000000 in
set_option maxRecDepth 100000 in
theorem k_X4_combine_0 {p : Program} {l : Launch} {e : Env} {s : State} {m : MethodId} {args : Array Value} {below : List Frame} {meth : Method} {c : Code} {D : va_G} {cy : Nat → ClassId} {ad : Nat → Nat} {X : sX} {oo : String ⊕ Int32} {σ' : sM} (B : sB p l s m meth c args cX4_combine 6 RX4 D cy ad) (hr : meth.sig.returnType = (some .int)) (htab : ∀ x ∈ c.exceptionTable.toList, False) (v1 : Int32) (v2 : Int32) (v3 : Int32) (σ : sM) (hf : f_X4_combine v1 v2 v3 σ = some (oo, σ')) : sGo p l e { frames := 7, cells := (sC (oI oo)), slots := (sS (oI oo)), locals := 158 } s m args below meth c D cy ad X 6 (sQ below args s (sC (oI oo)) (sS (oI oo)) D cy ad (oI oo) X σ') σ 0 [(0, .ref (ad 0)), (1, .int v1), (2, .int v2), (3, .int v3)] [] := by
  replace hf : (thn (f_X4_mapAt v1 σ) (fun tr1 σ1 => chk (isTb tr1) (thn (f_X4_mapAt v2 σ1) (fun tr3 σ3 => chk (isTb tr3) (rthn (f_X4_isMixWay v3 σ3) (fun vr5 => if vr5 = 0 then (some (.inl "java/lang/IllegalArgumentException", σ3)) else (if v1 = v2 then (some (.inl "java/lang/IllegalArgumentException", σ3)) else (rthn (f_X2_countMissingIn tr1 tr3 σ3) (fun vr8 => if ((σ3 tr3 2) + vr8) ≤ (60 : Int32) then (wthn (f_X2_takeIn tr3 tr1 v3 σ3) (fun _ σ10 => some (.inr (σ10 tr3 2), σ10))) else (some (.inl "java/lang/IllegalStateException", σ3))))))))))) = some (oo, σ') := hf
  intro H locs ls h hl
  have hx := B.1
  have hb := B.2.1
  refine lv_aload_n hx hb dX4_combine_0 rfl (lv_at hl 0 rfl) ?_
  refine lv_iload_n hx hb dX4_combine_1 rfl (lv_at hl 1 rfl) ?_
  rcases thn_cases hf with ⟨E1, σ1, hq1, ho⟩ | ⟨tr1, σ1, hq1, hf⟩
  · cases ho
    exact sThrC (g_runV (k := 0) (T := TX4) (N := 8) B h (ok_X4_mapAt B.2.2.2.2.2.2.2.2 B.2.2.2.2.2.2.1 _ _ v1 hq1) cw_X4_41 ⟨Nat.le_of_ble_eq_true rfl, Nat.le_of_ble_eq_true rfl⟩ (by decide) (S_row _) rfl rfl hl.1.symm rfl (Nat.le_of_ble_eq_true rfl) dX4_combine_2 ⟨Nat.le_of_eq (Nat.zero_add _), Nat.le_of_eq (Nat.zero_add _)⟩) h (fun H locs q ce h hc hv hcl => sE_out B htab h hc hv hcl (Nat.le_of_eq (Nat.zero_add _)) (Nat.le_of_eq (Nat.zero_add _)))
  refine sRetC1 (g_runV (k := 0) (T := TX4) (N := 8) B h (ok_X4_mapAt B.2.2.2.2.2.2.2.2 B.2.2.2.2.2.2.1 _ _ v1 hq1) cw_X4_41 ⟨Nat.le_of_ble_eq_true rfl, Nat.le_of_ble_eq_true rfl⟩ (by decide) (S_row _) rfl rfl hl.1.symm rfl (Nat.le_of_ble_eq_true rfl) dX4_combine_2 ⟨Nat.zero_le _, Nat.zero_le _⟩) h (fun H locs h => ?_)
  obtain ⟨c2, hf⟩ := chk_some hf
  refine lv_astore (lv' := [(4, .ref (ad tr1)), (0, .ref (ad 0)), (1, .int v1), (2, .int v2), (3, .int v3)]) hx hb dX4_combine_5 hl (by decide) rfl (fun ls hl => ?_)
  refine lv_aload_n hx hb dX4_combine_7 rfl (lv_at hl 1 rfl) ?_
  refine lv_iload_n hx hb dX4_combine_8 rfl (lv_at hl 3 rfl) ?_
  rcases thn_cases hf with ⟨E3, σ3, hq3, ho⟩ | ⟨tr3, σ3, hq3, hf⟩
  · cases ho
    exact sThrC (g_runV (k := 0) (T := TX4) (N := 8) B h (ok_X4_mapAt B.2.2.2.2.2.2.2.2 B.2.2.2.2.2.2.1 _ _ v2 hq3) cw_X4_41 ⟨Nat.le_of_ble_eq_true rfl, Nat.le_of_ble_eq_true rfl⟩ (by decide) (S_row _) rfl rfl hl.1.symm rfl (Nat.le_of_ble_eq_true rfl) dX4_combine_9 ⟨Nat.le_of_eq (Nat.zero_add _), Nat.le_of_eq (Nat.zero_add _)⟩) h (fun H locs q ce h hc hv hcl => sE_out B htab h hc hv hcl (Nat.le_of_eq (Nat.zero_add _)) (Nat.le_of_eq (Nat.zero_add _)))
  refine sRetC1 (g_runV (k := 0) (T := TX4) (N := 8) B h (ok_X4_mapAt B.2.2.2.2.2.2.2.2 B.2.2.2.2.2.2.1 _ _ v2 hq3) cw_X4_41 ⟨Nat.le_of_ble_eq_true rfl, Nat.le_of_ble_eq_true rfl⟩ (by decide) (S_row _) rfl rfl hl.1.symm rfl (Nat.le_of_ble_eq_true rfl) dX4_combine_9 ⟨Nat.zero_le _, Nat.zero_le _⟩) h (fun H locs h => ?_)
  obtain ⟨c4, hf⟩ := chk_some hf
  refine lv_astore (lv' := [(5, .ref (ad tr3)), (4, .ref (ad tr1)), (0, .ref (ad 0)), (1, .int v1), (2, .int v2), (3, .int v3)]) hx hb dX4_combine_12 hl (by decide) rfl (fun ls hl => ?_)
  refine lv_iload_n hx hb dX4_combine_14 rfl (lv_at hl 5 rfl) ?_
  obtain ⟨vr5, hq5, hf⟩ := rthn_some hf
  refine sRetC1 (g_runS B h (ok_X4_isMixWay B.2.2.2.2.2.2.2.2 B.2.2.2.2.2.2.1 _ _ v3 hq5) cw_X4_213 ⟨Nat.le_of_ble_eq_true rfl, Nat.le_of_ble_eq_true rfl⟩ rfl hl.1.symm rfl (Nat.le_of_ble_eq_true rfl) dX4_combine_15 ⟨Nat.zero_le _, Nat.zero_le _⟩) h (fun H locs h => ?_)
  refine lv_if_eq (tgt := 26) hx hb dX4_combine_18 (by decide) (fun c6 => ?_) (fun c6 => ?_)
  · rw [if_pos c6] at hf
    cases hf
    exact sE_thr (text := "no such way, or a map with itself") (ic := 79) B htab h hl.1.symm ["java/lang/RuntimeException", "java/lang/Exception"] (by decide +kernel) (by decide +kernel) hw512 hw16 (by decide +kernel) (by decide +kernel) at_X4_79_g at_X4_79_n at_X4_79_o dX4_combine_26 dX4_combine_29 dX4_combine_30 dX4_combine_32 dX4_combine_35 (Nat.le_of_ble_eq_true rfl) (Nat.le_of_ble_eq_true rfl) (Nat.le_of_eq (Nat.zero_add _)) (Nat.le_of_eq (Nat.zero_add _)) (Nat.le_of_eq (Nat.zero_add _)) (Nat.le_of_eq (Nat.zero_add _))
  · rw [if_neg c6] at hf
    refine lv_iload_n hx hb dX4_combine_21 rfl (lv_at hl 3 rfl) ?_
    refine lv_iload_n hx hb dX4_combine_22 rfl (lv_at hl 4 rfl) ?_
    refine lv_icmp_ne (tgt := 36) hx hb dX4_combine_23 (by decide) (fun c7 => ?_) (fun c7 => ?_)
    · rw [if_neg c7] at hf
      refine lv_aload hx hb dX4_combine_36 (lv_at hl 0 rfl) ?_
      refine g_get B h tr3 (T_lt (isTb_T c4)) (C := RX2) (T := TX2) (N := 3) (T_row (isTb_T c4) _) rfl hin_X2 2 (by decide) hw53 rfl rfl dX4_combine_38 ?_
      refine lv_aload hx hb dX4_combine_41 (lv_at hl 1 rfl) ?_
      refine lv_aload hx hb dX4_combine_43 (lv_at hl 0 rfl) ?_
      obtain ⟨vr8, hq8, hf⟩ := rthn_some hf
      refine sRetC1 (g_runV (k := tr1) (T := TX2) (N := 3) B h (ok_X2_countMissingIn B.2.2.2.2.2.2.2.2 B.2.2.2.2.2.2.1 _ _ (isTb_T c2) (isTb_T c4) hq8) cw_X4_218 ⟨Nat.le_of_ble_eq_true rfl, Nat.le_of_ble_eq_true rfl⟩ (T_lt (isTb_T c2)) (T_row (isTb_T c2) _) rfl rfl hl.1.symm rfl (Nat.le_of_ble_eq_true rfl) dX4_combine_45 ⟨Nat.zero_le _, Nat.zero_le _⟩) h (fun H locs h => ?_)
      refine lv_iadd hx hb dX4_combine_48 ?_
      refine lv_bipush (v := (60 : Int32)) hx hb dX4_combine_49 (by decide) ?_
      refine lv_icmp_le (tgt := 64) hx hb dX4_combine_51 (by decide) (fun c9 => ?_) (fun c9 => ?_)
      · rw [if_pos c9] at hf
        refine lv_aload hx hb dX4_combine_64 (lv_at hl 0 rfl) ?_
        refine lv_aload hx hb dX4_combine_66 (lv_at hl 1 rfl) ?_
        refine lv_iload_n hx hb dX4_combine_68 rfl (lv_at hl 5 rfl) ?_
        obtain ⟨vr10, σ10, hq10, hf⟩ := wthn_some hf
        refine sRetC0 (g_runV (k := tr3) (T := TX2) (N := 3) B h (ok_X2_takeIn B.2.2.2.2.2.2.2.2 B.2.2.2.2.2.2.1 _ _ (isTb_T c4) (isTb_T c2) v3 hq10) cw_X4_223 ⟨Nat.le_of_ble_eq_true rfl, Nat.le_of_ble_eq_true rfl⟩ (T_lt (isTb_T c4)) (T_row (isTb_T c4) _) rfl rfl hl.1.symm rfl (Nat.le_of_ble_eq_true rfl) dX4_combine_69 ⟨Nat.zero_le _, Nat.zero_le _⟩) h (fun H locs h => ?_)
        refine lv_aload hx hb dX4_combine_72 (lv_at hl 0 rfl) ?_
        refine g_get B h tr3 (T_lt (isTb_T c4)) (C := RX2) (T := TX2) (N := 3) (T_row (isTb_T c4) _) rfl hin_X2 2 (by decide) hw53 rfl rfl dX4_combine_74 ?_
        cases hf
        exact sE_i B hr h dX4_combine_77
      · rw [if_neg c9] at hf
        cases hf
        exact sE_thr (text := "both maps together are too many") (ic := 150) B htab h hl.1.symm ["java/lang/RuntimeException", "java/lang/Exception"] (by decide +kernel) (by decide +kernel) hw452 hw13 (by decide +kernel) (by decide +kernel) at_X4_150_g at_X4_150_n at_X4_150_o dX4_combine_54 dX4_combine_57 dX4_combine_58 dX4_combine_60 dX4_combine_63 (Nat.le_of_ble_eq_true rfl) (Nat.le_of_ble_eq_true rfl) (Nat.le_of_eq (Nat.zero_add _)) (Nat.le_of_eq (Nat.zero_add _)) (Nat.le_of_eq (Nat.zero_add _)) (Nat.le_of_eq (Nat.zero_add _))
    · rw [if_pos c7] at hf
      cases hf
      exact sE_thr (text := "no such way, or a map with itself") (ic := 79) B htab h hl.1.symm ["java/lang/RuntimeException", "java/lang/Exception"] (by decide +kernel) (by decide +kernel) hw512 hw16 (by decide +kernel) (by decide +kernel) at_X4_79_g at_X4_79_n at_X4_79_o dX4_combine_26 dX4_combine_29 dX4_combine_30 dX4_combine_32 dX4_combine_35 (Nat.le_of_ble_eq_true rfl) (Nat.le_of_ble_eq_true rfl) (Nat.le_of_eq (Nat.zero_add _)) (Nat.le_of_eq (Nat.zero_add _)) (Nat.le_of_eq (Nat.zero_add _)) (Nat.le_of_eq (Nat.zero_add _))
set_option maxRecDepth 100000 in
theorem ok_X4_combine {l : Launch} (hl0 : l.stackTraces = false) {D : va_G} {cy : Nat → ClassId} {ad : Nat → Nat} (hap : sAp ad) (X : sX) (σ : sM) (v1 : Int32) (v2 : Int32) (v3 : Int32) {oo : String ⊕ Int32} {σ' : sM} (hf : f_X4_combine v1 v2 v3 σ = some (oo, σ')) : sMet l yX4_combine (sWs yX4_combine cX4_combine 6 (some .int)) 7 158 (sC (oI oo)) (sS (oI oo)) D cy ad X σ [.ref (ad 0), .int v1, .int v2, .int v3] (oI oo) X σ' := by
  refine sMet_of (by decide +kernel) (Nat.le_of_ble_eq_true rfl) hap hl0 ?_
  intro p e s m args below meth c ls B hr htab hl h
  exact k_X4_combine_0 B hr htab _ _ _ _  hf _ _ _ h hl
set_option maxHeartbeats 4000000 in
set_option maxRecDepth 100000 in
theorem k_X4_viewAt_0 {p : Program} {l : Launch} {e : Env} {s : State} {m : MethodId} {args : Array Value} {below : List Frame} {meth : Method} {c : Code} {D : va_G} {cy : Nat → ClassId} {ad : Nat → Nat} {X : sX} {oo : String ⊕ Nat} {σ' : sM} (B : sB p l s m meth c args cX4_viewAt 2 RX4 D cy ad) (hr : meth.sig.returnType = (some (.object "Spanwarden$View"))) (htab : ∀ x ∈ c.exceptionTable.toList, False) (v1 : Int32) (σ : sM) (hf : f_X4_viewAt v1 σ = some (oo, σ')) : sGo p l e { frames := 6, cells := (sC (oA ad oo)), slots := (sS (oA ad oo)), locals := 100 } s m args below meth c D cy ad X 2 (sQ below args s (sC (oA ad oo)) (sS (oA ad oo)) D cy ad (oA ad oo) X σ') σ 0 [(0, .ref (ad 0)), (1, .int v1)] [] := by
  replace hf : (if v1 < 0 then (some (.inl "java/lang/IndexOutOfBoundsException", σ)) else (if v1 < (4 : Int32) then (chk (inb v1 4) (some (.inr (24 + v1.toNatClampNeg), σ))) else (some (.inl "java/lang/IndexOutOfBoundsException", σ)))) = some (oo, σ') := hf
  intro H locs ls h hl
  have hx := B.1
  have hb := B.2.1
  refine lv_iload_n hx hb dX4_viewAt_0 rfl (lv_at hl 1 rfl) ?_
  refine lv_if_lt (tgt := 13) hx hb dX4_viewAt_1 (by decide) (fun c1 => ?_) (fun c1 => ?_)
  · rw [if_pos c1] at hf
    cases hf
    exact sE_thrW (text := "no such view") (ic := 113) B htab h hl.1.symm ["java/lang/RuntimeException", "java/lang/Exception"] (by decide +kernel) (by decide +kernel) hw435 hw10 (by decide +kernel) (by decide +kernel) at_X4_113_g at_X4_113_n at_X4_113_o dX4_viewAt_13 dX4_viewAt_16 dX4_viewAt_17 dX4_viewAt_20 dX4_viewAt_23 (Nat.le_of_ble_eq_true rfl) (Nat.le_of_ble_eq_true rfl) (Nat.le_of_eq (Nat.zero_add _)) (Nat.le_of_eq (Nat.zero_add _)) (Nat.le_of_eq (Nat.zero_add _)) (Nat.le_of_eq (Nat.zero_add _))
  · rw [if_neg c1] at hf
    refine lv_iload_n hx hb dX4_viewAt_4 rfl (lv_at hl 1 rfl) ?_
    refine lv_aload_n hx hb dX4_viewAt_5 rfl (lv_at hl 0 rfl) ?_
    refine g_get B h 0 (by decide) (C := RX4) (T := TX4) (N := 8) (S_row _) rfl hin_X4 1 (by decide) hw128 rfl rfl dX4_viewAt_6 ?_
    refine g_alen B h 2 (by decide) 4 rfl rfl (v := (4 : Int32)) rfl dX4_viewAt_9 ?_
    refine lv_icmp_lt (tgt := 24) hx hb dX4_viewAt_10 (by decide) (fun c2 => ?_) (fun c2 => ?_)
    · rw [if_pos c2] at hf
      refine lv_aload_n hx hb dX4_viewAt_24 rfl (lv_at hl 0 rfl) ?_
      refine g_get B h 0 (by decide) (C := RX4) (T := TX4) (N := 8) (S_row _) rfl hin_X4 1 (by decide) hw128 rfl rfl dX4_viewAt_25 ?_
      refine lv_iload_n hx hb dX4_viewAt_28 rfl (lv_at hl 1 rfl) ?_
      obtain ⟨c3, hf⟩ := chk_some hf
      refine g_aald B h 2 (by decide) 4 (C := RX3) (n := 4) rfl rfl (inb_in c3) (r := (24 + v1.toNatClampNeg)) (views_at c3) dX4_viewAt_29 ?_
      cases hf
      exact sE_a B hr h dX4_viewAt_30
    · rw [if_neg c2] at hf
      cases hf
      exact sE_thrW (text := "no such view") (ic := 113) B htab h hl.1.symm ["java/lang/RuntimeException", "java/lang/Exception"] (by decide +kernel) (by decide +kernel) hw435 hw10 (by decide +kernel) (by decide +kernel) at_X4_113_g at_X4_113_n at_X4_113_o dX4_viewAt_13 dX4_viewAt_16 dX4_viewAt_17 dX4_viewAt_20 dX4_viewAt_23 (Nat.le_of_ble_eq_true rfl) (Nat.le_of_ble_eq_true rfl) (Nat.le_of_eq (Nat.zero_add _)) (Nat.le_of_eq (Nat.zero_add _)) (Nat.le_of_eq (Nat.zero_add _)) (Nat.le_of_eq (Nat.zero_add _))
set_option maxRecDepth 100000 in
theorem ok_X4_viewAt {l : Launch} (hl0 : l.stackTraces = false) {D : va_G} {cy : Nat → ClassId} {ad : Nat → Nat} (hap : sAp ad) (X : sX) (σ : sM) (v1 : Int32) {oo : String ⊕ Nat} {σ' : sM} (hf : f_X4_viewAt v1 σ = some (oo, σ')) : sMet l yX4_viewAt (sWs yX4_viewAt cX4_viewAt 2 (some (.object "Spanwarden$View"))) 6 100 (sC (oA ad oo)) (sS (oA ad oo)) D cy ad X σ [.ref (ad 0), .int v1] (oA ad oo) X σ' := by
  refine sMet_of (by decide +kernel) (Nat.le_of_ble_eq_true rfl) hap hl0 ?_
  intro p e s m args below meth c ls B hr htab hl h
  exact k_X4_viewAt_0 B hr htab _ _  hf _ _ _ h hl
set_option maxHeartbeats 4000000 in
set_option maxRecDepth 100000 in
theorem k_X4_refuseClosed_0 {p : Program} {l : Launch} {e : Env} {s : State} {m : MethodId} {args : Array Value} {below : List Frame} {meth : Method} {c : Code} {D : va_G} {cy : Nat → ClassId} {ad : Nat → Nat} {X : sX} {oo : String ⊕ Unit} {σ' : sM} (B : sB p l s m meth c args cX4_refuseClosed 1 RX4 D cy ad) (hr : meth.sig.returnType = none) (htab : ∀ x ∈ c.exceptionTable.toList, False) (t0 : Nat) (σ : sM) (ft0 : isV t0) (hf : f_X4_refuseClosed t0 σ = some (oo, σ')) : sGo p l e { frames := 6, cells := (sC (oV oo)), slots := (sS (oV oo)), locals := 100 } s m args below meth c D cy ad X 1 (sQ below args s (sC (oV oo)) (sS (oV oo)) D cy ad (oV oo) X σ') σ 0 [(0, .ref (ad t0))] [] := by
  replace hf : (srcm (sSrc (σ t0 0)) (some (.inl "java/util/NoSuchElementException", σ)) (fun t1 => some (.inr (), σ))) = some (oo, σ') := hf
  intro H locs ls h hl
  have hx := B.1
  have hb := B.2.1
  refine lv_aload_n hx hb dX4_refuseClosed_0 rfl (lv_at hl 0 rfl) ?_
  rcases srcm_cases hf with ⟨s1, hf⟩ | ⟨t1, s1, hf⟩
  · refine g_src0 B h t0 ft0 hin_X3 hw106 s1 dX4_refuseClosed_1 ?_
    refine lv_ifnonnullN hx hb dX4_refuseClosed_4 ?_
    cases hf
    exact sE_thrX (text := "the view is not open") (ic := 61) (ix := 13) (rx := nseeRx) nsee0 nsee1 nsee2 nsee5 B htab h hl.1.symm ["java/lang/RuntimeException", "java/lang/Exception"] (by decide +kernel) (by decide +kernel) hw477 hw15 (by decide +kernel) (by decide +kernel) at_X4_61_g at_X4_61_n at_X4_61_o dX4_refuseClosed_7 dX4_refuseClosed_10 (Or.inr ⟨dX4_refuseClosed_11, rfl⟩) dX4_refuseClosed_14 dX4_refuseClosed_17 (Nat.le_of_ble_eq_true rfl) (Nat.le_of_ble_eq_true rfl) (Nat.le_of_eq (Nat.zero_add _)) (Nat.le_of_eq (Nat.zero_add _)) (Nat.le_of_eq (Nat.zero_add _)) (Nat.le_of_eq (Nat.zero_add _))
  · refine g_src1 B h t0 ft0 hin_X3 hw106 s1 dX4_refuseClosed_1 ?_
    refine lv_ifnonnull (tgt := 18) hx hb dX4_refuseClosed_4 (by decide) ?_
    cases hf
    exact sE_v B hr h dX4_refuseClosed_18
set_option maxRecDepth 100000 in
theorem ok_X4_refuseClosed {l : Launch} (hl0 : l.stackTraces = false) {D : va_G} {cy : Nat → ClassId} {ad : Nat → Nat} (hap : sAp ad) (X : sX) (σ : sM) {t0 : Nat} (ft0 : isV t0) {oo : String ⊕ Unit} {σ' : sM} (hf : f_X4_refuseClosed t0 σ = some (oo, σ')) : sMet l yX4_refuseClosed (sWs yX4_refuseClosed cX4_refuseClosed 1 none) 6 100 (sC (oV oo)) (sS (oV oo)) D cy ad X σ [.ref (ad t0)] (oV oo) X σ' := by
  refine sMet_of (by decide +kernel) (Nat.le_of_ble_eq_true rfl) hap hl0 ?_
  intro p e s m args below meth c ls B hr htab hl h
  exact k_X4_refuseClosed_0 B hr htab _ _ ft0 hf _ _ _ h hl
set_option maxHeartbeats 4000000 in
set_option maxRecDepth 100000 in
theorem k_X4_cut_0 {p : Program} {l : Launch} {e : Env} {s : State} {m : MethodId} {args : Array Value} {below : List Frame} {meth : Method} {c : Code} {D : va_G} {cy : Nat → ClassId} {ad : Nat → Nat} {X : sX} {oo : String ⊕ Int32} {σ' : sM} (B : sB p l s m meth c args cX4_cut 8 RX4 D cy ad) (hr : meth.sig.returnType = (some .int)) (htab : ∀ x ∈ c.exceptionTable.toList, False) (v1 : Int32) (v2 : Int32) (v3 : Int32) (v4 : Int32) (v5 : Int32) (σ : sM) (hf : f_X4_cut v1 v2 v3 v4 v5 σ = some (oo, σ')) : sGo p l e { frames := 7, cells := (sC (oI oo)), slots := (sS (oI oo)), locals := 121 } s m args below meth c D cy ad X 8 (sQ below args s (sC (oI oo)) (sS (oI oo)) D cy ad (oI oo) X σ') σ 0 [(0, .ref (ad 0)), (1, .int v1), (2, .int v2), (3, .int v3), (4, .int v4), (5, .int v5)] [] := by
  replace hf : (thn (f_X4_viewAt v1 σ) (fun tr1 σ1 => chk (isVb tr1) (thn (f_X4_viewAt v2 σ1) (fun tr3 σ3 => chk (isVb tr3) (thn (f_X4_refuseClosed tr3 σ3) (fun _ σ5 => rthn (f_X3_covers tr3 v4 σ5) (fun vr6 => if vr6 = 0 then (some (.inl "java/lang/IllegalArgumentException", σ5)) else (if (σ5 tr3 1) < (12 : Int32) then (wthn (f_X3_becomeCut tr1 tr3 v3 v4 v5 σ5) (fun _ σ9 => rthn (f_X3_countEntries tr1 σ9) (fun vr10 => some (.inr vr10, σ9)))) else (some (.inl "java/lang/IllegalStateException", σ5)))))))))) = some (oo, σ') := hf
  intro H locs ls h hl
  have hx := B.1
  have hb := B.2.1
  refine lv_aload_n hx hb dX4_cut_0 rfl (lv_at hl 0 rfl) ?_
  refine lv_iload_n hx hb dX4_cut_1 rfl (lv_at hl 1 rfl) ?_
  rcases thn_cases hf with ⟨E1, σ1, hq1, ho⟩ | ⟨tr1, σ1, hq1, hf⟩
  · cases ho
    exact sThrC (g_runV (k := 0) (T := TX4) (N := 8) B h (ok_X4_viewAt B.2.2.2.2.2.2.2.2 B.2.2.2.2.2.2.1 _ _ v1 hq1) cw_X4_120 ⟨Nat.le_of_ble_eq_true rfl, Nat.le_of_ble_eq_true rfl⟩ (by decide) (S_row _) rfl rfl hl.1.symm rfl (Nat.le_of_ble_eq_true rfl) dX4_cut_2 ⟨Nat.le_of_eq (Nat.zero_add _), Nat.le_of_eq (Nat.zero_add _)⟩) h (fun H locs q ce h hc hv hcl => sE_out B htab h hc hv hcl (Nat.le_of_eq (Nat.zero_add _)) (Nat.le_of_eq (Nat.zero_add _)))
  refine sRetC1 (g_runV (k := 0) (T := TX4) (N := 8) B h (ok_X4_viewAt B.2.2.2.2.2.2.2.2 B.2.2.2.2.2.2.1 _ _ v1 hq1) cw_X4_120 ⟨Nat.le_of_ble_eq_true rfl, Nat.le_of_ble_eq_true rfl⟩ (by decide) (S_row _) rfl rfl hl.1.symm rfl (Nat.le_of_ble_eq_true rfl) dX4_cut_2 ⟨Nat.zero_le _, Nat.zero_le _⟩) h (fun H locs h => ?_)
  obtain ⟨c2, hf⟩ := chk_some hf
  refine lv_astore (lv' := [(6, .ref (ad tr1)), (0, .ref (ad 0)), (1, .int v1), (2, .int v2), (3, .int v3), (4, .int v4), (5, .int v5)]) hx hb dX4_cut_5 hl (by decide) rfl (fun ls hl => ?_)
  refine lv_aload_n hx hb dX4_cut_7 rfl (lv_at hl 1 rfl) ?_
  refine lv_iload_n hx hb dX4_cut_8 rfl (lv_at hl 3 rfl) ?_
  rcases thn_cases hf with ⟨E3, σ3, hq3, ho⟩ | ⟨tr3, σ3, hq3, hf⟩
  · cases ho
    exact sThrC (g_runV (k := 0) (T := TX4) (N := 8) B h (ok_X4_viewAt B.2.2.2.2.2.2.2.2 B.2.2.2.2.2.2.1 _ _ v2 hq3) cw_X4_120 ⟨Nat.le_of_ble_eq_true rfl, Nat.le_of_ble_eq_true rfl⟩ (by decide) (S_row _) rfl rfl hl.1.symm rfl (Nat.le_of_ble_eq_true rfl) dX4_cut_9 ⟨Nat.le_of_eq (Nat.zero_add _), Nat.le_of_eq (Nat.zero_add _)⟩) h (fun H locs q ce h hc hv hcl => sE_out B htab h hc hv hcl (Nat.le_of_eq (Nat.zero_add _)) (Nat.le_of_eq (Nat.zero_add _)))
  refine sRetC1 (g_runV (k := 0) (T := TX4) (N := 8) B h (ok_X4_viewAt B.2.2.2.2.2.2.2.2 B.2.2.2.2.2.2.1 _ _ v2 hq3) cw_X4_120 ⟨Nat.le_of_ble_eq_true rfl, Nat.le_of_ble_eq_true rfl⟩ (by decide) (S_row _) rfl rfl hl.1.symm rfl (Nat.le_of_ble_eq_true rfl) dX4_cut_9 ⟨Nat.zero_le _, Nat.zero_le _⟩) h (fun H locs h => ?_)
  obtain ⟨c4, hf⟩ := chk_some hf
  refine lv_astore (lv' := [(7, .ref (ad tr3)), (6, .ref (ad tr1)), (0, .ref (ad 0)), (1, .int v1), (2, .int v2), (3, .int v3), (4, .int v4), (5, .int v5)]) hx hb dX4_cut_12 hl (by decide) rfl (fun ls hl => ?_)
  refine lv_aload hx hb dX4_cut_14 (lv_at hl 0 rfl) ?_
  rcases thn_cases hf with ⟨E5, σ5, hq5, ho⟩ | ⟨vr5, σ5, hq5, hf⟩
  · cases ho
    exact sThrC (g_runS B h (ok_X4_refuseClosed B.2.2.2.2.2.2.2.2 B.2.2.2.2.2.2.1 _ _ (isVb_V c4) hq5) cw_X4_134 ⟨Nat.le_of_ble_eq_true rfl, Nat.le_of_ble_eq_true rfl⟩ rfl hl.1.symm rfl (Nat.le_of_ble_eq_true rfl) dX4_cut_16 ⟨Nat.le_of_eq (Nat.zero_add _), Nat.le_of_eq (Nat.zero_add _)⟩) h (fun H locs q ce h hc hv hcl => sE_out B htab h hc hv hcl (Nat.le_of_eq (Nat.zero_add _)) (Nat.le_of_eq (Nat.zero_add _)))
  refine sRetC0 (g_runS B h (ok_X4_refuseClosed B.2.2.2.2.2.2.2.2 B.2.2.2.2.2.2.1 _ _ (isVb_V c4) hq5) cw_X4_134 ⟨Nat.le_of_ble_eq_true rfl, Nat.le_of_ble_eq_true rfl⟩ rfl hl.1.symm rfl (Nat.le_of_ble_eq_true rfl) dX4_cut_16 ⟨Nat.zero_le _, Nat.zero_le _⟩) h (fun H locs h => ?_)
  refine lv_aload hx hb dX4_cut_19 (lv_at hl 0 rfl) ?_
  refine lv_iload hx hb dX4_cut_21 (lv_at hl 6 rfl) ?_
  obtain ⟨vr6, hq6, hf⟩ := rthn_some hf
  refine sRetC1 (g_runV (k := tr3) (T := TX3) (N := 6) B h (ok_X3_covers B.2.2.2.2.2.2.2.2 B.2.2.2.2.2.2.1 _ _ (isVb_V c4) v4 hq6) cw_X4_138 ⟨Nat.le_of_ble_eq_true rfl, Nat.le_of_ble_eq_true rfl⟩ (V_lt (isVb_V c4)) (V_row (isVb_V c4) _) rfl rfl hl.1.symm rfl (Nat.le_of_ble_eq_true rfl) dX4_cut_23 ⟨Nat.zero_le _, Nat.zero_le _⟩) h (fun H locs h => ?_)
  refine lv_if_ne (tgt := 39) hx hb dX4_cut_26 (by decide) (fun c7 => ?_) (fun c7 => ?_)
  · rw [if_neg c7] at hf
    refine lv_aload hx hb dX4_cut_39 (lv_at hl 0 rfl) ?_
    refine g_get B h tr3 (V_lt (isVb_V c4)) (C := RX3) (T := TX3) (N := 6) (V_row (isVb_V c4) _) rfl hin_X3 1 (by decide) hw108 rfl rfl dX4_cut_41 ?_
    refine lv_bipush (v := (12 : Int32)) hx hb dX4_cut_44 (by decide) ?_
    refine lv_icmp_lt (tgt := 59) hx hb dX4_cut_46 (by decide) (fun c8 => ?_) (fun c8 => ?_)
    · rw [if_pos c8] at hf
      refine lv_aload hx hb dX4_cut_59 (lv_at hl 1 rfl) ?_
      refine lv_aload hx hb dX4_cut_61 (lv_at hl 0 rfl) ?_
      refine lv_iload_n hx hb dX4_cut_63 rfl (lv_at hl 5 rfl) ?_
      refine lv_iload hx hb dX4_cut_64 (lv_at hl 6 rfl) ?_
      refine lv_iload hx hb dX4_cut_66 (lv_at hl 7 rfl) ?_
      obtain ⟨vr9, σ9, hq9, hf⟩ := wthn_some hf
      refine sRetC0 (g_runV (k := tr1) (T := TX3) (N := 6) B h (ok_X3_becomeCut B.2.2.2.2.2.2.2.2 B.2.2.2.2.2.2.1 _ _ (isVb_V c2) (isVb_V c4) v3 v4 v5 hq9) cw_X4_151 ⟨Nat.le_of_ble_eq_true rfl, Nat.le_of_ble_eq_true rfl⟩ (V_lt (isVb_V c2)) (V_row (isVb_V c2) _) rfl rfl hl.1.symm rfl (Nat.le_of_ble_eq_true rfl) dX4_cut_68 ⟨Nat.zero_le _, Nat.zero_le _⟩) h (fun H locs h => ?_)
      refine lv_aload hx hb dX4_cut_71 (lv_at hl 1 rfl) ?_
      obtain ⟨vr10, hq10, hf⟩ := rthn_some hf
      refine sRetC1 (g_runV (k := tr1) (T := TX3) (N := 6) B h (ok_X3_countEntries B.2.2.2.2.2.2.2.2 B.2.2.2.2.2.2.1 _ _ (isVb_V c2) hq10) cw_X4_130 ⟨Nat.le_of_ble_eq_true rfl, Nat.le_of_ble_eq_true rfl⟩ (V_lt (isVb_V c2)) (V_row (isVb_V c2) _) rfl rfl hl.1.symm rfl (Nat.le_of_ble_eq_true rfl) dX4_cut_73 ⟨Nat.zero_le _, Nat.zero_le _⟩) h (fun H locs h => ?_)
      cases hf
      exact sE_i B hr h dX4_cut_76
    · rw [if_neg c8] at hf
      cases hf
      exact sE_thr (text := "no more cuts behind one another") (ic := 150) B htab h hl.1.symm ["java/lang/RuntimeException", "java/lang/Exception"] (by decide +kernel) (by decide +kernel) hw452 hw13 (by decide +kernel) (by decide +kernel) at_X4_150_g at_X4_150_n at_X4_150_o dX4_cut_49 dX4_cut_52 dX4_cut_53 dX4_cut_55 dX4_cut_58 (Nat.le_of_ble_eq_true rfl) (Nat.le_of_ble_eq_true rfl) (Nat.le_of_eq (Nat.zero_add _)) (Nat.le_of_eq (Nat.zero_add _)) (Nat.le_of_eq (Nat.zero_add _)) (Nat.le_of_eq (Nat.zero_add _))
  · rw [if_pos c7] at hf
    cases hf
    exact sE_thr (text := "the number does not lie in the span") (ic := 79) B htab h hl.1.symm ["java/lang/RuntimeException", "java/lang/Exception"] (by decide +kernel) (by decide +kernel) hw512 hw16 (by decide +kernel) (by decide +kernel) at_X4_79_g at_X4_79_n at_X4_79_o dX4_cut_29 dX4_cut_32 dX4_cut_33 dX4_cut_35 dX4_cut_38 (Nat.le_of_ble_eq_true rfl) (Nat.le_of_ble_eq_true rfl) (Nat.le_of_eq (Nat.zero_add _)) (Nat.le_of_eq (Nat.zero_add _)) (Nat.le_of_eq (Nat.zero_add _)) (Nat.le_of_eq (Nat.zero_add _))
set_option maxRecDepth 100000 in
theorem ok_X4_cut {l : Launch} (hl0 : l.stackTraces = false) {D : va_G} {cy : Nat → ClassId} {ad : Nat → Nat} (hap : sAp ad) (X : sX) (σ : sM) (v1 : Int32) (v2 : Int32) (v3 : Int32) (v4 : Int32) (v5 : Int32) {oo : String ⊕ Int32} {σ' : sM} (hf : f_X4_cut v1 v2 v3 v4 v5 σ = some (oo, σ')) : sMet l yX4_cut (sWs yX4_cut cX4_cut 8 (some .int)) 7 121 (sC (oI oo)) (sS (oI oo)) D cy ad X σ [.ref (ad 0), .int v1, .int v2, .int v3, .int v4, .int v5] (oI oo) X σ' := by
  refine sMet_of (by decide +kernel) (Nat.le_of_ble_eq_true rfl) hap hl0 ?_
  intro p e s m args below meth c ls B hr htab hl h
  exact k_X4_cut_0 B hr htab _ _ _ _ _ _  hf _ _ _ h hl
set_option maxHeartbeats 4000000 in
set_option maxRecDepth 100000 in
theorem k_X4_pollAt_0 {p : Program} {l : Launch} {e : Env} {s : State} {m : MethodId} {args : Array Value} {below : List Frame} {meth : Method} {c : Code} {D : va_G} {cy : Nat → ClassId} {ad : Nat → Nat} {X : sX} {r : Int32} {σ' : sM} (B : sB p l s m meth c args cX4_pollAt 4 RX4 D cy ad) (hr : meth.sig.returnType = (some .int)) (t1 : Nat) (v2 : Int32) (σ : sM) (ft1 : isT t1) (hf : f_X4_pollAt t1 v2 σ = some (r, σ')) : sGo p l e { frames := 2, cells := 0, slots := 0, locals := 130 } s m args below meth c D cy ad X 4 (sQ below args s 0 0 D cy ad (.inr (some (.int r))) X σ') σ 0 [(0, .ref (ad 0)), (1, .ref (ad t1)), (2, .int v2)] [] := by
  replace hf : (chk (inb v2 120) (chk (inb v2 120) (stl (va_up σ 0 (upd (σ 0) 7 (σ (t1 + 2) (v2).toNatClampNeg))) (fun σ3 => stl (va_up σ3 0 (upd (σ3 0) 6 (1 : Int32))) (fun σ4 => wthn (f_X2_dropPlaces t1 v2 (v2 + (1 : Int32)) σ4) (fun _ σ5 => some ((σ (t1 + 1) (v2).toNatClampNeg), σ5))))))) = some (r, σ') := hf
  intro H locs ls h hl
  have hx := B.1
  have hb := B.2.1
  refine lv_aload_n hx hb dX4_pollAt_0 rfl (lv_at hl 1 rfl) ?_
  refine g_get B h t1 (T_lt ft1) (C := RX2) (T := TX2) (N := 3) (T_row ft1 _) rfl hin_X2 0 (by decide) hw47 rfl rfl dX4_pollAt_1 ?_
  refine lv_iload_n hx hb dX4_pollAt_4 rfl (lv_at hl 2 rfl) ?_
  obtain ⟨c1, hf⟩ := chk_some hf
  refine g_iald B h (t1 + 1) (T_lt1 ft1) (n := 120) (T_keys ft1) (inb_in c1) dX4_pollAt_5 ?_
  refine lv_istore_n (lv' := [(3, .int (σ (t1 + 1) (v2).toNatClampNeg)), (0, .ref (ad 0)), (1, .ref (ad t1)), (2, .int v2)]) hx hb dX4_pollAt_6 rfl hl (by decide) rfl (fun ls hl => ?_)
  refine lv_aload_n hx hb dX4_pollAt_7 rfl (lv_at hl 1 rfl) ?_
  refine lv_aload_n hx hb dX4_pollAt_8 rfl (lv_at hl 2 rfl) ?_
  refine g_get B h t1 (T_lt ft1) (C := RX2) (T := TX2) (N := 3) (T_row ft1 _) rfl hin_X2 1 (by decide) hw50 rfl rfl dX4_pollAt_9 ?_
  refine lv_iload_n hx hb dX4_pollAt_12 rfl (lv_at hl 3 rfl) ?_
  obtain ⟨c2, hf⟩ := chk_some hf
  refine g_iald B h (t1 + 2) (T_lt2 ft1) (n := 120) (T_vals ft1) (inb_in c2) dX4_pollAt_13 ?_
  refine g_put B h 0 (by decide) (C := RX4) (T := TX4) (N := 8) (S_row _) rfl hin_X4 tyX4 tyX4_ok nmX4 7 (by decide) hw134 rfl rfl rfl rfl (upd (σ 0) 7 (σ (t1 + 2) (v2).toNatClampNeg)) (S_put7 _ _) (Nat.le_of_ble_eq_true rfl) dX4_pollAt_14 (fun H locs h => ?_)
  obtain ⟨σ3, e3, hf⟩ := stl_some hf
  rw [← e3] at h
  refine lv_aload_n hx hb dX4_pollAt_17 rfl (lv_at hl 1 rfl) ?_
  refine lv_iconst (v := (1 : Int32)) hx hb dX4_pollAt_18 (by decide) ?_
  refine g_put B h 0 (by decide) (C := RX4) (T := TX4) (N := 8) (S_row _) rfl hin_X4 tyX4 tyX4_ok nmX4 6 (by decide) hw133 rfl rfl rfl rfl (upd (σ3 0) 6 (1 : Int32)) (S_put6 _ _) (Nat.le_of_ble_eq_true rfl) dX4_pollAt_19 (fun H locs h => ?_)
  obtain ⟨σ4, e4, hf⟩ := stl_some hf
  rw [← e4] at h
  refine lv_aload_n hx hb dX4_pollAt_22 rfl (lv_at hl 2 rfl) ?_
  refine lv_iload_n hx hb dX4_pollAt_23 rfl (lv_at hl 3 rfl) ?_
  refine lv_iload_n hx hb dX4_pollAt_24 rfl (lv_at hl 3 rfl) ?_
  refine lv_iconst (v := (1 : Int32)) hx hb dX4_pollAt_25 (by decide) ?_
  refine lv_iadd hx hb dX4_pollAt_26 ?_
  obtain ⟨vr5, σ5, hq5, hf⟩ := wthn_some hf
  refine sRetC0 (g_runV (k := t1) (T := TX2) (N := 3) B h (ok_X2_dropPlaces B.2.2.2.2.2.2.2.2 B.2.2.2.2.2.2.1 _ _ ft1 v2 (v2 + (1 : Int32)) hq5) cw_X4_170 ⟨Nat.le_of_ble_eq_true rfl, Nat.le_of_ble_eq_true rfl⟩ (T_lt ft1) (T_row ft1 _) rfl rfl hl.1.symm rfl (Nat.le_of_ble_eq_true rfl) dX4_pollAt_27 ⟨Nat.zero_le _, Nat.zero_le _⟩) h (fun H locs h => ?_)
  refine lv_iload_n hx hb dX4_pollAt_30 rfl (lv_at hl 0 rfl) ?_
  cases hf
  exact sE_i B hr h dX4_pollAt_31
set_option maxRecDepth 100000 in
theorem ok_X4_pollAt {l : Launch} (hl0 : l.stackTraces = false) {D : va_G} {cy : Nat → ClassId} {ad : Nat → Nat} (hap : sAp ad) (X : sX) (σ : sM) {t1 : Nat} (ft1 : isT t1) (v2 : Int32) {r : Int32} {σ' : sM} (hf : f_X4_pollAt t1 v2 σ = some (r, σ')) : sMet l yX4_pollAt (sWs yX4_pollAt cX4_pollAt 4 (some .int)) 2 130 0 0 D cy ad X σ [.ref (ad 0), .ref (ad t1), .int v2] (.inr (some (.int r))) X σ' := by
  refine sMet_of (by decide +kernel) (Nat.le_of_ble_eq_true rfl) hap hl0 ?_
  intro p e s m args below meth c ls B hr htab hl h
  exact k_X4_pollAt_0 B hr _ _ _ ft1 hf _ _ _ h hl
set_option maxHeartbeats 4000000 in
set_option maxRecDepth 100000 in
theorem k_X4_drain_9 {p : Program} {l : Launch} {e : Env} {s : State} {m : MethodId} {args : Array Value} {below : List Frame} {meth : Method} {c : Code} {D : va_G} {cy : Nat → ClassId} {ad : Nat → Nat} {X : sX} {oo : String ⊕ Int32} {σ' : sM} (B : sB p l s m meth c args cX4_drain 5 RX4 D cy ad) (hr : meth.sig.returnType = (some .int)) (htab : ∀ x ∈ c.exceptionTable.toList, False) : ∀ (n : Nat) (v2 : Int32) (t3 : Nat) (v4 : Int32) (σ : sM) (ft3 : isT t3), b_X4_drain_9 n v2 t3 v4 σ = some (oo, σ') → sGo p l e { frames := 7, cells := (sC (oI oo)), slots := (sS (oI oo)), locals := 153 } s m args below meth c D cy ad X 5 (sQ below args s (sC (oI oo)) (sS (oI oo)) D cy ad (oI oo) X σ') σ 9 [(0, .ref (ad 0)), (2, .int v2), (3, .ref (ad t3)), (4, .int v4)] [] := by
  intro n
  induction n with
  | zero =>
    intro v2 t3 v4 σ ft3 hf
    exact nomatch (show none = some (oo, σ') from hf)
  | succ n ih =>
    intro v2 t3 v4 σ ft3 hf
    replace hf : (if (60 : Int32) ≤ v4 then (stl (va_up σ 0 (upd (σ 0) 5 v4)) (fun σ4 => some (.inr v4, σ4))) else (if (σ t3 2) ≤ 0 then (stl (va_up σ 0 (upd (σ 0) 5 v4)) (fun σ6 => some (.inr v4, σ6))) else (if v2 = 0 then (wthn (f_X4_pollAt t3 (0 : Int32) σ) (fun vr8 σ8 => chk (inb v4 60) (stl (va_up σ8 5 (upd (σ8 5) (v4).toNatClampNeg vr8)) (fun σ10 => b_X4_drain_9 n v2 t3 (v4 + 1) σ10)))) else (wthn (f_X4_pollAt t3 ((σ t3 2) - (1 : Int32)) σ) (fun vr11 σ11 => chk (inb v4 60) (stl (va_up σ11 5 (upd (σ11 5) (v4).toNatClampNeg vr11)) (fun σ13 => b_X4_drain_9 n v2 t3 (v4 + 1) σ13))))))) = some (oo, σ') := hf
    intro H locs ls h hl
    have hx := B.1
    have hb := B.2.1
    refine lv_iload hx hb dX4_drain_9 (lv_at hl 3 rfl) ?_
    refine lv_aload_n hx hb dX4_drain_11 rfl (lv_at hl 0 rfl) ?_
    refine g_get B h 0 (by decide) (C := RX4) (T := TX4) (N := 8) (S_row _) rfl hin_X4 4 (by decide) hw131 rfl rfl dX4_drain_12 ?_
    refine g_alen B h 5 (by decide) 0 rfl rfl (v := (60 : Int32)) rfl dX4_drain_15 ?_
    refine lv_icmp_ge (tgt := 58) hx hb dX4_drain_16 (by decide) (fun c3 => ?_) (fun c3 => ?_)
    · rw [if_pos c3] at hf
      refine lv_aload_n hx hb dX4_drain_58 rfl (lv_at hl 0 rfl) ?_
      refine lv_iload hx hb dX4_drain_59 (lv_at hl 3 rfl) ?_
      refine g_put B h 0 (by decide) (C := RX4) (T := TX4) (N := 8) (S_row _) rfl hin_X4 tyX4 tyX4_ok nmX4 5 (by decide) hw132 rfl rfl rfl rfl (upd (σ 0) 5 v4) (S_put5 _ _) (Nat.le_of_ble_eq_true rfl) dX4_drain_61 (fun H locs h => ?_)
      obtain ⟨σ4, e4, hf⟩ := stl_some hf
      rw [← e4] at h
      refine lv_iload hx hb dX4_drain_64 (lv_at hl 3 rfl) ?_
      cases hf
      exact sE_i B hr h dX4_drain_66
    · rw [if_neg c3] at hf
      refine lv_aload_n hx hb dX4_drain_19 rfl (lv_at hl 2 rfl) ?_
      refine g_get B h t3 (T_lt ft3) (C := RX2) (T := TX2) (N := 3) (T_row ft3 _) rfl hin_X2 2 (by decide) hw53 rfl rfl dX4_drain_20 ?_
      refine lv_if_le (tgt := 58) hx hb dX4_drain_23 (by decide) (fun c5 => ?_) (fun c5 => ?_)
      · rw [if_pos c5] at hf
        refine lv_aload_n hx hb dX4_drain_58 rfl (lv_at hl 0 rfl) ?_
        refine lv_iload hx hb dX4_drain_59 (lv_at hl 3 rfl) ?_
        refine g_put B h 0 (by decide) (C := RX4) (T := TX4) (N := 8) (S_row _) rfl hin_X4 tyX4 tyX4_ok nmX4 5 (by decide) hw132 rfl rfl rfl rfl (upd (σ 0) 5 v4) (S_put5 _ _) (Nat.le_of_ble_eq_true rfl) dX4_drain_61 (fun H locs h => ?_)
        obtain ⟨σ6, e6, hf⟩ := stl_some hf
        rw [← e6] at h
        refine lv_iload hx hb dX4_drain_64 (lv_at hl 3 rfl) ?_
        cases hf
        exact sE_i B hr h dX4_drain_66
      · rw [if_neg c5] at hf
        refine lv_aload_n hx hb dX4_drain_26 rfl (lv_at hl 0 rfl) ?_
        refine g_get B h 0 (by decide) (C := RX4) (T := TX4) (N := 8) (S_row _) rfl hin_X4 4 (by decide) hw131 rfl rfl dX4_drain_27 ?_
        refine lv_iload hx hb dX4_drain_30 (lv_at hl 3 rfl) ?_
        refine lv_aload_n hx hb dX4_drain_32 rfl (lv_at hl 0 rfl) ?_
        refine lv_aload_n hx hb dX4_drain_33 rfl (lv_at hl 2 rfl) ?_
        refine lv_iload_n hx hb dX4_drain_34 rfl (lv_at hl 1 rfl) ?_
        refine lv_if_eq (tgt := 47) hx hb dX4_drain_35 (by decide) (fun c7 => ?_) (fun c7 => ?_)
        · rw [if_pos c7] at hf
          refine lv_iconst (v := (0 : Int32)) hx hb dX4_drain_47 (by decide) ?_
          obtain ⟨vr8, σ8, hq8, hf⟩ := wthn_some hf
          refine sRetC1 (g_runV (k := 0) (T := TX4) (N := 8) B h (ok_X4_pollAt B.2.2.2.2.2.2.2.2 B.2.2.2.2.2.2.1 _ _ ft3 (0 : Int32) hq8) cw_X4_93 ⟨Nat.le_of_ble_eq_true rfl, Nat.le_of_ble_eq_true rfl⟩ (by decide) (S_row _) rfl rfl hl.1.symm rfl (Nat.le_of_ble_eq_true rfl) dX4_drain_48 ⟨Nat.zero_le _, Nat.zero_le _⟩) h (fun H locs h => ?_)
          obtain ⟨c9, hf⟩ := chk_some hf
          refine g_iast B h 5 (by decide) (n := 60) (fun _ => rfl) (inb_in c9) dX4_drain_51 (fun H locs h => ?_)
          obtain ⟨σ10, e10, hf⟩ := stl_some hf
          rw [← e10] at h
          refine lv_iinc (v := (v4 + 1)) (lv' := [(4, .int (v4 + 1)), (0, .ref (ad 0)), (2, .int v2), (3, .ref (ad t3))]) hx hb dX4_drain_52 hl (k := 3) rfl rfl (by decide) rfl (fun ls hl => ?_)
          refine lv_goto (tgt := 9) hx hb dX4_drain_55 (by decide) ?_
          exact ih _ _ _ _ ft3 hf _ _ _ h (lv_sub hl [1, 2, 3, 0] rfl)
        · rw [if_neg c7] at hf
          refine lv_aload_n hx hb dX4_drain_38 rfl (lv_at hl 2 rfl) ?_
          refine g_get B h t3 (T_lt ft3) (C := RX2) (T := TX2) (N := 3) (T_row ft3 _) rfl hin_X2 2 (by decide) hw53 rfl rfl dX4_drain_39 ?_
          refine lv_iconst (v := (1 : Int32)) hx hb dX4_drain_42 (by decide) ?_
          refine lv_isub hx hb dX4_drain_43 ?_
          refine lv_goto (tgt := 48) hx hb dX4_drain_44 (by decide) ?_
          obtain ⟨vr11, σ11, hq11, hf⟩ := wthn_some hf
          refine sRetC1 (g_runV (k := 0) (T := TX4) (N := 8) B h (ok_X4_pollAt B.2.2.2.2.2.2.2.2 B.2.2.2.2.2.2.1 _ _ ft3 ((σ t3 2) - (1 : Int32)) hq11) cw_X4_93 ⟨Nat.le_of_ble_eq_true rfl, Nat.le_of_ble_eq_true rfl⟩ (by decide) (S_row _) rfl rfl hl.1.symm rfl (Nat.le_of_ble_eq_true rfl) dX4_drain_48 ⟨Nat.zero_le _, Nat.zero_le _⟩) h (fun H locs h => ?_)
          obtain ⟨c12, hf⟩ := chk_some hf
          refine g_iast B h 5 (by decide) (n := 60) (fun _ => rfl) (inb_in c12) dX4_drain_51 (fun H locs h => ?_)
          obtain ⟨σ13, e13, hf⟩ := stl_some hf
          rw [← e13] at h
          refine lv_iinc (v := (v4 + 1)) (lv' := [(4, .int (v4 + 1)), (0, .ref (ad 0)), (2, .int v2), (3, .ref (ad t3))]) hx hb dX4_drain_52 hl (k := 3) rfl rfl (by decide) rfl (fun ls hl => ?_)
          refine lv_goto (tgt := 9) hx hb dX4_drain_55 (by decide) ?_
          exact ih _ _ _ _ ft3 hf _ _ _ h (lv_sub hl [1, 2, 3, 0] rfl)
set_option maxHeartbeats 4000000 in
set_option maxRecDepth 100000 in
theorem k_X4_drain_0 {p : Program} {l : Launch} {e : Env} {s : State} {m : MethodId} {args : Array Value} {below : List Frame} {meth : Method} {c : Code} {D : va_G} {cy : Nat → ClassId} {ad : Nat → Nat} {X : sX} {oo : String ⊕ Int32} {σ' : sM} (B : sB p l s m meth c args cX4_drain 5 RX4 D cy ad) (hr : meth.sig.returnType = (some .int)) (htab : ∀ x ∈ c.exceptionTable.toList, False) (v1 : Int32) (v2 : Int32) (σ : sM) (hf : f_X4_drain v1 v2 σ = some (oo, σ')) : sGo p l e { frames := 7, cells := (sC (oI oo)), slots := (sS (oI oo)), locals := 153 } s m args below meth c D cy ad X 5 (sQ below args s (sC (oI oo)) (sS (oI oo)) D cy ad (oI oo) X σ') σ 0 [(0, .ref (ad 0)), (1, .int v1), (2, .int v2)] [] := by
  replace hf : (thn (f_X4_mapAt v1 σ) (fun tr1 σ1 => chk (isTb tr1) (b_X4_drain_9 FU v2 tr1 (0 : Int32) σ1))) = some (oo, σ') := hf
  intro H locs ls h hl
  have hx := B.1
  have hb := B.2.1
  refine lv_aload_n hx hb dX4_drain_0 rfl (lv_at hl 0 rfl) ?_
  refine lv_iload_n hx hb dX4_drain_1 rfl (lv_at hl 1 rfl) ?_
  rcases thn_cases hf with ⟨E1, σ1, hq1, ho⟩ | ⟨tr1, σ1, hq1, hf⟩
  · cases ho
    exact sThrC (g_runV (k := 0) (T := TX4) (N := 8) B h (ok_X4_mapAt B.2.2.2.2.2.2.2.2 B.2.2.2.2.2.2.1 _ _ v1 hq1) cw_X4_41 ⟨Nat.le_of_ble_eq_true rfl, Nat.le_of_ble_eq_true rfl⟩ (by decide) (S_row _) rfl rfl hl.1.symm rfl (Nat.le_of_ble_eq_true rfl) dX4_drain_2 ⟨Nat.le_of_eq (Nat.zero_add _), Nat.le_of_eq (Nat.zero_add _)⟩) h (fun H locs q ce h hc hv hcl => sE_out B htab h hc hv hcl (Nat.le_of_eq (Nat.zero_add _)) (Nat.le_of_eq (Nat.zero_add _)))
  refine sRetC1 (g_runV (k := 0) (T := TX4) (N := 8) B h (ok_X4_mapAt B.2.2.2.2.2.2.2.2 B.2.2.2.2.2.2.1 _ _ v1 hq1) cw_X4_41 ⟨Nat.le_of_ble_eq_true rfl, Nat.le_of_ble_eq_true rfl⟩ (by decide) (S_row _) rfl rfl hl.1.symm rfl (Nat.le_of_ble_eq_true rfl) dX4_drain_2 ⟨Nat.zero_le _, Nat.zero_le _⟩) h (fun H locs h => ?_)
  obtain ⟨c2, hf⟩ := chk_some hf
  refine lv_astore_n (lv' := [(3, .ref (ad tr1)), (0, .ref (ad 0)), (1, .int v1), (2, .int v2)]) hx hb dX4_drain_5 rfl hl (by decide) rfl (fun ls hl => ?_)
  refine lv_iconst (v := (0 : Int32)) hx hb dX4_drain_6 (by decide) ?_
  refine lv_istore (lv' := [(4, .int (0 : Int32)), (3, .ref (ad tr1)), (0, .ref (ad 0)), (1, .int v1), (2, .int v2)]) hx hb dX4_drain_7 hl (by decide) rfl (fun ls hl => ?_)
  exact k_X4_drain_9 B hr htab  _ _ _ _ _ (isTb_T c2) hf _ _ _ h (lv_sub hl [2, 4, 1, 0] rfl)
set_option maxRecDepth 100000 in
theorem ok_X4_drain {l : Launch} (hl0 : l.stackTraces = false) {D : va_G} {cy : Nat → ClassId} {ad : Nat → Nat} (hap : sAp ad) (X : sX) (σ : sM) (v1 : Int32) (v2 : Int32) {oo : String ⊕ Int32} {σ' : sM} (hf : f_X4_drain v1 v2 σ = some (oo, σ')) : sMet l yX4_drain (sWs yX4_drain cX4_drain 5 (some .int)) 7 153 (sC (oI oo)) (sS (oI oo)) D cy ad X σ [.ref (ad 0), .int v1, .int v2] (oI oo) X σ' := by
  refine sMet_of (by decide +kernel) (Nat.le_of_ble_eq_true rfl) hap hl0 ?_
  intro p e s m args below meth c ls B hr htab hl h
  exact k_X4_drain_0 B hr htab _ _ _  hf _ _ _ h hl
set_option maxHeartbeats 4000000 in
set_option maxRecDepth 100000 in
theorem k_X4_drained_0 {p : Program} {l : Launch} {e : Env} {s : State} {m : MethodId} {args : Array Value} {below : List Frame} {meth : Method} {c : Code} {D : va_G} {cy : Nat → ClassId} {ad : Nat → Nat} {X : sX} {oo : String ⊕ Int32} {σ' : sM} (B : sB p l s m meth c args cX4_drained 2 RX4 D cy ad) (hr : meth.sig.returnType = (some .int)) (htab : ∀ x ∈ c.exceptionTable.toList, False) (v1 : Int32) (σ : sM) (hf : f_X4_drained v1 σ = some (oo, σ')) : sGo p l e { frames := 6, cells := (sC (oI oo)), slots := (sS (oI oo)), locals := 100 } s m args below meth c D cy ad X 2 (sQ below args s (sC (oI oo)) (sS (oI oo)) D cy ad (oI oo) X σ') σ 0 [(0, .ref (ad 0)), (1, .int v1)] [] := by
  replace hf : (if v1 < 0 then (some (.inl "java/lang/IndexOutOfBoundsException", σ)) else (if v1 < (σ 0 5) then (chk (inb v1 60) (some (.inr (σ 5 (v1).toNatClampNeg), σ))) else (some (.inl "java/lang/IndexOutOfBoundsException", σ)))) = some (oo, σ') := hf
  intro H locs ls h hl
  have hx := B.1
  have hb := B.2.1
  refine lv_iload_n hx hb dX4_drained_0 rfl (lv_at hl 1 rfl) ?_
  refine lv_if_lt (tgt := 12) hx hb dX4_drained_1 (by decide) (fun c1 => ?_) (fun c1 => ?_)
  · rw [if_pos c1] at hf
    cases hf
    exact sE_thr (text := "no such place in the row") (ic := 113) B htab h hl.1.symm ["java/lang/RuntimeException", "java/lang/Exception"] (by decide +kernel) (by decide +kernel) hw435 hw10 (by decide +kernel) (by decide +kernel) at_X4_113_g at_X4_113_n at_X4_113_o dX4_drained_12 dX4_drained_15 dX4_drained_16 dX4_drained_18 dX4_drained_21 (Nat.le_of_ble_eq_true rfl) (Nat.le_of_ble_eq_true rfl) (Nat.le_of_eq (Nat.zero_add _)) (Nat.le_of_eq (Nat.zero_add _)) (Nat.le_of_eq (Nat.zero_add _)) (Nat.le_of_eq (Nat.zero_add _))
  · rw [if_neg c1] at hf
    refine lv_iload_n hx hb dX4_drained_4 rfl (lv_at hl 1 rfl) ?_
    refine lv_aload_n hx hb dX4_drained_5 rfl (lv_at hl 0 rfl) ?_
    refine g_get B h 0 (by decide) (C := RX4) (T := TX4) (N := 8) (S_row _) rfl hin_X4 5 (by decide) hw132 rfl rfl dX4_drained_6 ?_
    refine lv_icmp_lt (tgt := 22) hx hb dX4_drained_9 (by decide) (fun c2 => ?_) (fun c2 => ?_)
    · rw [if_pos c2] at hf
      refine lv_aload_n hx hb dX4_drained_22 rfl (lv_at hl 0 rfl) ?_
      refine g_get B h 0 (by decide) (C := RX4) (T := TX4) (N := 8) (S_row _) rfl hin_X4 4 (by decide) hw131 rfl rfl dX4_drained_23 ?_
      refine lv_iload_n hx hb dX4_drained_26 rfl (lv_at hl 1 rfl) ?_
      obtain ⟨c3, hf⟩ := chk_some hf
      refine g_iald B h 5 (by decide) (n := 60) (fun _ => rfl) (inb_in c3) dX4_drained_27 ?_
      cases hf
      exact sE_i B hr h dX4_drained_28
    · rw [if_neg c2] at hf
      cases hf
      exact sE_thr (text := "no such place in the row") (ic := 113) B htab h hl.1.symm ["java/lang/RuntimeException", "java/lang/Exception"] (by decide +kernel) (by decide +kernel) hw435 hw10 (by decide +kernel) (by decide +kernel) at_X4_113_g at_X4_113_n at_X4_113_o dX4_drained_12 dX4_drained_15 dX4_drained_16 dX4_drained_18 dX4_drained_21 (Nat.le_of_ble_eq_true rfl) (Nat.le_of_ble_eq_true rfl) (Nat.le_of_eq (Nat.zero_add _)) (Nat.le_of_eq (Nat.zero_add _)) (Nat.le_of_eq (Nat.zero_add _)) (Nat.le_of_eq (Nat.zero_add _))
set_option maxRecDepth 100000 in
theorem ok_X4_drained {l : Launch} (hl0 : l.stackTraces = false) {D : va_G} {cy : Nat → ClassId} {ad : Nat → Nat} (hap : sAp ad) (X : sX) (σ : sM) (v1 : Int32) {oo : String ⊕ Int32} {σ' : sM} (hf : f_X4_drained v1 σ = some (oo, σ')) : sMet l yX4_drained (sWs yX4_drained cX4_drained 2 (some .int)) 6 100 (sC (oI oo)) (sS (oI oo)) D cy ad X σ [.ref (ad 0), .int v1] (oI oo) X σ' := by
  refine sMet_of (by decide +kernel) (Nat.le_of_ble_eq_true rfl) hap hl0 ?_
  intro p e s m args below meth c ls B hr htab hl h
  exact k_X4_drained_0 B hr htab _ _  hf _ _ _ h hl
set_option maxHeartbeats 4000000 in
set_option maxRecDepth 100000 in
theorem k_X4_endPlace_0 {p : Program} {l : Launch} {e : Env} {s : State} {m : MethodId} {args : Array Value} {below : List Frame} {meth : Method} {c : Code} {D : va_G} {cy : Nat → ClassId} {ad : Nat → Nat} {X : sX} {oo : String ⊕ Int32} {σ' : sM} (B : sB p l s m meth c args cX4_endPlace 3 RX4 D cy ad) (hr : meth.sig.returnType = (some .int)) (htab : ∀ x ∈ c.exceptionTable.toList, False) (v0 : Int32) (v1 : Int32) (v2 : Int32) (σ : sM) (hf : f_X4_endPlace v0 v1 v2 σ = some (oo, σ')) : sGo p l e { frames := 6, cells := (sC (oI oo)), slots := (sS (oI oo)), locals := 100 } s m args below meth c D cy ad X 3 (sQ below args s (sC (oI oo)) (sS (oI oo)) D cy ad (oI oo) X σ') σ 0 [(0, .int v0), (1, .int v1), (2, .int v2)] [] := by
  replace hf : (if v0 < v1 then (if v2 = 0 then (some (.inr v0, σ)) else (some (.inr (v1 - (1 : Int32)), σ))) else (some (.inl "java/util/NoSuchElementException", σ))) = some (oo, σ') := hf
  intro H locs ls h hl
  have hx := B.1
  have hb := B.2.1
  refine lv_iload_n hx hb dX4_endPlace_0 rfl (lv_at hl 0 rfl) ?_
  refine lv_iload_n hx hb dX4_endPlace_1 rfl (lv_at hl 1 rfl) ?_
  refine lv_icmp_lt (tgt := 16) hx hb dX4_endPlace_2 (by decide) (fun c1 => ?_) (fun c1 => ?_)
  · rw [if_pos c1] at hf
    refine lv_iload_n hx hb dX4_endPlace_16 rfl (lv_at hl 2 rfl) ?_
    refine lv_if_eq (tgt := 26) hx hb dX4_endPlace_17 (by decide) (fun c2 => ?_) (fun c2 => ?_)
    · rw [if_pos c2] at hf
      refine lv_iload_n hx hb dX4_endPlace_26 rfl (lv_at hl 0 rfl) ?_
      cases hf
      exact sE_i B hr h dX4_endPlace_27
    · rw [if_neg c2] at hf
      refine lv_iload_n hx hb dX4_endPlace_20 rfl (lv_at hl 1 rfl) ?_
      refine lv_iconst (v := (1 : Int32)) hx hb dX4_endPlace_21 (by decide) ?_
      refine lv_isub hx hb dX4_endPlace_22 ?_
      refine lv_goto (tgt := 27) hx hb dX4_endPlace_23 (by decide) ?_
      cases hf
      exact sE_i B hr h dX4_endPlace_27
  · rw [if_neg c1] at hf
    cases hf
    exact sE_thrX (text := "there are no entries") (ic := 61) (ix := 13) (rx := nseeRx) nsee0 nsee1 nsee2 nsee5 B htab h hl.1.symm ["java/lang/RuntimeException", "java/lang/Exception"] (by decide +kernel) (by decide +kernel) hw477 hw15 (by decide +kernel) (by decide +kernel) at_X4_61_g at_X4_61_n at_X4_61_o dX4_endPlace_5 dX4_endPlace_8 (Or.inr ⟨dX4_endPlace_9, rfl⟩) dX4_endPlace_12 dX4_endPlace_15 (Nat.le_of_ble_eq_true rfl) (Nat.le_of_ble_eq_true rfl) (Nat.le_of_eq (Nat.zero_add _)) (Nat.le_of_eq (Nat.zero_add _)) (Nat.le_of_eq (Nat.zero_add _)) (Nat.le_of_eq (Nat.zero_add _))
set_option maxRecDepth 100000 in
theorem ok_X4_endPlace {l : Launch} (hl0 : l.stackTraces = false) {D : va_G} {cy : Nat → ClassId} {ad : Nat → Nat} (hap : sAp ad) (X : sX) (σ : sM) (v0 : Int32) (v1 : Int32) (v2 : Int32) {oo : String ⊕ Int32} {σ' : sM} (hf : f_X4_endPlace v0 v1 v2 σ = some (oo, σ')) : sMet l yX4_endPlace (sWs yX4_endPlace cX4_endPlace 3 (some .int)) 6 100 (sC (oI oo)) (sS (oI oo)) D cy ad X σ [.int v0, .int v1, .int v2] (oI oo) X σ' := by
  refine sMet_of (by decide +kernel) (Nat.le_of_ble_eq_true rfl) hap hl0 ?_
  intro p e s m args below meth c ls B hr htab hl h
  exact k_X4_endPlace_0 B hr htab _ _ _ _  hf _ _ _ h hl
set_option maxHeartbeats 4000000 in
set_option maxRecDepth 100000 in
theorem k_X4_end_0 {p : Program} {l : Launch} {e : Env} {s : State} {m : MethodId} {args : Array Value} {below : List Frame} {meth : Method} {c : Code} {D : va_G} {cy : Nat → ClassId} {ad : Nat → Nat} {X : sX} {oo : String ⊕ Int32} {σ' : sM} (B : sB p l s m meth c args cX4_end 4 RX4 D cy ad) (hr : meth.sig.returnType = (some .int)) (htab : ∀ x ∈ c.exceptionTable.toList, False) (v1 : Int32) (v2 : Int32) (σ : sM) (hf : f_X4_end v1 v2 σ = some (oo, σ')) : sGo p l e { frames := 7, cells := (sC (oI oo)), slots := (sS (oI oo)), locals := 122 } s m args below meth c D cy ad X 4 (sQ below args s (sC (oI oo)) (sS (oI oo)) D cy ad (oI oo) X σ') σ 0 [(0, .ref (ad 0)), (1, .int v1), (2, .int v2)] [] := by
  replace hf : (thn (f_X4_mapAt v1 σ) (fun tr1 σ1 => chk (isTb tr1) (thn (f_X4_endPlace (0 : Int32) (σ1 tr1 2) v2 σ1) (fun vr3 σ3 => chk (inb vr3 120) (some (.inr (σ3 (tr1 + 1) (vr3).toNatClampNeg), σ3)))))) = some (oo, σ') := hf
  intro H locs ls h hl
  have hx := B.1
  have hb := B.2.1
  refine lv_aload_n hx hb dX4_end_0 rfl (lv_at hl 0 rfl) ?_
  refine lv_iload_n hx hb dX4_end_1 rfl (lv_at hl 1 rfl) ?_
  rcases thn_cases hf with ⟨E1, σ1, hq1, ho⟩ | ⟨tr1, σ1, hq1, hf⟩
  · cases ho
    exact sThrC (g_runV (k := 0) (T := TX4) (N := 8) B h (ok_X4_mapAt B.2.2.2.2.2.2.2.2 B.2.2.2.2.2.2.1 _ _ v1 hq1) cw_X4_41 ⟨Nat.le_of_ble_eq_true rfl, Nat.le_of_ble_eq_true rfl⟩ (by decide) (S_row _) rfl rfl hl.1.symm rfl (Nat.le_of_ble_eq_true rfl) dX4_end_2 ⟨Nat.le_of_eq (Nat.zero_add _), Nat.le_of_eq (Nat.zero_add _)⟩) h (fun H locs q ce h hc hv hcl => sE_out B htab h hc hv hcl (Nat.le_of_eq (Nat.zero_add _)) (Nat.le_of_eq (Nat.zero_add _)))
  refine sRetC1 (g_runV (k := 0) (T := TX4) (N := 8) B h (ok_X4_mapAt B.2.2.2.2.2.2.2.2 B.2.2.2.2.2.2.1 _ _ v1 hq1) cw_X4_41 ⟨Nat.le_of_ble_eq_true rfl, Nat.le_of_ble_eq_true rfl⟩ (by decide) (S_row _) rfl rfl hl.1.symm rfl (Nat.le_of_ble_eq_true rfl) dX4_end_2 ⟨Nat.zero_le _, Nat.zero_le _⟩) h (fun H locs h => ?_)
  obtain ⟨c2, hf⟩ := chk_some hf
  refine lv_astore_n (lv' := [(3, .ref (ad tr1)), (0, .ref (ad 0)), (1, .int v1), (2, .int v2)]) hx hb dX4_end_5 rfl hl (by decide) rfl (fun ls hl => ?_)
  refine lv_aload_n hx hb dX4_end_6 rfl (lv_at hl 0 rfl) ?_
  refine g_get B h tr1 (T_lt (isTb_T c2)) (C := RX2) (T := TX2) (N := 3) (T_row (isTb_T c2) _) rfl hin_X2 0 (by decide) hw47 rfl rfl dX4_end_7 ?_
  refine lv_iconst (v := (0 : Int32)) hx hb dX4_end_10 (by decide) ?_
  refine lv_aload_n hx hb dX4_end_11 rfl (lv_at hl 0 rfl) ?_
  refine g_get B h tr1 (T_lt (isTb_T c2)) (C := RX2) (T := TX2) (N := 3) (T_row (isTb_T c2) _) rfl hin_X2 2 (by decide) hw53 rfl rfl dX4_end_12 ?_
  refine lv_iload_n hx hb dX4_end_15 rfl (lv_at hl 3 rfl) ?_
  rcases thn_cases hf with ⟨E3, σ3, hq3, ho⟩ | ⟨vr3, σ3, hq3, hf⟩
  · cases ho
    exact sThrC (g_runS B h (ok_X4_endPlace B.2.2.2.2.2.2.2.2 B.2.2.2.2.2.2.1 _ _ (0 : Int32) (σ1 tr1 2) v2 hq3) cw_X4_89 ⟨Nat.le_of_ble_eq_true rfl, Nat.le_of_ble_eq_true rfl⟩ rfl hl.1.symm rfl (Nat.le_of_ble_eq_true rfl) dX4_end_16 ⟨Nat.le_of_eq (Nat.zero_add _), Nat.le_of_eq (Nat.zero_add _)⟩) h (fun H locs q ce h hc hv hcl => sE_out B htab h hc hv hcl (Nat.le_of_eq (Nat.zero_add _)) (Nat.le_of_eq (Nat.zero_add _)))
  refine sRetC1 (g_runS B h (ok_X4_endPlace B.2.2.2.2.2.2.2.2 B.2.2.2.2.2.2.1 _ _ (0 : Int32) (σ1 tr1 2) v2 hq3) cw_X4_89 ⟨Nat.le_of_ble_eq_true rfl, Nat.le_of_ble_eq_true rfl⟩ rfl hl.1.symm rfl (Nat.le_of_ble_eq_true rfl) dX4_end_16 ⟨Nat.zero_le _, Nat.zero_le _⟩) h (fun H locs h => ?_)
  obtain ⟨c4, hf⟩ := chk_some hf
  refine g_iald B h (tr1 + 1) (T_lt1 (isTb_T c2)) (n := 120) (T_keys (isTb_T c2)) (inb_in c4) dX4_end_19 ?_
  cases hf
  exact sE_i B hr h dX4_end_20
set_option maxRecDepth 100000 in
theorem ok_X4_end {l : Launch} (hl0 : l.stackTraces = false) {D : va_G} {cy : Nat → ClassId} {ad : Nat → Nat} (hap : sAp ad) (X : sX) (σ : sM) (v1 : Int32) (v2 : Int32) {oo : String ⊕ Int32} {σ' : sM} (hf : f_X4_end v1 v2 σ = some (oo, σ')) : sMet l yX4_end (sWs yX4_end cX4_end 4 (some .int)) 7 122 (sC (oI oo)) (sS (oI oo)) D cy ad X σ [.ref (ad 0), .int v1, .int v2] (oI oo) X σ' := by
  refine sMet_of (by decide +kernel) (Nat.le_of_ble_eq_true rfl) hap hl0 ?_
  intro p e s m args below meth c ls B hr htab hl h
  exact k_X4_end_0 B hr htab _ _ _  hf _ _ _ h hl
set_option maxHeartbeats 4000000 in
set_option maxRecDepth 100000 in
theorem k_X4_historyAt_0 {p : Program} {l : Launch} {e : Env} {s : State} {m : MethodId} {args : Array Value} {below : List Frame} {meth : Method} {c : Code} {D : va_G} {cy : Nat → ClassId} {ad : Nat → Nat} {X : sX} {oo : String ⊕ Nat} {σ' : sM} (B : sB p l s m meth c args cX4_historyAt 2 RX4 D cy ad) (hr : meth.sig.returnType = (some (.object "Spanwarden$History"))) (htab : ∀ x ∈ c.exceptionTable.toList, False) (v1 : Int32) (σ : sM) (hf : f_X4_historyAt v1 σ = some (oo, σ')) : sGo p l e { frames := 6, cells := (sC (oA ad oo)), slots := (sS (oA ad oo)), locals := 100 } s m args below meth c D cy ad X 2 (sQ below args s (sC (oA ad oo)) (sS (oA ad oo)) D cy ad (oA ad oo) X σ') σ 0 [(0, .ref (ad 0)), (1, .int v1)] [] := by
  replace hf : (if v1 < 0 then (some (.inl "java/lang/IndexOutOfBoundsException", σ)) else (if v1 < (3 : Int32) then (chk (inb v1 3) (some (.inr (28 + 4 * v1.toNatClampNeg), σ))) else (some (.inl "java/lang/IndexOutOfBoundsException", σ)))) = some (oo, σ') := hf
  intro H locs ls h hl
  have hx := B.1
  have hb := B.2.1
  refine lv_iload_n hx hb dX4_historyAt_0 rfl (lv_at hl 1 rfl) ?_
  refine lv_if_lt (tgt := 13) hx hb dX4_historyAt_1 (by decide) (fun c1 => ?_) (fun c1 => ?_)
  · rw [if_pos c1] at hf
    cases hf
    exact sE_thrW (text := "no such history") (ic := 113) B htab h hl.1.symm ["java/lang/RuntimeException", "java/lang/Exception"] (by decide +kernel) (by decide +kernel) hw435 hw10 (by decide +kernel) (by decide +kernel) at_X4_113_g at_X4_113_n at_X4_113_o dX4_historyAt_13 dX4_historyAt_16 dX4_historyAt_17 dX4_historyAt_20 dX4_historyAt_23 (Nat.le_of_ble_eq_true rfl) (Nat.le_of_ble_eq_true rfl) (Nat.le_of_eq (Nat.zero_add _)) (Nat.le_of_eq (Nat.zero_add _)) (Nat.le_of_eq (Nat.zero_add _)) (Nat.le_of_eq (Nat.zero_add _))
  · rw [if_neg c1] at hf
    refine lv_iload_n hx hb dX4_historyAt_4 rfl (lv_at hl 1 rfl) ?_
    refine lv_aload_n hx hb dX4_historyAt_5 rfl (lv_at hl 0 rfl) ?_
    refine g_get B h 0 (by decide) (C := RX4) (T := TX4) (N := 8) (S_row _) rfl hin_X4 2 (by decide) hw129 rfl rfl dX4_historyAt_6 ?_
    refine g_alen B h 3 (by decide) 5 rfl rfl (v := (3 : Int32)) rfl dX4_historyAt_9 ?_
    refine lv_icmp_lt (tgt := 24) hx hb dX4_historyAt_10 (by decide) (fun c2 => ?_) (fun c2 => ?_)
    · rw [if_pos c2] at hf
      refine lv_aload_n hx hb dX4_historyAt_24 rfl (lv_at hl 0 rfl) ?_
      refine g_get B h 0 (by decide) (C := RX4) (T := TX4) (N := 8) (S_row _) rfl hin_X4 2 (by decide) hw129 rfl rfl dX4_historyAt_25 ?_
      refine lv_iload_n hx hb dX4_historyAt_28 rfl (lv_at hl 1 rfl) ?_
      obtain ⟨c3, hf⟩ := chk_some hf
      refine g_aald B h 3 (by decide) 5 (C := RX1) (n := 3) rfl rfl (inb_in c3) (r := (28 + 4 * v1.toNatClampNeg)) (hists_at c3) dX4_historyAt_29 ?_
      cases hf
      exact sE_a B hr h dX4_historyAt_30
    · rw [if_neg c2] at hf
      cases hf
      exact sE_thrW (text := "no such history") (ic := 113) B htab h hl.1.symm ["java/lang/RuntimeException", "java/lang/Exception"] (by decide +kernel) (by decide +kernel) hw435 hw10 (by decide +kernel) (by decide +kernel) at_X4_113_g at_X4_113_n at_X4_113_o dX4_historyAt_13 dX4_historyAt_16 dX4_historyAt_17 dX4_historyAt_20 dX4_historyAt_23 (Nat.le_of_ble_eq_true rfl) (Nat.le_of_ble_eq_true rfl) (Nat.le_of_eq (Nat.zero_add _)) (Nat.le_of_eq (Nat.zero_add _)) (Nat.le_of_eq (Nat.zero_add _)) (Nat.le_of_eq (Nat.zero_add _))
set_option maxRecDepth 100000 in
theorem ok_X4_historyAt {l : Launch} (hl0 : l.stackTraces = false) {D : va_G} {cy : Nat → ClassId} {ad : Nat → Nat} (hap : sAp ad) (X : sX) (σ : sM) (v1 : Int32) {oo : String ⊕ Nat} {σ' : sM} (hf : f_X4_historyAt v1 σ = some (oo, σ')) : sMet l yX4_historyAt (sWs yX4_historyAt cX4_historyAt 2 (some (.object "Spanwarden$History"))) 6 100 (sC (oA ad oo)) (sS (oA ad oo)) D cy ad X σ [.ref (ad 0), .int v1] (oA ad oo) X σ' := by
  refine sMet_of (by decide +kernel) (Nat.le_of_ble_eq_true rfl) hap hl0 ?_
  intro p e s m args below meth c ls B hr htab hl h
  exact k_X4_historyAt_0 B hr htab _ _  hf _ _ _ h hl
set_option maxHeartbeats 4000000 in
set_option maxRecDepth 100000 in
theorem k_X4_forget_0 {p : Program} {l : Launch} {e : Env} {s : State} {m : MethodId} {args : Array Value} {below : List Frame} {meth : Method} {c : Code} {D : va_G} {cy : Nat → ClassId} {ad : Nat → Nat} {X : sX} {oo : String ⊕ Int32} {σ' : sM} (B : sB p l s m meth c args cX4_forget 4 RX4 D cy ad) (hr : meth.sig.returnType = (some .int)) (htab : ∀ x ∈ c.exceptionTable.toList, False) (v1 : Int32) (σ : sM) (hf : f_X4_forget v1 σ = some (oo, σ')) : sGo p l e { frames := 7, cells := (sC (oI oo)), slots := (sS (oI oo)), locals := 121 } s m args below meth c D cy ad X 4 (sQ below args s (sC (oI oo)) (sS (oI oo)) D cy ad (oI oo) X σ') σ 0 [(0, .ref (ad 0)), (1, .int v1)] [] := by
  replace hf : (thn (f_X4_historyAt v1 σ) (fun tr1 σ1 => chk (isHb tr1) (stl (va_up σ1 tr1 (upd (σ1 tr1) 0 (0 : Int32))) (fun σ3 => some (.inr (σ1 tr1 0), σ3))))) = some (oo, σ') := hf
  intro H locs ls h hl
  have hx := B.1
  have hb := B.2.1
  refine lv_aload_n hx hb dX4_forget_0 rfl (lv_at hl 0 rfl) ?_
  refine lv_iload_n hx hb dX4_forget_1 rfl (lv_at hl 1 rfl) ?_
  rcases thn_cases hf with ⟨E1, σ1, hq1, ho⟩ | ⟨tr1, σ1, hq1, hf⟩
  · cases ho
    exact sThrC (g_runV (k := 0) (T := TX4) (N := 8) B h (ok_X4_historyAt B.2.2.2.2.2.2.2.2 B.2.2.2.2.2.2.1 _ _ v1 hq1) cw_X4_174 ⟨Nat.le_of_ble_eq_true rfl, Nat.le_of_ble_eq_true rfl⟩ (by decide) (S_row _) rfl rfl hl.1.symm rfl (Nat.le_of_ble_eq_true rfl) dX4_forget_2 ⟨Nat.le_of_eq (Nat.zero_add _), Nat.le_of_eq (Nat.zero_add _)⟩) h (fun H locs q ce h hc hv hcl => sE_out B htab h hc hv hcl (Nat.le_of_eq (Nat.zero_add _)) (Nat.le_of_eq (Nat.zero_add _)))
  refine sRetC1 (g_runV (k := 0) (T := TX4) (N := 8) B h (ok_X4_historyAt B.2.2.2.2.2.2.2.2 B.2.2.2.2.2.2.1 _ _ v1 hq1) cw_X4_174 ⟨Nat.le_of_ble_eq_true rfl, Nat.le_of_ble_eq_true rfl⟩ (by decide) (S_row _) rfl rfl hl.1.symm rfl (Nat.le_of_ble_eq_true rfl) dX4_forget_2 ⟨Nat.zero_le _, Nat.zero_le _⟩) h (fun H locs h => ?_)
  obtain ⟨c2, hf⟩ := chk_some hf
  refine lv_astore_n (lv' := [(2, .ref (ad tr1)), (0, .ref (ad 0)), (1, .int v1)]) hx hb dX4_forget_5 rfl hl (by decide) rfl (fun ls hl => ?_)
  refine lv_aload_n hx hb dX4_forget_6 rfl (lv_at hl 0 rfl) ?_
  refine g_get B h tr1 (H_lt (isHb_H c2)) (C := RX1) (T := TX1) (N := 4) (H_row (isHb_H c2) _) rfl hin_X1 0 (by decide) hw72 rfl rfl dX4_forget_7 ?_
  refine lv_istore_n (lv' := [(3, .int (σ1 tr1 0)), (2, .ref (ad tr1)), (0, .ref (ad 0)), (1, .int v1)]) hx hb dX4_forget_10 rfl hl (by decide) rfl (fun ls hl => ?_)
  refine lv_aload_n hx hb dX4_forget_11 rfl (lv_at hl 1 rfl) ?_
  refine lv_iconst (v := (0 : Int32)) hx hb dX4_forget_12 (by decide) ?_
  refine g_put B h tr1 (H_lt (isHb_H c2)) (C := RX1) (T := TX1) (N := 4) (H_row (isHb_H c2) _) rfl hin_X1 tyX1 tyX1_ok nmX1 0 (by decide) hw72 rfl rfl rfl rfl (upd (σ1 tr1) 0 (0 : Int32)) (H_put0 (isHb_H c2) _ _) (Nat.le_of_ble_eq_true rfl) dX4_forget_13 (fun H locs h => ?_)
  obtain ⟨σ3, e3, hf⟩ := stl_some hf
  rw [← e3] at h
  refine lv_iload_n hx hb dX4_forget_16 rfl (lv_at hl 0 rfl) ?_
  cases hf
  exact sE_i B hr h dX4_forget_17
set_option maxRecDepth 100000 in
theorem ok_X4_forget {l : Launch} (hl0 : l.stackTraces = false) {D : va_G} {cy : Nat → ClassId} {ad : Nat → Nat} (hap : sAp ad) (X : sX) (σ : sM) (v1 : Int32) {oo : String ⊕ Int32} {σ' : sM} (hf : f_X4_forget v1 σ = some (oo, σ')) : sMet l yX4_forget (sWs yX4_forget cX4_forget 4 (some .int)) 7 121 (sC (oI oo)) (sS (oI oo)) D cy ad X σ [.ref (ad 0), .int v1] (oI oo) X σ' := by
  refine sMet_of (by decide +kernel) (Nat.le_of_ble_eq_true rfl) hap hl0 ?_
  intro p e s m args below meth c ls B hr htab hl h
  exact k_X4_forget_0 B hr htab _ _  hf _ _ _ h hl
set_option maxHeartbeats 4000000 in
set_option maxRecDepth 100000 in
theorem k_X4_fullShare_0 {p : Program} {l : Launch} {e : Env} {s : State} {m : MethodId} {args : Array Value} {below : List Frame} {meth : Method} {c : Code} {D : va_G} {cy : Nat → ClassId} {ad : Nat → Nat} {X : sX} {oo : String ⊕ UInt32} {σ' : sM} (B : sB p l s m meth c args cX4_fullShare 2 RX4 D cy ad) (hr : meth.sig.returnType = (some .float)) (htab : ∀ x ∈ c.exceptionTable.toList, False) (v1 : Int32) (σ : sM) (hf : f_X4_fullShare v1 σ = some (oo, σ')) : sGo p l e { frames := 7, cells := (sC (oF oo)), slots := (sS (oF oo)), locals := 121 } s m args below meth c D cy ad X 2 (sQ below args s (sC (oF oo)) (sS (oF oo)) D cy ad (oF oo) X σ') σ 0 [(0, .ref (ad 0)), (1, .int v1)] [] := by
  replace hf : (thn (f_X4_mapAt v1 σ) (fun tr1 σ1 => chk (isTb tr1) (chk (nn32 (FP.fdiv (FP.i2f (σ1 tr1 2)) (1114636288 : UInt32))) (some (.inr (FP.fdiv (FP.i2f (σ1 tr1 2)) (1114636288 : UInt32)), σ1))))) = some (oo, σ') := hf
  intro H locs ls h hl
  have hx := B.1
  have hb := B.2.1
  refine lv_aload_n hx hb dX4_fullShare_0 rfl (lv_at hl 0 rfl) ?_
  refine lv_iload_n hx hb dX4_fullShare_1 rfl (lv_at hl 1 rfl) ?_
  rcases thn_cases hf with ⟨E1, σ1, hq1, ho⟩ | ⟨tr1, σ1, hq1, hf⟩
  · cases ho
    exact sThrC (g_runV (k := 0) (T := TX4) (N := 8) B h (ok_X4_mapAt B.2.2.2.2.2.2.2.2 B.2.2.2.2.2.2.1 _ _ v1 hq1) cw_X4_41 ⟨Nat.le_of_ble_eq_true rfl, Nat.le_of_ble_eq_true rfl⟩ (by decide) (S_row _) rfl rfl hl.1.symm rfl (Nat.le_of_ble_eq_true rfl) dX4_fullShare_2 ⟨Nat.le_of_eq (Nat.zero_add _), Nat.le_of_eq (Nat.zero_add _)⟩) h (fun H locs q ce h hc hv hcl => sE_out B htab h hc hv hcl (Nat.le_of_eq (Nat.zero_add _)) (Nat.le_of_eq (Nat.zero_add _)))
  refine sRetC1 (g_runV (k := 0) (T := TX4) (N := 8) B h (ok_X4_mapAt B.2.2.2.2.2.2.2.2 B.2.2.2.2.2.2.1 _ _ v1 hq1) cw_X4_41 ⟨Nat.le_of_ble_eq_true rfl, Nat.le_of_ble_eq_true rfl⟩ (by decide) (S_row _) rfl rfl hl.1.symm rfl (Nat.le_of_ble_eq_true rfl) dX4_fullShare_2 ⟨Nat.zero_le _, Nat.zero_le _⟩) h (fun H locs h => ?_)
  obtain ⟨c2, hf⟩ := chk_some hf
  refine g_get B h tr1 (T_lt (isTb_T c2)) (C := RX2) (T := TX2) (N := 3) (T_row (isTb_T c2) _) rfl hin_X2 2 (by decide) hw53 rfl rfl dX4_fullShare_5 ?_
  refine lv_i2f hx hb dX4_fullShare_8 ?_
  refine lv_ldcf (own := RX4) (v := (1114636288 : UInt32)) hx hb B.2.2.2.1 (B.2.2.2.2.1 _ hw798) dX4_fullShare_9 ?_
  obtain ⟨c3, hf⟩ := chk_some hf
  refine lv_fdiv hx hb dX4_fullShare_11 (nn32_n c3) ?_
  cases hf
  exact sE_f B hr h dX4_fullShare_12
set_option maxRecDepth 100000 in
theorem ok_X4_fullShare {l : Launch} (hl0 : l.stackTraces = false) {D : va_G} {cy : Nat → ClassId} {ad : Nat → Nat} (hap : sAp ad) (X : sX) (σ : sM) (v1 : Int32) {oo : String ⊕ UInt32} {σ' : sM} (hf : f_X4_fullShare v1 σ = some (oo, σ')) : sMet l yX4_fullShare (sWs yX4_fullShare cX4_fullShare 2 (some .float)) 7 121 (sC (oF oo)) (sS (oF oo)) D cy ad X σ [.ref (ad 0), .int v1] (oF oo) X σ' := by
  refine sMet_of (by decide +kernel) (Nat.le_of_ble_eq_true rfl) hap hl0 ?_
  intro p e s m args below meth c ls B hr htab hl h
  exact k_X4_fullShare_0 B hr htab _ _  hf _ _ _ h hl
set_option maxHeartbeats 4000000 in
set_option maxRecDepth 100000 in
theorem k_X4_isLike_0 {p : Program} {l : Launch} {e : Env} {s : State} {m : MethodId} {args : Array Value} {below : List Frame} {meth : Method} {c : Code} {D : va_G} {cy : Nat → ClassId} {ad : Nat → Nat} {X : sX} {oo : String ⊕ Int32} {σ' : sM} (B : sB p l s m meth c args cX4_isLike 4 RX4 D cy ad) (hr : meth.sig.returnType = (some .boolean)) (htab : ∀ x ∈ c.exceptionTable.toList, False) (v1 : Int32) (v2 : Int32) (σ : sM) (hf : f_X4_isLike v1 v2 σ = some (oo, σ')) : sGo p l e { frames := 7, cells := (sC (oI oo)), slots := (sS (oI oo)), locals := 121 } s m args below meth c D cy ad X 4 (sQ below args s (sC (oI oo)) (sS (oI oo)) D cy ad (oI oo) X σ') σ 0 [(0, .ref (ad 0)), (1, .int v1), (2, .int v2)] [] := by
  replace hf : (thn (f_X4_mapAt v1 σ) (fun tr1 σ1 => chk (isTb tr1) (thn (f_X4_mapAt v2 σ1) (fun tr3 σ3 => chk (isTb tr3) (rthn (f_X2_isSame tr1 tr3 σ3) (fun vr5 => chk (isb vr5) (some (.inr vr5, σ3)))))))) = some (oo, σ') := hf
  intro H locs ls h hl
  have hx := B.1
  have hb := B.2.1
  refine lv_aload_n hx hb dX4_isLike_0 rfl (lv_at hl 0 rfl) ?_
  refine lv_iload_n hx hb dX4_isLike_1 rfl (lv_at hl 1 rfl) ?_
  rcases thn_cases hf with ⟨E1, σ1, hq1, ho⟩ | ⟨tr1, σ1, hq1, hf⟩
  · cases ho
    exact sThrC (g_runV (k := 0) (T := TX4) (N := 8) B h (ok_X4_mapAt B.2.2.2.2.2.2.2.2 B.2.2.2.2.2.2.1 _ _ v1 hq1) cw_X4_41 ⟨Nat.le_of_ble_eq_true rfl, Nat.le_of_ble_eq_true rfl⟩ (by decide) (S_row _) rfl rfl hl.1.symm rfl (Nat.le_of_ble_eq_true rfl) dX4_isLike_2 ⟨Nat.le_of_eq (Nat.zero_add _), Nat.le_of_eq (Nat.zero_add _)⟩) h (fun H locs q ce h hc hv hcl => sE_out B htab h hc hv hcl (Nat.le_of_eq (Nat.zero_add _)) (Nat.le_of_eq (Nat.zero_add _)))
  refine sRetC1 (g_runV (k := 0) (T := TX4) (N := 8) B h (ok_X4_mapAt B.2.2.2.2.2.2.2.2 B.2.2.2.2.2.2.1 _ _ v1 hq1) cw_X4_41 ⟨Nat.le_of_ble_eq_true rfl, Nat.le_of_ble_eq_true rfl⟩ (by decide) (S_row _) rfl rfl hl.1.symm rfl (Nat.le_of_ble_eq_true rfl) dX4_isLike_2 ⟨Nat.zero_le _, Nat.zero_le _⟩) h (fun H locs h => ?_)
  obtain ⟨c2, hf⟩ := chk_some hf
  refine lv_astore_n (lv' := [(3, .ref (ad tr1)), (0, .ref (ad 0)), (1, .int v1), (2, .int v2)]) hx hb dX4_isLike_5 rfl hl (by decide) rfl (fun ls hl => ?_)
  refine lv_aload_n hx hb dX4_isLike_6 rfl (lv_at hl 0 rfl) ?_
  refine lv_aload_n hx hb dX4_isLike_7 rfl (lv_at hl 1 rfl) ?_
  refine lv_iload_n hx hb dX4_isLike_8 rfl (lv_at hl 3 rfl) ?_
  rcases thn_cases hf with ⟨E3, σ3, hq3, ho⟩ | ⟨tr3, σ3, hq3, hf⟩
  · cases ho
    exact sThrC (g_runV (k := 0) (T := TX4) (N := 8) B h (ok_X4_mapAt B.2.2.2.2.2.2.2.2 B.2.2.2.2.2.2.1 _ _ v2 hq3) cw_X4_41 ⟨Nat.le_of_ble_eq_true rfl, Nat.le_of_ble_eq_true rfl⟩ (by decide) (S_row _) rfl rfl hl.1.symm rfl (Nat.le_of_ble_eq_true rfl) dX4_isLike_9 ⟨Nat.le_of_eq (Nat.zero_add _), Nat.le_of_eq (Nat.zero_add _)⟩) h (fun H locs q ce h hc hv hcl => sE_out B htab h hc hv hcl (Nat.le_of_eq (Nat.zero_add _)) (Nat.le_of_eq (Nat.zero_add _)))
  refine sRetC1 (g_runV (k := 0) (T := TX4) (N := 8) B h (ok_X4_mapAt B.2.2.2.2.2.2.2.2 B.2.2.2.2.2.2.1 _ _ v2 hq3) cw_X4_41 ⟨Nat.le_of_ble_eq_true rfl, Nat.le_of_ble_eq_true rfl⟩ (by decide) (S_row _) rfl rfl hl.1.symm rfl (Nat.le_of_ble_eq_true rfl) dX4_isLike_9 ⟨Nat.zero_le _, Nat.zero_le _⟩) h (fun H locs h => ?_)
  obtain ⟨c4, hf⟩ := chk_some hf
  obtain ⟨vr5, hq5, hf⟩ := rthn_some hf
  refine sRetC1 (g_runV (k := tr1) (T := TX2) (N := 3) B h (ok_X2_isSame B.2.2.2.2.2.2.2.2 B.2.2.2.2.2.2.1 _ _ (isTb_T c2) (isTb_T c4) hq5) cw_X4_116 ⟨Nat.le_of_ble_eq_true rfl, Nat.le_of_ble_eq_true rfl⟩ (T_lt (isTb_T c2)) (T_row (isTb_T c2) _) rfl rfl hl.1.symm rfl (Nat.le_of_ble_eq_true rfl) dX4_isLike_12 ⟨Nat.zero_le _, Nat.zero_le _⟩) h (fun H locs h => ?_)
  obtain ⟨c6, hf⟩ := chk_some hf
  cases hf
  exact sE_z B hr h (isb_n c6) dX4_isLike_15
set_option maxRecDepth 100000 in
theorem ok_X4_isLike {l : Launch} (hl0 : l.stackTraces = false) {D : va_G} {cy : Nat → ClassId} {ad : Nat → Nat} (hap : sAp ad) (X : sX) (σ : sM) (v1 : Int32) (v2 : Int32) {oo : String ⊕ Int32} {σ' : sM} (hf : f_X4_isLike v1 v2 σ = some (oo, σ')) : sMet l yX4_isLike (sWs yX4_isLike cX4_isLike 4 (some .boolean)) 7 121 (sC (oI oo)) (sS (oI oo)) D cy ad X σ [.ref (ad 0), .int v1, .int v2] (oI oo) X σ' := by
  refine sMet_of (by decide +kernel) (Nat.le_of_ble_eq_true rfl) hap hl0 ?_
  intro p e s m args below meth c ls B hr htab hl h
  exact k_X4_isLike_0 B hr htab _ _ _  hf _ _ _ h hl
set_option maxHeartbeats 4000000 in
set_option maxRecDepth 100000 in
theorem k_X4_isNearWay_0 {p : Program} {l : Launch} {e : Env} {s : State} {m : MethodId} {args : Array Value} {below : List Frame} {meth : Method} {c : Code} {D : va_G} {cy : Nat → ClassId} {ad : Nat → Nat} {X : sX} {r : Int32} (B : sB p l s m meth c args cX4_isNearWay 1 RX4 D cy ad) (hr : meth.sig.returnType = (some .boolean)) (v0 : Int32) (σ : sM) (hf : f_X4_isNearWay v0 σ = some r) : sGo p l e { frames := 0, cells := 0, slots := 0, locals := 0 } s m args below meth c D cy ad X 1 (sQ below args s 0 0 D cy ad (.inr (some (.int r))) X σ) σ 0 [(0, .int v0)] [] := by
  replace hf : (if v0 = (102 : Int32) then (some (1 : Int32)) else (if v0 = (99 : Int32) then (some (1 : Int32)) else (if v0 = (104 : Int32) then (some (1 : Int32)) else (if v0 = (108 : Int32) then (some (1 : Int32)) else (some (0 : Int32)))))) = some r := hf
  intro H locs ls h hl
  have hx := B.1
  have hb := B.2.1
  refine lv_iload_n hx hb dX4_isNearWay_0 rfl (lv_at hl 0 rfl) ?_
  refine lv_bipush (v := (102 : Int32)) hx hb dX4_isNearWay_1 (by decide) ?_
  refine lv_icmp_eq (tgt := 24) hx hb dX4_isNearWay_3 (by decide) (fun c1 => ?_) (fun c1 => ?_)
  · rw [if_pos c1] at hf
    refine lv_iconst (v := (1 : Int32)) hx hb dX4_isNearWay_24 (by decide) ?_
    refine lv_goto (tgt := 29) hx hb dX4_isNearWay_25 (by decide) ?_
    cases hf
    exact sE_z B hr h rfl dX4_isNearWay_29
  · rw [if_neg c1] at hf
    refine lv_iload_n hx hb dX4_isNearWay_6 rfl (lv_at hl 0 rfl) ?_
    refine lv_bipush (v := (99 : Int32)) hx hb dX4_isNearWay_7 (by decide) ?_
    refine lv_icmp_eq (tgt := 24) hx hb dX4_isNearWay_9 (by decide) (fun c2 => ?_) (fun c2 => ?_)
    · rw [if_pos c2] at hf
      refine lv_iconst (v := (1 : Int32)) hx hb dX4_isNearWay_24 (by decide) ?_
      refine lv_goto (tgt := 29) hx hb dX4_isNearWay_25 (by decide) ?_
      cases hf
      exact sE_z B hr h rfl dX4_isNearWay_29
    · rw [if_neg c2] at hf
      refine lv_iload_n hx hb dX4_isNearWay_12 rfl (lv_at hl 0 rfl) ?_
      refine lv_bipush (v := (104 : Int32)) hx hb dX4_isNearWay_13 (by decide) ?_
      refine lv_icmp_eq (tgt := 24) hx hb dX4_isNearWay_15 (by decide) (fun c3 => ?_) (fun c3 => ?_)
      · rw [if_pos c3] at hf
        refine lv_iconst (v := (1 : Int32)) hx hb dX4_isNearWay_24 (by decide) ?_
        refine lv_goto (tgt := 29) hx hb dX4_isNearWay_25 (by decide) ?_
        cases hf
        exact sE_z B hr h rfl dX4_isNearWay_29
      · rw [if_neg c3] at hf
        refine lv_iload_n hx hb dX4_isNearWay_18 rfl (lv_at hl 0 rfl) ?_
        refine lv_bipush (v := (108 : Int32)) hx hb dX4_isNearWay_19 (by decide) ?_
        refine lv_icmp_ne (tgt := 28) hx hb dX4_isNearWay_21 (by decide) (fun c4 => ?_) (fun c4 => ?_)
        · rw [if_neg c4] at hf
          refine lv_iconst (v := (0 : Int32)) hx hb dX4_isNearWay_28 (by decide) ?_
          cases hf
          exact sE_z B hr h rfl dX4_isNearWay_29
        · rw [if_pos c4] at hf
          refine lv_iconst (v := (1 : Int32)) hx hb dX4_isNearWay_24 (by decide) ?_
          refine lv_goto (tgt := 29) hx hb dX4_isNearWay_25 (by decide) ?_
          cases hf
          exact sE_z B hr h rfl dX4_isNearWay_29
set_option maxRecDepth 100000 in
theorem ok_X4_isNearWay {l : Launch} (hl0 : l.stackTraces = false) {D : va_G} {cy : Nat → ClassId} {ad : Nat → Nat} (hap : sAp ad) (X : sX) (σ : sM) (v0 : Int32) {r : Int32} (hf : f_X4_isNearWay v0 σ = some r) : sMet l yX4_isNearWay (sWs yX4_isNearWay cX4_isNearWay 1 (some .boolean)) 0 0 0 0 D cy ad X σ [.int v0] (.inr (some (.int r))) X σ := by
  refine sMet_of (by decide +kernel) (Nat.le_of_ble_eq_true rfl) hap hl0 ?_
  intro p e s m args below meth c ls B hr htab hl h
  exact k_X4_isNearWay_0 B hr _ _  hf _ _ _ h hl
set_option maxHeartbeats 4000000 in
set_option maxRecDepth 100000 in
theorem k_X4_isSound_0 {p : Program} {l : Launch} {e : Env} {s : State} {m : MethodId} {args : Array Value} {below : List Frame} {meth : Method} {c : Code} {D : va_G} {cy : Nat → ClassId} {ad : Nat → Nat} {X : sX} {r : Int32} {σ' : sM} (B : sB p l s m meth c args cX4_isSound 1 RX4 D cy ad) (hr : meth.sig.returnType = (some .boolean)) (σ : sM) (hf : f_X4_isSound σ = some (r, σ')) : sGo p l e { frames := 8, cells := 0, slots := 0, locals := 267 } s m args below meth c D cy ad X 1 (sQ below args s 0 0 D cy ad (.inr (some (.int r))) X σ') σ 0 [(0, .ref (ad 0))] [] := by
  replace hf : (wthn (f_X4_areMapsSound σ) (fun vr1 σ1 => if vr1 = 0 then (some ((0 : Int32), σ1)) else (rthn (f_X4_areViewsSound σ1) (fun vr3 => if vr3 = 0 then (some ((0 : Int32), σ1)) else (wthn (f_X4_areOrdersFree σ1) (fun vr5 σ5 => if vr5 = 0 then (some ((0 : Int32), σ5)) else (wthn (f_X4_areOppositesSound σ5) (fun vr7 σ7 => if vr7 = 0 then (some ((0 : Int32), σ7)) else (wthn (f_X4_areMixesSound σ7) (fun vr9 σ9 => if vr9 = 0 then (some ((0 : Int32), σ9)) else (some ((1 : Int32), σ9)))))))))))) = some (r, σ') := hf
  intro H locs ls h hl
  have hx := B.1
  have hb := B.2.1
  refine lv_aload_n hx hb dX4_isSound_0 rfl (lv_at hl 0 rfl) ?_
  obtain ⟨vr1, σ1, hq1, hf⟩ := wthn_some hf
  refine sRetC1 (g_runV (k := 0) (T := TX4) (N := 8) B h (ok_X4_areMapsSound B.2.2.2.2.2.2.2.2 B.2.2.2.2.2.2.1 _ _  hq1) cw_X4_241 ⟨Nat.le_of_ble_eq_true rfl, Nat.le_of_ble_eq_true rfl⟩ (by decide) (S_row _) rfl rfl hl.1.symm rfl (Nat.le_of_ble_eq_true rfl) dX4_isSound_1 ⟨Nat.zero_le _, Nat.zero_le _⟩) h (fun H locs h => ?_)
  refine lv_if_eq (tgt := 39) hx hb dX4_isSound_4 (by decide) (fun c2 => ?_) (fun c2 => ?_)
  · rw [if_pos c2] at hf
    refine lv_iconst (v := (0 : Int32)) hx hb dX4_isSound_39 (by decide) ?_
    cases hf
    exact sE_z B hr h rfl dX4_isSound_40
  · rw [if_neg c2] at hf
    refine lv_aload_n hx hb dX4_isSound_7 rfl (lv_at hl 0 rfl) ?_
    obtain ⟨vr3, hq3, hf⟩ := rthn_some hf
    refine sRetC1 (g_runV (k := 0) (T := TX4) (N := 8) B h (ok_X4_areViewsSound B.2.2.2.2.2.2.2.2 B.2.2.2.2.2.2.1 _ _  hq3) cw_X4_245 ⟨Nat.le_of_ble_eq_true rfl, Nat.le_of_ble_eq_true rfl⟩ (by decide) (S_row _) rfl rfl hl.1.symm rfl (Nat.le_of_ble_eq_true rfl) dX4_isSound_8 ⟨Nat.zero_le _, Nat.zero_le _⟩) h (fun H locs h => ?_)
    refine lv_if_eq (tgt := 39) hx hb dX4_isSound_11 (by decide) (fun c4 => ?_) (fun c4 => ?_)
    · rw [if_pos c4] at hf
      refine lv_iconst (v := (0 : Int32)) hx hb dX4_isSound_39 (by decide) ?_
      cases hf
      exact sE_z B hr h rfl dX4_isSound_40
    · rw [if_neg c4] at hf
      refine lv_aload_n hx hb dX4_isSound_14 rfl (lv_at hl 0 rfl) ?_
      obtain ⟨vr5, σ5, hq5, hf⟩ := wthn_some hf
      refine sRetC1 (g_runV (k := 0) (T := TX4) (N := 8) B h (ok_X4_areOrdersFree B.2.2.2.2.2.2.2.2 B.2.2.2.2.2.2.1 _ _  hq5) cw_X4_248 ⟨Nat.le_of_ble_eq_true rfl, Nat.le_of_ble_eq_true rfl⟩ (by decide) (S_row _) rfl rfl hl.1.symm rfl (Nat.le_of_ble_eq_true rfl) dX4_isSound_15 ⟨Nat.zero_le _, Nat.zero_le _⟩) h (fun H locs h => ?_)
      refine lv_if_eq (tgt := 39) hx hb dX4_isSound_18 (by decide) (fun c6 => ?_) (fun c6 => ?_)
      · rw [if_pos c6] at hf
        refine lv_iconst (v := (0 : Int32)) hx hb dX4_isSound_39 (by decide) ?_
        cases hf
        exact sE_z B hr h rfl dX4_isSound_40
      · rw [if_neg c6] at hf
        refine lv_aload_n hx hb dX4_isSound_21 rfl (lv_at hl 0 rfl) ?_
        obtain ⟨vr7, σ7, hq7, hf⟩ := wthn_some hf
        refine sRetC1 (g_runV (k := 0) (T := TX4) (N := 8) B h (ok_X4_areOppositesSound B.2.2.2.2.2.2.2.2 B.2.2.2.2.2.2.1 _ _  hq7) cw_X4_251 ⟨Nat.le_of_ble_eq_true rfl, Nat.le_of_ble_eq_true rfl⟩ (by decide) (S_row _) rfl rfl hl.1.symm rfl (Nat.le_of_ble_eq_true rfl) dX4_isSound_22 ⟨Nat.zero_le _, Nat.zero_le _⟩) h (fun H locs h => ?_)
        refine lv_if_eq (tgt := 39) hx hb dX4_isSound_25 (by decide) (fun c8 => ?_) (fun c8 => ?_)
        · rw [if_pos c8] at hf
          refine lv_iconst (v := (0 : Int32)) hx hb dX4_isSound_39 (by decide) ?_
          cases hf
          exact sE_z B hr h rfl dX4_isSound_40
        · rw [if_neg c8] at hf
          refine lv_aload_n hx hb dX4_isSound_28 rfl (lv_at hl 0 rfl) ?_
          obtain ⟨vr9, σ9, hq9, hf⟩ := wthn_some hf
          refine sRetC1 (g_runV (k := 0) (T := TX4) (N := 8) B h (ok_X4_areMixesSound B.2.2.2.2.2.2.2.2 B.2.2.2.2.2.2.1 _ _  hq9) cw_X4_254 ⟨Nat.le_of_ble_eq_true rfl, Nat.le_of_ble_eq_true rfl⟩ (by decide) (S_row _) rfl rfl hl.1.symm rfl (Nat.le_of_ble_eq_true rfl) dX4_isSound_29 ⟨Nat.zero_le _, Nat.zero_le _⟩) h (fun H locs h => ?_)
          refine lv_if_eq (tgt := 39) hx hb dX4_isSound_32 (by decide) (fun c10 => ?_) (fun c10 => ?_)
          · rw [if_pos c10] at hf
            refine lv_iconst (v := (0 : Int32)) hx hb dX4_isSound_39 (by decide) ?_
            cases hf
            exact sE_z B hr h rfl dX4_isSound_40
          · rw [if_neg c10] at hf
            refine lv_iconst (v := (1 : Int32)) hx hb dX4_isSound_35 (by decide) ?_
            refine lv_goto (tgt := 40) hx hb dX4_isSound_36 (by decide) ?_
            cases hf
            exact sE_z B hr h rfl dX4_isSound_40
set_option maxRecDepth 100000 in
theorem ok_X4_isSound {l : Launch} (hl0 : l.stackTraces = false) {D : va_G} {cy : Nat → ClassId} {ad : Nat → Nat} (hap : sAp ad) (X : sX) (σ : sM) {r : Int32} {σ' : sM} (hf : f_X4_isSound σ = some (r, σ')) : sMet l yX4_isSound (sWs yX4_isSound cX4_isSound 1 (some .boolean)) 8 267 0 0 D cy ad X σ [.ref (ad 0)] (.inr (some (.int r))) X σ' := by
  refine sMet_of (by decide +kernel) (Nat.le_of_ble_eq_true rfl) hap hl0 ?_
  intro p e s m args below meth c ls B hr htab hl h
  exact k_X4_isSound_0 B hr  _  hf _ _ _ h hl
set_option maxHeartbeats 4000000 in
set_option maxRecDepth 100000 in
theorem k_X4_isStepKind_0 {p : Program} {l : Launch} {e : Env} {s : State} {m : MethodId} {args : Array Value} {below : List Frame} {meth : Method} {c : Code} {D : va_G} {cy : Nat → ClassId} {ad : Nat → Nat} {X : sX} {r : Int32} (B : sB p l s m meth c args cX4_isStepKind 1 RX4 D cy ad) (hr : meth.sig.returnType = (some .boolean)) (v0 : Int32) (σ : sM) (hf : f_X4_isStepKind v0 σ = some r) : sGo p l e { frames := 0, cells := 0, slots := 0, locals := 0 } s m args below meth c D cy ad X 1 (sQ below args s 0 0 D cy ad (.inr (some (.int r))) X σ) σ 0 [(0, .int v0)] [] := by
  replace hf : (if v0 = (112 : Int32) then (some (1 : Int32)) else (if v0 = (114 : Int32) then (some (1 : Int32)) else (if v0 = (115 : Int32) then (some (1 : Int32)) else (if v0 = (97 : Int32) then (some (1 : Int32)) else (if v0 = (120 : Int32) then (some (1 : Int32)) else (some (0 : Int32))))))) = some r := hf
  intro H locs ls h hl
  have hx := B.1
  have hb := B.2.1
  refine lv_iload_n hx hb dX4_isStepKind_0 rfl (lv_at hl 0 rfl) ?_
  refine lv_bipush (v := (112 : Int32)) hx hb dX4_isStepKind_1 (by decide) ?_
  refine lv_icmp_eq (tgt := 30) hx hb dX4_isStepKind_3 (by decide) (fun c1 => ?_) (fun c1 => ?_)
  · rw [if_pos c1] at hf
    refine lv_iconst (v := (1 : Int32)) hx hb dX4_isStepKind_30 (by decide) ?_
    refine lv_goto (tgt := 35) hx hb dX4_isStepKind_31 (by decide) ?_
    cases hf
    exact sE_z B hr h rfl dX4_isStepKind_35
  · rw [if_neg c1] at hf
    refine lv_iload_n hx hb dX4_isStepKind_6 rfl (lv_at hl 0 rfl) ?_
    refine lv_bipush (v := (114 : Int32)) hx hb dX4_isStepKind_7 (by decide) ?_
    refine lv_icmp_eq (tgt := 30) hx hb dX4_isStepKind_9 (by decide) (fun c2 => ?_) (fun c2 => ?_)
    · rw [if_pos c2] at hf
      refine lv_iconst (v := (1 : Int32)) hx hb dX4_isStepKind_30 (by decide) ?_
      refine lv_goto (tgt := 35) hx hb dX4_isStepKind_31 (by decide) ?_
      cases hf
      exact sE_z B hr h rfl dX4_isStepKind_35
    · rw [if_neg c2] at hf
      refine lv_iload_n hx hb dX4_isStepKind_12 rfl (lv_at hl 0 rfl) ?_
      refine lv_bipush (v := (115 : Int32)) hx hb dX4_isStepKind_13 (by decide) ?_
      refine lv_icmp_eq (tgt := 30) hx hb dX4_isStepKind_15 (by decide) (fun c3 => ?_) (fun c3 => ?_)
      · rw [if_pos c3] at hf
        refine lv_iconst (v := (1 : Int32)) hx hb dX4_isStepKind_30 (by decide) ?_
        refine lv_goto (tgt := 35) hx hb dX4_isStepKind_31 (by decide) ?_
        cases hf
        exact sE_z B hr h rfl dX4_isStepKind_35
      · rw [if_neg c3] at hf
        refine lv_iload_n hx hb dX4_isStepKind_18 rfl (lv_at hl 0 rfl) ?_
        refine lv_bipush (v := (97 : Int32)) hx hb dX4_isStepKind_19 (by decide) ?_
        refine lv_icmp_eq (tgt := 30) hx hb dX4_isStepKind_21 (by decide) (fun c4 => ?_) (fun c4 => ?_)
        · rw [if_pos c4] at hf
          refine lv_iconst (v := (1 : Int32)) hx hb dX4_isStepKind_30 (by decide) ?_
          refine lv_goto (tgt := 35) hx hb dX4_isStepKind_31 (by decide) ?_
          cases hf
          exact sE_z B hr h rfl dX4_isStepKind_35
        · rw [if_neg c4] at hf
          refine lv_iload_n hx hb dX4_isStepKind_24 rfl (lv_at hl 0 rfl) ?_
          refine lv_bipush (v := (120 : Int32)) hx hb dX4_isStepKind_25 (by decide) ?_
          refine lv_icmp_ne (tgt := 34) hx hb dX4_isStepKind_27 (by decide) (fun c5 => ?_) (fun c5 => ?_)
          · rw [if_neg c5] at hf
            refine lv_iconst (v := (0 : Int32)) hx hb dX4_isStepKind_34 (by decide) ?_
            cases hf
            exact sE_z B hr h rfl dX4_isStepKind_35
          · rw [if_pos c5] at hf
            refine lv_iconst (v := (1 : Int32)) hx hb dX4_isStepKind_30 (by decide) ?_
            refine lv_goto (tgt := 35) hx hb dX4_isStepKind_31 (by decide) ?_
            cases hf
            exact sE_z B hr h rfl dX4_isStepKind_35
set_option maxRecDepth 100000 in
theorem ok_X4_isStepKind {l : Launch} (hl0 : l.stackTraces = false) {D : va_G} {cy : Nat → ClassId} {ad : Nat → Nat} (hap : sAp ad) (X : sX) (σ : sM) (v0 : Int32) {r : Int32} (hf : f_X4_isStepKind v0 σ = some r) : sMet l yX4_isStepKind (sWs yX4_isStepKind cX4_isStepKind 1 (some .boolean)) 0 0 0 0 D cy ad X σ [.int v0] (.inr (some (.int r))) X σ := by
  refine sMet_of (by decide +kernel) (Nat.le_of_ble_eq_true rfl) hap hl0 ?_
  intro p e s m args below meth c ls B hr htab hl h
  exact k_X4_isStepKind_0 B hr _ _  hf _ _ _ h hl
set_option maxHeartbeats 4000000 in
set_option maxRecDepth 100000 in
theorem k_X4_keyAt_0 {p : Program} {l : Launch} {e : Env} {s : State} {m : MethodId} {args : Array Value} {below : List Frame} {meth : Method} {c : Code} {D : va_G} {cy : Nat → ClassId} {ad : Nat → Nat} {X : sX} {oo : String ⊕ Int32} {σ' : sM} (B : sB p l s m meth c args cX4_keyAt 5 RX4 D cy ad) (hr : meth.sig.returnType = (some .int)) (htab : ∀ x ∈ c.exceptionTable.toList, False) (v1 : Int32) (v2 : Int32) (v3 : Int32) (σ : sM) (hf : f_X4_keyAt v1 v2 v3 σ = some (oo, σ')) : sGo p l e { frames := 7, cells := (sC (oI oo)), slots := (sS (oI oo)), locals := 121 } s m args below meth c D cy ad X 5 (sQ below args s (sC (oI oo)) (sS (oI oo)) D cy ad (oI oo) X σ') σ 0 [(0, .ref (ad 0)), (1, .int v1), (2, .int v2), (3, .int v3)] [] := by
  replace hf : (thn (f_X4_mapAt v1 σ) (fun tr1 σ1 => chk (isTb tr1) (if v2 < 0 then (some (.inl "java/lang/IndexOutOfBoundsException", σ1)) else (if v2 < (σ1 tr1 2) then (if v3 = 0 then (chk (inb v2 120) (some (.inr (σ1 (tr1 + 1) (v2).toNatClampNeg), σ1))) else (chk (inb (((σ1 tr1 2) - (1 : Int32)) - v2) 120) (some (.inr (σ1 (tr1 + 1) ((((σ1 tr1 2) - (1 : Int32)) - v2)).toNatClampNeg), σ1)))) else (some (.inl "java/lang/IndexOutOfBoundsException", σ1)))))) = some (oo, σ') := hf
  intro H locs ls h hl
  have hx := B.1
  have hb := B.2.1
  refine lv_aload_n hx hb dX4_keyAt_0 rfl (lv_at hl 0 rfl) ?_
  refine lv_iload_n hx hb dX4_keyAt_1 rfl (lv_at hl 1 rfl) ?_
  rcases thn_cases hf with ⟨E1, σ1, hq1, ho⟩ | ⟨tr1, σ1, hq1, hf⟩
  · cases ho
    exact sThrC (g_runV (k := 0) (T := TX4) (N := 8) B h (ok_X4_mapAt B.2.2.2.2.2.2.2.2 B.2.2.2.2.2.2.1 _ _ v1 hq1) cw_X4_41 ⟨Nat.le_of_ble_eq_true rfl, Nat.le_of_ble_eq_true rfl⟩ (by decide) (S_row _) rfl rfl hl.1.symm rfl (Nat.le_of_ble_eq_true rfl) dX4_keyAt_2 ⟨Nat.le_of_eq (Nat.zero_add _), Nat.le_of_eq (Nat.zero_add _)⟩) h (fun H locs q ce h hc hv hcl => sE_out B htab h hc hv hcl (Nat.le_of_eq (Nat.zero_add _)) (Nat.le_of_eq (Nat.zero_add _)))
  refine sRetC1 (g_runV (k := 0) (T := TX4) (N := 8) B h (ok_X4_mapAt B.2.2.2.2.2.2.2.2 B.2.2.2.2.2.2.1 _ _ v1 hq1) cw_X4_41 ⟨Nat.le_of_ble_eq_true rfl, Nat.le_of_ble_eq_true rfl⟩ (by decide) (S_row _) rfl rfl hl.1.symm rfl (Nat.le_of_ble_eq_true rfl) dX4_keyAt_2 ⟨Nat.zero_le _, Nat.zero_le _⟩) h (fun H locs h => ?_)
  obtain ⟨c2, hf⟩ := chk_some hf
  refine lv_astore (lv' := [(4, .ref (ad tr1)), (0, .ref (ad 0)), (1, .int v1), (2, .int v2), (3, .int v3)]) hx hb dX4_keyAt_5 hl (by decide) rfl (fun ls hl => ?_)
  refine lv_iload_n hx hb dX4_keyAt_7 rfl (lv_at hl 3 rfl) ?_
  refine lv_if_lt (tgt := 20) hx hb dX4_keyAt_8 (by decide) (fun c3 => ?_) (fun c3 => ?_)
  · rw [if_pos c3] at hf
    cases hf
    exact sE_thr (text := "no such place in the map") (ic := 113) B htab h hl.1.symm ["java/lang/RuntimeException", "java/lang/Exception"] (by decide +kernel) (by decide +kernel) hw435 hw10 (by decide +kernel) (by decide +kernel) at_X4_113_g at_X4_113_n at_X4_113_o dX4_keyAt_20 dX4_keyAt_23 dX4_keyAt_24 dX4_keyAt_26 dX4_keyAt_29 (Nat.le_of_ble_eq_true rfl) (Nat.le_of_ble_eq_true rfl) (Nat.le_of_eq (Nat.zero_add _)) (Nat.le_of_eq (Nat.zero_add _)) (Nat.le_of_eq (Nat.zero_add _)) (Nat.le_of_eq (Nat.zero_add _))
  · rw [if_neg c3] at hf
    refine lv_iload_n hx hb dX4_keyAt_11 rfl (lv_at hl 3 rfl) ?_
    refine lv_aload hx hb dX4_keyAt_12 (lv_at hl 0 rfl) ?_
    refine g_get B h tr1 (T_lt (isTb_T c2)) (C := RX2) (T := TX2) (N := 3) (T_row (isTb_T c2) _) rfl hin_X2 2 (by decide) hw53 rfl rfl dX4_keyAt_14 ?_
    refine lv_icmp_lt (tgt := 30) hx hb dX4_keyAt_17 (by decide) (fun c4 => ?_) (fun c4 => ?_)
    · rw [if_pos c4] at hf
      refine lv_aload hx hb dX4_keyAt_30 (lv_at hl 0 rfl) ?_
      refine g_get B h tr1 (T_lt (isTb_T c2)) (C := RX2) (T := TX2) (N := 3) (T_row (isTb_T c2) _) rfl hin_X2 0 (by decide) hw47 rfl rfl dX4_keyAt_32 ?_
      refine lv_iload_n hx hb dX4_keyAt_35 rfl (lv_at hl 4 rfl) ?_
      refine lv_if_eq (tgt := 51) hx hb dX4_keyAt_36 (by decide) (fun c5 => ?_) (fun c5 => ?_)
      · rw [if_pos c5] at hf
        refine lv_iload_n hx hb dX4_keyAt_51 rfl (lv_at hl 3 rfl) ?_
        obtain ⟨c6, hf⟩ := chk_some hf
        refine g_iald B h (tr1 + 1) (T_lt1 (isTb_T c2)) (n := 120) (T_keys (isTb_T c2)) (inb_in c6) dX4_keyAt_52 ?_
        cases hf
        exact sE_i B hr h dX4_keyAt_53
      · rw [if_neg c5] at hf
        refine lv_aload hx hb dX4_keyAt_39 (lv_at hl 0 rfl) ?_
        refine g_get B h tr1 (T_lt (isTb_T c2)) (C := RX2) (T := TX2) (N := 3) (T_row (isTb_T c2) _) rfl hin_X2 2 (by decide) hw53 rfl rfl dX4_keyAt_41 ?_
        refine lv_iconst (v := (1 : Int32)) hx hb dX4_keyAt_44 (by decide) ?_
        refine lv_isub hx hb dX4_keyAt_45 ?_
        refine lv_iload_n hx hb dX4_keyAt_46 rfl (lv_at hl 3 rfl) ?_
        refine lv_isub hx hb dX4_keyAt_47 ?_
        refine lv_goto (tgt := 52) hx hb dX4_keyAt_48 (by decide) ?_
        obtain ⟨c7, hf⟩ := chk_some hf
        refine g_iald B h (tr1 + 1) (T_lt1 (isTb_T c2)) (n := 120) (T_keys (isTb_T c2)) (inb_in c7) dX4_keyAt_52 ?_
        cases hf
        exact sE_i B hr h dX4_keyAt_53
    · rw [if_neg c4] at hf
      cases hf
      exact sE_thr (text := "no such place in the map") (ic := 113) B htab h hl.1.symm ["java/lang/RuntimeException", "java/lang/Exception"] (by decide +kernel) (by decide +kernel) hw435 hw10 (by decide +kernel) (by decide +kernel) at_X4_113_g at_X4_113_n at_X4_113_o dX4_keyAt_20 dX4_keyAt_23 dX4_keyAt_24 dX4_keyAt_26 dX4_keyAt_29 (Nat.le_of_ble_eq_true rfl) (Nat.le_of_ble_eq_true rfl) (Nat.le_of_eq (Nat.zero_add _)) (Nat.le_of_eq (Nat.zero_add _)) (Nat.le_of_eq (Nat.zero_add _)) (Nat.le_of_eq (Nat.zero_add _))
set_option maxRecDepth 100000 in
theorem ok_X4_keyAt {l : Launch} (hl0 : l.stackTraces = false) {D : va_G} {cy : Nat → ClassId} {ad : Nat → Nat} (hap : sAp ad) (X : sX) (σ : sM) (v1 : Int32) (v2 : Int32) (v3 : Int32) {oo : String ⊕ Int32} {σ' : sM} (hf : f_X4_keyAt v1 v2 v3 σ = some (oo, σ')) : sMet l yX4_keyAt (sWs yX4_keyAt cX4_keyAt 5 (some .int)) 7 121 (sC (oI oo)) (sS (oI oo)) D cy ad X σ [.ref (ad 0), .int v1, .int v2, .int v3] (oI oo) X σ' := by
  refine sMet_of (by decide +kernel) (Nat.le_of_ble_eq_true rfl) hap hl0 ?_
  intro p e s m args below meth c ls B hr htab hl h
  exact k_X4_keyAt_0 B hr htab _ _ _ _  hf _ _ _ h hl
set_option maxHeartbeats 4000000 in
set_option maxRecDepth 100000 in
theorem k_X4_lies_0 {p : Program} {l : Launch} {e : Env} {s : State} {m : MethodId} {args : Array Value} {below : List Frame} {meth : Method} {c : Code} {D : va_G} {cy : Nat → ClassId} {ad : Nat → Nat} {X : sX} {oo : String ⊕ Int32} {σ' : sM} (B : sB p l s m meth c args cX4_lies 4 RX4 D cy ad) (hr : meth.sig.returnType = (some .boolean)) (htab : ∀ x ∈ c.exceptionTable.toList, False) (v1 : Int32) (v2 : Int32) (σ : sM) (hf : f_X4_lies v1 v2 σ = some (oo, σ')) : sGo p l e { frames := 7, cells := (sC (oI oo)), slots := (sS (oI oo)), locals := 121 } s m args below meth c D cy ad X 4 (sQ below args s (sC (oI oo)) (sS (oI oo)) D cy ad (oI oo) X σ') σ 0 [(0, .ref (ad 0)), (1, .int v1), (2, .int v2)] [] := by
  replace hf : (thn (f_X4_viewAt v1 σ) (fun tr1 σ1 => chk (isVb tr1) (thn (f_X4_refuseClosed tr1 σ1) (fun _ σ3 => rthn (f_X3_covers tr1 v2 σ3) (fun vr4 => chk (isb vr4) (some (.inr vr4, σ3))))))) = some (oo, σ') := hf
  intro H locs ls h hl
  have hx := B.1
  have hb := B.2.1
  refine lv_aload_n hx hb dX4_lies_0 rfl (lv_at hl 0 rfl) ?_
  refine lv_iload_n hx hb dX4_lies_1 rfl (lv_at hl 1 rfl) ?_
  rcases thn_cases hf with ⟨E1, σ1, hq1, ho⟩ | ⟨tr1, σ1, hq1, hf⟩
  · cases ho
    exact sThrC (g_runV (k := 0) (T := TX4) (N := 8) B h (ok_X4_viewAt B.2.2.2.2.2.2.2.2 B.2.2.2.2.2.2.1 _ _ v1 hq1) cw_X4_120 ⟨Nat.le_of_ble_eq_true rfl, Nat.le_of_ble_eq_true rfl⟩ (by decide) (S_row _) rfl rfl hl.1.symm rfl (Nat.le_of_ble_eq_true rfl) dX4_lies_2 ⟨Nat.le_of_eq (Nat.zero_add _), Nat.le_of_eq (Nat.zero_add _)⟩) h (fun H locs q ce h hc hv hcl => sE_out B htab h hc hv hcl (Nat.le_of_eq (Nat.zero_add _)) (Nat.le_of_eq (Nat.zero_add _)))
  refine sRetC1 (g_runV (k := 0) (T := TX4) (N := 8) B h (ok_X4_viewAt B.2.2.2.2.2.2.2.2 B.2.2.2.2.2.2.1 _ _ v1 hq1) cw_X4_120 ⟨Nat.le_of_ble_eq_true rfl, Nat.le_of_ble_eq_true rfl⟩ (by decide) (S_row _) rfl rfl hl.1.symm rfl (Nat.le_of_ble_eq_true rfl) dX4_lies_2 ⟨Nat.zero_le _, Nat.zero_le _⟩) h (fun H locs h => ?_)
  obtain ⟨c2, hf⟩ := chk_some hf
  refine lv_astore_n (lv' := [(3, .ref (ad tr1)), (0, .ref (ad 0)), (1, .int v1), (2, .int v2)]) hx hb dX4_lies_5 rfl hl (by decide) rfl (fun ls hl => ?_)
  refine lv_aload_n hx hb dX4_lies_6 rfl (lv_at hl 0 rfl) ?_
  rcases thn_cases hf with ⟨E3, σ3, hq3, ho⟩ | ⟨vr3, σ3, hq3, hf⟩
  · cases ho
    exact sThrC (g_runS B h (ok_X4_refuseClosed B.2.2.2.2.2.2.2.2 B.2.2.2.2.2.2.1 _ _ (isVb_V c2) hq3) cw_X4_134 ⟨Nat.le_of_ble_eq_true rfl, Nat.le_of_ble_eq_true rfl⟩ rfl hl.1.symm rfl (Nat.le_of_ble_eq_true rfl) dX4_lies_7 ⟨Nat.le_of_eq (Nat.zero_add _), Nat.le_of_eq (Nat.zero_add _)⟩) h (fun H locs q ce h hc hv hcl => sE_out B htab h hc hv hcl (Nat.le_of_eq (Nat.zero_add _)) (Nat.le_of_eq (Nat.zero_add _)))
  refine sRetC0 (g_runS B h (ok_X4_refuseClosed B.2.2.2.2.2.2.2.2 B.2.2.2.2.2.2.1 _ _ (isVb_V c2) hq3) cw_X4_134 ⟨Nat.le_of_ble_eq_true rfl, Nat.le_of_ble_eq_true rfl⟩ rfl hl.1.symm rfl (Nat.le_of_ble_eq_true rfl) dX4_lies_7 ⟨Nat.zero_le _, Nat.zero_le _⟩) h (fun H locs h => ?_)
  refine lv_aload_n hx hb dX4_lies_10 rfl (lv_at hl 0 rfl) ?_
  refine lv_iload_n hx hb dX4_lies_11 rfl (lv_at hl 3 rfl) ?_
  obtain ⟨vr4, hq4, hf⟩ := rthn_some hf
  refine sRetC1 (g_runV (k := tr1) (T := TX3) (N := 6) B h (ok_X3_covers B.2.2.2.2.2.2.2.2 B.2.2.2.2.2.2.1 _ _ (isVb_V c2) v2 hq4) cw_X4_138 ⟨Nat.le_of_ble_eq_true rfl, Nat.le_of_ble_eq_true rfl⟩ (V_lt (isVb_V c2)) (V_row (isVb_V c2) _) rfl rfl hl.1.symm rfl (Nat.le_of_ble_eq_true rfl) dX4_lies_12 ⟨Nat.zero_le _, Nat.zero_le _⟩) h (fun H locs h => ?_)
  obtain ⟨c5, hf⟩ := chk_some hf
  cases hf
  exact sE_z B hr h (isb_n c5) dX4_lies_15
set_option maxRecDepth 100000 in
theorem ok_X4_lies {l : Launch} (hl0 : l.stackTraces = false) {D : va_G} {cy : Nat → ClassId} {ad : Nat → Nat} (hap : sAp ad) (X : sX) (σ : sM) (v1 : Int32) (v2 : Int32) {oo : String ⊕ Int32} {σ' : sM} (hf : f_X4_lies v1 v2 σ = some (oo, σ')) : sMet l yX4_lies (sWs yX4_lies cX4_lies 4 (some .boolean)) 7 121 (sC (oI oo)) (sS (oI oo)) D cy ad X σ [.ref (ad 0), .int v1, .int v2] (oI oo) X σ' := by
  refine sMet_of (by decide +kernel) (Nat.le_of_ble_eq_true rfl) hap hl0 ?_
  intro p e s m args below meth c ls B hr htab hl h
  exact k_X4_lies_0 B hr htab _ _ _  hf _ _ _ h hl
set_option maxHeartbeats 4000000 in
set_option maxRecDepth 100000 in
theorem k_X4_mark_11 {p : Program} {l : Launch} {e : Env} {s : State} {m : MethodId} {args : Array Value} {below : List Frame} {meth : Method} {c : Code} {D : va_G} {cy : Nat → ClassId} {ad : Nat → Nat} {X : sX} {oo : String ⊕ Int32} {σ' : sM} (B : sB p l s m meth c args cX4_mark 5 RX4 D cy ad) (hr : meth.sig.returnType = (some .int)) (htab : ∀ x ∈ c.exceptionTable.toList, False) : ∀ (n : Nat) (t2 : Nat) (v3 : Int32) (v4 : Int32) (σ : sM) (ft2 : isT t2), b_X4_mark_11 n t2 v3 v4 σ = some (oo, σ') → sGo p l e { frames := 7, cells := (sC (oI oo)), slots := (sS (oI oo)), locals := 121 } s m args below meth c D cy ad X 5 (sQ below args s (sC (oI oo)) (sS (oI oo)) D cy ad (oI oo) X σ') σ 11 [(2, .ref (ad t2)), (3, .int v3), (4, .int v4)] [] := by
  intro n
  induction n with
  | zero =>
    intro t2 v3 v4 σ ft2 hf
    exact nomatch (show none = some (oo, σ') from hf)
  | succ n ih =>
    intro t2 v3 v4 σ ft2 hf
    replace hf : (if (σ t2 2) ≤ v4 then (some (.inr v3, σ)) else (chk (inb v4 120) (chk (inb v4 120) (b_X4_mark_11 n t2 (v3 + ((σ (t2 + 1) (v4).toNatClampNeg) ^^^ (σ (t2 + 2) (v4).toNatClampNeg))) (v4 + 1) σ)))) = some (oo, σ') := hf
    intro H locs ls h hl
    have hx := B.1
    have hb := B.2.1
    refine lv_iload hx hb dX4_mark_11 (lv_at hl 2 rfl) ?_
    refine lv_aload_n hx hb dX4_mark_13 rfl (lv_at hl 0 rfl) ?_
    refine g_get B h t2 (T_lt ft2) (C := RX2) (T := TX2) (N := 3) (T_row ft2 _) rfl hin_X2 2 (by decide) hw53 rfl rfl dX4_mark_14 ?_
    refine lv_icmp_ge (tgt := 44) hx hb dX4_mark_17 (by decide) (fun c3 => ?_) (fun c3 => ?_)
    · rw [if_pos c3] at hf
      refine lv_iload_n hx hb dX4_mark_44 rfl (lv_at hl 1 rfl) ?_
      cases hf
      exact sE_i B hr h dX4_mark_45
    · rw [if_neg c3] at hf
      refine lv_iload_n hx hb dX4_mark_20 rfl (lv_at hl 1 rfl) ?_
      refine lv_aload_n hx hb dX4_mark_21 rfl (lv_at hl 0 rfl) ?_
      refine g_get B h t2 (T_lt ft2) (C := RX2) (T := TX2) (N := 3) (T_row ft2 _) rfl hin_X2 0 (by decide) hw47 rfl rfl dX4_mark_22 ?_
      refine lv_iload hx hb dX4_mark_25 (lv_at hl 2 rfl) ?_
      obtain ⟨c4, hf⟩ := chk_some hf
      refine g_iald B h (t2 + 1) (T_lt1 ft2) (n := 120) (T_keys ft2) (inb_in c4) dX4_mark_27 ?_
      refine lv_aload_n hx hb dX4_mark_28 rfl (lv_at hl 0 rfl) ?_
      refine g_get B h t2 (T_lt ft2) (C := RX2) (T := TX2) (N := 3) (T_row ft2 _) rfl hin_X2 1 (by decide) hw50 rfl rfl dX4_mark_29 ?_
      refine lv_iload hx hb dX4_mark_32 (lv_at hl 2 rfl) ?_
      obtain ⟨c5, hf⟩ := chk_some hf
      refine g_iald B h (t2 + 2) (T_lt2 ft2) (n := 120) (T_vals ft2) (inb_in c5) dX4_mark_34 ?_
      refine lv_ixor hx hb dX4_mark_35 ?_
      refine lv_iadd hx hb dX4_mark_36 ?_
      refine lv_istore_n (lv' := [(3, .int (v3 + ((σ (t2 + 1) (v4).toNatClampNeg) ^^^ (σ (t2 + 2) (v4).toNatClampNeg)))), (2, .ref (ad t2)), (4, .int v4)]) hx hb dX4_mark_37 rfl hl (by decide) rfl (fun ls hl => ?_)
      refine lv_iinc (v := (v4 + 1)) (lv' := [(4, .int (v4 + 1)), (3, .int (v3 + ((σ (t2 + 1) (v4).toNatClampNeg) ^^^ (σ (t2 + 2) (v4).toNatClampNeg)))), (2, .ref (ad t2))]) hx hb dX4_mark_38 hl (k := 2) rfl rfl (by decide) rfl (fun ls hl => ?_)
      refine lv_goto (tgt := 11) hx hb dX4_mark_41 (by decide) ?_
      exact ih _ _ _ _ ft2 hf _ _ _ h (lv_sub hl [2, 1, 0] rfl)
set_option maxHeartbeats 4000000 in
set_option maxRecDepth 100000 in
theorem k_X4_mark_0 {p : Program} {l : Launch} {e : Env} {s : State} {m : MethodId} {args : Array Value} {below : List Frame} {meth : Method} {c : Code} {D : va_G} {cy : Nat → ClassId} {ad : Nat → Nat} {X : sX} {oo : String ⊕ Int32} {σ' : sM} (B : sB p l s m meth c args cX4_mark 5 RX4 D cy ad) (hr : meth.sig.returnType = (some .int)) (htab : ∀ x ∈ c.exceptionTable.toList, False) (v1 : Int32) (σ : sM) (hf : f_X4_mark v1 σ = some (oo, σ')) : sGo p l e { frames := 7, cells := (sC (oI oo)), slots := (sS (oI oo)), locals := 121 } s m args below meth c D cy ad X 5 (sQ below args s (sC (oI oo)) (sS (oI oo)) D cy ad (oI oo) X σ') σ 0 [(0, .ref (ad 0)), (1, .int v1)] [] := by
  replace hf : (thn (f_X4_mapAt v1 σ) (fun tr1 σ1 => chk (isTb tr1) (b_X4_mark_11 FU tr1 (0 : Int32) (0 : Int32) σ1))) = some (oo, σ') := hf
  intro H locs ls h hl
  have hx := B.1
  have hb := B.2.1
  refine lv_aload_n hx hb dX4_mark_0 rfl (lv_at hl 0 rfl) ?_
  refine lv_iload_n hx hb dX4_mark_1 rfl (lv_at hl 1 rfl) ?_
  rcases thn_cases hf with ⟨E1, σ1, hq1, ho⟩ | ⟨tr1, σ1, hq1, hf⟩
  · cases ho
    exact sThrC (g_runV (k := 0) (T := TX4) (N := 8) B h (ok_X4_mapAt B.2.2.2.2.2.2.2.2 B.2.2.2.2.2.2.1 _ _ v1 hq1) cw_X4_41 ⟨Nat.le_of_ble_eq_true rfl, Nat.le_of_ble_eq_true rfl⟩ (by decide) (S_row _) rfl rfl hl.1.symm rfl (Nat.le_of_ble_eq_true rfl) dX4_mark_2 ⟨Nat.le_of_eq (Nat.zero_add _), Nat.le_of_eq (Nat.zero_add _)⟩) h (fun H locs q ce h hc hv hcl => sE_out B htab h hc hv hcl (Nat.le_of_eq (Nat.zero_add _)) (Nat.le_of_eq (Nat.zero_add _)))
  refine sRetC1 (g_runV (k := 0) (T := TX4) (N := 8) B h (ok_X4_mapAt B.2.2.2.2.2.2.2.2 B.2.2.2.2.2.2.1 _ _ v1 hq1) cw_X4_41 ⟨Nat.le_of_ble_eq_true rfl, Nat.le_of_ble_eq_true rfl⟩ (by decide) (S_row _) rfl rfl hl.1.symm rfl (Nat.le_of_ble_eq_true rfl) dX4_mark_2 ⟨Nat.zero_le _, Nat.zero_le _⟩) h (fun H locs h => ?_)
  obtain ⟨c2, hf⟩ := chk_some hf
  refine lv_astore_n (lv' := [(2, .ref (ad tr1)), (0, .ref (ad 0)), (1, .int v1)]) hx hb dX4_mark_5 rfl hl (by decide) rfl (fun ls hl => ?_)
  refine lv_iconst (v := (0 : Int32)) hx hb dX4_mark_6 (by decide) ?_
  refine lv_istore_n (lv' := [(3, .int (0 : Int32)), (2, .ref (ad tr1)), (0, .ref (ad 0)), (1, .int v1)]) hx hb dX4_mark_7 rfl hl (by decide) rfl (fun ls hl => ?_)
  refine lv_iconst (v := (0 : Int32)) hx hb dX4_mark_8 (by decide) ?_
  refine lv_istore (lv' := [(4, .int (0 : Int32)), (3, .int (0 : Int32)), (2, .ref (ad tr1)), (0, .ref (ad 0)), (1, .int v1)]) hx hb dX4_mark_9 hl (by decide) rfl (fun ls hl => ?_)
  exact k_X4_mark_11 B hr htab  _ _ _ _ _ (isTb_T c2) hf _ _ _ h (lv_sub hl [2, 1, 0] rfl)
set_option maxRecDepth 100000 in
theorem ok_X4_mark {l : Launch} (hl0 : l.stackTraces = false) {D : va_G} {cy : Nat → ClassId} {ad : Nat → Nat} (hap : sAp ad) (X : sX) (σ : sM) (v1 : Int32) {oo : String ⊕ Int32} {σ' : sM} (hf : f_X4_mark v1 σ = some (oo, σ')) : sMet l yX4_mark (sWs yX4_mark cX4_mark 5 (some .int)) 7 121 (sC (oI oo)) (sS (oI oo)) D cy ad X σ [.ref (ad 0), .int v1] (oI oo) X σ' := by
  refine sMet_of (by decide +kernel) (Nat.le_of_ble_eq_true rfl) hap hl0 ?_
  intro p e s m args below meth c ls B hr htab hl h
  exact k_X4_mark_0 B hr htab _ _  hf _ _ _ h hl
set_option maxHeartbeats 4000000 in
set_option maxRecDepth 100000 in
theorem k_X4_meanKey_28 {p : Program} {l : Launch} {e : Env} {s : State} {m : MethodId} {args : Array Value} {below : List Frame} {meth : Method} {c : Code} {D : va_G} {cy : Nat → ClassId} {ad : Nat → Nat} {X : sX} {oo : String ⊕ UInt64} {σ' : sM} (B : sB p l s m meth c args cX4_meanKey 6 RX4 D cy ad) (hr : meth.sig.returnType = (some .double)) (htab : ∀ x ∈ c.exceptionTable.toList, False) : ∀ (n : Nat) (t2 : Nat) (v3 : Int64) (v5 : Int32) (σ : sM) (ft2 : isT t2), b_X4_meanKey_28 n t2 v3 v5 σ = some (oo, σ') → sGo p l e { frames := 7, cells := (sC (oD oo)), slots := (sS (oD oo)), locals := 121 } s m args below meth c D cy ad X 6 (sQ below args s (sC (oD oo)) (sS (oD oo)) D cy ad (oD oo) X σ') σ 28 [(2, .ref (ad t2)), (3, .long v3), (5, .int v5)] [] := by
  intro n
  induction n with
  | zero =>
    intro t2 v3 v5 σ ft2 hf
    exact nomatch (show none = some (oo, σ') from hf)
  | succ n ih =>
    intro t2 v3 v5 σ ft2 hf
    replace hf : (if (σ t2 2) ≤ v5 then (chk (nn64 (FP.ddiv (FP.l2d v3) (FP.i2d (σ t2 2)))) (some (.inr (FP.ddiv (FP.l2d v3) (FP.i2d (σ t2 2))), σ))) else (chk (inb v5 120) (b_X4_meanKey_28 n t2 (v3 + ((σ (t2 + 1) (v5).toNatClampNeg).toInt64)) (v5 + 1) σ))) = some (oo, σ') := hf
    intro H locs ls h hl
    have hx := B.1
    have hb := B.2.1
    refine lv_iload hx hb dX4_meanKey_28 (lv_at hl 2 rfl) ?_
    refine lv_aload_n hx hb dX4_meanKey_30 rfl (lv_at hl 0 rfl) ?_
    refine g_get B h t2 (T_lt ft2) (C := RX2) (T := TX2) (N := 3) (T_row ft2 _) rfl hin_X2 2 (by decide) hw53 rfl rfl dX4_meanKey_31 ?_
    refine lv_icmp_ge (tgt := 54) hx hb dX4_meanKey_34 (by decide) (fun c4 => ?_) (fun c4 => ?_)
    · rw [if_pos c4] at hf
      refine lv_lload_n hx hb dX4_meanKey_54 rfl (lv_at hl 1 rfl) ?_
      refine lv_l2d hx hb dX4_meanKey_55 ?_
      refine lv_aload_n hx hb dX4_meanKey_56 rfl (lv_at hl 0 rfl) ?_
      refine g_get B h t2 (T_lt ft2) (C := RX2) (T := TX2) (N := 3) (T_row ft2 _) rfl hin_X2 2 (by decide) hw53 rfl rfl dX4_meanKey_57 ?_
      refine lv_i2d hx hb dX4_meanKey_60 ?_
      obtain ⟨c5, hf⟩ := chk_some hf
      refine lv_ddiv hx hb dX4_meanKey_61 (nn64_n c5) ?_
      cases hf
      exact sE_d B hr h dX4_meanKey_62
    · rw [if_neg c4] at hf
      refine lv_lload_n hx hb dX4_meanKey_37 rfl (lv_at hl 1 rfl) ?_
      refine lv_aload_n hx hb dX4_meanKey_38 rfl (lv_at hl 0 rfl) ?_
      refine g_get B h t2 (T_lt ft2) (C := RX2) (T := TX2) (N := 3) (T_row ft2 _) rfl hin_X2 0 (by decide) hw47 rfl rfl dX4_meanKey_39 ?_
      refine lv_iload hx hb dX4_meanKey_42 (lv_at hl 2 rfl) ?_
      obtain ⟨c6, hf⟩ := chk_some hf
      refine g_iald B h (t2 + 1) (T_lt1 ft2) (n := 120) (T_keys ft2) (inb_in c6) dX4_meanKey_44 ?_
      refine lv_i2l (v := ((σ (t2 + 1) (v5).toNatClampNeg).toInt64)) hx hb dX4_meanKey_45 rfl ?_
      refine lv_ladd hx hb dX4_meanKey_46 ?_
      refine lv_lstore_n (lv' := [(3, .long (v3 + ((σ (t2 + 1) (v5).toNatClampNeg).toInt64))), (2, .ref (ad t2)), (5, .int v5)]) hx hb dX4_meanKey_47 rfl hl (by decide) rfl (fun ls hl => ?_)
      refine lv_iinc (v := (v5 + 1)) (lv' := [(5, .int (v5 + 1)), (3, .long (v3 + ((σ (t2 + 1) (v5).toNatClampNeg).toInt64))), (2, .ref (ad t2))]) hx hb dX4_meanKey_48 hl (k := 2) rfl rfl (by decide) rfl (fun ls hl => ?_)
      refine lv_goto (tgt := 28) hx hb dX4_meanKey_51 (by decide) ?_
      exact ih _ _ _ _ ft2 hf _ _ _ h (lv_sub hl [2, 1, 0] rfl)
set_option maxHeartbeats 4000000 in
set_option maxRecDepth 100000 in
theorem k_X4_meanKey_0 {p : Program} {l : Launch} {e : Env} {s : State} {m : MethodId} {args : Array Value} {below : List Frame} {meth : Method} {c : Code} {D : va_G} {cy : Nat → ClassId} {ad : Nat → Nat} {X : sX} {oo : String ⊕ UInt64} {σ' : sM} (B : sB p l s m meth c args cX4_meanKey 6 RX4 D cy ad) (hr : meth.sig.returnType = (some .double)) (htab : ∀ x ∈ c.exceptionTable.toList, False) (v1 : Int32) (σ : sM) (hf : f_X4_meanKey v1 σ = some (oo, σ')) : sGo p l e { frames := 7, cells := (sC (oD oo)), slots := (sS (oD oo)), locals := 121 } s m args below meth c D cy ad X 6 (sQ below args s (sC (oD oo)) (sS (oD oo)) D cy ad (oD oo) X σ') σ 0 [(0, .ref (ad 0)), (1, .int v1)] [] := by
  replace hf : (thn (f_X4_mapAt v1 σ) (fun tr1 σ1 => chk (isTb tr1) (if (σ1 tr1 2) = 0 then (some (.inl "java/lang/ArithmeticException", σ1)) else (b_X4_meanKey_28 FU tr1 (0 : Int64) (0 : Int32) σ1)))) = some (oo, σ') := hf
  intro H locs ls h hl
  have hx := B.1
  have hb := B.2.1
  refine lv_aload_n hx hb dX4_meanKey_0 rfl (lv_at hl 0 rfl) ?_
  refine lv_iload_n hx hb dX4_meanKey_1 rfl (lv_at hl 1 rfl) ?_
  rcases thn_cases hf with ⟨E1, σ1, hq1, ho⟩ | ⟨tr1, σ1, hq1, hf⟩
  · cases ho
    exact sThrC (g_runV (k := 0) (T := TX4) (N := 8) B h (ok_X4_mapAt B.2.2.2.2.2.2.2.2 B.2.2.2.2.2.2.1 _ _ v1 hq1) cw_X4_41 ⟨Nat.le_of_ble_eq_true rfl, Nat.le_of_ble_eq_true rfl⟩ (by decide) (S_row _) rfl rfl hl.1.symm rfl (Nat.le_of_ble_eq_true rfl) dX4_meanKey_2 ⟨Nat.le_of_eq (Nat.zero_add _), Nat.le_of_eq (Nat.zero_add _)⟩) h (fun H locs q ce h hc hv hcl => sE_out B htab h hc hv hcl (Nat.le_of_eq (Nat.zero_add _)) (Nat.le_of_eq (Nat.zero_add _)))
  refine sRetC1 (g_runV (k := 0) (T := TX4) (N := 8) B h (ok_X4_mapAt B.2.2.2.2.2.2.2.2 B.2.2.2.2.2.2.1 _ _ v1 hq1) cw_X4_41 ⟨Nat.le_of_ble_eq_true rfl, Nat.le_of_ble_eq_true rfl⟩ (by decide) (S_row _) rfl rfl hl.1.symm rfl (Nat.le_of_ble_eq_true rfl) dX4_meanKey_2 ⟨Nat.zero_le _, Nat.zero_le _⟩) h (fun H locs h => ?_)
  obtain ⟨c2, hf⟩ := chk_some hf
  refine lv_astore_n (lv' := [(2, .ref (ad tr1)), (0, .ref (ad 0)), (1, .int v1)]) hx hb dX4_meanKey_5 rfl hl (by decide) rfl (fun ls hl => ?_)
  refine lv_aload_n hx hb dX4_meanKey_6 rfl (lv_at hl 0 rfl) ?_
  refine g_get B h tr1 (T_lt (isTb_T c2)) (C := RX2) (T := TX2) (N := 3) (T_row (isTb_T c2) _) rfl hin_X2 2 (by decide) hw53 rfl rfl dX4_meanKey_7 ?_
  refine lv_if_ne (tgt := 23) hx hb dX4_meanKey_10 (by decide) (fun c3 => ?_) (fun c3 => ?_)
  · rw [if_neg c3] at hf
    refine lv_lconst (v := (0 : Int64)) hx hb dX4_meanKey_23 (by decide) ?_
    refine lv_lstore_n (lv' := [(3, .long (0 : Int64)), (2, .ref (ad tr1)), (0, .ref (ad 0)), (1, .int v1)]) hx hb dX4_meanKey_24 rfl hl (by decide) rfl (fun ls hl => ?_)
    refine lv_iconst (v := (0 : Int32)) hx hb dX4_meanKey_25 (by decide) ?_
    refine lv_istore (lv' := [(5, .int (0 : Int32)), (3, .long (0 : Int64)), (2, .ref (ad tr1)), (0, .ref (ad 0)), (1, .int v1)]) hx hb dX4_meanKey_26 hl (by decide) rfl (fun ls hl => ?_)
    exact k_X4_meanKey_28 B hr htab  _ _ _ _ _ (isTb_T c2) hf _ _ _ h (lv_sub hl [2, 1, 0] rfl)
  · rw [if_pos c3] at hf
    cases hf
    exact sE_thr (text := "no mean of no keys") (ic := 232) B htab h hl.1.symm ["java/lang/RuntimeException", "java/lang/Exception"] (by decide +kernel) (by decide +kernel) hw820 hw18 (by decide +kernel) (by decide +kernel) at_X4_232_g at_X4_232_n at_X4_232_o dX4_meanKey_13 dX4_meanKey_16 dX4_meanKey_17 dX4_meanKey_19 dX4_meanKey_22 (Nat.le_of_ble_eq_true rfl) (Nat.le_of_ble_eq_true rfl) (Nat.le_of_eq (Nat.zero_add _)) (Nat.le_of_eq (Nat.zero_add _)) (Nat.le_of_eq (Nat.zero_add _)) (Nat.le_of_eq (Nat.zero_add _))
set_option maxRecDepth 100000 in
theorem ok_X4_meanKey {l : Launch} (hl0 : l.stackTraces = false) {D : va_G} {cy : Nat → ClassId} {ad : Nat → Nat} (hap : sAp ad) (X : sX) (σ : sM) (v1 : Int32) {oo : String ⊕ UInt64} {σ' : sM} (hf : f_X4_meanKey v1 σ = some (oo, σ')) : sMet l yX4_meanKey (sWs yX4_meanKey cX4_meanKey 6 (some .double)) 7 121 (sC (oD oo)) (sS (oD oo)) D cy ad X σ [.ref (ad 0), .int v1] (oD oo) X σ' := by
  refine sMet_of (by decide +kernel) (Nat.le_of_ble_eq_true rfl) hap hl0 ?_
  intro p e s m args below meth c ls B hr htab hl h
  exact k_X4_meanKey_0 B hr htab _ _  hf _ _ _ h hl
set_option maxHeartbeats 4000000 in
set_option maxRecDepth 100000 in
theorem k_X4_meet_0 {p : Program} {l : Launch} {e : Env} {s : State} {m : MethodId} {args : Array Value} {below : List Frame} {meth : Method} {c : Code} {D : va_G} {cy : Nat → ClassId} {ad : Nat → Nat} {X : sX} {oo : String ⊕ Int32} {σ' : sM} (B : sB p l s m meth c args cX4_meet 4 RX4 D cy ad) (hr : meth.sig.returnType = (some .int)) (htab : ∀ x ∈ c.exceptionTable.toList, False) (v1 : Int32) (v2 : Int32) (σ : sM) (hf : f_X4_meet v1 v2 σ = some (oo, σ')) : sGo p l e { frames := 7, cells := (sC (oI oo)), slots := (sS (oI oo)), locals := 198 } s m args below meth c D cy ad X 4 (sQ below args s (sC (oI oo)) (sS (oI oo)) D cy ad (oI oo) X σ') σ 0 [(0, .ref (ad 0)), (1, .int v1), (2, .int v2)] [] := by
  replace hf : (thn (f_X4_historyAt v1 σ) (fun tr1 σ1 => chk (isHb tr1) (thn (f_X4_historyAt v2 σ1) (fun tr3 σ3 => chk (isHb tr3) (wthn (f_X0_countCommonKeys tr1 tr3 σ3) (fun vr5 σ5 => some (.inr vr5, σ5))))))) = some (oo, σ') := hf
  intro H locs ls h hl
  have hx := B.1
  have hb := B.2.1
  refine lv_aload_n hx hb dX4_meet_0 rfl (lv_at hl 0 rfl) ?_
  refine lv_iload_n hx hb dX4_meet_1 rfl (lv_at hl 1 rfl) ?_
  rcases thn_cases hf with ⟨E1, σ1, hq1, ho⟩ | ⟨tr1, σ1, hq1, hf⟩
  · cases ho
    exact sThrC (g_runV (k := 0) (T := TX4) (N := 8) B h (ok_X4_historyAt B.2.2.2.2.2.2.2.2 B.2.2.2.2.2.2.1 _ _ v1 hq1) cw_X4_174 ⟨Nat.le_of_ble_eq_true rfl, Nat.le_of_ble_eq_true rfl⟩ (by decide) (S_row _) rfl rfl hl.1.symm rfl (Nat.le_of_ble_eq_true rfl) dX4_meet_2 ⟨Nat.le_of_eq (Nat.zero_add _), Nat.le_of_eq (Nat.zero_add _)⟩) h (fun H locs q ce h hc hv hcl => sE_out B htab h hc hv hcl (Nat.le_of_eq (Nat.zero_add _)) (Nat.le_of_eq (Nat.zero_add _)))
  refine sRetC1 (g_runV (k := 0) (T := TX4) (N := 8) B h (ok_X4_historyAt B.2.2.2.2.2.2.2.2 B.2.2.2.2.2.2.1 _ _ v1 hq1) cw_X4_174 ⟨Nat.le_of_ble_eq_true rfl, Nat.le_of_ble_eq_true rfl⟩ (by decide) (S_row _) rfl rfl hl.1.symm rfl (Nat.le_of_ble_eq_true rfl) dX4_meet_2 ⟨Nat.zero_le _, Nat.zero_le _⟩) h (fun H locs h => ?_)
  obtain ⟨c2, hf⟩ := chk_some hf
  refine lv_astore_n (lv' := [(3, .ref (ad tr1)), (0, .ref (ad 0)), (1, .int v1), (2, .int v2)]) hx hb dX4_meet_5 rfl hl (by decide) rfl (fun ls hl => ?_)
  refine lv_aload_n hx hb dX4_meet_6 rfl (lv_at hl 1 rfl) ?_
  refine g_get B h 0 (by decide) (C := RX4) (T := TX4) (N := 8) (S_row _) rfl hin_X4 3 (by decide) hw130 rfl rfl dX4_meet_7 ?_
  refine lv_aload_n hx hb dX4_meet_10 rfl (lv_at hl 0 rfl) ?_
  refine lv_aload_n hx hb dX4_meet_11 rfl (lv_at hl 1 rfl) ?_
  refine lv_iload_n hx hb dX4_meet_12 rfl (lv_at hl 3 rfl) ?_
  rcases thn_cases hf with ⟨E3, σ3, hq3, ho⟩ | ⟨tr3, σ3, hq3, hf⟩
  · cases ho
    exact sThrC (g_runV (k := 0) (T := TX4) (N := 8) B h (ok_X4_historyAt B.2.2.2.2.2.2.2.2 B.2.2.2.2.2.2.1 _ _ v2 hq3) cw_X4_174 ⟨Nat.le_of_ble_eq_true rfl, Nat.le_of_ble_eq_true rfl⟩ (by decide) (S_row _) rfl rfl hl.1.symm rfl (Nat.le_of_ble_eq_true rfl) dX4_meet_13 ⟨Nat.le_of_eq (Nat.zero_add _), Nat.le_of_eq (Nat.zero_add _)⟩) h (fun H locs q ce h hc hv hcl => sE_out B htab h hc hv hcl (Nat.le_of_eq (Nat.zero_add _)) (Nat.le_of_eq (Nat.zero_add _)))
  refine sRetC1 (g_runV (k := 0) (T := TX4) (N := 8) B h (ok_X4_historyAt B.2.2.2.2.2.2.2.2 B.2.2.2.2.2.2.1 _ _ v2 hq3) cw_X4_174 ⟨Nat.le_of_ble_eq_true rfl, Nat.le_of_ble_eq_true rfl⟩ (by decide) (S_row _) rfl rfl hl.1.symm rfl (Nat.le_of_ble_eq_true rfl) dX4_meet_13 ⟨Nat.zero_le _, Nat.zero_le _⟩) h (fun H locs h => ?_)
  obtain ⟨c4, hf⟩ := chk_some hf
  obtain ⟨vr5, σ5, hq5, hf⟩ := wthn_some hf
  refine sRetC1 (g_runV (k := 4) (T := TX0) (N := 4) B h (ok_X0_countCommonKeys B.2.2.2.2.2.2.2.2 B.2.2.2.2.2.2.1 _ _ (isHb_H c2) (isHb_H c4) hq5) cw_X4_205 ⟨Nat.le_of_ble_eq_true rfl, Nat.le_of_ble_eq_true rfl⟩ (by decide) (B_row _) rfl rfl hl.1.symm rfl (Nat.le_of_ble_eq_true rfl) dX4_meet_16 ⟨Nat.zero_le _, Nat.zero_le _⟩) h (fun H locs h => ?_)
  cases hf
  exact sE_i B hr h dX4_meet_19
set_option maxRecDepth 100000 in
theorem ok_X4_meet {l : Launch} (hl0 : l.stackTraces = false) {D : va_G} {cy : Nat → ClassId} {ad : Nat → Nat} (hap : sAp ad) (X : sX) (σ : sM) (v1 : Int32) (v2 : Int32) {oo : String ⊕ Int32} {σ' : sM} (hf : f_X4_meet v1 v2 σ = some (oo, σ')) : sMet l yX4_meet (sWs yX4_meet cX4_meet 4 (some .int)) 7 198 (sC (oI oo)) (sS (oI oo)) D cy ad X σ [.ref (ad 0), .int v1, .int v2] (oI oo) X σ' := by
  refine sMet_of (by decide +kernel) (Nat.le_of_ble_eq_true rfl) hap hl0 ?_
  intro p e s m args below meth c ls B hr htab hl h
  exact k_X4_meet_0 B hr htab _ _ _  hf _ _ _ h hl
set_option maxHeartbeats 4000000 in
set_option maxRecDepth 100000 in
theorem k_X4_near_0 {p : Program} {l : Launch} {e : Env} {s : State} {m : MethodId} {args : Array Value} {below : List Frame} {meth : Method} {c : Code} {D : va_G} {cy : Nat → ClassId} {ad : Nat → Nat} {X : sX} {oo : String ⊕ Int32} {σ' : sM} (B : sB p l s m meth c args cX4_near 6 RX4 D cy ad) (hr : meth.sig.returnType = (some .int)) (htab : ∀ x ∈ c.exceptionTable.toList, False) (v1 : Int32) (v2 : Int32) (v3 : Int32) (σ : sM) (hf : f_X4_near v1 v2 v3 σ = some (oo, σ')) : sGo p l e { frames := 7, cells := (sC (oI oo)), slots := (sS (oI oo)), locals := 121 } s m args below meth c D cy ad X 6 (sQ below args s (sC (oI oo)) (sS (oI oo)) D cy ad (oI oo) X σ') σ 0 [(0, .ref (ad 0)), (1, .int v1), (2, .int v2), (3, .int v3)] [] := by
  replace hf : (thn (f_X4_mapAt v1 σ) (fun tr1 σ1 => chk (isTb tr1) (rthn (f_X4_isNearWay v3 σ1) (fun vr3 => if vr3 = 0 then (some (.inl "java/lang/IllegalArgumentException", σ1)) else (rthn (f_X2_placeNear tr1 v2 v3 (0 : Int32) (σ1 tr1 2) σ1) (fun vr5 => if 0 ≤ vr5 then (chk (inb vr5 120) (some (.inr (σ1 (tr1 + 1) (vr5).toNatClampNeg), σ1))) else (some (.inl "java/util/NoSuchElementException", σ1)))))))) = some (oo, σ') := hf
  intro H locs ls h hl
  have hx := B.1
  have hb := B.2.1
  refine lv_aload_n hx hb dX4_near_0 rfl (lv_at hl 0 rfl) ?_
  refine lv_iload_n hx hb dX4_near_1 rfl (lv_at hl 1 rfl) ?_
  rcases thn_cases hf with ⟨E1, σ1, hq1, ho⟩ | ⟨tr1, σ1, hq1, hf⟩
  · cases ho
    exact sThrC (g_runV (k := 0) (T := TX4) (N := 8) B h (ok_X4_mapAt B.2.2.2.2.2.2.2.2 B.2.2.2.2.2.2.1 _ _ v1 hq1) cw_X4_41 ⟨Nat.le_of_ble_eq_true rfl, Nat.le_of_ble_eq_true rfl⟩ (by decide) (S_row _) rfl rfl hl.1.symm rfl (Nat.le_of_ble_eq_true rfl) dX4_near_2 ⟨Nat.le_of_eq (Nat.zero_add _), Nat.le_of_eq (Nat.zero_add _)⟩) h (fun H locs q ce h hc hv hcl => sE_out B htab h hc hv hcl (Nat.le_of_eq (Nat.zero_add _)) (Nat.le_of_eq (Nat.zero_add _)))
  refine sRetC1 (g_runV (k := 0) (T := TX4) (N := 8) B h (ok_X4_mapAt B.2.2.2.2.2.2.2.2 B.2.2.2.2.2.2.1 _ _ v1 hq1) cw_X4_41 ⟨Nat.le_of_ble_eq_true rfl, Nat.le_of_ble_eq_true rfl⟩ (by decide) (S_row _) rfl rfl hl.1.symm rfl (Nat.le_of_ble_eq_true rfl) dX4_near_2 ⟨Nat.zero_le _, Nat.zero_le _⟩) h (fun H locs h => ?_)
  obtain ⟨c2, hf⟩ := chk_some hf
  refine lv_astore (lv' := [(4, .ref (ad tr1)), (0, .ref (ad 0)), (1, .int v1), (2, .int v2), (3, .int v3)]) hx hb dX4_near_5 hl (by decide) rfl (fun ls hl => ?_)
  refine lv_iload_n hx hb dX4_near_7 rfl (lv_at hl 4 rfl) ?_
  obtain ⟨vr3, hq3, hf⟩ := rthn_some hf
  refine sRetC1 (g_runS B h (ok_X4_isNearWay B.2.2.2.2.2.2.2.2 B.2.2.2.2.2.2.1 _ _ v3 hq3) cw_X4_71 ⟨Nat.le_of_ble_eq_true rfl, Nat.le_of_ble_eq_true rfl⟩ rfl hl.1.symm rfl (Nat.le_of_ble_eq_true rfl) dX4_near_8 ⟨Nat.zero_le _, Nat.zero_le _⟩) h (fun H locs h => ?_)
  refine lv_if_ne (tgt := 24) hx hb dX4_near_11 (by decide) (fun c4 => ?_) (fun c4 => ?_)
  · rw [if_neg c4] at hf
    refine lv_aload hx hb dX4_near_24 (lv_at hl 0 rfl) ?_
    refine lv_iload_n hx hb dX4_near_26 rfl (lv_at hl 3 rfl) ?_
    refine lv_iload_n hx hb dX4_near_27 rfl (lv_at hl 4 rfl) ?_
    refine lv_iconst (v := (0 : Int32)) hx hb dX4_near_28 (by decide) ?_
    refine lv_aload hx hb dX4_near_29 (lv_at hl 0 rfl) ?_
    refine g_get B h tr1 (T_lt (isTb_T c2)) (C := RX2) (T := TX2) (N := 3) (T_row (isTb_T c2) _) rfl hin_X2 2 (by decide) hw53 rfl rfl dX4_near_31 ?_
    obtain ⟨vr5, hq5, hf⟩ := rthn_some hf
    refine sRetC1 (g_runV (k := tr1) (T := TX2) (N := 3) B h (ok_X2_placeNear B.2.2.2.2.2.2.2.2 B.2.2.2.2.2.2.1 _ _ (isTb_T c2) v2 v3 (0 : Int32) (σ1 tr1 2) hq5) cw_X4_80 ⟨Nat.le_of_ble_eq_true rfl, Nat.le_of_ble_eq_true rfl⟩ (T_lt (isTb_T c2)) (T_row (isTb_T c2) _) rfl rfl hl.1.symm rfl (Nat.le_of_ble_eq_true rfl) dX4_near_34 ⟨Nat.zero_le _, Nat.zero_le _⟩) h (fun H locs h => ?_)
    refine lv_istore (lv' := [(5, .int vr5), (4, .ref (ad tr1)), (0, .ref (ad 0)), (1, .int v1), (2, .int v2), (3, .int v3)]) hx hb dX4_near_37 hl (by decide) rfl (fun ls hl => ?_)
    refine lv_iload hx hb dX4_near_39 (lv_at hl 0 rfl) ?_
    refine lv_if_ge (tgt := 54) hx hb dX4_near_41 (by decide) (fun c6 => ?_) (fun c6 => ?_)
    · rw [if_pos c6] at hf
      refine lv_aload hx hb dX4_near_54 (lv_at hl 1 rfl) ?_
      refine g_get B h tr1 (T_lt (isTb_T c2)) (C := RX2) (T := TX2) (N := 3) (T_row (isTb_T c2) _) rfl hin_X2 0 (by decide) hw47 rfl rfl dX4_near_56 ?_
      refine lv_iload hx hb dX4_near_59 (lv_at hl 0 rfl) ?_
      obtain ⟨c7, hf⟩ := chk_some hf
      refine g_iald B h (tr1 + 1) (T_lt1 (isTb_T c2)) (n := 120) (T_keys (isTb_T c2)) (inb_in c7) dX4_near_61 ?_
      cases hf
      exact sE_i B hr h dX4_near_62
    · rw [if_neg c6] at hf
      cases hf
      exact sE_thrX (text := "the map has no such near key") (ic := 61) (ix := 13) (rx := nseeRx) nsee0 nsee1 nsee2 nsee5 B htab h hl.1.symm ["java/lang/RuntimeException", "java/lang/Exception"] (by decide +kernel) (by decide +kernel) hw477 hw15 (by decide +kernel) (by decide +kernel) at_X4_61_g at_X4_61_n at_X4_61_o dX4_near_44 dX4_near_47 (Or.inl ⟨dX4_near_48, rfl⟩) dX4_near_50 dX4_near_53 (Nat.le_of_ble_eq_true rfl) (Nat.le_of_ble_eq_true rfl) (Nat.le_of_eq (Nat.zero_add _)) (Nat.le_of_eq (Nat.zero_add _)) (Nat.le_of_eq (Nat.zero_add _)) (Nat.le_of_eq (Nat.zero_add _))
  · rw [if_pos c4] at hf
    cases hf
    exact sE_thr (text := "no such way") (ic := 79) B htab h hl.1.symm ["java/lang/RuntimeException", "java/lang/Exception"] (by decide +kernel) (by decide +kernel) hw512 hw16 (by decide +kernel) (by decide +kernel) at_X4_79_g at_X4_79_n at_X4_79_o dX4_near_14 dX4_near_17 dX4_near_18 dX4_near_20 dX4_near_23 (Nat.le_of_ble_eq_true rfl) (Nat.le_of_ble_eq_true rfl) (Nat.le_of_eq (Nat.zero_add _)) (Nat.le_of_eq (Nat.zero_add _)) (Nat.le_of_eq (Nat.zero_add _)) (Nat.le_of_eq (Nat.zero_add _))
set_option maxRecDepth 100000 in
theorem ok_X4_near {l : Launch} (hl0 : l.stackTraces = false) {D : va_G} {cy : Nat → ClassId} {ad : Nat → Nat} (hap : sAp ad) (X : sX) (σ : sM) (v1 : Int32) (v2 : Int32) (v3 : Int32) {oo : String ⊕ Int32} {σ' : sM} (hf : f_X4_near v1 v2 v3 σ = some (oo, σ')) : sMet l yX4_near (sWs yX4_near cX4_near 6 (some .int)) 7 121 (sC (oI oo)) (sS (oI oo)) D cy ad X σ [.ref (ad 0), .int v1, .int v2, .int v3] (oI oo) X σ' := by
  refine sMet_of (by decide +kernel) (Nat.le_of_ble_eq_true rfl) hap hl0 ?_
  intro p e s m args below meth c ls B hr htab hl h
  exact k_X4_near_0 B hr htab _ _ _ _  hf _ _ _ h hl
set_option maxHeartbeats 4000000 in
set_option maxRecDepth 100000 in
theorem k_X4_open_0 {p : Program} {l : Launch} {e : Env} {s : State} {m : MethodId} {args : Array Value} {below : List Frame} {meth : Method} {c : Code} {D : va_G} {cy : Nat → ClassId} {ad : Nat → Nat} {X : sX} {oo : String ⊕ Int32} {σ' : sM} (B : sB p l s m meth c args cX4_open 9 RX4 D cy ad) (hr : meth.sig.returnType = (some .int)) (htab : ∀ x ∈ c.exceptionTable.toList, False) (v1 : Int32) (v2 : Int32) (v3 : Int32) (v4 : Int32) (v5 : Int32) (v6 : Int32) (σ : sM) (hf : f_X4_open v1 v2 v3 v4 v5 v6 σ = some (oo, σ')) : sGo p l e { frames := 7, cells := (sC (oI oo)), slots := (sS (oI oo)), locals := 121 } s m args below meth c D cy ad X 9 (sQ below args s (sC (oI oo)) (sS (oI oo)) D cy ad (oI oo) X σ') σ 0 [(0, .ref (ad 0)), (1, .int v1), (2, .int v2), (3, .int v3), (4, .int v4), (5, .int v5), (6, .int v6)] [] := by
  replace hf : (thn (f_X4_viewAt v1 σ) (fun tr1 σ1 => chk (isVb tr1) (thn (f_X4_mapAt v2 σ1) (fun tr3 σ3 => chk (isTb tr3) (if v3 ≤ v5 then (wthn (f_X3_becomeSpan tr1 tr3 v3 v4 v5 v6 σ3) (fun _ σ6 => rthn (f_X3_countEntries tr1 σ6) (fun vr7 => some (.inr vr7, σ6)))) else (some (.inl "java/lang/IllegalArgumentException", σ3))))))) = some (oo, σ') := hf
  intro H locs ls h hl
  have hx := B.1
  have hb := B.2.1
  refine lv_aload_n hx hb dX4_open_0 rfl (lv_at hl 0 rfl) ?_
  refine lv_iload_n hx hb dX4_open_1 rfl (lv_at hl 1 rfl) ?_
  rcases thn_cases hf with ⟨E1, σ1, hq1, ho⟩ | ⟨tr1, σ1, hq1, hf⟩
  · cases ho
    exact sThrC (g_runV (k := 0) (T := TX4) (N := 8) B h (ok_X4_viewAt B.2.2.2.2.2.2.2.2 B.2.2.2.2.2.2.1 _ _ v1 hq1) cw_X4_120 ⟨Nat.le_of_ble_eq_true rfl, Nat.le_of_ble_eq_true rfl⟩ (by decide) (S_row _) rfl rfl hl.1.symm rfl (Nat.le_of_ble_eq_true rfl) dX4_open_2 ⟨Nat.le_of_eq (Nat.zero_add _), Nat.le_of_eq (Nat.zero_add _)⟩) h (fun H locs q ce h hc hv hcl => sE_out B htab h hc hv hcl (Nat.le_of_eq (Nat.zero_add _)) (Nat.le_of_eq (Nat.zero_add _)))
  refine sRetC1 (g_runV (k := 0) (T := TX4) (N := 8) B h (ok_X4_viewAt B.2.2.2.2.2.2.2.2 B.2.2.2.2.2.2.1 _ _ v1 hq1) cw_X4_120 ⟨Nat.le_of_ble_eq_true rfl, Nat.le_of_ble_eq_true rfl⟩ (by decide) (S_row _) rfl rfl hl.1.symm rfl (Nat.le_of_ble_eq_true rfl) dX4_open_2 ⟨Nat.zero_le _, Nat.zero_le _⟩) h (fun H locs h => ?_)
  obtain ⟨c2, hf⟩ := chk_some hf
  refine lv_astore (lv' := [(7, .ref (ad tr1)), (0, .ref (ad 0)), (1, .int v1), (2, .int v2), (3, .int v3), (4, .int v4), (5, .int v5), (6, .int v6)]) hx hb dX4_open_5 hl (by decide) rfl (fun ls hl => ?_)
  refine lv_aload_n hx hb dX4_open_7 rfl (lv_at hl 1 rfl) ?_
  refine lv_iload_n hx hb dX4_open_8 rfl (lv_at hl 3 rfl) ?_
  rcases thn_cases hf with ⟨E3, σ3, hq3, ho⟩ | ⟨tr3, σ3, hq3, hf⟩
  · cases ho
    exact sThrC (g_runV (k := 0) (T := TX4) (N := 8) B h (ok_X4_mapAt B.2.2.2.2.2.2.2.2 B.2.2.2.2.2.2.1 _ _ v2 hq3) cw_X4_41 ⟨Nat.le_of_ble_eq_true rfl, Nat.le_of_ble_eq_true rfl⟩ (by decide) (S_row _) rfl rfl hl.1.symm rfl (Nat.le_of_ble_eq_true rfl) dX4_open_9 ⟨Nat.le_of_eq (Nat.zero_add _), Nat.le_of_eq (Nat.zero_add _)⟩) h (fun H locs q ce h hc hv hcl => sE_out B htab h hc hv hcl (Nat.le_of_eq (Nat.zero_add _)) (Nat.le_of_eq (Nat.zero_add _)))
  refine sRetC1 (g_runV (k := 0) (T := TX4) (N := 8) B h (ok_X4_mapAt B.2.2.2.2.2.2.2.2 B.2.2.2.2.2.2.1 _ _ v2 hq3) cw_X4_41 ⟨Nat.le_of_ble_eq_true rfl, Nat.le_of_ble_eq_true rfl⟩ (by decide) (S_row _) rfl rfl hl.1.symm rfl (Nat.le_of_ble_eq_true rfl) dX4_open_9 ⟨Nat.zero_le _, Nat.zero_le _⟩) h (fun H locs h => ?_)
  obtain ⟨c4, hf⟩ := chk_some hf
  refine lv_astore (lv' := [(8, .ref (ad tr3)), (7, .ref (ad tr1)), (0, .ref (ad 0)), (1, .int v1), (2, .int v2), (3, .int v3), (4, .int v4), (5, .int v5), (6, .int v6)]) hx hb dX4_open_12 hl (by decide) rfl (fun ls hl => ?_)
  refine lv_iload hx hb dX4_open_14 (lv_at hl 7 rfl) ?_
  refine lv_iload_n hx hb dX4_open_16 rfl (lv_at hl 5 rfl) ?_
  refine lv_icmp_ge (tgt := 30) hx hb dX4_open_17 (by decide) (fun c5 => ?_) (fun c5 => ?_)
  · rw [if_pos c5] at hf
    refine lv_aload hx hb dX4_open_30 (lv_at hl 1 rfl) ?_
    refine lv_aload hx hb dX4_open_32 (lv_at hl 0 rfl) ?_
    refine lv_iload_n hx hb dX4_open_34 rfl (lv_at hl 5 rfl) ?_
    refine lv_iload hx hb dX4_open_35 (lv_at hl 6 rfl) ?_
    refine lv_iload hx hb dX4_open_37 (lv_at hl 7 rfl) ?_
    refine lv_iload hx hb dX4_open_39 (lv_at hl 8 rfl) ?_
    obtain ⟨vr6, σ6, hq6, hf⟩ := wthn_some hf
    refine sRetC0 (g_runV (k := tr1) (T := TX3) (N := 6) B h (ok_X3_becomeSpan B.2.2.2.2.2.2.2.2 B.2.2.2.2.2.2.1 _ _ (isVb_V c2) (isTb_T c4) v3 v4 v5 v6 hq6) cw_X4_126 ⟨Nat.le_of_ble_eq_true rfl, Nat.le_of_ble_eq_true rfl⟩ (V_lt (isVb_V c2)) (V_row (isVb_V c2) _) rfl rfl hl.1.symm rfl (Nat.le_of_ble_eq_true rfl) dX4_open_41 ⟨Nat.zero_le _, Nat.zero_le _⟩) h (fun H locs h => ?_)
    refine lv_aload hx hb dX4_open_44 (lv_at hl 1 rfl) ?_
    obtain ⟨vr7, hq7, hf⟩ := rthn_some hf
    refine sRetC1 (g_runV (k := tr1) (T := TX3) (N := 6) B h (ok_X3_countEntries B.2.2.2.2.2.2.2.2 B.2.2.2.2.2.2.1 _ _ (isVb_V c2) hq7) cw_X4_130 ⟨Nat.le_of_ble_eq_true rfl, Nat.le_of_ble_eq_true rfl⟩ (V_lt (isVb_V c2)) (V_row (isVb_V c2) _) rfl rfl hl.1.symm rfl (Nat.le_of_ble_eq_true rfl) dX4_open_46 ⟨Nat.zero_le _, Nat.zero_le _⟩) h (fun H locs h => ?_)
    cases hf
    exact sE_i B hr h dX4_open_49
  · rw [if_neg c5] at hf
    cases hf
    exact sE_thr (text := "the span ends below where it begins") (ic := 79) B htab h hl.1.symm ["java/lang/RuntimeException", "java/lang/Exception"] (by decide +kernel) (by decide +kernel) hw512 hw16 (by decide +kernel) (by decide +kernel) at_X4_79_g at_X4_79_n at_X4_79_o dX4_open_20 dX4_open_23 dX4_open_24 dX4_open_26 dX4_open_29 (Nat.le_of_ble_eq_true rfl) (Nat.le_of_ble_eq_true rfl) (Nat.le_of_eq (Nat.zero_add _)) (Nat.le_of_eq (Nat.zero_add _)) (Nat.le_of_eq (Nat.zero_add _)) (Nat.le_of_eq (Nat.zero_add _))
set_option maxRecDepth 100000 in
theorem ok_X4_open {l : Launch} (hl0 : l.stackTraces = false) {D : va_G} {cy : Nat → ClassId} {ad : Nat → Nat} (hap : sAp ad) (X : sX) (σ : sM) (v1 : Int32) (v2 : Int32) (v3 : Int32) (v4 : Int32) (v5 : Int32) (v6 : Int32) {oo : String ⊕ Int32} {σ' : sM} (hf : f_X4_open v1 v2 v3 v4 v5 v6 σ = some (oo, σ')) : sMet l yX4_open (sWs yX4_open cX4_open 9 (some .int)) 7 121 (sC (oI oo)) (sS (oI oo)) D cy ad X σ [.ref (ad 0), .int v1, .int v2, .int v3, .int v4, .int v5, .int v6] (oI oo) X σ' := by
  refine sMet_of (by decide +kernel) (Nat.le_of_ble_eq_true rfl) hap hl0 ?_
  intro p e s m args below meth c ls B hr htab hl h
  exact k_X4_open_0 B hr htab _ _ _ _ _ _ _  hf _ _ _ h hl
set_option maxHeartbeats 4000000 in
set_option maxRecDepth 100000 in
theorem k_X4_opposite_0 {p : Program} {l : Launch} {e : Env} {s : State} {m : MethodId} {args : Array Value} {below : List Frame} {meth : Method} {c : Code} {D : va_G} {cy : Nat → ClassId} {ad : Nat → Nat} {X : sX} {oo : String ⊕ Int32} {σ' : sM} (B : sB p l s m meth c args cX4_opposite 7 RX4 D cy ad) (hr : meth.sig.returnType = (some .int)) (htab : ∀ x ∈ c.exceptionTable.toList, False) (v1 : Int32) (v2 : Int32) (v3 : Int32) (σ : sM) (hf : f_X4_opposite v1 v2 v3 σ = some (oo, σ')) : sGo p l e { frames := 7, cells := (sC (oI oo)), slots := (sS (oI oo)), locals := 180 } s m args below meth c D cy ad X 7 (sQ below args s (sC (oI oo)) (sS (oI oo)) D cy ad (oI oo) X σ') σ 0 [(0, .ref (ad 0)), (1, .int v1), (2, .int v2), (3, .int v3)] [] := by
  replace hf : (thn (f_X4_historyAt v1 σ) (fun tr1 σ1 => chk (isHb tr1) (thn (f_X4_mapAt v2 σ1) (fun tr3 σ3 => chk (isTb tr3) (thn (f_X4_historyAt v3 σ3) (fun tr5 σ5 => chk (isHb tr5) (wthn (f_X0_turnRound tr1 tr3 tr5 σ5) (fun _ σ7 => some (.inr (σ7 tr5 0), σ7))))))))) = some (oo, σ') := hf
  intro H locs ls h hl
  have hx := B.1
  have hb := B.2.1
  refine lv_aload_n hx hb dX4_opposite_0 rfl (lv_at hl 0 rfl) ?_
  refine lv_iload_n hx hb dX4_opposite_1 rfl (lv_at hl 1 rfl) ?_
  rcases thn_cases hf with ⟨E1, σ1, hq1, ho⟩ | ⟨tr1, σ1, hq1, hf⟩
  · cases ho
    exact sThrC (g_runV (k := 0) (T := TX4) (N := 8) B h (ok_X4_historyAt B.2.2.2.2.2.2.2.2 B.2.2.2.2.2.2.1 _ _ v1 hq1) cw_X4_174 ⟨Nat.le_of_ble_eq_true rfl, Nat.le_of_ble_eq_true rfl⟩ (by decide) (S_row _) rfl rfl hl.1.symm rfl (Nat.le_of_ble_eq_true rfl) dX4_opposite_2 ⟨Nat.le_of_eq (Nat.zero_add _), Nat.le_of_eq (Nat.zero_add _)⟩) h (fun H locs q ce h hc hv hcl => sE_out B htab h hc hv hcl (Nat.le_of_eq (Nat.zero_add _)) (Nat.le_of_eq (Nat.zero_add _)))
  refine sRetC1 (g_runV (k := 0) (T := TX4) (N := 8) B h (ok_X4_historyAt B.2.2.2.2.2.2.2.2 B.2.2.2.2.2.2.1 _ _ v1 hq1) cw_X4_174 ⟨Nat.le_of_ble_eq_true rfl, Nat.le_of_ble_eq_true rfl⟩ (by decide) (S_row _) rfl rfl hl.1.symm rfl (Nat.le_of_ble_eq_true rfl) dX4_opposite_2 ⟨Nat.zero_le _, Nat.zero_le _⟩) h (fun H locs h => ?_)
  obtain ⟨c2, hf⟩ := chk_some hf
  refine lv_astore (lv' := [(4, .ref (ad tr1)), (0, .ref (ad 0)), (1, .int v1), (2, .int v2), (3, .int v3)]) hx hb dX4_opposite_5 hl (by decide) rfl (fun ls hl => ?_)
  refine lv_aload_n hx hb dX4_opposite_7 rfl (lv_at hl 1 rfl) ?_
  refine lv_iload_n hx hb dX4_opposite_8 rfl (lv_at hl 3 rfl) ?_
  rcases thn_cases hf with ⟨E3, σ3, hq3, ho⟩ | ⟨tr3, σ3, hq3, hf⟩
  · cases ho
    exact sThrC (g_runV (k := 0) (T := TX4) (N := 8) B h (ok_X4_mapAt B.2.2.2.2.2.2.2.2 B.2.2.2.2.2.2.1 _ _ v2 hq3) cw_X4_41 ⟨Nat.le_of_ble_eq_true rfl, Nat.le_of_ble_eq_true rfl⟩ (by decide) (S_row _) rfl rfl hl.1.symm rfl (Nat.le_of_ble_eq_true rfl) dX4_opposite_9 ⟨Nat.le_of_eq (Nat.zero_add _), Nat.le_of_eq (Nat.zero_add _)⟩) h (fun H locs q ce h hc hv hcl => sE_out B htab h hc hv hcl (Nat.le_of_eq (Nat.zero_add _)) (Nat.le_of_eq (Nat.zero_add _)))
  refine sRetC1 (g_runV (k := 0) (T := TX4) (N := 8) B h (ok_X4_mapAt B.2.2.2.2.2.2.2.2 B.2.2.2.2.2.2.1 _ _ v2 hq3) cw_X4_41 ⟨Nat.le_of_ble_eq_true rfl, Nat.le_of_ble_eq_true rfl⟩ (by decide) (S_row _) rfl rfl hl.1.symm rfl (Nat.le_of_ble_eq_true rfl) dX4_opposite_9 ⟨Nat.zero_le _, Nat.zero_le _⟩) h (fun H locs h => ?_)
  obtain ⟨c4, hf⟩ := chk_some hf
  refine lv_astore (lv' := [(5, .ref (ad tr3)), (4, .ref (ad tr1)), (0, .ref (ad 0)), (1, .int v1), (2, .int v2), (3, .int v3)]) hx hb dX4_opposite_12 hl (by decide) rfl (fun ls hl => ?_)
  refine lv_aload_n hx hb dX4_opposite_14 rfl (lv_at hl 2 rfl) ?_
  refine lv_iload_n hx hb dX4_opposite_15 rfl (lv_at hl 5 rfl) ?_
  rcases thn_cases hf with ⟨E5, σ5, hq5, ho⟩ | ⟨tr5, σ5, hq5, hf⟩
  · cases ho
    exact sThrC (g_runV (k := 0) (T := TX4) (N := 8) B h (ok_X4_historyAt B.2.2.2.2.2.2.2.2 B.2.2.2.2.2.2.1 _ _ v3 hq5) cw_X4_174 ⟨Nat.le_of_ble_eq_true rfl, Nat.le_of_ble_eq_true rfl⟩ (by decide) (S_row _) rfl rfl hl.1.symm rfl (Nat.le_of_ble_eq_true rfl) dX4_opposite_16 ⟨Nat.le_of_eq (Nat.zero_add _), Nat.le_of_eq (Nat.zero_add _)⟩) h (fun H locs q ce h hc hv hcl => sE_out B htab h hc hv hcl (Nat.le_of_eq (Nat.zero_add _)) (Nat.le_of_eq (Nat.zero_add _)))
  refine sRetC1 (g_runV (k := 0) (T := TX4) (N := 8) B h (ok_X4_historyAt B.2.2.2.2.2.2.2.2 B.2.2.2.2.2.2.1 _ _ v3 hq5) cw_X4_174 ⟨Nat.le_of_ble_eq_true rfl, Nat.le_of_ble_eq_true rfl⟩ (by decide) (S_row _) rfl rfl hl.1.symm rfl (Nat.le_of_ble_eq_true rfl) dX4_opposite_16 ⟨Nat.zero_le _, Nat.zero_le _⟩) h (fun H locs h => ?_)
  obtain ⟨c6, hf⟩ := chk_some hf
  refine lv_astore (lv' := [(6, .ref (ad tr5)), (5, .ref (ad tr3)), (4, .ref (ad tr1)), (0, .ref (ad 0)), (1, .int v1), (2, .int v2), (3, .int v3)]) hx hb dX4_opposite_19 hl (by decide) rfl (fun ls hl => ?_)
  refine lv_aload_n hx hb dX4_opposite_21 rfl (lv_at hl 3 rfl) ?_
  refine g_get B h 0 (by decide) (C := RX4) (T := TX4) (N := 8) (S_row _) rfl hin_X4 3 (by decide) hw130 rfl rfl dX4_opposite_22 ?_
  refine lv_aload hx hb dX4_opposite_25 (lv_at hl 2 rfl) ?_
  refine lv_aload hx hb dX4_opposite_27 (lv_at hl 1 rfl) ?_
  refine lv_aload hx hb dX4_opposite_29 (lv_at hl 0 rfl) ?_
  obtain ⟨vr7, σ7, hq7, hf⟩ := wthn_some hf
  refine sRetC0 (g_runV (k := 4) (T := TX0) (N := 4) B h (ok_X0_turnRound B.2.2.2.2.2.2.2.2 B.2.2.2.2.2.2.1 _ _ (isHb_H c2) (isTb_T c4) (isHb_H c6) hq7) cw_X4_209 ⟨Nat.le_of_ble_eq_true rfl, Nat.le_of_ble_eq_true rfl⟩ (by decide) (B_row _) rfl rfl hl.1.symm rfl (Nat.le_of_ble_eq_true rfl) dX4_opposite_31 ⟨Nat.zero_le _, Nat.zero_le _⟩) h (fun H locs h => ?_)
  refine lv_aload hx hb dX4_opposite_34 (lv_at hl 0 rfl) ?_
  refine g_get B h tr5 (H_lt (isHb_H c6)) (C := RX1) (T := TX1) (N := 4) (H_row (isHb_H c6) _) rfl hin_X1 0 (by decide) hw72 rfl rfl dX4_opposite_36 ?_
  cases hf
  exact sE_i B hr h dX4_opposite_39
set_option maxRecDepth 100000 in
theorem ok_X4_opposite {l : Launch} (hl0 : l.stackTraces = false) {D : va_G} {cy : Nat → ClassId} {ad : Nat → Nat} (hap : sAp ad) (X : sX) (σ : sM) (v1 : Int32) (v2 : Int32) (v3 : Int32) {oo : String ⊕ Int32} {σ' : sM} (hf : f_X4_opposite v1 v2 v3 σ = some (oo, σ')) : sMet l yX4_opposite (sWs yX4_opposite cX4_opposite 7 (some .int)) 7 180 (sC (oI oo)) (sS (oI oo)) D cy ad X σ [.ref (ad 0), .int v1, .int v2, .int v3] (oI oo) X σ' := by
  refine sMet_of (by decide +kernel) (Nat.le_of_ble_eq_true rfl) hap hl0 ?_
  intro p e s m args below meth c ls B hr htab hl h
  exact k_X4_opposite_0 B hr htab _ _ _ _  hf _ _ _ h hl
set_option maxHeartbeats 4000000 in
set_option maxRecDepth 100000 in
theorem k_X4_play_0 {p : Program} {l : Launch} {e : Env} {s : State} {m : MethodId} {args : Array Value} {below : List Frame} {meth : Method} {c : Code} {D : va_G} {cy : Nat → ClassId} {ad : Nat → Nat} {X : sX} {oo : String ⊕ Int32} {σ' : sM} (B : sB p l s m meth c args cX4_play 5 RX4 D cy ad) (hr : meth.sig.returnType = (some .int)) (htab : ∀ x ∈ c.exceptionTable.toList, False) (v1 : Int32) (v2 : Int32) (σ : sM) (hf : f_X4_play v1 v2 σ = some (oo, σ')) : sGo p l e { frames := 7, cells := (sC (oI oo)), slots := (sS (oI oo)), locals := 199 } s m args below meth c D cy ad X 5 (sQ below args s (sC (oI oo)) (sS (oI oo)) D cy ad (oI oo) X σ') σ 0 [(0, .ref (ad 0)), (1, .int v1), (2, .int v2)] [] := by
  replace hf : (thn (f_X4_historyAt v1 σ) (fun tr1 σ1 => chk (isHb tr1) (thn (f_X4_mapAt v2 σ1) (fun tr3 σ3 => chk (isTb tr3) (wthn (f_X0_hasRoom tr3 tr1 tr1 σ3) (fun vr5 σ5 => if vr5 = 0 then (some (.inl "java/lang/IllegalStateException", σ5)) else (wthn (f_X1_playOn tr1 tr3 σ5) (fun vr7 σ7 => some (.inr vr7, σ7))))))))) = some (oo, σ') := hf
  intro H locs ls h hl
  have hx := B.1
  have hb := B.2.1
  refine lv_aload_n hx hb dX4_play_0 rfl (lv_at hl 0 rfl) ?_
  refine lv_iload_n hx hb dX4_play_1 rfl (lv_at hl 1 rfl) ?_
  rcases thn_cases hf with ⟨E1, σ1, hq1, ho⟩ | ⟨tr1, σ1, hq1, hf⟩
  · cases ho
    exact sThrC (g_runV (k := 0) (T := TX4) (N := 8) B h (ok_X4_historyAt B.2.2.2.2.2.2.2.2 B.2.2.2.2.2.2.1 _ _ v1 hq1) cw_X4_174 ⟨Nat.le_of_ble_eq_true rfl, Nat.le_of_ble_eq_true rfl⟩ (by decide) (S_row _) rfl rfl hl.1.symm rfl (Nat.le_of_ble_eq_true rfl) dX4_play_2 ⟨Nat.le_of_eq (Nat.zero_add _), Nat.le_of_eq (Nat.zero_add _)⟩) h (fun H locs q ce h hc hv hcl => sE_out B htab h hc hv hcl (Nat.le_of_eq (Nat.zero_add _)) (Nat.le_of_eq (Nat.zero_add _)))
  refine sRetC1 (g_runV (k := 0) (T := TX4) (N := 8) B h (ok_X4_historyAt B.2.2.2.2.2.2.2.2 B.2.2.2.2.2.2.1 _ _ v1 hq1) cw_X4_174 ⟨Nat.le_of_ble_eq_true rfl, Nat.le_of_ble_eq_true rfl⟩ (by decide) (S_row _) rfl rfl hl.1.symm rfl (Nat.le_of_ble_eq_true rfl) dX4_play_2 ⟨Nat.zero_le _, Nat.zero_le _⟩) h (fun H locs h => ?_)
  obtain ⟨c2, hf⟩ := chk_some hf
  refine lv_astore_n (lv' := [(3, .ref (ad tr1)), (0, .ref (ad 0)), (1, .int v1), (2, .int v2)]) hx hb dX4_play_5 rfl hl (by decide) rfl (fun ls hl => ?_)
  refine lv_aload_n hx hb dX4_play_6 rfl (lv_at hl 1 rfl) ?_
  refine lv_iload_n hx hb dX4_play_7 rfl (lv_at hl 3 rfl) ?_
  rcases thn_cases hf with ⟨E3, σ3, hq3, ho⟩ | ⟨tr3, σ3, hq3, hf⟩
  · cases ho
    exact sThrC (g_runV (k := 0) (T := TX4) (N := 8) B h (ok_X4_mapAt B.2.2.2.2.2.2.2.2 B.2.2.2.2.2.2.1 _ _ v2 hq3) cw_X4_41 ⟨Nat.le_of_ble_eq_true rfl, Nat.le_of_ble_eq_true rfl⟩ (by decide) (S_row _) rfl rfl hl.1.symm rfl (Nat.le_of_ble_eq_true rfl) dX4_play_8 ⟨Nat.le_of_eq (Nat.zero_add _), Nat.le_of_eq (Nat.zero_add _)⟩) h (fun H locs q ce h hc hv hcl => sE_out B htab h hc hv hcl (Nat.le_of_eq (Nat.zero_add _)) (Nat.le_of_eq (Nat.zero_add _)))
  refine sRetC1 (g_runV (k := 0) (T := TX4) (N := 8) B h (ok_X4_mapAt B.2.2.2.2.2.2.2.2 B.2.2.2.2.2.2.1 _ _ v2 hq3) cw_X4_41 ⟨Nat.le_of_ble_eq_true rfl, Nat.le_of_ble_eq_true rfl⟩ (by decide) (S_row _) rfl rfl hl.1.symm rfl (Nat.le_of_ble_eq_true rfl) dX4_play_8 ⟨Nat.zero_le _, Nat.zero_le _⟩) h (fun H locs h => ?_)
  obtain ⟨c4, hf⟩ := chk_some hf
  refine lv_astore (lv' := [(4, .ref (ad tr3)), (3, .ref (ad tr1)), (0, .ref (ad 0)), (1, .int v1), (2, .int v2)]) hx hb dX4_play_11 hl (by decide) rfl (fun ls hl => ?_)
  refine lv_aload_n hx hb dX4_play_13 rfl (lv_at hl 2 rfl) ?_
  refine g_get B h 0 (by decide) (C := RX4) (T := TX4) (N := 8) (S_row _) rfl hin_X4 3 (by decide) hw130 rfl rfl dX4_play_14 ?_
  refine lv_aload hx hb dX4_play_17 (lv_at hl 0 rfl) ?_
  refine lv_aload_n hx hb dX4_play_19 rfl (lv_at hl 1 rfl) ?_
  refine lv_aload_n hx hb dX4_play_20 rfl (lv_at hl 1 rfl) ?_
  obtain ⟨vr5, σ5, hq5, hf⟩ := wthn_some hf
  refine sRetC1 (g_runV (k := 4) (T := TX0) (N := 4) B h (ok_X0_hasRoom B.2.2.2.2.2.2.2.2 B.2.2.2.2.2.2.1 _ _ (isTb_T c4) (isHb_H c2) (isHb_H c2) hq5) cw_X4_190 ⟨Nat.le_of_ble_eq_true rfl, Nat.le_of_ble_eq_true rfl⟩ (by decide) (B_row _) rfl rfl hl.1.symm rfl (Nat.le_of_ble_eq_true rfl) dX4_play_21 ⟨Nat.zero_le _, Nat.zero_le _⟩) h (fun H locs h => ?_)
  refine lv_if_ne (tgt := 37) hx hb dX4_play_24 (by decide) (fun c6 => ?_) (fun c6 => ?_)
  · rw [if_neg c6] at hf
    refine lv_aload_n hx hb dX4_play_37 rfl (lv_at hl 1 rfl) ?_
    refine lv_aload hx hb dX4_play_38 (lv_at hl 0 rfl) ?_
    obtain ⟨vr7, σ7, hq7, hf⟩ := wthn_some hf
    refine sRetC1 (g_runV (k := tr1) (T := TX1) (N := 4) B h (ok_X1_playOn B.2.2.2.2.2.2.2.2 B.2.2.2.2.2.2.1 _ _ (isHb_H c2) (isTb_T c4) hq7) cw_X4_196 ⟨Nat.le_of_ble_eq_true rfl, Nat.le_of_ble_eq_true rfl⟩ (H_lt (isHb_H c2)) (H_row (isHb_H c2) _) rfl rfl hl.1.symm rfl (Nat.le_of_ble_eq_true rfl) dX4_play_40 ⟨Nat.zero_le _, Nat.zero_le _⟩) h (fun H locs h => ?_)
    cases hf
    exact sE_i B hr h dX4_play_43
  · rw [if_pos c6] at hf
    cases hf
    exact sE_thr (text := "the map and the keys of the history are too many") (ic := 150) B htab h hl.1.symm ["java/lang/RuntimeException", "java/lang/Exception"] (by decide +kernel) (by decide +kernel) hw452 hw13 (by decide +kernel) (by decide +kernel) at_X4_150_g at_X4_150_n at_X4_150_o dX4_play_27 dX4_play_30 dX4_play_31 dX4_play_33 dX4_play_36 (Nat.le_of_ble_eq_true rfl) (Nat.le_of_ble_eq_true rfl) (Nat.le_of_eq (Nat.zero_add _)) (Nat.le_of_eq (Nat.zero_add _)) (Nat.le_of_eq (Nat.zero_add _)) (Nat.le_of_eq (Nat.zero_add _))
set_option maxRecDepth 100000 in
theorem ok_X4_play {l : Launch} (hl0 : l.stackTraces = false) {D : va_G} {cy : Nat → ClassId} {ad : Nat → Nat} (hap : sAp ad) (X : sX) (σ : sM) (v1 : Int32) (v2 : Int32) {oo : String ⊕ Int32} {σ' : sM} (hf : f_X4_play v1 v2 σ = some (oo, σ')) : sMet l yX4_play (sWs yX4_play cX4_play 5 (some .int)) 7 199 (sC (oI oo)) (sS (oI oo)) D cy ad X σ [.ref (ad 0), .int v1, .int v2] (oI oo) X σ' := by
  refine sMet_of (by decide +kernel) (Nat.le_of_ble_eq_true rfl) hap hl0 ?_
  intro p e s m args below meth c ls B hr htab hl h
  exact k_X4_play_0 B hr htab _ _ _  hf _ _ _ h hl
set_option maxHeartbeats 4000000 in
set_option maxRecDepth 100000 in
theorem k_X4_playByTurns_83 {p : Program} {l : Launch} {e : Env} {s : State} {m : MethodId} {args : Array Value} {below : List Frame} {meth : Method} {c : Code} {D : va_G} {cy : Nat → ClassId} {ad : Nat → Nat} {X : sX} {r : Unit} {σ' : sM} (B : sB p l s m meth c args cX4_playByTurns 9 RX4 D cy ad) (hr : meth.sig.returnType = none) {K20 : Nat → Nat → Int32 → Nat → Int32 → Int32 → Int32 → Int32 → sM → Option (Unit × sM)} (hK20 : ∀ (t0 : Nat) (t1 : Nat) (v2 : Int32) (t3 : Nat) (v4 : Int32) (v5 : Int32) (v6 : Int32) (v7 : Int32) (σ : sM) (ft0 : isH t0) (ft1 : isH t1) (ft3 : isT t3), K20 t0 t1 v2 t3 v4 v5 v6 v7 σ = some (r, σ') → sGo p l e { frames := 5, cells := 0, slots := 0, locals := 198 } s m args below meth c D cy ad X 9 (sQ below args s 0 0 D cy ad (.inr none) X σ') σ 20 [(0, .ref (ad t0)), (1, .ref (ad t1)), (2, .int v2), (3, .ref (ad t3)), (4, .int v4), (5, .int v5), (6, .int v6), (7, .int v7)] []) (t0 : Nat) (t1 : Nat) (v2 : Int32) (t3 : Nat) (v4 : Int32) (v5 : Int32) (v6 : Int32) (v7 : Int32) (σ : sM) (ft0 : isH t0) (ft1 : isH t1) (ft3 : isT t3) (hf : b_X4_playByTurns_83 K20 t0 t1 v2 t3 v4 v5 v6 v7 σ = some (r, σ')) : sGo p l e { frames := 5, cells := 0, slots := 0, locals := 198 } s m args below meth c D cy ad X 9 (sQ below args s 0 0 D cy ad (.inr none) X σ') σ 83 [(0, .ref (ad t0)), (1, .ref (ad t1)), (2, .int v2), (3, .ref (ad t3)), (4, .int v4), (5, .int v5), (6, .int v6), (7, .int v7)] [] := by
  replace hf : (if (σ t0 0) ≤ v4 then (K20 t0 t1 v2 t3 v4 v5 v6 (v7 + 1) σ) else (wthn (f_X1_doStep t0 v4 t3 σ) (fun _ σ9 => K20 t0 t1 v2 t3 (v4 + 1) v5 v6 (v7 + 1) σ9))) = some (r, σ') := hf
  intro H locs ls h hl
  have hx := B.1
  have hb := B.2.1
  refine lv_iload hx hb dX4_playByTurns_83 (lv_at hl 4 rfl) ?_
  refine lv_aload_n hx hb dX4_playByTurns_85 rfl (lv_at hl 0 rfl) ?_
  refine g_get B h t0 (H_lt ft0) (C := RX1) (T := TX1) (N := 4) (H_row ft0 _) rfl hin_X1 0 (by decide) hw72 rfl rfl dX4_playByTurns_86 ?_
  refine lv_icmp_ge (tgt := 102) hx hb dX4_playByTurns_89 (by decide) (fun c8 => ?_) (fun c8 => ?_)
  · rw [if_pos c8] at hf
    refine lv_iinc (v := (v7 + 1)) (lv' := [(7, .int (v7 + 1)), (0, .ref (ad t0)), (1, .ref (ad t1)), (2, .int v2), (3, .ref (ad t3)), (4, .int v4), (5, .int v5), (6, .int v6)]) hx hb dX4_playByTurns_102 hl (k := 7) rfl rfl (by decide) rfl (fun ls hl => ?_)
    refine lv_goto (tgt := 20) hx hb dX4_playByTurns_105 (by decide) ?_
    exact hK20 _ _ _ _ _ _ _ _ _ ft0 ft1 ft3 hf _ _ _ h (lv_sub hl [1, 2, 3, 4, 5, 6, 7, 0] rfl)
  · rw [if_neg c8] at hf
    refine lv_aload_n hx hb dX4_playByTurns_92 rfl (lv_at hl 0 rfl) ?_
    refine lv_iload hx hb dX4_playByTurns_93 (lv_at hl 4 rfl) ?_
    refine lv_aload_n hx hb dX4_playByTurns_95 rfl (lv_at hl 3 rfl) ?_
    obtain ⟨vr9, σ9, hq9, hf⟩ := wthn_some hf
    refine sRetC0 (g_runV (k := t0) (T := TX1) (N := 4) B h (ok_X1_doStep B.2.2.2.2.2.2.2.2 B.2.2.2.2.2.2.1 _ _ ft0 v4 ft3 hq9) cw_X4_302 ⟨Nat.le_of_ble_eq_true rfl, Nat.le_of_ble_eq_true rfl⟩ (H_lt ft0) (H_row ft0 _) rfl rfl hl.1.symm rfl (Nat.le_of_ble_eq_true rfl) dX4_playByTurns_96 ⟨Nat.zero_le _, Nat.zero_le _⟩) h (fun H locs h => ?_)
    refine lv_iinc (v := (v4 + 1)) (lv' := [(4, .int (v4 + 1)), (0, .ref (ad t0)), (1, .ref (ad t1)), (2, .int v2), (3, .ref (ad t3)), (5, .int v5), (6, .int v6), (7, .int v7)]) hx hb dX4_playByTurns_99 hl (k := 4) rfl rfl (by decide) rfl (fun ls hl => ?_)
    refine lv_iinc (v := (v7 + 1)) (lv' := [(7, .int (v7 + 1)), (4, .int (v4 + 1)), (0, .ref (ad t0)), (1, .ref (ad t1)), (2, .int v2), (3, .ref (ad t3)), (5, .int v5), (6, .int v6)]) hx hb dX4_playByTurns_102 hl (k := 7) rfl rfl (by decide) rfl (fun ls hl => ?_)
    refine lv_goto (tgt := 20) hx hb dX4_playByTurns_105 (by decide) ?_
    exact hK20 _ _ _ _ _ _ _ _ _ ft0 ft1 ft3 hf _ _ _ h (lv_sub hl [2, 3, 4, 5, 1, 6, 7, 0] rfl)
set_option maxHeartbeats 4000000 in
set_option maxRecDepth 100000 in
theorem k_X4_playByTurns_45 {p : Program} {l : Launch} {e : Env} {s : State} {m : MethodId} {args : Array Value} {below : List Frame} {meth : Method} {c : Code} {D : va_G} {cy : Nat → ClassId} {ad : Nat → Nat} {X : sX} {r : Unit} {σ' : sM} (B : sB p l s m meth c args cX4_playByTurns 9 RX4 D cy ad) (hr : meth.sig.returnType = none) {K20 : Nat → Nat → Int32 → Nat → Int32 → Int32 → Int32 → Int32 → sM → Option (Unit × sM)} (hK20 : ∀ (t0 : Nat) (t1 : Nat) (v2 : Int32) (t3 : Nat) (v4 : Int32) (v5 : Int32) (v6 : Int32) (v7 : Int32) (σ : sM) (ft0 : isH t0) (ft1 : isH t1) (ft3 : isT t3), K20 t0 t1 v2 t3 v4 v5 v6 v7 σ = some (r, σ') → sGo p l e { frames := 5, cells := 0, slots := 0, locals := 198 } s m args below meth c D cy ad X 9 (sQ below args s 0 0 D cy ad (.inr none) X σ') σ 20 [(0, .ref (ad t0)), (1, .ref (ad t1)), (2, .int v2), (3, .ref (ad t3)), (4, .int v4), (5, .int v5), (6, .int v6), (7, .int v7)] []) (t0 : Nat) (t1 : Nat) (v2 : Int32) (t3 : Nat) (v4 : Int32) (v5 : Int32) (v6 : Int32) (v7 : Int32) (vs0 : Int32) (σ : sM) (ft0 : isH t0) (ft1 : isH t1) (ft3 : isT t3) (hf : b_X4_playByTurns_45 K20 t0 t1 v2 t3 v4 v5 v6 v7 vs0 σ = some (r, σ')) : sGo p l e { frames := 5, cells := 0, slots := 0, locals := 198 } s m args below meth c D cy ad X 9 (sQ below args s 0 0 D cy ad (.inr none) X σ') σ 45 [(0, .ref (ad t0)), (1, .ref (ad t1)), (2, .int v2), (3, .ref (ad t3)), (4, .int v4), (5, .int v5), (6, .int v6), (7, .int v7)] [.int vs0] := by
  replace hf : (if (σ t1 0) ≤ v5 then (b_X4_playByTurns_83 K20 t0 t1 v2 t3 v4 v5 v6 v7 σ) else (if vs0 = 0 then (if v4 < (σ t0 0) then (b_X4_playByTurns_83 K20 t0 t1 v2 t3 v4 v5 v6 v7 σ) else (wthn (f_X1_doStep t1 v5 t3 σ) (fun _ σ7 => K20 t0 t1 v2 t3 v4 (v5 + 1) v6 (v7 + 1) σ7))) else (wthn (f_X1_doStep t1 v5 t3 σ) (fun _ σ5 => K20 t0 t1 v2 t3 v4 (v5 + 1) v6 (v7 + 1) σ5)))) = some (r, σ') := hf
  intro H locs ls h hl
  have hx := B.1
  have hb := B.2.1
  refine lv_istore (lv' := [(8, .int vs0), (0, .ref (ad t0)), (1, .ref (ad t1)), (2, .int v2), (3, .ref (ad t3)), (4, .int v4), (5, .int v5), (6, .int v6), (7, .int v7)]) hx hb dX4_playByTurns_45 hl (by decide) rfl (fun ls hl => ?_)
  refine lv_iload hx hb dX4_playByTurns_47 (lv_at hl 6 rfl) ?_
  refine lv_aload_n hx hb dX4_playByTurns_49 rfl (lv_at hl 2 rfl) ?_
  refine g_get B h t1 (H_lt ft1) (C := RX1) (T := TX1) (N := 4) (H_row ft1 _) rfl hin_X1 0 (by decide) hw72 rfl rfl dX4_playByTurns_50 ?_
  refine lv_icmp_ge (tgt := 83) hx hb dX4_playByTurns_53 (by decide) (fun c3 => ?_) (fun c3 => ?_)
  · rw [if_pos c3] at hf
    exact k_X4_playByTurns_83 B hr hK20 _ _ _ _ _ _ _ _ _ ft0 ft1 ft3 hf _ _ _ h (lv_sub hl [1, 2, 3, 4, 5, 6, 7, 8] rfl)
  · rw [if_neg c3] at hf
    refine lv_iload hx hb dX4_playByTurns_56 (lv_at hl 0 rfl) ?_
    refine lv_if_ne (tgt := 70) hx hb dX4_playByTurns_58 (by decide) (fun c4 => ?_) (fun c4 => ?_)
    · rw [if_neg c4] at hf
      refine lv_aload_n hx hb dX4_playByTurns_70 rfl (lv_at hl 2 rfl) ?_
      refine lv_iload hx hb dX4_playByTurns_71 (lv_at hl 6 rfl) ?_
      refine lv_aload_n hx hb dX4_playByTurns_73 rfl (lv_at hl 4 rfl) ?_
      obtain ⟨vr5, σ5, hq5, hf⟩ := wthn_some hf
      refine sRetC0 (g_runV (k := t1) (T := TX1) (N := 4) B h (ok_X1_doStep B.2.2.2.2.2.2.2.2 B.2.2.2.2.2.2.1 _ _ ft1 v5 ft3 hq5) cw_X4_302 ⟨Nat.le_of_ble_eq_true rfl, Nat.le_of_ble_eq_true rfl⟩ (H_lt ft1) (H_row ft1 _) rfl rfl hl.1.symm rfl (Nat.le_of_ble_eq_true rfl) dX4_playByTurns_74 ⟨Nat.zero_le _, Nat.zero_le _⟩) h (fun H locs h => ?_)
      refine lv_iinc (v := (v5 + 1)) (lv' := [(5, .int (v5 + 1)), (8, .int vs0), (0, .ref (ad t0)), (1, .ref (ad t1)), (2, .int v2), (3, .ref (ad t3)), (4, .int v4), (6, .int v6), (7, .int v7)]) hx hb dX4_playByTurns_77 hl (k := 6) rfl rfl (by decide) rfl (fun ls hl => ?_)
      refine lv_goto (tgt := 102) hx hb dX4_playByTurns_80 (by decide) ?_
      refine lv_iinc (v := (v7 + 1)) (lv' := [(7, .int (v7 + 1)), (5, .int (v5 + 1)), (8, .int vs0), (0, .ref (ad t0)), (1, .ref (ad t1)), (2, .int v2), (3, .ref (ad t3)), (4, .int v4), (6, .int v6)]) hx hb dX4_playByTurns_102 hl (k := 8) rfl rfl (by decide) rfl (fun ls hl => ?_)
      refine lv_goto (tgt := 20) hx hb dX4_playByTurns_105 (by decide) ?_
      exact hK20 _ _ _ _ _ _ _ _ _ ft0 ft1 ft3 hf _ _ _ h (lv_sub hl [3, 4, 5, 6, 7, 1, 8, 0] rfl)
    · rw [if_pos c4] at hf
      refine lv_iload hx hb dX4_playByTurns_61 (lv_at hl 5 rfl) ?_
      refine lv_aload_n hx hb dX4_playByTurns_63 rfl (lv_at hl 1 rfl) ?_
      refine g_get B h t0 (H_lt ft0) (C := RX1) (T := TX1) (N := 4) (H_row ft0 _) rfl hin_X1 0 (by decide) hw72 rfl rfl dX4_playByTurns_64 ?_
      refine lv_icmp_lt (tgt := 83) hx hb dX4_playByTurns_67 (by decide) (fun c6 => ?_) (fun c6 => ?_)
      · rw [if_pos c6] at hf
        exact k_X4_playByTurns_83 B hr hK20 _ _ _ _ _ _ _ _ _ ft0 ft1 ft3 hf _ _ _ h (lv_sub hl [1, 2, 3, 4, 5, 6, 7, 8] rfl)
      · rw [if_neg c6] at hf
        refine lv_aload_n hx hb dX4_playByTurns_70 rfl (lv_at hl 2 rfl) ?_
        refine lv_iload hx hb dX4_playByTurns_71 (lv_at hl 6 rfl) ?_
        refine lv_aload_n hx hb dX4_playByTurns_73 rfl (lv_at hl 4 rfl) ?_
        obtain ⟨vr7, σ7, hq7, hf⟩ := wthn_some hf
        refine sRetC0 (g_runV (k := t1) (T := TX1) (N := 4) B h (ok_X1_doStep B.2.2.2.2.2.2.2.2 B.2.2.2.2.2.2.1 _ _ ft1 v5 ft3 hq7) cw_X4_302 ⟨Nat.le_of_ble_eq_true rfl, Nat.le_of_ble_eq_true rfl⟩ (H_lt ft1) (H_row ft1 _) rfl rfl hl.1.symm rfl (Nat.le_of_ble_eq_true rfl) dX4_playByTurns_74 ⟨Nat.zero_le _, Nat.zero_le _⟩) h (fun H locs h => ?_)
        refine lv_iinc (v := (v5 + 1)) (lv' := [(5, .int (v5 + 1)), (8, .int vs0), (0, .ref (ad t0)), (1, .ref (ad t1)), (2, .int v2), (3, .ref (ad t3)), (4, .int v4), (6, .int v6), (7, .int v7)]) hx hb dX4_playByTurns_77 hl (k := 6) rfl rfl (by decide) rfl (fun ls hl => ?_)
        refine lv_goto (tgt := 102) hx hb dX4_playByTurns_80 (by decide) ?_
        refine lv_iinc (v := (v7 + 1)) (lv' := [(7, .int (v7 + 1)), (5, .int (v5 + 1)), (8, .int vs0), (0, .ref (ad t0)), (1, .ref (ad t1)), (2, .int v2), (3, .ref (ad t3)), (4, .int v4), (6, .int v6)]) hx hb dX4_playByTurns_102 hl (k := 8) rfl rfl (by decide) rfl (fun ls hl => ?_)
        refine lv_goto (tgt := 20) hx hb dX4_playByTurns_105 (by decide) ?_
        exact hK20 _ _ _ _ _ _ _ _ _ ft0 ft1 ft3 hf _ _ _ h (lv_sub hl [3, 4, 5, 6, 7, 1, 8, 0] rfl)
set_option maxHeartbeats 4000000 in
set_option maxRecDepth 100000 in
theorem k_X4_playByTurns_20 {p : Program} {l : Launch} {e : Env} {s : State} {m : MethodId} {args : Array Value} {below : List Frame} {meth : Method} {c : Code} {D : va_G} {cy : Nat → ClassId} {ad : Nat → Nat} {X : sX} {r : Unit} {σ' : sM} (B : sB p l s m meth c args cX4_playByTurns 9 RX4 D cy ad) (hr : meth.sig.returnType = none) : ∀ (n : Nat) (t0 : Nat) (t1 : Nat) (v2 : Int32) (t3 : Nat) (v4 : Int32) (v5 : Int32) (v6 : Int32) (v7 : Int32) (σ : sM) (ft0 : isH t0) (ft1 : isH t1) (ft3 : isT t3), b_X4_playByTurns_20 n t0 t1 v2 t3 v4 v5 v6 v7 σ = some (r, σ') → sGo p l e { frames := 5, cells := 0, slots := 0, locals := 198 } s m args below meth c D cy ad X 9 (sQ below args s 0 0 D cy ad (.inr none) X σ') σ 20 [(0, .ref (ad t0)), (1, .ref (ad t1)), (2, .int v2), (3, .ref (ad t3)), (4, .int v4), (5, .int v5), (6, .int v6), (7, .int v7)] [] := by
  intro n
  induction n with
  | zero =>
    intro t0 t1 v2 t3 v4 v5 v6 v7 σ ft0 ft1 ft3 hf
    exact nomatch (show none = some (r, σ') from hf)
  | succ n ih =>
    intro t0 t1 v2 t3 v4 v5 v6 v7 σ ft0 ft1 ft3 hf
    replace hf : (if v6 ≤ v7 then (some ((), σ)) else (if (((v2.toUInt32 >>> ((v7 &&& (31 : Int32)).toUInt32 &&& Int32.toUInt32 31)).toInt32) &&& (1 : Int32)) = (1 : Int32) then (b_X4_playByTurns_45 (b_X4_playByTurns_20 n) t0 t1 v2 t3 v4 v5 v6 v7 (1 : Int32) σ) else (b_X4_playByTurns_45 (b_X4_playByTurns_20 n) t0 t1 v2 t3 v4 v5 v6 v7 (0 : Int32) σ))) = some (r, σ') := hf
    intro H locs ls h hl
    have hx := B.1
    have hb := B.2.1
    refine lv_iload hx hb dX4_playByTurns_20 (lv_at hl 7 rfl) ?_
    refine lv_iload hx hb dX4_playByTurns_22 (lv_at hl 6 rfl) ?_
    refine lv_icmp_ge (tgt := 108) hx hb dX4_playByTurns_24 (by decide) (fun c1 => ?_) (fun c1 => ?_)
    · rw [if_pos c1] at hf
      cases hf
      exact sE_v B hr h dX4_playByTurns_108
    · rw [if_neg c1] at hf
      refine lv_iload_n hx hb dX4_playByTurns_27 rfl (lv_at hl 2 rfl) ?_
      refine lv_iload hx hb dX4_playByTurns_28 (lv_at hl 7 rfl) ?_
      refine lv_bipush (v := (31 : Int32)) hx hb dX4_playByTurns_30 (by decide) ?_
      refine lv_iand hx hb dX4_playByTurns_32 ?_
      refine lv_iushr (v := ((v2.toUInt32 >>> ((v7 &&& (31 : Int32)).toUInt32 &&& Int32.toUInt32 31)).toInt32)) hx hb dX4_playByTurns_33 rfl ?_
      refine lv_iconst (v := (1 : Int32)) hx hb dX4_playByTurns_34 (by decide) ?_
      refine lv_iand hx hb dX4_playByTurns_35 ?_
      refine lv_iconst (v := (1 : Int32)) hx hb dX4_playByTurns_36 (by decide) ?_
      refine lv_icmp_ne (tgt := 44) hx hb dX4_playByTurns_37 (by decide) (fun c2 => ?_) (fun c2 => ?_)
      · rw [if_neg c2] at hf
        refine lv_iconst (v := (0 : Int32)) hx hb dX4_playByTurns_44 (by decide) ?_
        exact k_X4_playByTurns_45 B hr ih _ _ _ _ _ _ _ _ _ _ ft0 ft1 ft3 hf _ _ _ h (lv_sub hl [0, 1, 2, 3, 4, 5, 6, 7] rfl)
      · rw [if_pos c2] at hf
        refine lv_iconst (v := (1 : Int32)) hx hb dX4_playByTurns_40 (by decide) ?_
        refine lv_goto (tgt := 45) hx hb dX4_playByTurns_41 (by decide) ?_
        exact k_X4_playByTurns_45 B hr ih _ _ _ _ _ _ _ _ _ _ ft0 ft1 ft3 hf _ _ _ h (lv_sub hl [0, 1, 2, 3, 4, 5, 6, 7] rfl)
set_option maxHeartbeats 4000000 in
set_option maxRecDepth 100000 in
theorem k_X4_playByTurns_0 {p : Program} {l : Launch} {e : Env} {s : State} {m : MethodId} {args : Array Value} {below : List Frame} {meth : Method} {c : Code} {D : va_G} {cy : Nat → ClassId} {ad : Nat → Nat} {X : sX} {r : Unit} {σ' : sM} (B : sB p l s m meth c args cX4_playByTurns 9 RX4 D cy ad) (hr : meth.sig.returnType = none) (t0 : Nat) (t1 : Nat) (v2 : Int32) (t3 : Nat) (σ : sM) (ft0 : isH t0) (ft1 : isH t1) (ft3 : isT t3) (hf : f_X4_playByTurns t0 t1 v2 t3 σ = some (r, σ')) : sGo p l e { frames := 5, cells := 0, slots := 0, locals := 198 } s m args below meth c D cy ad X 9 (sQ below args s 0 0 D cy ad (.inr none) X σ') σ 0 [(0, .ref (ad t0)), (1, .ref (ad t1)), (2, .int v2), (3, .ref (ad t3))] [] := by
  replace hf : (b_X4_playByTurns_20 FU t0 t1 v2 t3 (0 : Int32) (0 : Int32) ((σ t0 0) + (σ t1 0)) (0 : Int32) σ) = some (r, σ') := hf
  intro H locs ls h hl
  have hx := B.1
  have hb := B.2.1
  refine lv_iconst (v := (0 : Int32)) hx hb dX4_playByTurns_0 (by decide) ?_
  refine lv_istore (lv' := [(4, .int (0 : Int32)), (0, .ref (ad t0)), (1, .ref (ad t1)), (2, .int v2), (3, .ref (ad t3))]) hx hb dX4_playByTurns_1 hl (by decide) rfl (fun ls hl => ?_)
  refine lv_iconst (v := (0 : Int32)) hx hb dX4_playByTurns_3 (by decide) ?_
  refine lv_istore (lv' := [(5, .int (0 : Int32)), (4, .int (0 : Int32)), (0, .ref (ad t0)), (1, .ref (ad t1)), (2, .int v2), (3, .ref (ad t3))]) hx hb dX4_playByTurns_4 hl (by decide) rfl (fun ls hl => ?_)
  refine lv_aload_n hx hb dX4_playByTurns_6 rfl (lv_at hl 2 rfl) ?_
  refine g_get B h t0 (H_lt ft0) (C := RX1) (T := TX1) (N := 4) (H_row ft0 _) rfl hin_X1 0 (by decide) hw72 rfl rfl dX4_playByTurns_7 ?_
  refine lv_aload_n hx hb dX4_playByTurns_10 rfl (lv_at hl 3 rfl) ?_
  refine g_get B h t1 (H_lt ft1) (C := RX1) (T := TX1) (N := 4) (H_row ft1 _) rfl hin_X1 0 (by decide) hw72 rfl rfl dX4_playByTurns_11 ?_
  refine lv_iadd hx hb dX4_playByTurns_14 ?_
  refine lv_istore (lv' := [(6, .int ((σ t0 0) + (σ t1 0))), (5, .int (0 : Int32)), (4, .int (0 : Int32)), (0, .ref (ad t0)), (1, .ref (ad t1)), (2, .int v2), (3, .ref (ad t3))]) hx hb dX4_playByTurns_15 hl (by decide) rfl (fun ls hl => ?_)
  refine lv_iconst (v := (0 : Int32)) hx hb dX4_playByTurns_17 (by decide) ?_
  refine lv_istore (lv' := [(7, .int (0 : Int32)), (6, .int ((σ t0 0) + (σ t1 0))), (5, .int (0 : Int32)), (4, .int (0 : Int32)), (0, .ref (ad t0)), (1, .ref (ad t1)), (2, .int v2), (3, .ref (ad t3))]) hx hb dX4_playByTurns_18 hl (by decide) rfl (fun ls hl => ?_)
  exact k_X4_playByTurns_20 B hr  _ _ _ _ _ _ _ _ _ _ ft0 ft1 ft3 hf _ _ _ h (lv_sub hl [4, 5, 6, 7, 3, 2, 1, 0] rfl)
set_option maxRecDepth 100000 in
theorem ok_X4_playByTurns {l : Launch} (hl0 : l.stackTraces = false) {D : va_G} {cy : Nat → ClassId} {ad : Nat → Nat} (hap : sAp ad) (X : sX) (σ : sM) {t0 : Nat} (ft0 : isH t0) {t1 : Nat} (ft1 : isH t1) (v2 : Int32) {t3 : Nat} (ft3 : isT t3) {r : Unit} {σ' : sM} (hf : f_X4_playByTurns t0 t1 v2 t3 σ = some (r, σ')) : sMet l yX4_playByTurns (sWs yX4_playByTurns cX4_playByTurns 9 none) 5 198 0 0 D cy ad X σ [.ref (ad t0), .ref (ad t1), .int v2, .ref (ad t3)] (.inr none) X σ' := by
  refine sMet_of (by decide +kernel) (Nat.le_of_ble_eq_true rfl) hap hl0 ?_
  intro p e s m args below meth c ls B hr htab hl h
  exact k_X4_playByTurns_0 B hr _ _ _ _ _ ft0 ft1 ft3 hf _ _ _ h hl
set_option maxHeartbeats 4000000 in
set_option maxRecDepth 100000 in
theorem k_X4_playBoth_0 {p : Program} {l : Launch} {e : Env} {s : State} {m : MethodId} {args : Array Value} {below : List Frame} {meth : Method} {c : Code} {D : va_G} {cy : Nat → ClassId} {ad : Nat → Nat} {X : sX} {oo : String ⊕ Int32} {σ' : sM} (B : sB p l s m meth c args cX4_playBoth 8 RX4 D cy ad) (hr : meth.sig.returnType = (some .int)) (htab : ∀ x ∈ c.exceptionTable.toList, False) (v1 : Int32) (v2 : Int32) (v3 : Int32) (v4 : Int32) (σ : sM) (hf : f_X4_playBoth v1 v2 v3 v4 σ = some (oo, σ')) : sGo p l e { frames := 7, cells := (sC (oI oo)), slots := (sS (oI oo)), locals := 226 } s m args below meth c D cy ad X 8 (sQ below args s (sC (oI oo)) (sS (oI oo)) D cy ad (oI oo) X σ') σ 0 [(0, .ref (ad 0)), (1, .int v1), (2, .int v2), (3, .int v3), (4, .int v4)] [] := by
  replace hf : (thn (f_X4_historyAt v1 σ) (fun tr1 σ1 => chk (isHb tr1) (thn (f_X4_historyAt v2 σ1) (fun tr3 σ3 => chk (isHb tr3) (thn (f_X4_mapAt v4 σ3) (fun tr5 σ5 => chk (isTb tr5) (wthn (f_X0_hasRoom tr5 tr1 tr3 σ5) (fun vr7 σ7 => if vr7 = 0 then (some (.inl "java/lang/IllegalStateException", σ7)) else (wthn (f_X4_playByTurns tr1 tr3 v3 tr5 σ7) (fun _ σ9 => some (.inr (σ9 tr5 2), σ9))))))))))) = some (oo, σ') := hf
  intro H locs ls h hl
  have hx := B.1
  have hb := B.2.1
  refine lv_aload_n hx hb dX4_playBoth_0 rfl (lv_at hl 0 rfl) ?_
  refine lv_iload_n hx hb dX4_playBoth_1 rfl (lv_at hl 1 rfl) ?_
  rcases thn_cases hf with ⟨E1, σ1, hq1, ho⟩ | ⟨tr1, σ1, hq1, hf⟩
  · cases ho
    exact sThrC (g_runV (k := 0) (T := TX4) (N := 8) B h (ok_X4_historyAt B.2.2.2.2.2.2.2.2 B.2.2.2.2.2.2.1 _ _ v1 hq1) cw_X4_174 ⟨Nat.le_of_ble_eq_true rfl, Nat.le_of_ble_eq_true rfl⟩ (by decide) (S_row _) rfl rfl hl.1.symm rfl (Nat.le_of_ble_eq_true rfl) dX4_playBoth_2 ⟨Nat.le_of_eq (Nat.zero_add _), Nat.le_of_eq (Nat.zero_add _)⟩) h (fun H locs q ce h hc hv hcl => sE_out B htab h hc hv hcl (Nat.le_of_eq (Nat.zero_add _)) (Nat.le_of_eq (Nat.zero_add _)))
  refine sRetC1 (g_runV (k := 0) (T := TX4) (N := 8) B h (ok_X4_historyAt B.2.2.2.2.2.2.2.2 B.2.2.2.2.2.2.1 _ _ v1 hq1) cw_X4_174 ⟨Nat.le_of_ble_eq_true rfl, Nat.le_of_ble_eq_true rfl⟩ (by decide) (S_row _) rfl rfl hl.1.symm rfl (Nat.le_of_ble_eq_true rfl) dX4_playBoth_2 ⟨Nat.zero_le _, Nat.zero_le _⟩) h (fun H locs h => ?_)
  obtain ⟨c2, hf⟩ := chk_some hf
  refine lv_astore (lv' := [(5, .ref (ad tr1)), (0, .ref (ad 0)), (1, .int v1), (2, .int v2), (3, .int v3), (4, .int v4)]) hx hb dX4_playBoth_5 hl (by decide) rfl (fun ls hl => ?_)
  refine lv_aload_n hx hb dX4_playBoth_7 rfl (lv_at hl 1 rfl) ?_
  refine lv_iload_n hx hb dX4_playBoth_8 rfl (lv_at hl 3 rfl) ?_
  rcases thn_cases hf with ⟨E3, σ3, hq3, ho⟩ | ⟨tr3, σ3, hq3, hf⟩
  · cases ho
    exact sThrC (g_runV (k := 0) (T := TX4) (N := 8) B h (ok_X4_historyAt B.2.2.2.2.2.2.2.2 B.2.2.2.2.2.2.1 _ _ v2 hq3) cw_X4_174 ⟨Nat.le_of_ble_eq_true rfl, Nat.le_of_ble_eq_true rfl⟩ (by decide) (S_row _) rfl rfl hl.1.symm rfl (Nat.le_of_ble_eq_true rfl) dX4_playBoth_9 ⟨Nat.le_of_eq (Nat.zero_add _), Nat.le_of_eq (Nat.zero_add _)⟩) h (fun H locs q ce h hc hv hcl => sE_out B htab h hc hv hcl (Nat.le_of_eq (Nat.zero_add _)) (Nat.le_of_eq (Nat.zero_add _)))
  refine sRetC1 (g_runV (k := 0) (T := TX4) (N := 8) B h (ok_X4_historyAt B.2.2.2.2.2.2.2.2 B.2.2.2.2.2.2.1 _ _ v2 hq3) cw_X4_174 ⟨Nat.le_of_ble_eq_true rfl, Nat.le_of_ble_eq_true rfl⟩ (by decide) (S_row _) rfl rfl hl.1.symm rfl (Nat.le_of_ble_eq_true rfl) dX4_playBoth_9 ⟨Nat.zero_le _, Nat.zero_le _⟩) h (fun H locs h => ?_)
  obtain ⟨c4, hf⟩ := chk_some hf
  refine lv_astore (lv' := [(6, .ref (ad tr3)), (5, .ref (ad tr1)), (0, .ref (ad 0)), (1, .int v1), (2, .int v2), (3, .int v3), (4, .int v4)]) hx hb dX4_playBoth_12 hl (by decide) rfl (fun ls hl => ?_)
  refine lv_aload_n hx hb dX4_playBoth_14 rfl (lv_at hl 2 rfl) ?_
  refine lv_iload hx hb dX4_playBoth_15 (lv_at hl 6 rfl) ?_
  rcases thn_cases hf with ⟨E5, σ5, hq5, ho⟩ | ⟨tr5, σ5, hq5, hf⟩
  · cases ho
    exact sThrC (g_runV (k := 0) (T := TX4) (N := 8) B h (ok_X4_mapAt B.2.2.2.2.2.2.2.2 B.2.2.2.2.2.2.1 _ _ v4 hq5) cw_X4_41 ⟨Nat.le_of_ble_eq_true rfl, Nat.le_of_ble_eq_true rfl⟩ (by decide) (S_row _) rfl rfl hl.1.symm rfl (Nat.le_of_ble_eq_true rfl) dX4_playBoth_17 ⟨Nat.le_of_eq (Nat.zero_add _), Nat.le_of_eq (Nat.zero_add _)⟩) h (fun H locs q ce h hc hv hcl => sE_out B htab h hc hv hcl (Nat.le_of_eq (Nat.zero_add _)) (Nat.le_of_eq (Nat.zero_add _)))
  refine sRetC1 (g_runV (k := 0) (T := TX4) (N := 8) B h (ok_X4_mapAt B.2.2.2.2.2.2.2.2 B.2.2.2.2.2.2.1 _ _ v4 hq5) cw_X4_41 ⟨Nat.le_of_ble_eq_true rfl, Nat.le_of_ble_eq_true rfl⟩ (by decide) (S_row _) rfl rfl hl.1.symm rfl (Nat.le_of_ble_eq_true rfl) dX4_playBoth_17 ⟨Nat.zero_le _, Nat.zero_le _⟩) h (fun H locs h => ?_)
  obtain ⟨c6, hf⟩ := chk_some hf
  refine lv_astore (lv' := [(7, .ref (ad tr5)), (6, .ref (ad tr3)), (5, .ref (ad tr1)), (0, .ref (ad 0)), (1, .int v1), (2, .int v2), (3, .int v3), (4, .int v4)]) hx hb dX4_playBoth_20 hl (by decide) rfl (fun ls hl => ?_)
  refine lv_aload_n hx hb dX4_playBoth_22 rfl (lv_at hl 3 rfl) ?_
  refine g_get B h 0 (by decide) (C := RX4) (T := TX4) (N := 8) (S_row _) rfl hin_X4 3 (by decide) hw130 rfl rfl dX4_playBoth_23 ?_
  refine lv_aload hx hb dX4_playBoth_26 (lv_at hl 0 rfl) ?_
  refine lv_aload hx hb dX4_playBoth_28 (lv_at hl 2 rfl) ?_
  refine lv_aload hx hb dX4_playBoth_30 (lv_at hl 1 rfl) ?_
  obtain ⟨vr7, σ7, hq7, hf⟩ := wthn_some hf
  refine sRetC1 (g_runV (k := 4) (T := TX0) (N := 4) B h (ok_X0_hasRoom B.2.2.2.2.2.2.2.2 B.2.2.2.2.2.2.1 _ _ (isTb_T c6) (isHb_H c2) (isHb_H c4) hq7) cw_X4_190 ⟨Nat.le_of_ble_eq_true rfl, Nat.le_of_ble_eq_true rfl⟩ (by decide) (B_row _) rfl rfl hl.1.symm rfl (Nat.le_of_ble_eq_true rfl) dX4_playBoth_32 ⟨Nat.zero_le _, Nat.zero_le _⟩) h (fun H locs h => ?_)
  refine lv_if_ne (tgt := 48) hx hb dX4_playBoth_35 (by decide) (fun c8 => ?_) (fun c8 => ?_)
  · rw [if_neg c8] at hf
    refine lv_aload hx hb dX4_playBoth_48 (lv_at hl 2 rfl) ?_
    refine lv_aload hx hb dX4_playBoth_50 (lv_at hl 1 rfl) ?_
    refine lv_iload_n hx hb dX4_playBoth_52 rfl (lv_at hl 6 rfl) ?_
    refine lv_aload hx hb dX4_playBoth_53 (lv_at hl 0 rfl) ?_
    obtain ⟨vr9, σ9, hq9, hf⟩ := wthn_some hf
    refine sRetC0 (g_runS B h (ok_X4_playByTurns B.2.2.2.2.2.2.2.2 B.2.2.2.2.2.2.1 _ _ (isHb_H c2) (isHb_H c4) v3 (isTb_T c6) hq9) cw_X4_201 ⟨Nat.le_of_ble_eq_true rfl, Nat.le_of_ble_eq_true rfl⟩ rfl hl.1.symm rfl (Nat.le_of_ble_eq_true rfl) dX4_playBoth_55 ⟨Nat.zero_le _, Nat.zero_le _⟩) h (fun H locs h => ?_)
    refine lv_aload hx hb dX4_playBoth_58 (lv_at hl 0 rfl) ?_
    refine g_get B h tr5 (T_lt (isTb_T c6)) (C := RX2) (T := TX2) (N := 3) (T_row (isTb_T c6) _) rfl hin_X2 2 (by decide) hw53 rfl rfl dX4_playBoth_60 ?_
    cases hf
    exact sE_i B hr h dX4_playBoth_63
  · rw [if_pos c8] at hf
    cases hf
    exact sE_thr (text := "the map and the keys of both are too many") (ic := 150) B htab h hl.1.symm ["java/lang/RuntimeException", "java/lang/Exception"] (by decide +kernel) (by decide +kernel) hw452 hw13 (by decide +kernel) (by decide +kernel) at_X4_150_g at_X4_150_n at_X4_150_o dX4_playBoth_38 dX4_playBoth_41 dX4_playBoth_42 dX4_playBoth_44 dX4_playBoth_47 (Nat.le_of_ble_eq_true rfl) (Nat.le_of_ble_eq_true rfl) (Nat.le_of_eq (Nat.zero_add _)) (Nat.le_of_eq (Nat.zero_add _)) (Nat.le_of_eq (Nat.zero_add _)) (Nat.le_of_eq (Nat.zero_add _))
set_option maxRecDepth 100000 in
theorem ok_X4_playBoth {l : Launch} (hl0 : l.stackTraces = false) {D : va_G} {cy : Nat → ClassId} {ad : Nat → Nat} (hap : sAp ad) (X : sX) (σ : sM) (v1 : Int32) (v2 : Int32) (v3 : Int32) (v4 : Int32) {oo : String ⊕ Int32} {σ' : sM} (hf : f_X4_playBoth v1 v2 v3 v4 σ = some (oo, σ')) : sMet l yX4_playBoth (sWs yX4_playBoth cX4_playBoth 8 (some .int)) 7 226 (sC (oI oo)) (sS (oI oo)) D cy ad X σ [.ref (ad 0), .int v1, .int v2, .int v3, .int v4] (oI oo) X σ' := by
  refine sMet_of (by decide +kernel) (Nat.le_of_ble_eq_true rfl) hap hl0 ?_
  intro p e s m args below meth c ls B hr htab hl h
  exact k_X4_playBoth_0 B hr htab _ _ _ _ _  hf _ _ _ h hl
set_option maxHeartbeats 4000000 in
set_option maxRecDepth 100000 in
theorem k_X4_poll_0 {p : Program} {l : Launch} {e : Env} {s : State} {m : MethodId} {args : Array Value} {below : List Frame} {meth : Method} {c : Code} {D : va_G} {cy : Nat → ClassId} {ad : Nat → Nat} {X : sX} {oo : String ⊕ Int32} {σ' : sM} (B : sB p l s m meth c args cX4_poll 4 RX4 D cy ad) (hr : meth.sig.returnType = (some .int)) (htab : ∀ x ∈ c.exceptionTable.toList, False) (v1 : Int32) (v2 : Int32) (σ : sM) (hf : f_X4_poll v1 v2 σ = some (oo, σ')) : sGo p l e { frames := 7, cells := (sC (oI oo)), slots := (sS (oI oo)), locals := 153 } s m args below meth c D cy ad X 4 (sQ below args s (sC (oI oo)) (sS (oI oo)) D cy ad (oI oo) X σ') σ 0 [(0, .ref (ad 0)), (1, .int v1), (2, .int v2)] [] := by
  replace hf : (thn (f_X4_mapAt v1 σ) (fun tr1 σ1 => chk (isTb tr1) (thn (f_X4_endPlace (0 : Int32) (σ1 tr1 2) v2 σ1) (fun vr3 σ3 => wthn (f_X4_pollAt tr1 vr3 σ3) (fun vr4 σ4 => some (.inr vr4, σ4)))))) = some (oo, σ') := hf
  intro H locs ls h hl
  have hx := B.1
  have hb := B.2.1
  refine lv_aload_n hx hb dX4_poll_0 rfl (lv_at hl 0 rfl) ?_
  refine lv_iload_n hx hb dX4_poll_1 rfl (lv_at hl 1 rfl) ?_
  rcases thn_cases hf with ⟨E1, σ1, hq1, ho⟩ | ⟨tr1, σ1, hq1, hf⟩
  · cases ho
    exact sThrC (g_runV (k := 0) (T := TX4) (N := 8) B h (ok_X4_mapAt B.2.2.2.2.2.2.2.2 B.2.2.2.2.2.2.1 _ _ v1 hq1) cw_X4_41 ⟨Nat.le_of_ble_eq_true rfl, Nat.le_of_ble_eq_true rfl⟩ (by decide) (S_row _) rfl rfl hl.1.symm rfl (Nat.le_of_ble_eq_true rfl) dX4_poll_2 ⟨Nat.le_of_eq (Nat.zero_add _), Nat.le_of_eq (Nat.zero_add _)⟩) h (fun H locs q ce h hc hv hcl => sE_out B htab h hc hv hcl (Nat.le_of_eq (Nat.zero_add _)) (Nat.le_of_eq (Nat.zero_add _)))
  refine sRetC1 (g_runV (k := 0) (T := TX4) (N := 8) B h (ok_X4_mapAt B.2.2.2.2.2.2.2.2 B.2.2.2.2.2.2.1 _ _ v1 hq1) cw_X4_41 ⟨Nat.le_of_ble_eq_true rfl, Nat.le_of_ble_eq_true rfl⟩ (by decide) (S_row _) rfl rfl hl.1.symm rfl (Nat.le_of_ble_eq_true rfl) dX4_poll_2 ⟨Nat.zero_le _, Nat.zero_le _⟩) h (fun H locs h => ?_)
  obtain ⟨c2, hf⟩ := chk_some hf
  refine lv_astore_n (lv' := [(3, .ref (ad tr1)), (0, .ref (ad 0)), (1, .int v1), (2, .int v2)]) hx hb dX4_poll_5 rfl hl (by decide) rfl (fun ls hl => ?_)
  refine lv_aload_n hx hb dX4_poll_6 rfl (lv_at hl 1 rfl) ?_
  refine lv_aload_n hx hb dX4_poll_7 rfl (lv_at hl 0 rfl) ?_
  refine lv_iconst (v := (0 : Int32)) hx hb dX4_poll_8 (by decide) ?_
  refine lv_aload_n hx hb dX4_poll_9 rfl (lv_at hl 0 rfl) ?_
  refine g_get B h tr1 (T_lt (isTb_T c2)) (C := RX2) (T := TX2) (N := 3) (T_row (isTb_T c2) _) rfl hin_X2 2 (by decide) hw53 rfl rfl dX4_poll_10 ?_
  refine lv_iload_n hx hb dX4_poll_13 rfl (lv_at hl 3 rfl) ?_
  rcases thn_cases hf with ⟨E3, σ3, hq3, ho⟩ | ⟨vr3, σ3, hq3, hf⟩
  · cases ho
    exact sThrC (g_runS B h (ok_X4_endPlace B.2.2.2.2.2.2.2.2 B.2.2.2.2.2.2.1 _ _ (0 : Int32) (σ1 tr1 2) v2 hq3) cw_X4_89 ⟨Nat.le_of_ble_eq_true rfl, Nat.le_of_ble_eq_true rfl⟩ rfl hl.1.symm rfl (Nat.le_of_ble_eq_true rfl) dX4_poll_14 ⟨Nat.le_of_eq (Nat.zero_add _), Nat.le_of_eq (Nat.zero_add _)⟩) h (fun H locs q ce h hc hv hcl => sE_out B htab h hc hv hcl (Nat.le_of_eq (Nat.zero_add _)) (Nat.le_of_eq (Nat.zero_add _)))
  refine sRetC1 (g_runS B h (ok_X4_endPlace B.2.2.2.2.2.2.2.2 B.2.2.2.2.2.2.1 _ _ (0 : Int32) (σ1 tr1 2) v2 hq3) cw_X4_89 ⟨Nat.le_of_ble_eq_true rfl, Nat.le_of_ble_eq_true rfl⟩ rfl hl.1.symm rfl (Nat.le_of_ble_eq_true rfl) dX4_poll_14 ⟨Nat.zero_le _, Nat.zero_le _⟩) h (fun H locs h => ?_)
  obtain ⟨vr4, σ4, hq4, hf⟩ := wthn_some hf
  refine sRetC1 (g_runV (k := 0) (T := TX4) (N := 8) B h (ok_X4_pollAt B.2.2.2.2.2.2.2.2 B.2.2.2.2.2.2.1 _ _ (isTb_T c2) vr3 hq4) cw_X4_93 ⟨Nat.le_of_ble_eq_true rfl, Nat.le_of_ble_eq_true rfl⟩ (by decide) (S_row _) rfl rfl hl.1.symm rfl (Nat.le_of_ble_eq_true rfl) dX4_poll_17 ⟨Nat.zero_le _, Nat.zero_le _⟩) h (fun H locs h => ?_)
  cases hf
  exact sE_i B hr h dX4_poll_20
set_option maxRecDepth 100000 in
theorem ok_X4_poll {l : Launch} (hl0 : l.stackTraces = false) {D : va_G} {cy : Nat → ClassId} {ad : Nat → Nat} (hap : sAp ad) (X : sX) (σ : sM) (v1 : Int32) (v2 : Int32) {oo : String ⊕ Int32} {σ' : sM} (hf : f_X4_poll v1 v2 σ = some (oo, σ')) : sMet l yX4_poll (sWs yX4_poll cX4_poll 4 (some .int)) 7 153 (sC (oI oo)) (sS (oI oo)) D cy ad X σ [.ref (ad 0), .int v1, .int v2] (oI oo) X σ' := by
  refine sMet_of (by decide +kernel) (Nat.le_of_ble_eq_true rfl) hap hl0 ?_
  intro p e s m args below meth c ls B hr htab hl h
  exact k_X4_poll_0 B hr htab _ _ _  hf _ _ _ h hl
set_option maxHeartbeats 4000000 in
set_option maxRecDepth 100000 in
theorem k_X4_polled_0 {p : Program} {l : Launch} {e : Env} {s : State} {m : MethodId} {args : Array Value} {below : List Frame} {meth : Method} {c : Code} {D : va_G} {cy : Nat → ClassId} {ad : Nat → Nat} {X : sX} {oo : String ⊕ Int32} {σ' : sM} (B : sB p l s m meth c args cX4_polled 1 RX4 D cy ad) (hr : meth.sig.returnType = (some .int)) (htab : ∀ x ∈ c.exceptionTable.toList, False) (σ : sM) (hf : f_X4_polled σ = some (oo, σ')) : sGo p l e { frames := 6, cells := (sC (oI oo)), slots := (sS (oI oo)), locals := 100 } s m args below meth c D cy ad X 1 (sQ below args s (sC (oI oo)) (sS (oI oo)) D cy ad (oI oo) X σ') σ 0 [(0, .ref (ad 0))] [] := by
  replace hf : (if (σ 0 6) = 0 then (some (.inl "java/util/NoSuchElementException", σ)) else (some (.inr (σ 0 7), σ))) = some (oo, σ') := hf
  intro H locs ls h hl
  have hx := B.1
  have hb := B.2.1
  refine lv_aload_n hx hb dX4_polled_0 rfl (lv_at hl 0 rfl) ?_
  refine g_get B h 0 (by decide) (C := RX4) (T := TX4) (N := 8) (S_row _) rfl hin_X4 6 (by decide) hw133 rfl rfl dX4_polled_1 ?_
  refine lv_if_ne (tgt := 17) hx hb dX4_polled_4 (by decide) (fun c1 => ?_) (fun c1 => ?_)
  · rw [if_neg c1] at hf
    refine lv_aload_n hx hb dX4_polled_17 rfl (lv_at hl 0 rfl) ?_
    refine g_get B h 0 (by decide) (C := RX4) (T := TX4) (N := 8) (S_row _) rfl hin_X4 7 (by decide) hw134 rfl rfl dX4_polled_18 ?_
    cases hf
    exact sE_i B hr h dX4_polled_21
  · rw [if_pos c1] at hf
    cases hf
    exact sE_thrX (text := "no entry was polled") (ic := 61) (ix := 13) (rx := nseeRx) nsee0 nsee1 nsee2 nsee5 B htab h hl.1.symm ["java/lang/RuntimeException", "java/lang/Exception"] (by decide +kernel) (by decide +kernel) hw477 hw15 (by decide +kernel) (by decide +kernel) at_X4_61_g at_X4_61_n at_X4_61_o dX4_polled_7 dX4_polled_10 (Or.inl ⟨dX4_polled_11, rfl⟩) dX4_polled_13 dX4_polled_16 (Nat.le_of_ble_eq_true rfl) (Nat.le_of_ble_eq_true rfl) (Nat.le_of_eq (Nat.zero_add _)) (Nat.le_of_eq (Nat.zero_add _)) (Nat.le_of_eq (Nat.zero_add _)) (Nat.le_of_eq (Nat.zero_add _))
set_option maxRecDepth 100000 in
theorem ok_X4_polled {l : Launch} (hl0 : l.stackTraces = false) {D : va_G} {cy : Nat → ClassId} {ad : Nat → Nat} (hap : sAp ad) (X : sX) (σ : sM) {oo : String ⊕ Int32} {σ' : sM} (hf : f_X4_polled σ = some (oo, σ')) : sMet l yX4_polled (sWs yX4_polled cX4_polled 1 (some .int)) 6 100 (sC (oI oo)) (sS (oI oo)) D cy ad X σ [.ref (ad 0)] (oI oo) X σ' := by
  refine sMet_of (by decide +kernel) (Nat.le_of_ble_eq_true rfl) hap hl0 ?_
  intro p e s m args below meth c ls B hr htab hl h
  exact k_X4_polled_0 B hr htab  _  hf _ _ _ h hl
set_option maxHeartbeats 4000000 in
set_option maxRecDepth 100000 in
theorem k_X4_putWithin_0 {p : Program} {l : Launch} {e : Env} {s : State} {m : MethodId} {args : Array Value} {below : List Frame} {meth : Method} {c : Code} {D : va_G} {cy : Nat → ClassId} {ad : Nat → Nat} {X : sX} {oo : String ⊕ Unit} {σ' : sM} (B : sB p l s m meth c args cX4_putWithin 3 RX4 D cy ad) (hr : meth.sig.returnType = none) (htab : ∀ x ∈ c.exceptionTable.toList, False) (t0 : Nat) (v1 : Int32) (v2 : Int32) (σ : sM) (ft0 : isT t0) (hf : f_X4_putWithin t0 v1 v2 σ = some (oo, σ')) : sGo p l e { frames := 6, cells := (sC (oV oo)), slots := (sS (oV oo)), locals := 132 } s m args below meth c D cy ad X 3 (sQ below args s (sC (oV oo)) (sS (oV oo)) D cy ad (oV oo) X σ') σ 0 [(0, .ref (ad t0)), (1, .int v1), (2, .int v2)] [] := by
  replace hf : (if (σ t0 2) < (60 : Int32) then (wthn (f_X2_set t0 v1 v2 σ) (fun vr2 σ2 => some (.inr (), σ2))) else (rthn (f_X2_placeOf t0 v1 σ) (fun vr3 => if 0 ≤ vr3 then (wthn (f_X2_set t0 v1 v2 σ) (fun vr5 σ5 => some (.inr (), σ5))) else (some (.inl "java/lang/IllegalStateException", σ))))) = some (oo, σ') := hf
  intro H locs ls h hl
  have hx := B.1
  have hb := B.2.1
  refine lv_aload_n hx hb dX4_putWithin_0 rfl (lv_at hl 0 rfl) ?_
  refine g_get B h t0 (T_lt ft0) (C := RX2) (T := TX2) (N := 3) (T_row ft0 _) rfl hin_X2 2 (by decide) hw53 rfl rfl dX4_putWithin_1 ?_
  refine lv_bipush (v := (60 : Int32)) hx hb dX4_putWithin_4 (by decide) ?_
  refine lv_icmp_lt (tgt := 28) hx hb dX4_putWithin_6 (by decide) (fun c1 => ?_) (fun c1 => ?_)
  · rw [if_pos c1] at hf
    refine lv_aload_n hx hb dX4_putWithin_28 rfl (lv_at hl 0 rfl) ?_
    refine lv_iload_n hx hb dX4_putWithin_29 rfl (lv_at hl 1 rfl) ?_
    refine lv_iload_n hx hb dX4_putWithin_30 rfl (lv_at hl 2 rfl) ?_
    obtain ⟨vr2, σ2, hq2, hf⟩ := wthn_some hf
    refine sRetC1 (g_runV (k := t0) (T := TX2) (N := 3) B h (ok_X2_set B.2.2.2.2.2.2.2.2 B.2.2.2.2.2.2.1 _ _ ft0 v1 v2 hq2) cw_X4_298 ⟨Nat.le_of_ble_eq_true rfl, Nat.le_of_ble_eq_true rfl⟩ (T_lt ft0) (T_row ft0 _) rfl rfl hl.1.symm rfl (Nat.le_of_ble_eq_true rfl) dX4_putWithin_31 ⟨Nat.zero_le _, Nat.zero_le _⟩) h (fun H locs h => ?_)
    refine lv_pop hx hb dX4_putWithin_34 rfl ?_
    cases hf
    exact sE_v B hr h dX4_putWithin_35
  · rw [if_neg c1] at hf
    refine lv_aload_n hx hb dX4_putWithin_9 rfl (lv_at hl 0 rfl) ?_
    refine lv_iload_n hx hb dX4_putWithin_10 rfl (lv_at hl 1 rfl) ?_
    obtain ⟨vr3, hq3, hf⟩ := rthn_some hf
    refine sRetC1 (g_runV (k := t0) (T := TX2) (N := 3) B h (ok_X2_placeOf B.2.2.2.2.2.2.2.2 B.2.2.2.2.2.2.1 _ _ ft0 v1 hq3) cw_X4_53 ⟨Nat.le_of_ble_eq_true rfl, Nat.le_of_ble_eq_true rfl⟩ (T_lt ft0) (T_row ft0 _) rfl rfl hl.1.symm rfl (Nat.le_of_ble_eq_true rfl) dX4_putWithin_11 ⟨Nat.zero_le _, Nat.zero_le _⟩) h (fun H locs h => ?_)
    refine lv_if_ge (tgt := 28) hx hb dX4_putWithin_14 (by decide) (fun c4 => ?_) (fun c4 => ?_)
    · rw [if_pos c4] at hf
      refine lv_aload_n hx hb dX4_putWithin_28 rfl (lv_at hl 0 rfl) ?_
      refine lv_iload_n hx hb dX4_putWithin_29 rfl (lv_at hl 1 rfl) ?_
      refine lv_iload_n hx hb dX4_putWithin_30 rfl (lv_at hl 2 rfl) ?_
      obtain ⟨vr5, σ5, hq5, hf⟩ := wthn_some hf
      refine sRetC1 (g_runV (k := t0) (T := TX2) (N := 3) B h (ok_X2_set B.2.2.2.2.2.2.2.2 B.2.2.2.2.2.2.1 _ _ ft0 v1 v2 hq5) cw_X4_298 ⟨Nat.le_of_ble_eq_true rfl, Nat.le_of_ble_eq_true rfl⟩ (T_lt ft0) (T_row ft0 _) rfl rfl hl.1.symm rfl (Nat.le_of_ble_eq_true rfl) dX4_putWithin_31 ⟨Nat.zero_le _, Nat.zero_le _⟩) h (fun H locs h => ?_)
      refine lv_pop hx hb dX4_putWithin_34 rfl ?_
      cases hf
      exact sE_v B hr h dX4_putWithin_35
    · rw [if_neg c4] at hf
      cases hf
      exact sE_thrW (text := "the map is full") (ic := 150) B htab h hl.1.symm ["java/lang/RuntimeException", "java/lang/Exception"] (by decide +kernel) (by decide +kernel) hw452 hw13 (by decide +kernel) (by decide +kernel) at_X4_150_g at_X4_150_n at_X4_150_o dX4_putWithin_17 dX4_putWithin_20 dX4_putWithin_21 dX4_putWithin_24 dX4_putWithin_27 (Nat.le_of_ble_eq_true rfl) (Nat.le_of_ble_eq_true rfl) (Nat.le_of_eq (Nat.zero_add _)) (Nat.le_of_eq (Nat.zero_add _)) (Nat.le_of_eq (Nat.zero_add _)) (Nat.le_of_eq (Nat.zero_add _))
set_option maxRecDepth 100000 in
theorem ok_X4_putWithin {l : Launch} (hl0 : l.stackTraces = false) {D : va_G} {cy : Nat → ClassId} {ad : Nat → Nat} (hap : sAp ad) (X : sX) (σ : sM) {t0 : Nat} (ft0 : isT t0) (v1 : Int32) (v2 : Int32) {oo : String ⊕ Unit} {σ' : sM} (hf : f_X4_putWithin t0 v1 v2 σ = some (oo, σ')) : sMet l yX4_putWithin (sWs yX4_putWithin cX4_putWithin 3 none) 6 132 (sC (oV oo)) (sS (oV oo)) D cy ad X σ [.ref (ad t0), .int v1, .int v2] (oV oo) X σ' := by
  refine sMet_of (by decide +kernel) (Nat.le_of_ble_eq_true rfl) hap hl0 ?_
  intro p e s m args below meth c ls B hr htab hl h
  exact k_X4_putWithin_0 B hr htab _ _ _ _ ft0 hf _ _ _ h hl
set_option maxHeartbeats 4000000 in
set_option maxRecDepth 100000 in
theorem k_X4_put_0 {p : Program} {l : Launch} {e : Env} {s : State} {m : MethodId} {args : Array Value} {below : List Frame} {meth : Method} {c : Code} {D : va_G} {cy : Nat → ClassId} {ad : Nat → Nat} {X : sX} {oo : String ⊕ Int32} {σ' : sM} (B : sB p l s m meth c args cX4_put 5 RX4 D cy ad) (hr : meth.sig.returnType = (some .int)) (htab : ∀ x ∈ c.exceptionTable.toList, False) (v1 : Int32) (v2 : Int32) (v3 : Int32) (σ : sM) (hf : f_X4_put v1 v2 v3 σ = some (oo, σ')) : sGo p l e { frames := 7, cells := (sC (oI oo)), slots := (sS (oI oo)), locals := 154 } s m args below meth c D cy ad X 5 (sQ below args s (sC (oI oo)) (sS (oI oo)) D cy ad (oI oo) X σ') σ 0 [(0, .ref (ad 0)), (1, .int v1), (2, .int v2), (3, .int v3)] [] := by
  replace hf : (thn (f_X4_mapAt v1 σ) (fun tr1 σ1 => chk (isTb tr1) (thn (f_X4_putWithin tr1 v2 v3 σ1) (fun _ σ3 => some (.inr (σ3 tr1 2), σ3))))) = some (oo, σ') := hf
  intro H locs ls h hl
  have hx := B.1
  have hb := B.2.1
  refine lv_aload_n hx hb dX4_put_0 rfl (lv_at hl 0 rfl) ?_
  refine lv_iload_n hx hb dX4_put_1 rfl (lv_at hl 1 rfl) ?_
  rcases thn_cases hf with ⟨E1, σ1, hq1, ho⟩ | ⟨tr1, σ1, hq1, hf⟩
  · cases ho
    exact sThrC (g_runV (k := 0) (T := TX4) (N := 8) B h (ok_X4_mapAt B.2.2.2.2.2.2.2.2 B.2.2.2.2.2.2.1 _ _ v1 hq1) cw_X4_41 ⟨Nat.le_of_ble_eq_true rfl, Nat.le_of_ble_eq_true rfl⟩ (by decide) (S_row _) rfl rfl hl.1.symm rfl (Nat.le_of_ble_eq_true rfl) dX4_put_2 ⟨Nat.le_of_eq (Nat.zero_add _), Nat.le_of_eq (Nat.zero_add _)⟩) h (fun H locs q ce h hc hv hcl => sE_out B htab h hc hv hcl (Nat.le_of_eq (Nat.zero_add _)) (Nat.le_of_eq (Nat.zero_add _)))
  refine sRetC1 (g_runV (k := 0) (T := TX4) (N := 8) B h (ok_X4_mapAt B.2.2.2.2.2.2.2.2 B.2.2.2.2.2.2.1 _ _ v1 hq1) cw_X4_41 ⟨Nat.le_of_ble_eq_true rfl, Nat.le_of_ble_eq_true rfl⟩ (by decide) (S_row _) rfl rfl hl.1.symm rfl (Nat.le_of_ble_eq_true rfl) dX4_put_2 ⟨Nat.zero_le _, Nat.zero_le _⟩) h (fun H locs h => ?_)
  obtain ⟨c2, hf⟩ := chk_some hf
  refine lv_astore (lv' := [(4, .ref (ad tr1)), (0, .ref (ad 0)), (1, .int v1), (2, .int v2), (3, .int v3)]) hx hb dX4_put_5 hl (by decide) rfl (fun ls hl => ?_)
  refine lv_aload hx hb dX4_put_7 (lv_at hl 0 rfl) ?_
  refine lv_iload_n hx hb dX4_put_9 rfl (lv_at hl 3 rfl) ?_
  refine lv_iload_n hx hb dX4_put_10 rfl (lv_at hl 4 rfl) ?_
  rcases thn_cases hf with ⟨E3, σ3, hq3, ho⟩ | ⟨vr3, σ3, hq3, hf⟩
  · cases ho
    exact sThrC (g_runS B h (ok_X4_putWithin B.2.2.2.2.2.2.2.2 B.2.2.2.2.2.2.1 _ _ (isTb_T c2) v2 v3 hq3) cw_X4_45 ⟨Nat.le_of_ble_eq_true rfl, Nat.le_of_ble_eq_true rfl⟩ rfl hl.1.symm rfl (Nat.le_of_ble_eq_true rfl) dX4_put_11 ⟨Nat.le_of_eq (Nat.zero_add _), Nat.le_of_eq (Nat.zero_add _)⟩) h (fun H locs q ce h hc hv hcl => sE_out B htab h hc hv hcl (Nat.le_of_eq (Nat.zero_add _)) (Nat.le_of_eq (Nat.zero_add _)))
  refine sRetC0 (g_runS B h (ok_X4_putWithin B.2.2.2.2.2.2.2.2 B.2.2.2.2.2.2.1 _ _ (isTb_T c2) v2 v3 hq3) cw_X4_45 ⟨Nat.le_of_ble_eq_true rfl, Nat.le_of_ble_eq_true rfl⟩ rfl hl.1.symm rfl (Nat.le_of_ble_eq_true rfl) dX4_put_11 ⟨Nat.zero_le _, Nat.zero_le _⟩) h (fun H locs h => ?_)
  refine lv_aload hx hb dX4_put_14 (lv_at hl 0 rfl) ?_
  refine g_get B h tr1 (T_lt (isTb_T c2)) (C := RX2) (T := TX2) (N := 3) (T_row (isTb_T c2) _) rfl hin_X2 2 (by decide) hw53 rfl rfl dX4_put_16 ?_
  cases hf
  exact sE_i B hr h dX4_put_19
set_option maxRecDepth 100000 in
theorem ok_X4_put {l : Launch} (hl0 : l.stackTraces = false) {D : va_G} {cy : Nat → ClassId} {ad : Nat → Nat} (hap : sAp ad) (X : sX) (σ : sM) (v1 : Int32) (v2 : Int32) (v3 : Int32) {oo : String ⊕ Int32} {σ' : sM} (hf : f_X4_put v1 v2 v3 σ = some (oo, σ')) : sMet l yX4_put (sWs yX4_put cX4_put 5 (some .int)) 7 154 (sC (oI oo)) (sS (oI oo)) D cy ad X σ [.ref (ad 0), .int v1, .int v2, .int v3] (oI oo) X σ' := by
  refine sMet_of (by decide +kernel) (Nat.le_of_ble_eq_true rfl) hap hl0 ?_
  intro p e s m args below meth c ls B hr htab hl h
  exact k_X4_put_0 B hr htab _ _ _ _  hf _ _ _ h hl
set_option maxHeartbeats 4000000 in
set_option maxRecDepth 100000 in
theorem k_X4_remove_0 {p : Program} {l : Launch} {e : Env} {s : State} {m : MethodId} {args : Array Value} {below : List Frame} {meth : Method} {c : Code} {D : va_G} {cy : Nat → ClassId} {ad : Nat → Nat} {X : sX} {oo : String ⊕ Int32} {σ' : sM} (B : sB p l s m meth c args cX4_remove 4 RX4 D cy ad) (hr : meth.sig.returnType = (some .int)) (htab : ∀ x ∈ c.exceptionTable.toList, False) (v1 : Int32) (v2 : Int32) (σ : sM) (hf : f_X4_remove v1 v2 σ = some (oo, σ')) : sGo p l e { frames := 7, cells := (sC (oI oo)), slots := (sS (oI oo)), locals := 152 } s m args below meth c D cy ad X 4 (sQ below args s (sC (oI oo)) (sS (oI oo)) D cy ad (oI oo) X σ') σ 0 [(0, .ref (ad 0)), (1, .int v1), (2, .int v2)] [] := by
  replace hf : (thn (f_X4_mapAt v1 σ) (fun tr1 σ1 => chk (isTb tr1) (wthn (f_X2_drop tr1 v2 σ1) (fun vr3 σ3 => some (.inr (σ3 tr1 2), σ3))))) = some (oo, σ') := hf
  intro H locs ls h hl
  have hx := B.1
  have hb := B.2.1
  refine lv_aload_n hx hb dX4_remove_0 rfl (lv_at hl 0 rfl) ?_
  refine lv_iload_n hx hb dX4_remove_1 rfl (lv_at hl 1 rfl) ?_
  rcases thn_cases hf with ⟨E1, σ1, hq1, ho⟩ | ⟨tr1, σ1, hq1, hf⟩
  · cases ho
    exact sThrC (g_runV (k := 0) (T := TX4) (N := 8) B h (ok_X4_mapAt B.2.2.2.2.2.2.2.2 B.2.2.2.2.2.2.1 _ _ v1 hq1) cw_X4_41 ⟨Nat.le_of_ble_eq_true rfl, Nat.le_of_ble_eq_true rfl⟩ (by decide) (S_row _) rfl rfl hl.1.symm rfl (Nat.le_of_ble_eq_true rfl) dX4_remove_2 ⟨Nat.le_of_eq (Nat.zero_add _), Nat.le_of_eq (Nat.zero_add _)⟩) h (fun H locs q ce h hc hv hcl => sE_out B htab h hc hv hcl (Nat.le_of_eq (Nat.zero_add _)) (Nat.le_of_eq (Nat.zero_add _)))
  refine sRetC1 (g_runV (k := 0) (T := TX4) (N := 8) B h (ok_X4_mapAt B.2.2.2.2.2.2.2.2 B.2.2.2.2.2.2.1 _ _ v1 hq1) cw_X4_41 ⟨Nat.le_of_ble_eq_true rfl, Nat.le_of_ble_eq_true rfl⟩ (by decide) (S_row _) rfl rfl hl.1.symm rfl (Nat.le_of_ble_eq_true rfl) dX4_remove_2 ⟨Nat.zero_le _, Nat.zero_le _⟩) h (fun H locs h => ?_)
  obtain ⟨c2, hf⟩ := chk_some hf
  refine lv_astore_n (lv' := [(3, .ref (ad tr1)), (0, .ref (ad 0)), (1, .int v1), (2, .int v2)]) hx hb dX4_remove_5 rfl hl (by decide) rfl (fun ls hl => ?_)
  refine lv_aload_n hx hb dX4_remove_6 rfl (lv_at hl 0 rfl) ?_
  refine lv_iload_n hx hb dX4_remove_7 rfl (lv_at hl 3 rfl) ?_
  obtain ⟨vr3, σ3, hq3, hf⟩ := wthn_some hf
  refine sRetC1 (g_runV (k := tr1) (T := TX2) (N := 3) B h (ok_X2_drop B.2.2.2.2.2.2.2.2 B.2.2.2.2.2.2.1 _ _ (isTb_T c2) v2 hq3) cw_X4_67 ⟨Nat.le_of_ble_eq_true rfl, Nat.le_of_ble_eq_true rfl⟩ (T_lt (isTb_T c2)) (T_row (isTb_T c2) _) rfl rfl hl.1.symm rfl (Nat.le_of_ble_eq_true rfl) dX4_remove_8 ⟨Nat.zero_le _, Nat.zero_le _⟩) h (fun H locs h => ?_)
  refine lv_pop hx hb dX4_remove_11 rfl ?_
  refine lv_aload_n hx hb dX4_remove_12 rfl (lv_at hl 0 rfl) ?_
  refine g_get B h tr1 (T_lt (isTb_T c2)) (C := RX2) (T := TX2) (N := 3) (T_row (isTb_T c2) _) rfl hin_X2 2 (by decide) hw53 rfl rfl dX4_remove_13 ?_
  cases hf
  exact sE_i B hr h dX4_remove_16
set_option maxRecDepth 100000 in
theorem ok_X4_remove {l : Launch} (hl0 : l.stackTraces = false) {D : va_G} {cy : Nat → ClassId} {ad : Nat → Nat} (hap : sAp ad) (X : sX) (σ : sM) (v1 : Int32) (v2 : Int32) {oo : String ⊕ Int32} {σ' : sM} (hf : f_X4_remove v1 v2 σ = some (oo, σ')) : sMet l yX4_remove (sWs yX4_remove cX4_remove 4 (some .int)) 7 152 (sC (oI oo)) (sS (oI oo)) D cy ad X σ [.ref (ad 0), .int v1, .int v2] (oI oo) X σ' := by
  refine sMet_of (by decide +kernel) (Nat.le_of_ble_eq_true rfl) hap hl0 ?_
  intro p e s m args below meth c ls B hr htab hl h
  exact k_X4_remove_0 B hr htab _ _ _  hf _ _ _ h hl
set_option maxHeartbeats 4000000 in
set_option maxRecDepth 100000 in
theorem k_X4_size_0 {p : Program} {l : Launch} {e : Env} {s : State} {m : MethodId} {args : Array Value} {below : List Frame} {meth : Method} {c : Code} {D : va_G} {cy : Nat → ClassId} {ad : Nat → Nat} {X : sX} {oo : String ⊕ Int32} {σ' : sM} (B : sB p l s m meth c args cX4_size 2 RX4 D cy ad) (hr : meth.sig.returnType = (some .int)) (htab : ∀ x ∈ c.exceptionTable.toList, False) (v1 : Int32) (σ : sM) (hf : f_X4_size v1 σ = some (oo, σ')) : sGo p l e { frames := 7, cells := (sC (oI oo)), slots := (sS (oI oo)), locals := 121 } s m args below meth c D cy ad X 2 (sQ below args s (sC (oI oo)) (sS (oI oo)) D cy ad (oI oo) X σ') σ 0 [(0, .ref (ad 0)), (1, .int v1)] [] := by
  replace hf : (thn (f_X4_mapAt v1 σ) (fun tr1 σ1 => chk (isTb tr1) (some (.inr (σ1 tr1 2), σ1)))) = some (oo, σ') := hf
  intro H locs ls h hl
  have hx := B.1
  have hb := B.2.1
  refine lv_aload_n hx hb dX4_size_0 rfl (lv_at hl 0 rfl) ?_
  refine lv_iload_n hx hb dX4_size_1 rfl (lv_at hl 1 rfl) ?_
  rcases thn_cases hf with ⟨E1, σ1, hq1, ho⟩ | ⟨tr1, σ1, hq1, hf⟩
  · cases ho
    exact sThrC (g_runV (k := 0) (T := TX4) (N := 8) B h (ok_X4_mapAt B.2.2.2.2.2.2.2.2 B.2.2.2.2.2.2.1 _ _ v1 hq1) cw_X4_41 ⟨Nat.le_of_ble_eq_true rfl, Nat.le_of_ble_eq_true rfl⟩ (by decide) (S_row _) rfl rfl hl.1.symm rfl (Nat.le_of_ble_eq_true rfl) dX4_size_2 ⟨Nat.le_of_eq (Nat.zero_add _), Nat.le_of_eq (Nat.zero_add _)⟩) h (fun H locs q ce h hc hv hcl => sE_out B htab h hc hv hcl (Nat.le_of_eq (Nat.zero_add _)) (Nat.le_of_eq (Nat.zero_add _)))
  refine sRetC1 (g_runV (k := 0) (T := TX4) (N := 8) B h (ok_X4_mapAt B.2.2.2.2.2.2.2.2 B.2.2.2.2.2.2.1 _ _ v1 hq1) cw_X4_41 ⟨Nat.le_of_ble_eq_true rfl, Nat.le_of_ble_eq_true rfl⟩ (by decide) (S_row _) rfl rfl hl.1.symm rfl (Nat.le_of_ble_eq_true rfl) dX4_size_2 ⟨Nat.zero_le _, Nat.zero_le _⟩) h (fun H locs h => ?_)
  obtain ⟨c2, hf⟩ := chk_some hf
  refine g_get B h tr1 (T_lt (isTb_T c2)) (C := RX2) (T := TX2) (N := 3) (T_row (isTb_T c2) _) rfl hin_X2 2 (by decide) hw53 rfl rfl dX4_size_5 ?_
  cases hf
  exact sE_i B hr h dX4_size_8
set_option maxRecDepth 100000 in
theorem ok_X4_size {l : Launch} (hl0 : l.stackTraces = false) {D : va_G} {cy : Nat → ClassId} {ad : Nat → Nat} (hap : sAp ad) (X : sX) (σ : sM) (v1 : Int32) {oo : String ⊕ Int32} {σ' : sM} (hf : f_X4_size v1 σ = some (oo, σ')) : sMet l yX4_size (sWs yX4_size cX4_size 2 (some .int)) 7 121 (sC (oI oo)) (sS (oI oo)) D cy ad X σ [.ref (ad 0), .int v1] (oI oo) X σ' := by
  refine sMet_of (by decide +kernel) (Nat.le_of_ble_eq_true rfl) hap hl0 ?_
  intro p e s m args below meth c ls B hr htab hl h
  exact k_X4_size_0 B hr htab _ _  hf _ _ _ h hl
set_option maxHeartbeats 4000000 in
set_option maxRecDepth 100000 in
theorem k_X4_sourceOf_0 {p : Program} {l : Launch} {e : Env} {s : State} {m : MethodId} {args : Array Value} {below : List Frame} {meth : Method} {c : Code} {D : va_G} {cy : Nat → ClassId} {ad : Nat → Nat} {X : sX} {oo : String ⊕ Nat} {σ' : sM} (B : sB p l s m meth c args cX4_sourceOf 1 RX4 D cy ad) (hr : meth.sig.returnType = (some (.object "Spanwarden$Table"))) (htab : ∀ x ∈ c.exceptionTable.toList, False) (t0 : Nat) (σ : sM) (ft0 : isV t0) (hf : f_X4_sourceOf t0 σ = some (oo, σ')) : sGo p l e { frames := 7, cells := (sC (oA ad oo)), slots := (sS (oA ad oo)), locals := 120 } s m args below meth c D cy ad X 1 (sQ below args s (sC (oA ad oo)) (sS (oA ad oo)) D cy ad (oA ad oo) X σ') σ 0 [(0, .ref (ad t0))] [] := by
  replace hf : (thn (f_X4_refuseClosed t0 σ) (fun _ σ1 => srcm (sSrc (σ1 t0 0)) (none) (fun t2 => some (.inr t2, σ1)))) = some (oo, σ') := hf
  intro H locs ls h hl
  have hx := B.1
  have hb := B.2.1
  refine lv_aload_n hx hb dX4_sourceOf_0 rfl (lv_at hl 0 rfl) ?_
  rcases thn_cases hf with ⟨E1, σ1, hq1, ho⟩ | ⟨vr1, σ1, hq1, hf⟩
  · cases ho
    exact sThrC (g_runS B h (ok_X4_refuseClosed B.2.2.2.2.2.2.2.2 B.2.2.2.2.2.2.1 _ _ ft0 hq1) cw_X4_134 ⟨Nat.le_of_ble_eq_true rfl, Nat.le_of_ble_eq_true rfl⟩ rfl hl.1.symm rfl (Nat.le_of_ble_eq_true rfl) dX4_sourceOf_1 ⟨Nat.le_of_eq (Nat.zero_add _), Nat.le_of_eq (Nat.zero_add _)⟩) h (fun H locs q ce h hc hv hcl => sE_out B htab h hc hv hcl (Nat.le_of_eq (Nat.zero_add _)) (Nat.le_of_eq (Nat.zero_add _)))
  refine sRetC0 (g_runS B h (ok_X4_refuseClosed B.2.2.2.2.2.2.2.2 B.2.2.2.2.2.2.1 _ _ ft0 hq1) cw_X4_134 ⟨Nat.le_of_ble_eq_true rfl, Nat.le_of_ble_eq_true rfl⟩ rfl hl.1.symm rfl (Nat.le_of_ble_eq_true rfl) dX4_sourceOf_1 ⟨Nat.zero_le _, Nat.zero_le _⟩) h (fun H locs h => ?_)
  refine lv_aload_n hx hb dX4_sourceOf_4 rfl (lv_at hl 0 rfl) ?_
  rcases srcm_cases hf with ⟨s2, hf⟩ | ⟨t2, s2, hf⟩
  · refine g_src0 B h t0 ft0 hin_X3 hw106 s2 dX4_sourceOf_5 ?_
    cases hf
  · refine g_src1 B h t0 ft0 hin_X3 hw106 s2 dX4_sourceOf_5 ?_
    cases hf
    exact sE_a B hr h dX4_sourceOf_8
set_option maxRecDepth 100000 in
theorem ok_X4_sourceOf {l : Launch} (hl0 : l.stackTraces = false) {D : va_G} {cy : Nat → ClassId} {ad : Nat → Nat} (hap : sAp ad) (X : sX) (σ : sM) {t0 : Nat} (ft0 : isV t0) {oo : String ⊕ Nat} {σ' : sM} (hf : f_X4_sourceOf t0 σ = some (oo, σ')) : sMet l yX4_sourceOf (sWs yX4_sourceOf cX4_sourceOf 1 (some (.object "Spanwarden$Table"))) 7 120 (sC (oA ad oo)) (sS (oA ad oo)) D cy ad X σ [.ref (ad t0)] (oA ad oo) X σ' := by
  refine sMet_of (by decide +kernel) (Nat.le_of_ble_eq_true rfl) hap hl0 ?_
  intro p e s m args below meth c ls B hr htab hl h
  exact k_X4_sourceOf_0 B hr htab _ _ ft0 hf _ _ _ h hl
set_option maxHeartbeats 4000000 in
set_option maxRecDepth 100000 in
theorem k_X4_step_0 {p : Program} {l : Launch} {e : Env} {s : State} {m : MethodId} {args : Array Value} {below : List Frame} {meth : Method} {c : Code} {D : va_G} {cy : Nat → ClassId} {ad : Nat → Nat} {X : sX} {oo : String ⊕ Int32} {σ' : sM} (B : sB p l s m meth c args cX4_step 6 RX4 D cy ad) (hr : meth.sig.returnType = (some .int)) (htab : ∀ x ∈ c.exceptionTable.toList, False) (v1 : Int32) (v2 : Int32) (v3 : Int32) (v4 : Int32) (σ : sM) (hf : f_X4_step v1 v2 v3 v4 σ = some (oo, σ')) : sGo p l e { frames := 7, cells := (sC (oI oo)), slots := (sS (oI oo)), locals := 121 } s m args below meth c D cy ad X 6 (sQ below args s (sC (oI oo)) (sS (oI oo)) D cy ad (oI oo) X σ') σ 0 [(0, .ref (ad 0)), (1, .int v1), (2, .int v2), (3, .int v3), (4, .int v4)] [] := by
  replace hf : (thn (f_X4_historyAt v1 σ) (fun tr1 σ1 => chk (isHb tr1) (rthn (f_X4_isStepKind v2 σ1) (fun vr3 => if vr3 = 0 then (some (.inl "java/lang/IllegalArgumentException", σ1)) else (if (σ1 tr1 0) < (30 : Int32) then (wthn (f_X1_add tr1 v2 v3 v4 σ1) (fun _ σ6 => some (.inr (σ6 tr1 0), σ6))) else (some (.inl "java/lang/IllegalStateException", σ1))))))) = some (oo, σ') := hf
  intro H locs ls h hl
  have hx := B.1
  have hb := B.2.1
  refine lv_aload_n hx hb dX4_step_0 rfl (lv_at hl 0 rfl) ?_
  refine lv_iload_n hx hb dX4_step_1 rfl (lv_at hl 1 rfl) ?_
  rcases thn_cases hf with ⟨E1, σ1, hq1, ho⟩ | ⟨tr1, σ1, hq1, hf⟩
  · cases ho
    exact sThrC (g_runV (k := 0) (T := TX4) (N := 8) B h (ok_X4_historyAt B.2.2.2.2.2.2.2.2 B.2.2.2.2.2.2.1 _ _ v1 hq1) cw_X4_174 ⟨Nat.le_of_ble_eq_true rfl, Nat.le_of_ble_eq_true rfl⟩ (by decide) (S_row _) rfl rfl hl.1.symm rfl (Nat.le_of_ble_eq_true rfl) dX4_step_2 ⟨Nat.le_of_eq (Nat.zero_add _), Nat.le_of_eq (Nat.zero_add _)⟩) h (fun H locs q ce h hc hv hcl => sE_out B htab h hc hv hcl (Nat.le_of_eq (Nat.zero_add _)) (Nat.le_of_eq (Nat.zero_add _)))
  refine sRetC1 (g_runV (k := 0) (T := TX4) (N := 8) B h (ok_X4_historyAt B.2.2.2.2.2.2.2.2 B.2.2.2.2.2.2.1 _ _ v1 hq1) cw_X4_174 ⟨Nat.le_of_ble_eq_true rfl, Nat.le_of_ble_eq_true rfl⟩ (by decide) (S_row _) rfl rfl hl.1.symm rfl (Nat.le_of_ble_eq_true rfl) dX4_step_2 ⟨Nat.zero_le _, Nat.zero_le _⟩) h (fun H locs h => ?_)
  obtain ⟨c2, hf⟩ := chk_some hf
  refine lv_astore (lv' := [(5, .ref (ad tr1)), (0, .ref (ad 0)), (1, .int v1), (2, .int v2), (3, .int v3), (4, .int v4)]) hx hb dX4_step_5 hl (by decide) rfl (fun ls hl => ?_)
  refine lv_iload_n hx hb dX4_step_7 rfl (lv_at hl 3 rfl) ?_
  obtain ⟨vr3, hq3, hf⟩ := rthn_some hf
  refine sRetC1 (g_runS B h (ok_X4_isStepKind B.2.2.2.2.2.2.2.2 B.2.2.2.2.2.2.1 _ _ v2 hq3) cw_X4_178 ⟨Nat.le_of_ble_eq_true rfl, Nat.le_of_ble_eq_true rfl⟩ rfl hl.1.symm rfl (Nat.le_of_ble_eq_true rfl) dX4_step_8 ⟨Nat.zero_le _, Nat.zero_le _⟩) h (fun H locs h => ?_)
  refine lv_if_ne (tgt := 24) hx hb dX4_step_11 (by decide) (fun c4 => ?_) (fun c4 => ?_)
  · rw [if_neg c4] at hf
    refine lv_aload hx hb dX4_step_24 (lv_at hl 0 rfl) ?_
    refine g_get B h tr1 (H_lt (isHb_H c2)) (C := RX1) (T := TX1) (N := 4) (H_row (isHb_H c2) _) rfl hin_X1 0 (by decide) hw72 rfl rfl dX4_step_26 ?_
    refine lv_bipush (v := (30 : Int32)) hx hb dX4_step_29 (by decide) ?_
    refine lv_icmp_lt (tgt := 44) hx hb dX4_step_31 (by decide) (fun c5 => ?_) (fun c5 => ?_)
    · rw [if_pos c5] at hf
      refine lv_aload hx hb dX4_step_44 (lv_at hl 0 rfl) ?_
      refine lv_iload_n hx hb dX4_step_46 rfl (lv_at hl 3 rfl) ?_
      refine lv_iload_n hx hb dX4_step_47 rfl (lv_at hl 4 rfl) ?_
      refine lv_iload hx hb dX4_step_48 (lv_at hl 5 rfl) ?_
      obtain ⟨vr6, σ6, hq6, hf⟩ := wthn_some hf
      refine sRetC0 (g_runV (k := tr1) (T := TX1) (N := 4) B h (ok_X1_add B.2.2.2.2.2.2.2.2 B.2.2.2.2.2.2.1 _ _ (isHb_H c2) v2 v3 v4 hq6) cw_X4_186 ⟨Nat.le_of_ble_eq_true rfl, Nat.le_of_ble_eq_true rfl⟩ (H_lt (isHb_H c2)) (H_row (isHb_H c2) _) rfl rfl hl.1.symm rfl (Nat.le_of_ble_eq_true rfl) dX4_step_50 ⟨Nat.zero_le _, Nat.zero_le _⟩) h (fun H locs h => ?_)
      refine lv_aload hx hb dX4_step_53 (lv_at hl 0 rfl) ?_
      refine g_get B h tr1 (H_lt (isHb_H c2)) (C := RX1) (T := TX1) (N := 4) (H_row (isHb_H c2) _) rfl hin_X1 0 (by decide) hw72 rfl rfl dX4_step_55 ?_
      cases hf
      exact sE_i B hr h dX4_step_58
    · rw [if_neg c5] at hf
      cases hf
      exact sE_thr (text := "the history is full") (ic := 150) B htab h hl.1.symm ["java/lang/RuntimeException", "java/lang/Exception"] (by decide +kernel) (by decide +kernel) hw452 hw13 (by decide +kernel) (by decide +kernel) at_X4_150_g at_X4_150_n at_X4_150_o dX4_step_34 dX4_step_37 dX4_step_38 dX4_step_40 dX4_step_43 (Nat.le_of_ble_eq_true rfl) (Nat.le_of_ble_eq_true rfl) (Nat.le_of_eq (Nat.zero_add _)) (Nat.le_of_eq (Nat.zero_add _)) (Nat.le_of_eq (Nat.zero_add _)) (Nat.le_of_eq (Nat.zero_add _))
  · rw [if_pos c4] at hf
    cases hf
    exact sE_thr (text := "no such kind") (ic := 79) B htab h hl.1.symm ["java/lang/RuntimeException", "java/lang/Exception"] (by decide +kernel) (by decide +kernel) hw512 hw16 (by decide +kernel) (by decide +kernel) at_X4_79_g at_X4_79_n at_X4_79_o dX4_step_14 dX4_step_17 dX4_step_18 dX4_step_20 dX4_step_23 (Nat.le_of_ble_eq_true rfl) (Nat.le_of_ble_eq_true rfl) (Nat.le_of_eq (Nat.zero_add _)) (Nat.le_of_eq (Nat.zero_add _)) (Nat.le_of_eq (Nat.zero_add _)) (Nat.le_of_eq (Nat.zero_add _))
set_option maxRecDepth 100000 in
theorem ok_X4_step {l : Launch} (hl0 : l.stackTraces = false) {D : va_G} {cy : Nat → ClassId} {ad : Nat → Nat} (hap : sAp ad) (X : sX) (σ : sM) (v1 : Int32) (v2 : Int32) (v3 : Int32) (v4 : Int32) {oo : String ⊕ Int32} {σ' : sM} (hf : f_X4_step v1 v2 v3 v4 σ = some (oo, σ')) : sMet l yX4_step (sWs yX4_step cX4_step 6 (some .int)) 7 121 (sC (oI oo)) (sS (oI oo)) D cy ad X σ [.ref (ad 0), .int v1, .int v2, .int v3, .int v4] (oI oo) X σ' := by
  refine sMet_of (by decide +kernel) (Nat.le_of_ble_eq_true rfl) hap hl0 ?_
  intro p e s m args below meth c ls B hr htab hl h
  exact k_X4_step_0 B hr htab _ _ _ _ _  hf _ _ _ h hl
set_option maxHeartbeats 4000000 in
set_option maxRecDepth 100000 in
theorem k_X4_value_0 {p : Program} {l : Launch} {e : Env} {s : State} {m : MethodId} {args : Array Value} {below : List Frame} {meth : Method} {c : Code} {D : va_G} {cy : Nat → ClassId} {ad : Nat → Nat} {X : sX} {oo : String ⊕ Int32} {σ' : sM} (B : sB p l s m meth c args cX4_value 5 RX4 D cy ad) (hr : meth.sig.returnType = (some .int)) (htab : ∀ x ∈ c.exceptionTable.toList, False) (v1 : Int32) (v2 : Int32) (σ : sM) (hf : f_X4_value v1 v2 σ = some (oo, σ')) : sGo p l e { frames := 7, cells := (sC (oI oo)), slots := (sS (oI oo)), locals := 121 } s m args below meth c D cy ad X 5 (sQ below args s (sC (oI oo)) (sS (oI oo)) D cy ad (oI oo) X σ') σ 0 [(0, .ref (ad 0)), (1, .int v1), (2, .int v2)] [] := by
  replace hf : (thn (f_X4_mapAt v1 σ) (fun tr1 σ1 => chk (isTb tr1) (rthn (f_X2_placeOf tr1 v2 σ1) (fun vr3 => if 0 ≤ vr3 then (chk (inb vr3 120) (some (.inr (σ1 (tr1 + 2) (vr3).toNatClampNeg), σ1))) else (some (.inl "java/util/NoSuchElementException", σ1)))))) = some (oo, σ') := hf
  intro H locs ls h hl
  have hx := B.1
  have hb := B.2.1
  refine lv_aload_n hx hb dX4_value_0 rfl (lv_at hl 0 rfl) ?_
  refine lv_iload_n hx hb dX4_value_1 rfl (lv_at hl 1 rfl) ?_
  rcases thn_cases hf with ⟨E1, σ1, hq1, ho⟩ | ⟨tr1, σ1, hq1, hf⟩
  · cases ho
    exact sThrC (g_runV (k := 0) (T := TX4) (N := 8) B h (ok_X4_mapAt B.2.2.2.2.2.2.2.2 B.2.2.2.2.2.2.1 _ _ v1 hq1) cw_X4_41 ⟨Nat.le_of_ble_eq_true rfl, Nat.le_of_ble_eq_true rfl⟩ (by decide) (S_row _) rfl rfl hl.1.symm rfl (Nat.le_of_ble_eq_true rfl) dX4_value_2 ⟨Nat.le_of_eq (Nat.zero_add _), Nat.le_of_eq (Nat.zero_add _)⟩) h (fun H locs q ce h hc hv hcl => sE_out B htab h hc hv hcl (Nat.le_of_eq (Nat.zero_add _)) (Nat.le_of_eq (Nat.zero_add _)))
  refine sRetC1 (g_runV (k := 0) (T := TX4) (N := 8) B h (ok_X4_mapAt B.2.2.2.2.2.2.2.2 B.2.2.2.2.2.2.1 _ _ v1 hq1) cw_X4_41 ⟨Nat.le_of_ble_eq_true rfl, Nat.le_of_ble_eq_true rfl⟩ (by decide) (S_row _) rfl rfl hl.1.symm rfl (Nat.le_of_ble_eq_true rfl) dX4_value_2 ⟨Nat.zero_le _, Nat.zero_le _⟩) h (fun H locs h => ?_)
  obtain ⟨c2, hf⟩ := chk_some hf
  refine lv_astore_n (lv' := [(3, .ref (ad tr1)), (0, .ref (ad 0)), (1, .int v1), (2, .int v2)]) hx hb dX4_value_5 rfl hl (by decide) rfl (fun ls hl => ?_)
  refine lv_aload_n hx hb dX4_value_6 rfl (lv_at hl 0 rfl) ?_
  refine lv_iload_n hx hb dX4_value_7 rfl (lv_at hl 3 rfl) ?_
  obtain ⟨vr3, hq3, hf⟩ := rthn_some hf
  refine sRetC1 (g_runV (k := tr1) (T := TX2) (N := 3) B h (ok_X2_placeOf B.2.2.2.2.2.2.2.2 B.2.2.2.2.2.2.1 _ _ (isTb_T c2) v2 hq3) cw_X4_53 ⟨Nat.le_of_ble_eq_true rfl, Nat.le_of_ble_eq_true rfl⟩ (T_lt (isTb_T c2)) (T_row (isTb_T c2) _) rfl rfl hl.1.symm rfl (Nat.le_of_ble_eq_true rfl) dX4_value_8 ⟨Nat.zero_le _, Nat.zero_le _⟩) h (fun H locs h => ?_)
  refine lv_istore (lv' := [(4, .int vr3), (3, .ref (ad tr1)), (0, .ref (ad 0)), (1, .int v1), (2, .int v2)]) hx hb dX4_value_11 hl (by decide) rfl (fun ls hl => ?_)
  refine lv_iload hx hb dX4_value_13 (lv_at hl 0 rfl) ?_
  refine lv_if_ge (tgt := 28) hx hb dX4_value_15 (by decide) (fun c4 => ?_) (fun c4 => ?_)
  · rw [if_pos c4] at hf
    refine lv_aload_n hx hb dX4_value_28 rfl (lv_at hl 1 rfl) ?_
    refine g_get B h tr1 (T_lt (isTb_T c2)) (C := RX2) (T := TX2) (N := 3) (T_row (isTb_T c2) _) rfl hin_X2 1 (by decide) hw50 rfl rfl dX4_value_29 ?_
    refine lv_iload hx hb dX4_value_32 (lv_at hl 0 rfl) ?_
    obtain ⟨c5, hf⟩ := chk_some hf
    refine g_iald B h (tr1 + 2) (T_lt2 (isTb_T c2)) (n := 120) (T_vals (isTb_T c2)) (inb_in c5) dX4_value_34 ?_
    cases hf
    exact sE_i B hr h dX4_value_35
  · rw [if_neg c4] at hf
    cases hf
    exact sE_thrX (text := "the map has no such key") (ic := 61) (ix := 13) (rx := nseeRx) nsee0 nsee1 nsee2 nsee5 B htab h hl.1.symm ["java/lang/RuntimeException", "java/lang/Exception"] (by decide +kernel) (by decide +kernel) hw477 hw15 (by decide +kernel) (by decide +kernel) at_X4_61_g at_X4_61_n at_X4_61_o dX4_value_18 dX4_value_21 (Or.inl ⟨dX4_value_22, rfl⟩) dX4_value_24 dX4_value_27 (Nat.le_of_ble_eq_true rfl) (Nat.le_of_ble_eq_true rfl) (Nat.le_of_eq (Nat.zero_add _)) (Nat.le_of_eq (Nat.zero_add _)) (Nat.le_of_eq (Nat.zero_add _)) (Nat.le_of_eq (Nat.zero_add _))
set_option maxRecDepth 100000 in
theorem ok_X4_value {l : Launch} (hl0 : l.stackTraces = false) {D : va_G} {cy : Nat → ClassId} {ad : Nat → Nat} (hap : sAp ad) (X : sX) (σ : sM) (v1 : Int32) (v2 : Int32) {oo : String ⊕ Int32} {σ' : sM} (hf : f_X4_value v1 v2 σ = some (oo, σ')) : sMet l yX4_value (sWs yX4_value cX4_value 5 (some .int)) 7 121 (sC (oI oo)) (sS (oI oo)) D cy ad X σ [.ref (ad 0), .int v1, .int v2] (oI oo) X σ' := by
  refine sMet_of (by decide +kernel) (Nat.le_of_ble_eq_true rfl) hap hl0 ?_
  intro p e s m args below meth c ls B hr htab hl h
  exact k_X4_value_0 B hr htab _ _ _  hf _ _ _ h hl
set_option maxHeartbeats 4000000 in
set_option maxRecDepth 100000 in
theorem k_X4_viewClear_0 {p : Program} {l : Launch} {e : Env} {s : State} {m : MethodId} {args : Array Value} {below : List Frame} {meth : Method} {c : Code} {D : va_G} {cy : Nat → ClassId} {ad : Nat → Nat} {X : sX} {oo : String ⊕ Int32} {σ' : sM} (B : sB p l s m meth c args cX4_viewClear 5 RX4 D cy ad) (hr : meth.sig.returnType = (some .int)) (htab : ∀ x ∈ c.exceptionTable.toList, False) (v1 : Int32) (σ : sM) (hf : f_X4_viewClear v1 σ = some (oo, σ')) : sGo p l e { frames := 8, cells := (sC (oI oo)), slots := (sS (oI oo)), locals := 140 } s m args below meth c D cy ad X 5 (sQ below args s (sC (oI oo)) (sS (oI oo)) D cy ad (oI oo) X σ') σ 0 [(0, .ref (ad 0)), (1, .int v1)] [] := by
  replace hf : (thn (f_X4_viewAt v1 σ) (fun tr1 σ1 => chk (isVb tr1) (thn (f_X4_sourceOf tr1 σ1) (fun tr3 σ3 => chk (isTb tr3) (rthn (f_X3_beginIn tr1 tr3 σ3) (fun vr5 => rthn (f_X3_stopIn tr1 tr3 σ3) (fun vr6 => wthn (f_X2_dropPlaces tr3 vr5 vr6 σ3) (fun _ σ7 => some (.inr ((σ3 tr3 2) - (σ7 tr3 2)), σ7))))))))) = some (oo, σ') := hf
  intro H locs ls h hl
  have hx := B.1
  have hb := B.2.1
  refine lv_aload_n hx hb dX4_viewClear_0 rfl (lv_at hl 0 rfl) ?_
  refine lv_iload_n hx hb dX4_viewClear_1 rfl (lv_at hl 1 rfl) ?_
  rcases thn_cases hf with ⟨E1, σ1, hq1, ho⟩ | ⟨tr1, σ1, hq1, hf⟩
  · cases ho
    exact sThrC (g_runV (k := 0) (T := TX4) (N := 8) B h (ok_X4_viewAt B.2.2.2.2.2.2.2.2 B.2.2.2.2.2.2.1 _ _ v1 hq1) cw_X4_120 ⟨Nat.le_of_ble_eq_true rfl, Nat.le_of_ble_eq_true rfl⟩ (by decide) (S_row _) rfl rfl hl.1.symm rfl (Nat.le_of_ble_eq_true rfl) dX4_viewClear_2 ⟨Nat.le_of_eq (Nat.zero_add _), Nat.le_of_eq (Nat.zero_add _)⟩) h (fun H locs q ce h hc hv hcl => sE_out B htab h hc hv hcl (Nat.le_of_eq (Nat.zero_add _)) (Nat.le_of_eq (Nat.zero_add _)))
  refine sRetC1 (g_runV (k := 0) (T := TX4) (N := 8) B h (ok_X4_viewAt B.2.2.2.2.2.2.2.2 B.2.2.2.2.2.2.1 _ _ v1 hq1) cw_X4_120 ⟨Nat.le_of_ble_eq_true rfl, Nat.le_of_ble_eq_true rfl⟩ (by decide) (S_row _) rfl rfl hl.1.symm rfl (Nat.le_of_ble_eq_true rfl) dX4_viewClear_2 ⟨Nat.zero_le _, Nat.zero_le _⟩) h (fun H locs h => ?_)
  obtain ⟨c2, hf⟩ := chk_some hf
  refine lv_astore_n (lv' := [(2, .ref (ad tr1)), (0, .ref (ad 0)), (1, .int v1)]) hx hb dX4_viewClear_5 rfl hl (by decide) rfl (fun ls hl => ?_)
  refine lv_aload_n hx hb dX4_viewClear_6 rfl (lv_at hl 0 rfl) ?_
  rcases thn_cases hf with ⟨E3, σ3, hq3, ho⟩ | ⟨tr3, σ3, hq3, hf⟩
  · cases ho
    exact sThrC (g_runS B h (ok_X4_sourceOf B.2.2.2.2.2.2.2.2 B.2.2.2.2.2.2.1 _ _ (isVb_V c2) hq3) cw_X4_155 ⟨Nat.le_of_ble_eq_true rfl, Nat.le_of_ble_eq_true rfl⟩ rfl hl.1.symm rfl (Nat.le_of_ble_eq_true rfl) dX4_viewClear_7 ⟨Nat.le_of_eq (Nat.zero_add _), Nat.le_of_eq (Nat.zero_add _)⟩) h (fun H locs q ce h hc hv hcl => sE_out B htab h hc hv hcl (Nat.le_of_eq (Nat.zero_add _)) (Nat.le_of_eq (Nat.zero_add _)))
  refine sRetC1 (g_runS B h (ok_X4_sourceOf B.2.2.2.2.2.2.2.2 B.2.2.2.2.2.2.1 _ _ (isVb_V c2) hq3) cw_X4_155 ⟨Nat.le_of_ble_eq_true rfl, Nat.le_of_ble_eq_true rfl⟩ rfl hl.1.symm rfl (Nat.le_of_ble_eq_true rfl) dX4_viewClear_7 ⟨Nat.zero_le _, Nat.zero_le _⟩) h (fun H locs h => ?_)
  obtain ⟨c4, hf⟩ := chk_some hf
  refine lv_astore_n (lv' := [(3, .ref (ad tr3)), (2, .ref (ad tr1)), (0, .ref (ad 0)), (1, .int v1)]) hx hb dX4_viewClear_10 rfl hl (by decide) rfl (fun ls hl => ?_)
  refine lv_aload_n hx hb dX4_viewClear_11 rfl (lv_at hl 0 rfl) ?_
  refine g_get B h tr3 (T_lt (isTb_T c4)) (C := RX2) (T := TX2) (N := 3) (T_row (isTb_T c4) _) rfl hin_X2 2 (by decide) hw53 rfl rfl dX4_viewClear_12 ?_
  refine lv_istore (lv' := [(4, .int (σ3 tr3 2)), (3, .ref (ad tr3)), (2, .ref (ad tr1)), (0, .ref (ad 0)), (1, .int v1)]) hx hb dX4_viewClear_15 hl (by decide) rfl (fun ls hl => ?_)
  refine lv_aload_n hx hb dX4_viewClear_17 rfl (lv_at hl 1 rfl) ?_
  refine lv_aload_n hx hb dX4_viewClear_18 rfl (lv_at hl 2 rfl) ?_
  refine lv_aload_n hx hb dX4_viewClear_19 rfl (lv_at hl 1 rfl) ?_
  obtain ⟨vr5, hq5, hf⟩ := rthn_some hf
  refine sRetC1 (g_runV (k := tr1) (T := TX3) (N := 6) B h (ok_X3_beginIn B.2.2.2.2.2.2.2.2 B.2.2.2.2.2.2.1 _ _ (isVb_V c2) (isTb_T c4) hq5) cw_X4_161 ⟨Nat.le_of_ble_eq_true rfl, Nat.le_of_ble_eq_true rfl⟩ (V_lt (isVb_V c2)) (V_row (isVb_V c2) _) rfl rfl hl.1.symm rfl (Nat.le_of_ble_eq_true rfl) dX4_viewClear_20 ⟨Nat.zero_le _, Nat.zero_le _⟩) h (fun H locs h => ?_)
  refine lv_aload_n hx hb dX4_viewClear_23 rfl (lv_at hl 2 rfl) ?_
  refine lv_aload_n hx hb dX4_viewClear_24 rfl (lv_at hl 1 rfl) ?_
  obtain ⟨vr6, hq6, hf⟩ := rthn_some hf
  refine sRetC1 (g_runV (k := tr1) (T := TX3) (N := 6) B h (ok_X3_stopIn B.2.2.2.2.2.2.2.2 B.2.2.2.2.2.2.1 _ _ (isVb_V c2) (isTb_T c4) hq6) cw_X4_165 ⟨Nat.le_of_ble_eq_true rfl, Nat.le_of_ble_eq_true rfl⟩ (V_lt (isVb_V c2)) (V_row (isVb_V c2) _) rfl rfl hl.1.symm rfl (Nat.le_of_ble_eq_true rfl) dX4_viewClear_25 ⟨Nat.zero_le _, Nat.zero_le _⟩) h (fun H locs h => ?_)
  obtain ⟨vr7, σ7, hq7, hf⟩ := wthn_some hf
  refine sRetC0 (g_runV (k := tr3) (T := TX2) (N := 3) B h (ok_X2_dropPlaces B.2.2.2.2.2.2.2.2 B.2.2.2.2.2.2.1 _ _ (isTb_T c4) vr5 vr6 hq7) cw_X4_170 ⟨Nat.le_of_ble_eq_true rfl, Nat.le_of_ble_eq_true rfl⟩ (T_lt (isTb_T c4)) (T_row (isTb_T c4) _) rfl rfl hl.1.symm rfl (Nat.le_of_ble_eq_true rfl) dX4_viewClear_28 ⟨Nat.zero_le _, Nat.zero_le _⟩) h (fun H locs h => ?_)
  refine lv_iload hx hb dX4_viewClear_31 (lv_at hl 0 rfl) ?_
  refine lv_aload_n hx hb dX4_viewClear_33 rfl (lv_at hl 1 rfl) ?_
  refine g_get B h tr3 (T_lt (isTb_T c4)) (C := RX2) (T := TX2) (N := 3) (T_row (isTb_T c4) _) rfl hin_X2 2 (by decide) hw53 rfl rfl dX4_viewClear_34 ?_
  refine lv_isub hx hb dX4_viewClear_37 ?_
  cases hf
  exact sE_i B hr h dX4_viewClear_38
set_option maxRecDepth 100000 in
theorem ok_X4_viewClear {l : Launch} (hl0 : l.stackTraces = false) {D : va_G} {cy : Nat → ClassId} {ad : Nat → Nat} (hap : sAp ad) (X : sX) (σ : sM) (v1 : Int32) {oo : String ⊕ Int32} {σ' : sM} (hf : f_X4_viewClear v1 σ = some (oo, σ')) : sMet l yX4_viewClear (sWs yX4_viewClear cX4_viewClear 5 (some .int)) 8 140 (sC (oI oo)) (sS (oI oo)) D cy ad X σ [.ref (ad 0), .int v1] (oI oo) X σ' := by
  refine sMet_of (by decide +kernel) (Nat.le_of_ble_eq_true rfl) hap hl0 ?_
  intro p e s m args below meth c ls B hr htab hl h
  exact k_X4_viewClear_0 B hr htab _ _  hf _ _ _ h hl
set_option maxHeartbeats 4000000 in
set_option maxRecDepth 100000 in
theorem k_X4_viewEnd_0 {p : Program} {l : Launch} {e : Env} {s : State} {m : MethodId} {args : Array Value} {below : List Frame} {meth : Method} {c : Code} {D : va_G} {cy : Nat → ClassId} {ad : Nat → Nat} {X : sX} {oo : String ⊕ Int32} {σ' : sM} (B : sB p l s m meth c args cX4_viewEnd 5 RX4 D cy ad) (hr : meth.sig.returnType = (some .int)) (htab : ∀ x ∈ c.exceptionTable.toList, False) (v1 : Int32) (v2 : Int32) (σ : sM) (hf : f_X4_viewEnd v1 v2 σ = some (oo, σ')) : sGo p l e { frames := 8, cells := (sC (oI oo)), slots := (sS (oI oo)), locals := 140 } s m args below meth c D cy ad X 5 (sQ below args s (sC (oI oo)) (sS (oI oo)) D cy ad (oI oo) X σ') σ 0 [(0, .ref (ad 0)), (1, .int v1), (2, .int v2)] [] := by
  replace hf : (thn (f_X4_viewAt v1 σ) (fun tr1 σ1 => chk (isVb tr1) (thn (f_X4_sourceOf tr1 σ1) (fun tr3 σ3 => chk (isTb tr3) (rthn (f_X3_beginIn tr1 tr3 σ3) (fun vr5 => rthn (f_X3_stopIn tr1 tr3 σ3) (fun vr6 => thn (f_X4_endPlace vr5 vr6 v2 σ3) (fun vr7 σ7 => chk (inb vr7 120) (some (.inr (σ7 (tr3 + 1) (vr7).toNatClampNeg), σ7)))))))))) = some (oo, σ') := hf
  intro H locs ls h hl
  have hx := B.1
  have hb := B.2.1
  refine lv_aload_n hx hb dX4_viewEnd_0 rfl (lv_at hl 0 rfl) ?_
  refine lv_iload_n hx hb dX4_viewEnd_1 rfl (lv_at hl 1 rfl) ?_
  rcases thn_cases hf with ⟨E1, σ1, hq1, ho⟩ | ⟨tr1, σ1, hq1, hf⟩
  · cases ho
    exact sThrC (g_runV (k := 0) (T := TX4) (N := 8) B h (ok_X4_viewAt B.2.2.2.2.2.2.2.2 B.2.2.2.2.2.2.1 _ _ v1 hq1) cw_X4_120 ⟨Nat.le_of_ble_eq_true rfl, Nat.le_of_ble_eq_true rfl⟩ (by decide) (S_row _) rfl rfl hl.1.symm rfl (Nat.le_of_ble_eq_true rfl) dX4_viewEnd_2 ⟨Nat.le_of_eq (Nat.zero_add _), Nat.le_of_eq (Nat.zero_add _)⟩) h (fun H locs q ce h hc hv hcl => sE_out B htab h hc hv hcl (Nat.le_of_eq (Nat.zero_add _)) (Nat.le_of_eq (Nat.zero_add _)))
  refine sRetC1 (g_runV (k := 0) (T := TX4) (N := 8) B h (ok_X4_viewAt B.2.2.2.2.2.2.2.2 B.2.2.2.2.2.2.1 _ _ v1 hq1) cw_X4_120 ⟨Nat.le_of_ble_eq_true rfl, Nat.le_of_ble_eq_true rfl⟩ (by decide) (S_row _) rfl rfl hl.1.symm rfl (Nat.le_of_ble_eq_true rfl) dX4_viewEnd_2 ⟨Nat.zero_le _, Nat.zero_le _⟩) h (fun H locs h => ?_)
  obtain ⟨c2, hf⟩ := chk_some hf
  refine lv_astore_n (lv' := [(3, .ref (ad tr1)), (0, .ref (ad 0)), (1, .int v1), (2, .int v2)]) hx hb dX4_viewEnd_5 rfl hl (by decide) rfl (fun ls hl => ?_)
  refine lv_aload_n hx hb dX4_viewEnd_6 rfl (lv_at hl 0 rfl) ?_
  rcases thn_cases hf with ⟨E3, σ3, hq3, ho⟩ | ⟨tr3, σ3, hq3, hf⟩
  · cases ho
    exact sThrC (g_runS B h (ok_X4_sourceOf B.2.2.2.2.2.2.2.2 B.2.2.2.2.2.2.1 _ _ (isVb_V c2) hq3) cw_X4_155 ⟨Nat.le_of_ble_eq_true rfl, Nat.le_of_ble_eq_true rfl⟩ rfl hl.1.symm rfl (Nat.le_of_ble_eq_true rfl) dX4_viewEnd_7 ⟨Nat.le_of_eq (Nat.zero_add _), Nat.le_of_eq (Nat.zero_add _)⟩) h (fun H locs q ce h hc hv hcl => sE_out B htab h hc hv hcl (Nat.le_of_eq (Nat.zero_add _)) (Nat.le_of_eq (Nat.zero_add _)))
  refine sRetC1 (g_runS B h (ok_X4_sourceOf B.2.2.2.2.2.2.2.2 B.2.2.2.2.2.2.1 _ _ (isVb_V c2) hq3) cw_X4_155 ⟨Nat.le_of_ble_eq_true rfl, Nat.le_of_ble_eq_true rfl⟩ rfl hl.1.symm rfl (Nat.le_of_ble_eq_true rfl) dX4_viewEnd_7 ⟨Nat.zero_le _, Nat.zero_le _⟩) h (fun H locs h => ?_)
  obtain ⟨c4, hf⟩ := chk_some hf
  refine lv_astore (lv' := [(4, .ref (ad tr3)), (3, .ref (ad tr1)), (0, .ref (ad 0)), (1, .int v1), (2, .int v2)]) hx hb dX4_viewEnd_10 hl (by decide) rfl (fun ls hl => ?_)
  refine lv_aload hx hb dX4_viewEnd_12 (lv_at hl 0 rfl) ?_
  refine g_get B h tr3 (T_lt (isTb_T c4)) (C := RX2) (T := TX2) (N := 3) (T_row (isTb_T c4) _) rfl hin_X2 0 (by decide) hw47 rfl rfl dX4_viewEnd_14 ?_
  refine lv_aload_n hx hb dX4_viewEnd_17 rfl (lv_at hl 1 rfl) ?_
  refine lv_aload hx hb dX4_viewEnd_18 (lv_at hl 0 rfl) ?_
  obtain ⟨vr5, hq5, hf⟩ := rthn_some hf
  refine sRetC1 (g_runV (k := tr1) (T := TX3) (N := 6) B h (ok_X3_beginIn B.2.2.2.2.2.2.2.2 B.2.2.2.2.2.2.1 _ _ (isVb_V c2) (isTb_T c4) hq5) cw_X4_161 ⟨Nat.le_of_ble_eq_true rfl, Nat.le_of_ble_eq_true rfl⟩ (V_lt (isVb_V c2)) (V_row (isVb_V c2) _) rfl rfl hl.1.symm rfl (Nat.le_of_ble_eq_true rfl) dX4_viewEnd_20 ⟨Nat.zero_le _, Nat.zero_le _⟩) h (fun H locs h => ?_)
  refine lv_aload_n hx hb dX4_viewEnd_23 rfl (lv_at hl 1 rfl) ?_
  refine lv_aload hx hb dX4_viewEnd_24 (lv_at hl 0 rfl) ?_
  obtain ⟨vr6, hq6, hf⟩ := rthn_some hf
  refine sRetC1 (g_runV (k := tr1) (T := TX3) (N := 6) B h (ok_X3_stopIn B.2.2.2.2.2.2.2.2 B.2.2.2.2.2.2.1 _ _ (isVb_V c2) (isTb_T c4) hq6) cw_X4_165 ⟨Nat.le_of_ble_eq_true rfl, Nat.le_of_ble_eq_true rfl⟩ (V_lt (isVb_V c2)) (V_row (isVb_V c2) _) rfl rfl hl.1.symm rfl (Nat.le_of_ble_eq_true rfl) dX4_viewEnd_26 ⟨Nat.zero_le _, Nat.zero_le _⟩) h (fun H locs h => ?_)
  refine lv_iload_n hx hb dX4_viewEnd_29 rfl (lv_at hl 4 rfl) ?_
  rcases thn_cases hf with ⟨E7, σ7, hq7, ho⟩ | ⟨vr7, σ7, hq7, hf⟩
  · cases ho
    exact sThrC (g_runS B h (ok_X4_endPlace B.2.2.2.2.2.2.2.2 B.2.2.2.2.2.2.1 _ _ vr5 vr6 v2 hq7) cw_X4_89 ⟨Nat.le_of_ble_eq_true rfl, Nat.le_of_ble_eq_true rfl⟩ rfl hl.1.symm rfl (Nat.le_of_ble_eq_true rfl) dX4_viewEnd_30 ⟨Nat.le_of_eq (Nat.zero_add _), Nat.le_of_eq (Nat.zero_add _)⟩) h (fun H locs q ce h hc hv hcl => sE_out B htab h hc hv hcl (Nat.le_of_eq (Nat.zero_add _)) (Nat.le_of_eq (Nat.zero_add _)))
  refine sRetC1 (g_runS B h (ok_X4_endPlace B.2.2.2.2.2.2.2.2 B.2.2.2.2.2.2.1 _ _ vr5 vr6 v2 hq7) cw_X4_89 ⟨Nat.le_of_ble_eq_true rfl, Nat.le_of_ble_eq_true rfl⟩ rfl hl.1.symm rfl (Nat.le_of_ble_eq_true rfl) dX4_viewEnd_30 ⟨Nat.zero_le _, Nat.zero_le _⟩) h (fun H locs h => ?_)
  obtain ⟨c8, hf⟩ := chk_some hf
  refine g_iald B h (tr3 + 1) (T_lt1 (isTb_T c4)) (n := 120) (T_keys (isTb_T c4)) (inb_in c8) dX4_viewEnd_33 ?_
  cases hf
  exact sE_i B hr h dX4_viewEnd_34
set_option maxRecDepth 100000 in
theorem ok_X4_viewEnd {l : Launch} (hl0 : l.stackTraces = false) {D : va_G} {cy : Nat → ClassId} {ad : Nat → Nat} (hap : sAp ad) (X : sX) (σ : sM) (v1 : Int32) (v2 : Int32) {oo : String ⊕ Int32} {σ' : sM} (hf : f_X4_viewEnd v1 v2 σ = some (oo, σ')) : sMet l yX4_viewEnd (sWs yX4_viewEnd cX4_viewEnd 5 (some .int)) 8 140 (sC (oI oo)) (sS (oI oo)) D cy ad X σ [.ref (ad 0), .int v1, .int v2] (oI oo) X σ' := by
  refine sMet_of (by decide +kernel) (Nat.le_of_ble_eq_true rfl) hap hl0 ?_
  intro p e s m args below meth c ls B hr htab hl h
  exact k_X4_viewEnd_0 B hr htab _ _ _  hf _ _ _ h hl
set_option maxHeartbeats 4000000 in
set_option maxRecDepth 100000 in
theorem k_X4_viewNear_0 {p : Program} {l : Launch} {e : Env} {s : State} {m : MethodId} {args : Array Value} {below : List Frame} {meth : Method} {c : Code} {D : va_G} {cy : Nat → ClassId} {ad : Nat → Nat} {X : sX} {oo : String ⊕ Int32} {σ' : sM} (B : sB p l s m meth c args cX4_viewNear 7 RX4 D cy ad) (hr : meth.sig.returnType = (some .int)) (htab : ∀ x ∈ c.exceptionTable.toList, False) (v1 : Int32) (v2 : Int32) (v3 : Int32) (σ : sM) (hf : f_X4_viewNear v1 v2 v3 σ = some (oo, σ')) : sGo p l e { frames := 8, cells := (sC (oI oo)), slots := (sS (oI oo)), locals := 140 } s m args below meth c D cy ad X 7 (sQ below args s (sC (oI oo)) (sS (oI oo)) D cy ad (oI oo) X σ') σ 0 [(0, .ref (ad 0)), (1, .int v1), (2, .int v2), (3, .int v3)] [] := by
  replace hf : (thn (f_X4_viewAt v1 σ) (fun tr1 σ1 => chk (isVb tr1) (rthn (f_X4_isNearWay v3 σ1) (fun vr3 => if vr3 = 0 then (some (.inl "java/lang/IllegalArgumentException", σ1)) else (thn (f_X4_sourceOf tr1 σ1) (fun tr5 σ5 => chk (isTb tr5) (rthn (f_X3_beginIn tr1 tr5 σ5) (fun vr7 => rthn (f_X3_stopIn tr1 tr5 σ5) (fun vr8 => rthn (f_X2_placeNear tr5 v2 v3 vr7 vr8 σ5) (fun vr9 => if 0 ≤ vr9 then (chk (inb vr9 120) (some (.inr (σ5 (tr5 + 1) (vr9).toNatClampNeg), σ5))) else (some (.inl "java/util/NoSuchElementException", σ5)))))))))))) = some (oo, σ') := hf
  intro H locs ls h hl
  have hx := B.1
  have hb := B.2.1
  refine lv_aload_n hx hb dX4_viewNear_0 rfl (lv_at hl 0 rfl) ?_
  refine lv_iload_n hx hb dX4_viewNear_1 rfl (lv_at hl 1 rfl) ?_
  rcases thn_cases hf with ⟨E1, σ1, hq1, ho⟩ | ⟨tr1, σ1, hq1, hf⟩
  · cases ho
    exact sThrC (g_runV (k := 0) (T := TX4) (N := 8) B h (ok_X4_viewAt B.2.2.2.2.2.2.2.2 B.2.2.2.2.2.2.1 _ _ v1 hq1) cw_X4_120 ⟨Nat.le_of_ble_eq_true rfl, Nat.le_of_ble_eq_true rfl⟩ (by decide) (S_row _) rfl rfl hl.1.symm rfl (Nat.le_of_ble_eq_true rfl) dX4_viewNear_2 ⟨Nat.le_of_eq (Nat.zero_add _), Nat.le_of_eq (Nat.zero_add _)⟩) h (fun H locs q ce h hc hv hcl => sE_out B htab h hc hv hcl (Nat.le_of_eq (Nat.zero_add _)) (Nat.le_of_eq (Nat.zero_add _)))
  refine sRetC1 (g_runV (k := 0) (T := TX4) (N := 8) B h (ok_X4_viewAt B.2.2.2.2.2.2.2.2 B.2.2.2.2.2.2.1 _ _ v1 hq1) cw_X4_120 ⟨Nat.le_of_ble_eq_true rfl, Nat.le_of_ble_eq_true rfl⟩ (by decide) (S_row _) rfl rfl hl.1.symm rfl (Nat.le_of_ble_eq_true rfl) dX4_viewNear_2 ⟨Nat.zero_le _, Nat.zero_le _⟩) h (fun H locs h => ?_)
  obtain ⟨c2, hf⟩ := chk_some hf
  refine lv_astore (lv' := [(4, .ref (ad tr1)), (0, .ref (ad 0)), (1, .int v1), (2, .int v2), (3, .int v3)]) hx hb dX4_viewNear_5 hl (by decide) rfl (fun ls hl => ?_)
  refine lv_iload_n hx hb dX4_viewNear_7 rfl (lv_at hl 4 rfl) ?_
  obtain ⟨vr3, hq3, hf⟩ := rthn_some hf
  refine sRetC1 (g_runS B h (ok_X4_isNearWay B.2.2.2.2.2.2.2.2 B.2.2.2.2.2.2.1 _ _ v3 hq3) cw_X4_71 ⟨Nat.le_of_ble_eq_true rfl, Nat.le_of_ble_eq_true rfl⟩ rfl hl.1.symm rfl (Nat.le_of_ble_eq_true rfl) dX4_viewNear_8 ⟨Nat.zero_le _, Nat.zero_le _⟩) h (fun H locs h => ?_)
  refine lv_if_ne (tgt := 24) hx hb dX4_viewNear_11 (by decide) (fun c4 => ?_) (fun c4 => ?_)
  · rw [if_neg c4] at hf
    refine lv_aload hx hb dX4_viewNear_24 (lv_at hl 0 rfl) ?_
    rcases thn_cases hf with ⟨E5, σ5, hq5, ho⟩ | ⟨tr5, σ5, hq5, hf⟩
    · cases ho
      exact sThrC (g_runS B h (ok_X4_sourceOf B.2.2.2.2.2.2.2.2 B.2.2.2.2.2.2.1 _ _ (isVb_V c2) hq5) cw_X4_155 ⟨Nat.le_of_ble_eq_true rfl, Nat.le_of_ble_eq_true rfl⟩ rfl hl.1.symm rfl (Nat.le_of_ble_eq_true rfl) dX4_viewNear_26 ⟨Nat.le_of_eq (Nat.zero_add _), Nat.le_of_eq (Nat.zero_add _)⟩) h (fun H locs q ce h hc hv hcl => sE_out B htab h hc hv hcl (Nat.le_of_eq (Nat.zero_add _)) (Nat.le_of_eq (Nat.zero_add _)))
    refine sRetC1 (g_runS B h (ok_X4_sourceOf B.2.2.2.2.2.2.2.2 B.2.2.2.2.2.2.1 _ _ (isVb_V c2) hq5) cw_X4_155 ⟨Nat.le_of_ble_eq_true rfl, Nat.le_of_ble_eq_true rfl⟩ rfl hl.1.symm rfl (Nat.le_of_ble_eq_true rfl) dX4_viewNear_26 ⟨Nat.zero_le _, Nat.zero_le _⟩) h (fun H locs h => ?_)
    obtain ⟨c6, hf⟩ := chk_some hf
    refine lv_astore (lv' := [(5, .ref (ad tr5)), (4, .ref (ad tr1)), (0, .ref (ad 0)), (1, .int v1), (2, .int v2), (3, .int v3)]) hx hb dX4_viewNear_29 hl (by decide) rfl (fun ls hl => ?_)
    refine lv_aload hx hb dX4_viewNear_31 (lv_at hl 0 rfl) ?_
    refine lv_iload_n hx hb dX4_viewNear_33 rfl (lv_at hl 4 rfl) ?_
    refine lv_iload_n hx hb dX4_viewNear_34 rfl (lv_at hl 5 rfl) ?_
    refine lv_aload hx hb dX4_viewNear_35 (lv_at hl 1 rfl) ?_
    refine lv_aload hx hb dX4_viewNear_37 (lv_at hl 0 rfl) ?_
    obtain ⟨vr7, hq7, hf⟩ := rthn_some hf
    refine sRetC1 (g_runV (k := tr1) (T := TX3) (N := 6) B h (ok_X3_beginIn B.2.2.2.2.2.2.2.2 B.2.2.2.2.2.2.1 _ _ (isVb_V c2) (isTb_T c6) hq7) cw_X4_161 ⟨Nat.le_of_ble_eq_true rfl, Nat.le_of_ble_eq_true rfl⟩ (V_lt (isVb_V c2)) (V_row (isVb_V c2) _) rfl rfl hl.1.symm rfl (Nat.le_of_ble_eq_true rfl) dX4_viewNear_39 ⟨Nat.zero_le _, Nat.zero_le _⟩) h (fun H locs h => ?_)
    refine lv_aload hx hb dX4_viewNear_42 (lv_at hl 1 rfl) ?_
    refine lv_aload hx hb dX4_viewNear_44 (lv_at hl 0 rfl) ?_
    obtain ⟨vr8, hq8, hf⟩ := rthn_some hf
    refine sRetC1 (g_runV (k := tr1) (T := TX3) (N := 6) B h (ok_X3_stopIn B.2.2.2.2.2.2.2.2 B.2.2.2.2.2.2.1 _ _ (isVb_V c2) (isTb_T c6) hq8) cw_X4_165 ⟨Nat.le_of_ble_eq_true rfl, Nat.le_of_ble_eq_true rfl⟩ (V_lt (isVb_V c2)) (V_row (isVb_V c2) _) rfl rfl hl.1.symm rfl (Nat.le_of_ble_eq_true rfl) dX4_viewNear_46 ⟨Nat.zero_le _, Nat.zero_le _⟩) h (fun H locs h => ?_)
    obtain ⟨vr9, hq9, hf⟩ := rthn_some hf
    refine sRetC1 (g_runV (k := tr5) (T := TX2) (N := 3) B h (ok_X2_placeNear B.2.2.2.2.2.2.2.2 B.2.2.2.2.2.2.1 _ _ (isTb_T c6) v2 v3 vr7 vr8 hq9) cw_X4_80 ⟨Nat.le_of_ble_eq_true rfl, Nat.le_of_ble_eq_true rfl⟩ (T_lt (isTb_T c6)) (T_row (isTb_T c6) _) rfl rfl hl.1.symm rfl (Nat.le_of_ble_eq_true rfl) dX4_viewNear_49 ⟨Nat.zero_le _, Nat.zero_le _⟩) h (fun H locs h => ?_)
    refine lv_istore (lv' := [(6, .int vr9), (5, .ref (ad tr5)), (4, .ref (ad tr1)), (0, .ref (ad 0)), (1, .int v1), (2, .int v2), (3, .int v3)]) hx hb dX4_viewNear_52 hl (by decide) rfl (fun ls hl => ?_)
    refine lv_iload hx hb dX4_viewNear_54 (lv_at hl 0 rfl) ?_
    refine lv_if_ge (tgt := 69) hx hb dX4_viewNear_56 (by decide) (fun c10 => ?_) (fun c10 => ?_)
    · rw [if_pos c10] at hf
      refine lv_aload hx hb dX4_viewNear_69 (lv_at hl 1 rfl) ?_
      refine g_get B h tr5 (T_lt (isTb_T c6)) (C := RX2) (T := TX2) (N := 3) (T_row (isTb_T c6) _) rfl hin_X2 0 (by decide) hw47 rfl rfl dX4_viewNear_71 ?_
      refine lv_iload hx hb dX4_viewNear_74 (lv_at hl 0 rfl) ?_
      obtain ⟨c11, hf⟩ := chk_some hf
      refine g_iald B h (tr5 + 1) (T_lt1 (isTb_T c6)) (n := 120) (T_keys (isTb_T c6)) (inb_in c11) dX4_viewNear_76 ?_
      cases hf
      exact sE_i B hr h dX4_viewNear_77
    · rw [if_neg c10] at hf
      cases hf
      exact sE_thrX (text := "the view has no such near key") (ic := 61) (ix := 13) (rx := nseeRx) nsee0 nsee1 nsee2 nsee5 B htab h hl.1.symm ["java/lang/RuntimeException", "java/lang/Exception"] (by decide +kernel) (by decide +kernel) hw477 hw15 (by decide +kernel) (by decide +kernel) at_X4_61_g at_X4_61_n at_X4_61_o dX4_viewNear_59 dX4_viewNear_62 (Or.inl ⟨dX4_viewNear_63, rfl⟩) dX4_viewNear_65 dX4_viewNear_68 (Nat.le_of_ble_eq_true rfl) (Nat.le_of_ble_eq_true rfl) (Nat.le_of_eq (Nat.zero_add _)) (Nat.le_of_eq (Nat.zero_add _)) (Nat.le_of_eq (Nat.zero_add _)) (Nat.le_of_eq (Nat.zero_add _))
  · rw [if_pos c4] at hf
    cases hf
    exact sE_thr (text := "no such way") (ic := 79) B htab h hl.1.symm ["java/lang/RuntimeException", "java/lang/Exception"] (by decide +kernel) (by decide +kernel) hw512 hw16 (by decide +kernel) (by decide +kernel) at_X4_79_g at_X4_79_n at_X4_79_o dX4_viewNear_14 dX4_viewNear_17 dX4_viewNear_18 dX4_viewNear_20 dX4_viewNear_23 (Nat.le_of_ble_eq_true rfl) (Nat.le_of_ble_eq_true rfl) (Nat.le_of_eq (Nat.zero_add _)) (Nat.le_of_eq (Nat.zero_add _)) (Nat.le_of_eq (Nat.zero_add _)) (Nat.le_of_eq (Nat.zero_add _))
set_option maxRecDepth 100000 in
theorem ok_X4_viewNear {l : Launch} (hl0 : l.stackTraces = false) {D : va_G} {cy : Nat → ClassId} {ad : Nat → Nat} (hap : sAp ad) (X : sX) (σ : sM) (v1 : Int32) (v2 : Int32) (v3 : Int32) {oo : String ⊕ Int32} {σ' : sM} (hf : f_X4_viewNear v1 v2 v3 σ = some (oo, σ')) : sMet l yX4_viewNear (sWs yX4_viewNear cX4_viewNear 7 (some .int)) 8 140 (sC (oI oo)) (sS (oI oo)) D cy ad X σ [.ref (ad 0), .int v1, .int v2, .int v3] (oI oo) X σ' := by
  refine sMet_of (by decide +kernel) (Nat.le_of_ble_eq_true rfl) hap hl0 ?_
  intro p e s m args below meth c ls B hr htab hl h
  exact k_X4_viewNear_0 B hr htab _ _ _ _  hf _ _ _ h hl
set_option maxHeartbeats 4000000 in
set_option maxRecDepth 100000 in
theorem k_X4_viewPoll_0 {p : Program} {l : Launch} {e : Env} {s : State} {m : MethodId} {args : Array Value} {below : List Frame} {meth : Method} {c : Code} {D : va_G} {cy : Nat → ClassId} {ad : Nat → Nat} {X : sX} {oo : String ⊕ Int32} {σ' : sM} (B : sB p l s m meth c args cX4_viewPoll 5 RX4 D cy ad) (hr : meth.sig.returnType = (some .int)) (htab : ∀ x ∈ c.exceptionTable.toList, False) (v1 : Int32) (v2 : Int32) (σ : sM) (hf : f_X4_viewPoll v1 v2 σ = some (oo, σ')) : sGo p l e { frames := 8, cells := (sC (oI oo)), slots := (sS (oI oo)), locals := 153 } s m args below meth c D cy ad X 5 (sQ below args s (sC (oI oo)) (sS (oI oo)) D cy ad (oI oo) X σ') σ 0 [(0, .ref (ad 0)), (1, .int v1), (2, .int v2)] [] := by
  replace hf : (thn (f_X4_viewAt v1 σ) (fun tr1 σ1 => chk (isVb tr1) (thn (f_X4_sourceOf tr1 σ1) (fun tr3 σ3 => chk (isTb tr3) (rthn (f_X3_beginIn tr1 tr3 σ3) (fun vr5 => rthn (f_X3_stopIn tr1 tr3 σ3) (fun vr6 => thn (f_X4_endPlace vr5 vr6 v2 σ3) (fun vr7 σ7 => wthn (f_X4_pollAt tr3 vr7 σ7) (fun vr8 σ8 => some (.inr vr8, σ8)))))))))) = some (oo, σ') := hf
  intro H locs ls h hl
  have hx := B.1
  have hb := B.2.1
  refine lv_aload_n hx hb dX4_viewPoll_0 rfl (lv_at hl 0 rfl) ?_
  refine lv_iload_n hx hb dX4_viewPoll_1 rfl (lv_at hl 1 rfl) ?_
  rcases thn_cases hf with ⟨E1, σ1, hq1, ho⟩ | ⟨tr1, σ1, hq1, hf⟩
  · cases ho
    exact sThrC (g_runV (k := 0) (T := TX4) (N := 8) B h (ok_X4_viewAt B.2.2.2.2.2.2.2.2 B.2.2.2.2.2.2.1 _ _ v1 hq1) cw_X4_120 ⟨Nat.le_of_ble_eq_true rfl, Nat.le_of_ble_eq_true rfl⟩ (by decide) (S_row _) rfl rfl hl.1.symm rfl (Nat.le_of_ble_eq_true rfl) dX4_viewPoll_2 ⟨Nat.le_of_eq (Nat.zero_add _), Nat.le_of_eq (Nat.zero_add _)⟩) h (fun H locs q ce h hc hv hcl => sE_out B htab h hc hv hcl (Nat.le_of_eq (Nat.zero_add _)) (Nat.le_of_eq (Nat.zero_add _)))
  refine sRetC1 (g_runV (k := 0) (T := TX4) (N := 8) B h (ok_X4_viewAt B.2.2.2.2.2.2.2.2 B.2.2.2.2.2.2.1 _ _ v1 hq1) cw_X4_120 ⟨Nat.le_of_ble_eq_true rfl, Nat.le_of_ble_eq_true rfl⟩ (by decide) (S_row _) rfl rfl hl.1.symm rfl (Nat.le_of_ble_eq_true rfl) dX4_viewPoll_2 ⟨Nat.zero_le _, Nat.zero_le _⟩) h (fun H locs h => ?_)
  obtain ⟨c2, hf⟩ := chk_some hf
  refine lv_astore_n (lv' := [(3, .ref (ad tr1)), (0, .ref (ad 0)), (1, .int v1), (2, .int v2)]) hx hb dX4_viewPoll_5 rfl hl (by decide) rfl (fun ls hl => ?_)
  refine lv_aload_n hx hb dX4_viewPoll_6 rfl (lv_at hl 0 rfl) ?_
  rcases thn_cases hf with ⟨E3, σ3, hq3, ho⟩ | ⟨tr3, σ3, hq3, hf⟩
  · cases ho
    exact sThrC (g_runS B h (ok_X4_sourceOf B.2.2.2.2.2.2.2.2 B.2.2.2.2.2.2.1 _ _ (isVb_V c2) hq3) cw_X4_155 ⟨Nat.le_of_ble_eq_true rfl, Nat.le_of_ble_eq_true rfl⟩ rfl hl.1.symm rfl (Nat.le_of_ble_eq_true rfl) dX4_viewPoll_7 ⟨Nat.le_of_eq (Nat.zero_add _), Nat.le_of_eq (Nat.zero_add _)⟩) h (fun H locs q ce h hc hv hcl => sE_out B htab h hc hv hcl (Nat.le_of_eq (Nat.zero_add _)) (Nat.le_of_eq (Nat.zero_add _)))
  refine sRetC1 (g_runS B h (ok_X4_sourceOf B.2.2.2.2.2.2.2.2 B.2.2.2.2.2.2.1 _ _ (isVb_V c2) hq3) cw_X4_155 ⟨Nat.le_of_ble_eq_true rfl, Nat.le_of_ble_eq_true rfl⟩ rfl hl.1.symm rfl (Nat.le_of_ble_eq_true rfl) dX4_viewPoll_7 ⟨Nat.zero_le _, Nat.zero_le _⟩) h (fun H locs h => ?_)
  obtain ⟨c4, hf⟩ := chk_some hf
  refine lv_astore (lv' := [(4, .ref (ad tr3)), (3, .ref (ad tr1)), (0, .ref (ad 0)), (1, .int v1), (2, .int v2)]) hx hb dX4_viewPoll_10 hl (by decide) rfl (fun ls hl => ?_)
  refine lv_aload_n hx hb dX4_viewPoll_12 rfl (lv_at hl 2 rfl) ?_
  refine lv_aload hx hb dX4_viewPoll_13 (lv_at hl 0 rfl) ?_
  refine lv_aload_n hx hb dX4_viewPoll_15 rfl (lv_at hl 1 rfl) ?_
  refine lv_aload hx hb dX4_viewPoll_16 (lv_at hl 0 rfl) ?_
  obtain ⟨vr5, hq5, hf⟩ := rthn_some hf
  refine sRetC1 (g_runV (k := tr1) (T := TX3) (N := 6) B h (ok_X3_beginIn B.2.2.2.2.2.2.2.2 B.2.2.2.2.2.2.1 _ _ (isVb_V c2) (isTb_T c4) hq5) cw_X4_161 ⟨Nat.le_of_ble_eq_true rfl, Nat.le_of_ble_eq_true rfl⟩ (V_lt (isVb_V c2)) (V_row (isVb_V c2) _) rfl rfl hl.1.symm rfl (Nat.le_of_ble_eq_true rfl) dX4_viewPoll_18 ⟨Nat.zero_le _, Nat.zero_le _⟩) h (fun H locs h => ?_)
  refine lv_aload_n hx hb dX4_viewPoll_21 rfl (lv_at hl 1 rfl) ?_
  refine lv_aload hx hb dX4_viewPoll_22 (lv_at hl 0 rfl) ?_
  obtain ⟨vr6, hq6, hf⟩ := rthn_some hf
  refine sRetC1 (g_runV (k := tr1) (T := TX3) (N := 6) B h (ok_X3_stopIn B.2.2.2.2.2.2.2.2 B.2.2.2.2.2.2.1 _ _ (isVb_V c2) (isTb_T c4) hq6) cw_X4_165 ⟨Nat.le_of_ble_eq_true rfl, Nat.le_of_ble_eq_true rfl⟩ (V_lt (isVb_V c2)) (V_row (isVb_V c2) _) rfl rfl hl.1.symm rfl (Nat.le_of_ble_eq_true rfl) dX4_viewPoll_24 ⟨Nat.zero_le _, Nat.zero_le _⟩) h (fun H locs h => ?_)
  refine lv_iload_n hx hb dX4_viewPoll_27 rfl (lv_at hl 4 rfl) ?_
  rcases thn_cases hf with ⟨E7, σ7, hq7, ho⟩ | ⟨vr7, σ7, hq7, hf⟩
  · cases ho
    exact sThrC (g_runS B h (ok_X4_endPlace B.2.2.2.2.2.2.2.2 B.2.2.2.2.2.2.1 _ _ vr5 vr6 v2 hq7) cw_X4_89 ⟨Nat.le_of_ble_eq_true rfl, Nat.le_of_ble_eq_true rfl⟩ rfl hl.1.symm rfl (Nat.le_of_ble_eq_true rfl) dX4_viewPoll_28 ⟨Nat.le_of_eq (Nat.zero_add _), Nat.le_of_eq (Nat.zero_add _)⟩) h (fun H locs q ce h hc hv hcl => sE_out B htab h hc hv hcl (Nat.le_of_eq (Nat.zero_add _)) (Nat.le_of_eq (Nat.zero_add _)))
  refine sRetC1 (g_runS B h (ok_X4_endPlace B.2.2.2.2.2.2.2.2 B.2.2.2.2.2.2.1 _ _ vr5 vr6 v2 hq7) cw_X4_89 ⟨Nat.le_of_ble_eq_true rfl, Nat.le_of_ble_eq_true rfl⟩ rfl hl.1.symm rfl (Nat.le_of_ble_eq_true rfl) dX4_viewPoll_28 ⟨Nat.zero_le _, Nat.zero_le _⟩) h (fun H locs h => ?_)
  obtain ⟨vr8, σ8, hq8, hf⟩ := wthn_some hf
  refine sRetC1 (g_runV (k := 0) (T := TX4) (N := 8) B h (ok_X4_pollAt B.2.2.2.2.2.2.2.2 B.2.2.2.2.2.2.1 _ _ (isTb_T c4) vr7 hq8) cw_X4_93 ⟨Nat.le_of_ble_eq_true rfl, Nat.le_of_ble_eq_true rfl⟩ (by decide) (S_row _) rfl rfl hl.1.symm rfl (Nat.le_of_ble_eq_true rfl) dX4_viewPoll_31 ⟨Nat.zero_le _, Nat.zero_le _⟩) h (fun H locs h => ?_)
  cases hf
  exact sE_i B hr h dX4_viewPoll_34
set_option maxRecDepth 100000 in
theorem ok_X4_viewPoll {l : Launch} (hl0 : l.stackTraces = false) {D : va_G} {cy : Nat → ClassId} {ad : Nat → Nat} (hap : sAp ad) (X : sX) (σ : sM) (v1 : Int32) (v2 : Int32) {oo : String ⊕ Int32} {σ' : sM} (hf : f_X4_viewPoll v1 v2 σ = some (oo, σ')) : sMet l yX4_viewPoll (sWs yX4_viewPoll cX4_viewPoll 5 (some .int)) 8 153 (sC (oI oo)) (sS (oI oo)) D cy ad X σ [.ref (ad 0), .int v1, .int v2] (oI oo) X σ' := by
  refine sMet_of (by decide +kernel) (Nat.le_of_ble_eq_true rfl) hap hl0 ?_
  intro p e s m args below meth c ls B hr htab hl h
  exact k_X4_viewPoll_0 B hr htab _ _ _  hf _ _ _ h hl
set_option maxHeartbeats 4000000 in
set_option maxRecDepth 100000 in
theorem k_X4_viewPut_0 {p : Program} {l : Launch} {e : Env} {s : State} {m : MethodId} {args : Array Value} {below : List Frame} {meth : Method} {c : Code} {D : va_G} {cy : Nat → ClassId} {ad : Nat → Nat} {X : sX} {oo : String ⊕ Int32} {σ' : sM} (B : sB p l s m meth c args cX4_viewPut 6 RX4 D cy ad) (hr : meth.sig.returnType = (some .int)) (htab : ∀ x ∈ c.exceptionTable.toList, False) (v1 : Int32) (v2 : Int32) (v3 : Int32) (σ : sM) (hf : f_X4_viewPut v1 v2 v3 σ = some (oo, σ')) : sGo p l e { frames := 8, cells := (sC (oI oo)), slots := (sS (oI oo)), locals := 154 } s m args below meth c D cy ad X 6 (sQ below args s (sC (oI oo)) (sS (oI oo)) D cy ad (oI oo) X σ') σ 0 [(0, .ref (ad 0)), (1, .int v1), (2, .int v2), (3, .int v3)] [] := by
  replace hf : (thn (f_X4_viewAt v1 σ) (fun tr1 σ1 => chk (isVb tr1) (thn (f_X4_sourceOf tr1 σ1) (fun tr3 σ3 => chk (isTb tr3) (rthn (f_X3_covers tr1 v2 σ3) (fun vr5 => if vr5 = 0 then (some (.inl "java/lang/IllegalArgumentException", σ3)) else (thn (f_X4_putWithin tr3 v2 v3 σ3) (fun _ σ7 => rthn (f_X3_countEntries tr1 σ7) (fun vr8 => some (.inr vr8, σ7)))))))))) = some (oo, σ') := hf
  intro H locs ls h hl
  have hx := B.1
  have hb := B.2.1
  refine lv_aload_n hx hb dX4_viewPut_0 rfl (lv_at hl 0 rfl) ?_
  refine lv_iload_n hx hb dX4_viewPut_1 rfl (lv_at hl 1 rfl) ?_
  rcases thn_cases hf with ⟨E1, σ1, hq1, ho⟩ | ⟨tr1, σ1, hq1, hf⟩
  · cases ho
    exact sThrC (g_runV (k := 0) (T := TX4) (N := 8) B h (ok_X4_viewAt B.2.2.2.2.2.2.2.2 B.2.2.2.2.2.2.1 _ _ v1 hq1) cw_X4_120 ⟨Nat.le_of_ble_eq_true rfl, Nat.le_of_ble_eq_true rfl⟩ (by decide) (S_row _) rfl rfl hl.1.symm rfl (Nat.le_of_ble_eq_true rfl) dX4_viewPut_2 ⟨Nat.le_of_eq (Nat.zero_add _), Nat.le_of_eq (Nat.zero_add _)⟩) h (fun H locs q ce h hc hv hcl => sE_out B htab h hc hv hcl (Nat.le_of_eq (Nat.zero_add _)) (Nat.le_of_eq (Nat.zero_add _)))
  refine sRetC1 (g_runV (k := 0) (T := TX4) (N := 8) B h (ok_X4_viewAt B.2.2.2.2.2.2.2.2 B.2.2.2.2.2.2.1 _ _ v1 hq1) cw_X4_120 ⟨Nat.le_of_ble_eq_true rfl, Nat.le_of_ble_eq_true rfl⟩ (by decide) (S_row _) rfl rfl hl.1.symm rfl (Nat.le_of_ble_eq_true rfl) dX4_viewPut_2 ⟨Nat.zero_le _, Nat.zero_le _⟩) h (fun H locs h => ?_)
  obtain ⟨c2, hf⟩ := chk_some hf
  refine lv_astore (lv' := [(4, .ref (ad tr1)), (0, .ref (ad 0)), (1, .int v1), (2, .int v2), (3, .int v3)]) hx hb dX4_viewPut_5 hl (by decide) rfl (fun ls hl => ?_)
  refine lv_aload hx hb dX4_viewPut_7 (lv_at hl 0 rfl) ?_
  rcases thn_cases hf with ⟨E3, σ3, hq3, ho⟩ | ⟨tr3, σ3, hq3, hf⟩
  · cases ho
    exact sThrC (g_runS B h (ok_X4_sourceOf B.2.2.2.2.2.2.2.2 B.2.2.2.2.2.2.1 _ _ (isVb_V c2) hq3) cw_X4_155 ⟨Nat.le_of_ble_eq_true rfl, Nat.le_of_ble_eq_true rfl⟩ rfl hl.1.symm rfl (Nat.le_of_ble_eq_true rfl) dX4_viewPut_9 ⟨Nat.le_of_eq (Nat.zero_add _), Nat.le_of_eq (Nat.zero_add _)⟩) h (fun H locs q ce h hc hv hcl => sE_out B htab h hc hv hcl (Nat.le_of_eq (Nat.zero_add _)) (Nat.le_of_eq (Nat.zero_add _)))
  refine sRetC1 (g_runS B h (ok_X4_sourceOf B.2.2.2.2.2.2.2.2 B.2.2.2.2.2.2.1 _ _ (isVb_V c2) hq3) cw_X4_155 ⟨Nat.le_of_ble_eq_true rfl, Nat.le_of_ble_eq_true rfl⟩ rfl hl.1.symm rfl (Nat.le_of_ble_eq_true rfl) dX4_viewPut_9 ⟨Nat.zero_le _, Nat.zero_le _⟩) h (fun H locs h => ?_)
  obtain ⟨c4, hf⟩ := chk_some hf
  refine lv_astore (lv' := [(5, .ref (ad tr3)), (4, .ref (ad tr1)), (0, .ref (ad 0)), (1, .int v1), (2, .int v2), (3, .int v3)]) hx hb dX4_viewPut_12 hl (by decide) rfl (fun ls hl => ?_)
  refine lv_aload hx hb dX4_viewPut_14 (lv_at hl 1 rfl) ?_
  refine lv_iload_n hx hb dX4_viewPut_16 rfl (lv_at hl 4 rfl) ?_
  obtain ⟨vr5, hq5, hf⟩ := rthn_some hf
  refine sRetC1 (g_runV (k := tr1) (T := TX3) (N := 6) B h (ok_X3_covers B.2.2.2.2.2.2.2.2 B.2.2.2.2.2.2.1 _ _ (isVb_V c2) v2 hq5) cw_X4_138 ⟨Nat.le_of_ble_eq_true rfl, Nat.le_of_ble_eq_true rfl⟩ (V_lt (isVb_V c2)) (V_row (isVb_V c2) _) rfl rfl hl.1.symm rfl (Nat.le_of_ble_eq_true rfl) dX4_viewPut_17 ⟨Nat.zero_le _, Nat.zero_le _⟩) h (fun H locs h => ?_)
  refine lv_if_ne (tgt := 33) hx hb dX4_viewPut_20 (by decide) (fun c6 => ?_) (fun c6 => ?_)
  · rw [if_neg c6] at hf
    refine lv_aload hx hb dX4_viewPut_33 (lv_at hl 0 rfl) ?_
    refine lv_iload_n hx hb dX4_viewPut_35 rfl (lv_at hl 4 rfl) ?_
    refine lv_iload_n hx hb dX4_viewPut_36 rfl (lv_at hl 5 rfl) ?_
    rcases thn_cases hf with ⟨E7, σ7, hq7, ho⟩ | ⟨vr7, σ7, hq7, hf⟩
    · cases ho
      exact sThrC (g_runS B h (ok_X4_putWithin B.2.2.2.2.2.2.2.2 B.2.2.2.2.2.2.1 _ _ (isTb_T c4) v2 v3 hq7) cw_X4_45 ⟨Nat.le_of_ble_eq_true rfl, Nat.le_of_ble_eq_true rfl⟩ rfl hl.1.symm rfl (Nat.le_of_ble_eq_true rfl) dX4_viewPut_37 ⟨Nat.le_of_eq (Nat.zero_add _), Nat.le_of_eq (Nat.zero_add _)⟩) h (fun H locs q ce h hc hv hcl => sE_out B htab h hc hv hcl (Nat.le_of_eq (Nat.zero_add _)) (Nat.le_of_eq (Nat.zero_add _)))
    refine sRetC0 (g_runS B h (ok_X4_putWithin B.2.2.2.2.2.2.2.2 B.2.2.2.2.2.2.1 _ _ (isTb_T c4) v2 v3 hq7) cw_X4_45 ⟨Nat.le_of_ble_eq_true rfl, Nat.le_of_ble_eq_true rfl⟩ rfl hl.1.symm rfl (Nat.le_of_ble_eq_true rfl) dX4_viewPut_37 ⟨Nat.zero_le _, Nat.zero_le _⟩) h (fun H locs h => ?_)
    refine lv_aload hx hb dX4_viewPut_40 (lv_at hl 1 rfl) ?_
    obtain ⟨vr8, hq8, hf⟩ := rthn_some hf
    refine sRetC1 (g_runV (k := tr1) (T := TX3) (N := 6) B h (ok_X3_countEntries B.2.2.2.2.2.2.2.2 B.2.2.2.2.2.2.1 _ _ (isVb_V c2) hq8) cw_X4_130 ⟨Nat.le_of_ble_eq_true rfl, Nat.le_of_ble_eq_true rfl⟩ (V_lt (isVb_V c2)) (V_row (isVb_V c2) _) rfl rfl hl.1.symm rfl (Nat.le_of_ble_eq_true rfl) dX4_viewPut_42 ⟨Nat.zero_le _, Nat.zero_le _⟩) h (fun H locs h => ?_)
    cases hf
    exact sE_i B hr h dX4_viewPut_45
  · rw [if_pos c6] at hf
    cases hf
    exact sE_thr (text := "the key does not lie in the span") (ic := 79) B htab h hl.1.symm ["java/lang/RuntimeException", "java/lang/Exception"] (by decide +kernel) (by decide +kernel) hw512 hw16 (by decide +kernel) (by decide +kernel) at_X4_79_g at_X4_79_n at_X4_79_o dX4_viewPut_23 dX4_viewPut_26 dX4_viewPut_27 dX4_viewPut_29 dX4_viewPut_32 (Nat.le_of_ble_eq_true rfl) (Nat.le_of_ble_eq_true rfl) (Nat.le_of_eq (Nat.zero_add _)) (Nat.le_of_eq (Nat.zero_add _)) (Nat.le_of_eq (Nat.zero_add _)) (Nat.le_of_eq (Nat.zero_add _))
set_option maxRecDepth 100000 in
theorem ok_X4_viewPut {l : Launch} (hl0 : l.stackTraces = false) {D : va_G} {cy : Nat → ClassId} {ad : Nat → Nat} (hap : sAp ad) (X : sX) (σ : sM) (v1 : Int32) (v2 : Int32) (v3 : Int32) {oo : String ⊕ Int32} {σ' : sM} (hf : f_X4_viewPut v1 v2 v3 σ = some (oo, σ')) : sMet l yX4_viewPut (sWs yX4_viewPut cX4_viewPut 6 (some .int)) 8 154 (sC (oI oo)) (sS (oI oo)) D cy ad X σ [.ref (ad 0), .int v1, .int v2, .int v3] (oI oo) X σ' := by
  refine sMet_of (by decide +kernel) (Nat.le_of_ble_eq_true rfl) hap hl0 ?_
  intro p e s m args below meth c ls B hr htab hl h
  exact k_X4_viewPut_0 B hr htab _ _ _ _  hf _ _ _ h hl
set_option maxHeartbeats 4000000 in
set_option maxRecDepth 100000 in
theorem k_X4_viewRemove_0 {p : Program} {l : Launch} {e : Env} {s : State} {m : MethodId} {args : Array Value} {below : List Frame} {meth : Method} {c : Code} {D : va_G} {cy : Nat → ClassId} {ad : Nat → Nat} {X : sX} {oo : String ⊕ Int32} {σ' : sM} (B : sB p l s m meth c args cX4_viewRemove 5 RX4 D cy ad) (hr : meth.sig.returnType = (some .boolean)) (htab : ∀ x ∈ c.exceptionTable.toList, False) (v1 : Int32) (v2 : Int32) (σ : sM) (hf : f_X4_viewRemove v1 v2 σ = some (oo, σ')) : sGo p l e { frames := 8, cells := (sC (oI oo)), slots := (sS (oI oo)), locals := 152 } s m args below meth c D cy ad X 5 (sQ below args s (sC (oI oo)) (sS (oI oo)) D cy ad (oI oo) X σ') σ 0 [(0, .ref (ad 0)), (1, .int v1), (2, .int v2)] [] := by
  replace hf : (thn (f_X4_viewAt v1 σ) (fun tr1 σ1 => chk (isVb tr1) (thn (f_X4_sourceOf tr1 σ1) (fun tr3 σ3 => chk (isTb tr3) (rthn (f_X3_covers tr1 v2 σ3) (fun vr5 => if vr5 = 0 then (some (.inr (0 : Int32), σ3)) else (wthn (f_X2_drop tr3 v2 σ3) (fun vr7 σ7 => if vr7 = 0 then (some (.inr (0 : Int32), σ7)) else (some (.inr (1 : Int32), σ7)))))))))) = some (oo, σ') := hf
  intro H locs ls h hl
  have hx := B.1
  have hb := B.2.1
  refine lv_aload_n hx hb dX4_viewRemove_0 rfl (lv_at hl 0 rfl) ?_
  refine lv_iload_n hx hb dX4_viewRemove_1 rfl (lv_at hl 1 rfl) ?_
  rcases thn_cases hf with ⟨E1, σ1, hq1, ho⟩ | ⟨tr1, σ1, hq1, hf⟩
  · cases ho
    exact sThrC (g_runV (k := 0) (T := TX4) (N := 8) B h (ok_X4_viewAt B.2.2.2.2.2.2.2.2 B.2.2.2.2.2.2.1 _ _ v1 hq1) cw_X4_120 ⟨Nat.le_of_ble_eq_true rfl, Nat.le_of_ble_eq_true rfl⟩ (by decide) (S_row _) rfl rfl hl.1.symm rfl (Nat.le_of_ble_eq_true rfl) dX4_viewRemove_2 ⟨Nat.le_of_eq (Nat.zero_add _), Nat.le_of_eq (Nat.zero_add _)⟩) h (fun H locs q ce h hc hv hcl => sE_out B htab h hc hv hcl (Nat.le_of_eq (Nat.zero_add _)) (Nat.le_of_eq (Nat.zero_add _)))
  refine sRetC1 (g_runV (k := 0) (T := TX4) (N := 8) B h (ok_X4_viewAt B.2.2.2.2.2.2.2.2 B.2.2.2.2.2.2.1 _ _ v1 hq1) cw_X4_120 ⟨Nat.le_of_ble_eq_true rfl, Nat.le_of_ble_eq_true rfl⟩ (by decide) (S_row _) rfl rfl hl.1.symm rfl (Nat.le_of_ble_eq_true rfl) dX4_viewRemove_2 ⟨Nat.zero_le _, Nat.zero_le _⟩) h (fun H locs h => ?_)
  obtain ⟨c2, hf⟩ := chk_some hf
  refine lv_astore_n (lv' := [(3, .ref (ad tr1)), (0, .ref (ad 0)), (1, .int v1), (2, .int v2)]) hx hb dX4_viewRemove_5 rfl hl (by decide) rfl (fun ls hl => ?_)
  refine lv_aload_n hx hb dX4_viewRemove_6 rfl (lv_at hl 0 rfl) ?_
  rcases thn_cases hf with ⟨E3, σ3, hq3, ho⟩ | ⟨tr3, σ3, hq3, hf⟩
  · cases ho
    exact sThrC (g_runS B h (ok_X4_sourceOf B.2.2.2.2.2.2.2.2 B.2.2.2.2.2.2.1 _ _ (isVb_V c2) hq3) cw_X4_155 ⟨Nat.le_of_ble_eq_true rfl, Nat.le_of_ble_eq_true rfl⟩ rfl hl.1.symm rfl (Nat.le_of_ble_eq_true rfl) dX4_viewRemove_7 ⟨Nat.le_of_eq (Nat.zero_add _), Nat.le_of_eq (Nat.zero_add _)⟩) h (fun H locs q ce h hc hv hcl => sE_out B htab h hc hv hcl (Nat.le_of_eq (Nat.zero_add _)) (Nat.le_of_eq (Nat.zero_add _)))
  refine sRetC1 (g_runS B h (ok_X4_sourceOf B.2.2.2.2.2.2.2.2 B.2.2.2.2.2.2.1 _ _ (isVb_V c2) hq3) cw_X4_155 ⟨Nat.le_of_ble_eq_true rfl, Nat.le_of_ble_eq_true rfl⟩ rfl hl.1.symm rfl (Nat.le_of_ble_eq_true rfl) dX4_viewRemove_7 ⟨Nat.zero_le _, Nat.zero_le _⟩) h (fun H locs h => ?_)
  obtain ⟨c4, hf⟩ := chk_some hf
  refine lv_astore (lv' := [(4, .ref (ad tr3)), (3, .ref (ad tr1)), (0, .ref (ad 0)), (1, .int v1), (2, .int v2)]) hx hb dX4_viewRemove_10 hl (by decide) rfl (fun ls hl => ?_)
  refine lv_aload_n hx hb dX4_viewRemove_12 rfl (lv_at hl 1 rfl) ?_
  refine lv_iload_n hx hb dX4_viewRemove_13 rfl (lv_at hl 4 rfl) ?_
  obtain ⟨vr5, hq5, hf⟩ := rthn_some hf
  refine sRetC1 (g_runV (k := tr1) (T := TX3) (N := 6) B h (ok_X3_covers B.2.2.2.2.2.2.2.2 B.2.2.2.2.2.2.1 _ _ (isVb_V c2) v2 hq5) cw_X4_138 ⟨Nat.le_of_ble_eq_true rfl, Nat.le_of_ble_eq_true rfl⟩ (V_lt (isVb_V c2)) (V_row (isVb_V c2) _) rfl rfl hl.1.symm rfl (Nat.le_of_ble_eq_true rfl) dX4_viewRemove_14 ⟨Nat.zero_le _, Nat.zero_le _⟩) h (fun H locs h => ?_)
  refine lv_if_eq (tgt := 33) hx hb dX4_viewRemove_17 (by decide) (fun c6 => ?_) (fun c6 => ?_)
  · rw [if_pos c6] at hf
    refine lv_iconst (v := (0 : Int32)) hx hb dX4_viewRemove_33 (by decide) ?_
    cases hf
    exact sE_z B hr h rfl dX4_viewRemove_34
  · rw [if_neg c6] at hf
    refine lv_aload hx hb dX4_viewRemove_20 (lv_at hl 0 rfl) ?_
    refine lv_iload_n hx hb dX4_viewRemove_22 rfl (lv_at hl 4 rfl) ?_
    obtain ⟨vr7, σ7, hq7, hf⟩ := wthn_some hf
    refine sRetC1 (g_runV (k := tr3) (T := TX2) (N := 3) B h (ok_X2_drop B.2.2.2.2.2.2.2.2 B.2.2.2.2.2.2.1 _ _ (isTb_T c4) v2 hq7) cw_X4_67 ⟨Nat.le_of_ble_eq_true rfl, Nat.le_of_ble_eq_true rfl⟩ (T_lt (isTb_T c4)) (T_row (isTb_T c4) _) rfl rfl hl.1.symm rfl (Nat.le_of_ble_eq_true rfl) dX4_viewRemove_23 ⟨Nat.zero_le _, Nat.zero_le _⟩) h (fun H locs h => ?_)
    refine lv_if_eq (tgt := 33) hx hb dX4_viewRemove_26 (by decide) (fun c8 => ?_) (fun c8 => ?_)
    · rw [if_pos c8] at hf
      refine lv_iconst (v := (0 : Int32)) hx hb dX4_viewRemove_33 (by decide) ?_
      cases hf
      exact sE_z B hr h rfl dX4_viewRemove_34
    · rw [if_neg c8] at hf
      refine lv_iconst (v := (1 : Int32)) hx hb dX4_viewRemove_29 (by decide) ?_
      refine lv_goto (tgt := 34) hx hb dX4_viewRemove_30 (by decide) ?_
      cases hf
      exact sE_z B hr h rfl dX4_viewRemove_34
set_option maxRecDepth 100000 in
theorem ok_X4_viewRemove {l : Launch} (hl0 : l.stackTraces = false) {D : va_G} {cy : Nat → ClassId} {ad : Nat → Nat} (hap : sAp ad) (X : sX) (σ : sM) (v1 : Int32) (v2 : Int32) {oo : String ⊕ Int32} {σ' : sM} (hf : f_X4_viewRemove v1 v2 σ = some (oo, σ')) : sMet l yX4_viewRemove (sWs yX4_viewRemove cX4_viewRemove 5 (some .boolean)) 8 152 (sC (oI oo)) (sS (oI oo)) D cy ad X σ [.ref (ad 0), .int v1, .int v2] (oI oo) X σ' := by
  refine sMet_of (by decide +kernel) (Nat.le_of_ble_eq_true rfl) hap hl0 ?_
  intro p e s m args below meth c ls B hr htab hl h
  exact k_X4_viewRemove_0 B hr htab _ _ _  hf _ _ _ h hl
set_option maxHeartbeats 4000000 in
set_option maxRecDepth 100000 in
theorem k_X4_viewSize_0 {p : Program} {l : Launch} {e : Env} {s : State} {m : MethodId} {args : Array Value} {below : List Frame} {meth : Method} {c : Code} {D : va_G} {cy : Nat → ClassId} {ad : Nat → Nat} {X : sX} {oo : String ⊕ Int32} {σ' : sM} (B : sB p l s m meth c args cX4_viewSize 2 RX4 D cy ad) (hr : meth.sig.returnType = (some .int)) (htab : ∀ x ∈ c.exceptionTable.toList, False) (v1 : Int32) (σ : sM) (hf : f_X4_viewSize v1 σ = some (oo, σ')) : sGo p l e { frames := 7, cells := (sC (oI oo)), slots := (sS (oI oo)), locals := 121 } s m args below meth c D cy ad X 2 (sQ below args s (sC (oI oo)) (sS (oI oo)) D cy ad (oI oo) X σ') σ 0 [(0, .ref (ad 0)), (1, .int v1)] [] := by
  replace hf : (thn (f_X4_viewAt v1 σ) (fun tr1 σ1 => chk (isVb tr1) (rthn (f_X3_countEntries tr1 σ1) (fun vr3 => some (.inr vr3, σ1))))) = some (oo, σ') := hf
  intro H locs ls h hl
  have hx := B.1
  have hb := B.2.1
  refine lv_aload_n hx hb dX4_viewSize_0 rfl (lv_at hl 0 rfl) ?_
  refine lv_iload_n hx hb dX4_viewSize_1 rfl (lv_at hl 1 rfl) ?_
  rcases thn_cases hf with ⟨E1, σ1, hq1, ho⟩ | ⟨tr1, σ1, hq1, hf⟩
  · cases ho
    exact sThrC (g_runV (k := 0) (T := TX4) (N := 8) B h (ok_X4_viewAt B.2.2.2.2.2.2.2.2 B.2.2.2.2.2.2.1 _ _ v1 hq1) cw_X4_120 ⟨Nat.le_of_ble_eq_true rfl, Nat.le_of_ble_eq_true rfl⟩ (by decide) (S_row _) rfl rfl hl.1.symm rfl (Nat.le_of_ble_eq_true rfl) dX4_viewSize_2 ⟨Nat.le_of_eq (Nat.zero_add _), Nat.le_of_eq (Nat.zero_add _)⟩) h (fun H locs q ce h hc hv hcl => sE_out B htab h hc hv hcl (Nat.le_of_eq (Nat.zero_add _)) (Nat.le_of_eq (Nat.zero_add _)))
  refine sRetC1 (g_runV (k := 0) (T := TX4) (N := 8) B h (ok_X4_viewAt B.2.2.2.2.2.2.2.2 B.2.2.2.2.2.2.1 _ _ v1 hq1) cw_X4_120 ⟨Nat.le_of_ble_eq_true rfl, Nat.le_of_ble_eq_true rfl⟩ (by decide) (S_row _) rfl rfl hl.1.symm rfl (Nat.le_of_ble_eq_true rfl) dX4_viewSize_2 ⟨Nat.zero_le _, Nat.zero_le _⟩) h (fun H locs h => ?_)
  obtain ⟨c2, hf⟩ := chk_some hf
  obtain ⟨vr3, hq3, hf⟩ := rthn_some hf
  refine sRetC1 (g_runV (k := tr1) (T := TX3) (N := 6) B h (ok_X3_countEntries B.2.2.2.2.2.2.2.2 B.2.2.2.2.2.2.1 _ _ (isVb_V c2) hq3) cw_X4_130 ⟨Nat.le_of_ble_eq_true rfl, Nat.le_of_ble_eq_true rfl⟩ (V_lt (isVb_V c2)) (V_row (isVb_V c2) _) rfl rfl hl.1.symm rfl (Nat.le_of_ble_eq_true rfl) dX4_viewSize_5 ⟨Nat.zero_le _, Nat.zero_le _⟩) h (fun H locs h => ?_)
  cases hf
  exact sE_i B hr h dX4_viewSize_8
set_option maxRecDepth 100000 in
theorem ok_X4_viewSize {l : Launch} (hl0 : l.stackTraces = false) {D : va_G} {cy : Nat → ClassId} {ad : Nat → Nat} (hap : sAp ad) (X : sX) (σ : sM) (v1 : Int32) {oo : String ⊕ Int32} {σ' : sM} (hf : f_X4_viewSize v1 σ = some (oo, σ')) : sMet l yX4_viewSize (sWs yX4_viewSize cX4_viewSize 2 (some .int)) 7 121 (sC (oI oo)) (sS (oI oo)) D cy ad X σ [.ref (ad 0), .int v1] (oI oo) X σ' := by
  refine sMet_of (by decide +kernel) (Nat.le_of_ble_eq_true rfl) hap hl0 ?_
  intro p e s m args below meth c ls B hr htab hl h
  exact k_X4_viewSize_0 B hr htab _ _  hf _ _ _ h hl
