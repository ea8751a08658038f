set_option maxHeartbeats 4000000 in
set_option maxRecDepth 100000 in
theorem k_X4_areMapsSound_2 {p : Program} {l : Launch} {e : Env} {s : State} {m : MethodId} {args : Array Value} {below : List Frame} {meth : Method} {c : Code} {D : va_G} {cy : Nat → ClassId} {ad : Nat → Nat} {X : sX} {r : Int32} {σ' : sM} (B : sB p l s m meth c args cX4_areMapsSound 2 RX4 D cy ad) (hr : meth.sig.returnType = (some .boolean)) : ∀ (n : Nat) (v1 : Int32) (σ : sM), b_X4_areMapsSound_2 n v1 σ = some (r, σ') → sGo p l e { frames := 5, cells := 0, slots := 0, locals := 175 } s m args below meth c D cy ad X 2 (sQ below args s 0 0 D cy ad (.inr (some (.int r))) X σ') σ 2 [(0, .ref (ad 0)), (1, .int v1)] [] := by
  intro n
  induction n with
  | zero =>
    intro v1 σ hf
    exact nomatch (show none = some (r, σ') from hf)
  | succ n ih =>
    intro v1 σ hf
    replace hf : (if (3 : Int32) ≤ v1 then (some ((1 : Int32), σ)) else (chk (inb v1 3) (rthn (f_X0_areNearKeysSound (6 + 3 * v1.toNatClampNeg) σ) (fun vr3 => if vr3 = 0 then (some ((0 : Int32), σ)) else (chk (inb v1 3) (wthn (f_X0_arePollsSound (6 + 3 * v1.toNatClampNeg) σ) (fun vr6 σ6 => if vr6 = 0 then (some ((0 : Int32), σ6)) else (b_X4_areMapsSound_2 n (v1 + 1) σ6)))))))) = some (r, σ') := hf
    intro H locs ls h hl
    have hx := B.1
    have hb := B.2.1
    refine lv_iload_n hx hb dX4_areMapsSound_2 rfl (lv_at hl 1 rfl) ?_
    refine lv_aload_n hx hb dX4_areMapsSound_3 rfl (lv_at hl 0 rfl) ?_
    refine g_get B h 0 (by decide) (C := RX4) (T := TX4) (N := 8) (S_row _) rfl hin_X4 0 (by decide) hw127 rfl rfl dX4_areMapsSound_4 ?_
    refine g_alen B h 1 (by decide) 3 rfl rfl (v := (3 : Int32)) rfl dX4_areMapsSound_7 ?_
    refine lv_icmp_ge (tgt := 51) hx hb dX4_areMapsSound_8 (by decide) (fun c1 => ?_) (fun c1 => ?_)
    · rw [if_pos c1] at hf
      refine lv_iconst (v := (1 : Int32)) hx hb dX4_areMapsSound_51 (by decide) ?_
      obtain ⟨rfl, rfl⟩ := Prod.mk.inj (Option.some.inj hf)
      exact sE_z B hr h rfl dX4_areMapsSound_52
    · rw [if_neg c1] at hf
      refine lv_aload_n hx hb dX4_areMapsSound_11 rfl (lv_at hl 0 rfl) ?_
      refine g_get B h 0 (by decide) (C := RX4) (T := TX4) (N := 8) (S_row _) rfl hin_X4 3 (by decide) hw130 rfl rfl dX4_areMapsSound_12 ?_
      refine lv_aload_n hx hb dX4_areMapsSound_15 rfl (lv_at hl 0 rfl) ?_
      refine g_get B h 0 (by decide) (C := RX4) (T := TX4) (N := 8) (S_row _) rfl hin_X4 0 (by decide) hw127 rfl rfl dX4_areMapsSound_16 ?_
      refine lv_iload_n hx hb dX4_areMapsSound_19 rfl (lv_at hl 1 rfl) ?_
      obtain ⟨c2, hf⟩ := chk_some hf
      refine g_aald B h 1 (by decide) 3 (C := RX2) (n := 3) rfl rfl (inb_in c2) (r := (6 + 3 * v1.toNatClampNeg)) (maps_at c2) dX4_areMapsSound_20 ?_
      obtain ⟨vr3, hq3, hf⟩ := rthn_some hf
      refine sRetC1 (g_runV (k := 4) (T := TX0) (N := 4) B h (ok_X0_areNearKeysSound B.2.2.2.2.2.2.2.2 B.2.2.2.2.2.2.1 _ _ (maps_T c2) hq3) cw_X4_257 ⟨Nat.le_of_ble_eq_true rfl, Nat.le_of_ble_eq_true rfl⟩ (by decide) (B_row _) rfl rfl hl.1.symm rfl (Nat.le_of_ble_eq_true rfl) dX4_areMapsSound_21 ⟨Nat.zero_le _, Nat.zero_le _⟩) h (fun H locs h => ?_)
      refine lv_if_eq (tgt := 43) hx hb dX4_areMapsSound_24 (by decide) (fun c4 => ?_) (fun c4 => ?_)
      · rw [if_pos c4] at hf
        refine lv_iconst (v := (0 : Int32)) hx hb dX4_areMapsSound_43 (by decide) ?_
        obtain ⟨rfl, rfl⟩ := Prod.mk.inj (Option.some.inj hf)
        exact sE_z B hr h rfl dX4_areMapsSound_44
      · rw [if_neg c4] at hf
        refine lv_aload_n hx hb dX4_areMapsSound_27 rfl (lv_at hl 0 rfl) ?_
        refine g_get B h 0 (by decide) (C := RX4) (T := TX4) (N := 8) (S_row _) rfl hin_X4 3 (by decide) hw130 rfl rfl dX4_areMapsSound_28 ?_
        refine lv_aload_n hx hb dX4_areMapsSound_31 rfl (lv_at hl 0 rfl) ?_
        refine g_get B h 0 (by decide) (C := RX4) (T := TX4) (N := 8) (S_row _) rfl hin_X4 0 (by decide) hw127 rfl rfl dX4_areMapsSound_32 ?_
        refine lv_iload_n hx hb dX4_areMapsSound_35 rfl (lv_at hl 1 rfl) ?_
        obtain ⟨c5, hf⟩ := chk_some hf
        refine g_aald B h 1 (by decide) 3 (C := RX2) (n := 3) rfl rfl (inb_in c5) (r := (6 + 3 * v1.toNatClampNeg)) (maps_at c5) dX4_areMapsSound_36 ?_
        obtain ⟨vr6, σ6, hq6, hf⟩ := wthn_some hf
        refine sRetC1 (g_runV (k := 4) (T := TX0) (N := 4) B h (ok_X0_arePollsSound B.2.2.2.2.2.2.2.2 B.2.2.2.2.2.2.1 _ _ (maps_T c5) hq6) cw_X4_260 ⟨Nat.le_of_ble_eq_true rfl, Nat.le_of_ble_eq_true rfl⟩ (by decide) (B_row _) rfl rfl hl.1.symm rfl (Nat.le_of_ble_eq_true rfl) dX4_areMapsSound_37 ⟨Nat.zero_le _, Nat.zero_le _⟩) h (fun H locs h => ?_)
        refine lv_if_ne (tgt := 45) hx hb dX4_areMapsSound_40 (by decide) (fun c7 => ?_) (fun c7 => ?_)
        · rw [if_neg c7] at hf
          refine lv_iinc (v := (v1 + 1)) (lv' := [(1, .int (v1 + 1)), (0, .ref (ad 0))]) hx hb dX4_areMapsSound_45 hl (k := 1) rfl rfl (by decide) rfl (fun ls hl => ?_)
          refine lv_goto (tgt := 2) hx hb dX4_areMapsSound_48 (by decide) ?_
          exact ih _ _ hf _ _ _ h (lv_sub hl [1, 0] rfl)
        · rw [if_pos c7] at hf
          refine lv_iconst (v := (0 : Int32)) hx hb dX4_areMapsSound_43 (by decide) ?_
          obtain ⟨rfl, rfl⟩ := Prod.mk.inj (Option.some.inj hf)
          exact sE_z B hr h rfl dX4_areMapsSound_44
set_option maxHeartbeats 4000000 in
set_option maxRecDepth 100000 in
theorem k_X4_areMapsSound_0 {p : Program} {l : Launch} {e : Env} {s : State} {m : MethodId} {args : Array Value} {below : List Frame} {meth : Method} {c : Code} {D : va_G} {cy : Nat → ClassId} {ad : Nat → Nat} {X : sX} {r : Int32} {σ' : sM} (B : sB p l s m meth c args cX4_areMapsSound 2 RX4 D cy ad) (hr : meth.sig.returnType = (some .boolean)) (σ : sM) (hf : f_X4_areMapsSound σ = some (r, σ')) : sGo p l e { frames := 5, cells := 0, slots := 0, locals := 175 } s m args below meth c D cy ad X 2 (sQ below args s 0 0 D cy ad (.inr (some (.int r))) X σ') σ 0 [(0, .ref (ad 0))] [] := by
  replace hf : (b_X4_areMapsSound_2 FU (0 : Int32) σ) = some (r, σ') := hf
  intro H locs ls h hl
  have hx := B.1
  have hb := B.2.1
  refine lv_iconst (v := (0 : Int32)) hx hb dX4_areMapsSound_0 (by decide) ?_
  refine lv_istore_n (lv' := [(1, .int (0 : Int32)), (0, .ref (ad 0))]) hx hb dX4_areMapsSound_1 rfl hl (by decide) rfl (fun ls hl => ?_)
  exact k_X4_areMapsSound_2 B hr  _ _ _ hf _ _ _ h (lv_sub hl [1, 0] rfl)
set_option maxRecDepth 100000 in
theorem ok_X4_areMapsSound {l : Launch} (hl0 : l.stackTraces = false) {D : va_G} {cy : Nat → ClassId} {ad : Nat → Nat} (hap : sAp ad) (X : sX) (σ : sM) {r : Int32} {σ' : sM} (hf : f_X4_areMapsSound σ = some (r, σ')) : sMet l yX4_areMapsSound (sWs yX4_areMapsSound cX4_areMapsSound 2 (some .boolean)) 5 175 0 0 D cy ad X σ [.ref (ad 0)] (.inr (some (.int r))) X σ' := by
  refine sMet_of (by decide +kernel) (Nat.le_of_ble_eq_true rfl) hap hl0 ?_
  intro p e s m args below meth c ls B hr htab hl h
  exact k_X4_areMapsSound_0 B hr  _  hf _ _ _ h hl
set_option maxHeartbeats 4000000 in
set_option maxRecDepth 100000 in
theorem k_X4_areMixesSound_15 {p : Program} {l : Launch} {e : Env} {s : State} {m : MethodId} {args : Array Value} {below : List Frame} {meth : Method} {c : Code} {D : va_G} {cy : Nat → ClassId} {ad : Nat → Nat} {X : sX} {r : Int32} {σ' : sM} (B : sB p l s m meth c args cX4_areMixesSound 3 RX4 D cy ad) (hr : meth.sig.returnType = (some .boolean)) {K2 : Int32 → sM → Option (Int32 × sM)} (hK2 : ∀ (v1 : Int32) (σ : sM), K2 v1 σ = some (r, σ') → sGo p l e { frames := 4, cells := 0, slots := 0, locals := 181 } s m args below meth c D cy ad X 3 (sQ below args s 0 0 D cy ad (.inr (some (.int r))) X σ') σ 2 [(0, .ref (ad 0)), (1, .int v1)] []) : ∀ (n : Nat) (v1 : Int32) (v2 : Int32) (σ : sM), b_X4_areMixesSound_15 K2 n v1 v2 σ = some (r, σ') → sGo p l e { frames := 4, cells := 0, slots := 0, locals := 181 } s m args below meth c D cy ad X 3 (sQ below args s 0 0 D cy ad (.inr (some (.int r))) X σ') σ 15 [(0, .ref (ad 0)), (1, .int v1), (2, .int v2)] [] := by
  intro n
  induction n with
  | zero =>
    intro v1 v2 σ hf
    exact nomatch (show none = some (r, σ') from hf)
  | succ n ih =>
    intro v1 v2 σ hf
    replace hf : (if (3 : Int32) ≤ v2 then (K2 (v1 + 1) σ) else (chk (inb v1 3) (chk (inb v2 3) (wthn (f_X0_isMixAlike (6 + 3 * v1.toNatClampNeg) (6 + 3 * v2.toNatClampNeg) (115 : Int32) σ) (fun vr5 σ5 => if vr5 = 0 then (some ((0 : Int32), σ5)) else (chk (inb v1 3) (chk (inb v2 3) (wthn (f_X0_isMixAlike (6 + 3 * v1.toNatClampNeg) (6 + 3 * v2.toNatClampNeg) (103 : Int32) σ5) (fun vr9 σ9 => if vr9 = 0 then (some ((0 : Int32), σ9)) else (chk (inb v1 3) (chk (inb v2 3) (wthn (f_X0_isMixAlike (6 + 3 * v1.toNatClampNeg) (6 + 3 * v2.toNatClampNeg) (108 : Int32) σ9) (fun vr13 σ13 => if vr13 = 0 then (some ((0 : Int32), σ13)) else (b_X4_areMixesSound_15 K2 n v1 (v2 + 1) σ13)))))))))))))) = some (r, σ') := hf
    intro H locs ls h hl
    have hx := B.1
    have hb := B.2.1
    refine lv_iload_n hx hb dX4_areMixesSound_15 rfl (lv_at hl 2 rfl) ?_
    refine lv_aload_n hx hb dX4_areMixesSound_16 rfl (lv_at hl 0 rfl) ?_
    refine g_get B h 0 (by decide) (C := RX4) (T := TX4) (N := 8) (S_row _) rfl hin_X4 0 (by decide) hw127 rfl rfl dX4_areMixesSound_17 ?_
    refine g_alen B h 1 (by decide) 3 rfl rfl (v := (3 : Int32)) rfl dX4_areMixesSound_20 ?_
    refine lv_icmp_ge (tgt := 104) hx hb dX4_areMixesSound_21 (by decide) (fun c2 => ?_) (fun c2 => ?_)
    · rw [if_pos c2] at hf
      refine lv_iinc (v := (v1 + 1)) (lv' := [(1, .int (v1 + 1)), (0, .ref (ad 0)), (2, .int v2)]) hx hb dX4_areMixesSound_104 hl (k := 1) rfl rfl (by decide) rfl (fun ls hl => ?_)
      refine lv_goto (tgt := 2) hx hb dX4_areMixesSound_107 (by decide) ?_
      exact hK2 _ _ hf _ _ _ h (lv_sub hl [1, 0] rfl)
    · rw [if_neg c2] at hf
      refine lv_aload_n hx hb dX4_areMixesSound_24 rfl (lv_at hl 0 rfl) ?_
      refine g_get B h 0 (by decide) (C := RX4) (T := TX4) (N := 8) (S_row _) rfl hin_X4 3 (by decide) hw130 rfl rfl dX4_areMixesSound_25 ?_
      refine lv_aload_n hx hb dX4_areMixesSound_28 rfl (lv_at hl 0 rfl) ?_
      refine g_get B h 0 (by decide) (C := RX4) (T := TX4) (N := 8) (S_row _) rfl hin_X4 0 (by decide) hw127 rfl rfl dX4_areMixesSound_29 ?_
      refine lv_iload_n hx hb dX4_areMixesSound_32 rfl (lv_at hl 1 rfl) ?_
      obtain ⟨c3, hf⟩ := chk_some hf
      refine g_aald B h 1 (by decide) 3 (C := RX2) (n := 3) rfl rfl (inb_in c3) (r := (6 + 3 * v1.toNatClampNeg)) (maps_at c3) dX4_areMixesSound_33 ?_
      refine lv_aload_n hx hb dX4_areMixesSound_34 rfl (lv_at hl 0 rfl) ?_
      refine g_get B h 0 (by decide) (C := RX4) (T := TX4) (N := 8) (S_row _) rfl hin_X4 0 (by decide) hw127 rfl rfl dX4_areMixesSound_35 ?_
      refine lv_iload_n hx hb dX4_areMixesSound_38 rfl (lv_at hl 2 rfl) ?_
      obtain ⟨c4, hf⟩ := chk_some hf
      refine g_aald B h 1 (by decide) 3 (C := RX2) (n := 3) rfl rfl (inb_in c4) (r := (6 + 3 * v2.toNatClampNeg)) (maps_at c4) dX4_areMixesSound_39 ?_
      refine lv_bipush (v := (115 : Int32)) hx hb dX4_areMixesSound_40 (by decide) ?_
      obtain ⟨vr5, σ5, hq5, hf⟩ := wthn_some hf
      refine sRetC1 (g_runV (k := 4) (T := TX0) (N := 4) B h (ok_X0_isMixAlike B.2.2.2.2.2.2.2.2 B.2.2.2.2.2.2.1 _ _ (maps_T c3) (maps_T c4) (115 : Int32) hq5) cw_X4_274 ⟨Nat.le_of_ble_eq_true rfl, Nat.le_of_ble_eq_true rfl⟩ (by decide) (B_row _) rfl rfl hl.1.symm rfl (Nat.le_of_ble_eq_true rfl) dX4_areMixesSound_42 ⟨Nat.zero_le _, Nat.zero_le _⟩) h (fun H locs h => ?_)
      refine lv_if_eq (tgt := 96) hx hb dX4_areMixesSound_45 (by decide) (fun c6 => ?_) (fun c6 => ?_)
      · rw [if_pos c6] at hf
        refine lv_iconst (v := (0 : Int32)) hx hb dX4_areMixesSound_96 (by decide) ?_
        obtain ⟨rfl, rfl⟩ := Prod.mk.inj (Option.some.inj hf)
        exact sE_z B hr h rfl dX4_areMixesSound_97
      · rw [if_neg c6] at hf
        refine lv_aload_n hx hb dX4_areMixesSound_48 rfl (lv_at hl 0 rfl) ?_
        refine g_get B h 0 (by decide) (C := RX4) (T := TX4) (N := 8) (S_row _) rfl hin_X4 3 (by decide) hw130 rfl rfl dX4_areMixesSound_49 ?_
        refine lv_aload_n hx hb dX4_areMixesSound_52 rfl (lv_at hl 0 rfl) ?_
        refine g_get B h 0 (by decide) (C := RX4) (T := TX4) (N := 8) (S_row _) rfl hin_X4 0 (by decide) hw127 rfl rfl dX4_areMixesSound_53 ?_
        refine lv_iload_n hx hb dX4_areMixesSound_56 rfl (lv_at hl 1 rfl) ?_
        obtain ⟨c7, hf⟩ := chk_some hf
        refine g_aald B h 1 (by decide) 3 (C := RX2) (n := 3) rfl rfl (inb_in c7) (r := (6 + 3 * v1.toNatClampNeg)) (maps_at c7) dX4_areMixesSound_57 ?_
        refine lv_aload_n hx hb dX4_areMixesSound_58 rfl (lv_at hl 0 rfl) ?_
        refine g_get B h 0 (by decide) (C := RX4) (T := TX4) (N := 8) (S_row _) rfl hin_X4 0 (by decide) hw127 rfl rfl dX4_areMixesSound_59 ?_
        refine lv_iload_n hx hb dX4_areMixesSound_62 rfl (lv_at hl 2 rfl) ?_
        obtain ⟨c8, hf⟩ := chk_some hf
        refine g_aald B h 1 (by decide) 3 (C := RX2) (n := 3) rfl rfl (inb_in c8) (r := (6 + 3 * v2.toNatClampNeg)) (maps_at c8) dX4_areMixesSound_63 ?_
        refine lv_bipush (v := (103 : Int32)) hx hb dX4_areMixesSound_64 (by decide) ?_
        obtain ⟨vr9, σ9, hq9, hf⟩ := wthn_some hf
        refine sRetC1 (g_runV (k := 4) (T := TX0) (N := 4) B h (ok_X0_isMixAlike B.2.2.2.2.2.2.2.2 B.2.2.2.2.2.2.1 _ _ (maps_T c7) (maps_T c8) (103 : Int32) hq9) cw_X4_274 ⟨Nat.le_of_ble_eq_true rfl, Nat.le_of_ble_eq_true rfl⟩ (by decide) (B_row _) rfl rfl hl.1.symm rfl (Nat.le_of_ble_eq_true rfl) dX4_areMixesSound_66 ⟨Nat.zero_le _, Nat.zero_le _⟩) h (fun H locs h => ?_)
        refine lv_if_eq (tgt := 96) hx hb dX4_areMixesSound_69 (by decide) (fun c10 => ?_) (fun c10 => ?_)
        · rw [if_pos c10] at hf
          refine lv_iconst (v := (0 : Int32)) hx hb dX4_areMixesSound_96 (by decide) ?_
          obtain ⟨rfl, rfl⟩ := Prod.mk.inj (Option.some.inj hf)
          exact sE_z B hr h rfl dX4_areMixesSound_97
        · rw [if_neg c10] at hf
          refine lv_aload_n hx hb dX4_areMixesSound_72 rfl (lv_at hl 0 rfl) ?_
          refine g_get B h 0 (by decide) (C := RX4) (T := TX4) (N := 8) (S_row _) rfl hin_X4 3 (by decide) hw130 rfl rfl dX4_areMixesSound_73 ?_
          refine lv_aload_n hx hb dX4_areMixesSound_76 rfl (lv_at hl 0 rfl) ?_
          refine g_get B h 0 (by decide) (C := RX4) (T := TX4) (N := 8) (S_row _) rfl hin_X4 0 (by decide) hw127 rfl rfl dX4_areMixesSound_77 ?_
          refine lv_iload_n hx hb dX4_areMixesSound_80 rfl (lv_at hl 1 rfl) ?_
          obtain ⟨c11, hf⟩ := chk_some hf
          refine g_aald B h 1 (by decide) 3 (C := RX2) (n := 3) rfl rfl (inb_in c11) (r := (6 + 3 * v1.toNatClampNeg)) (maps_at c11) dX4_areMixesSound_81 ?_
          refine lv_aload_n hx hb dX4_areMixesSound_82 rfl (lv_at hl 0 rfl) ?_
          refine g_get B h 0 (by decide) (C := RX4) (T := TX4) (N := 8) (S_row _) rfl hin_X4 0 (by decide) hw127 rfl rfl dX4_areMixesSound_83 ?_
          refine lv_iload_n hx hb dX4_areMixesSound_86 rfl (lv_at hl 2 rfl) ?_
          obtain ⟨c12, hf⟩ := chk_some hf
          refine g_aald B h 1 (by decide) 3 (C := RX2) (n := 3) rfl rfl (inb_in c12) (r := (6 + 3 * v2.toNatClampNeg)) (maps_at c12) dX4_areMixesSound_87 ?_
          refine lv_bipush (v := (108 : Int32)) hx hb dX4_areMixesSound_88 (by decide) ?_
          obtain ⟨vr13, σ13, hq13, hf⟩ := wthn_some hf
          refine sRetC1 (g_runV (k := 4) (T := TX0) (N := 4) B h (ok_X0_isMixAlike B.2.2.2.2.2.2.2.2 B.2.2.2.2.2.2.1 _ _ (maps_T c11) (maps_T c12) (108 : Int32) hq13) cw_X4_274 ⟨Nat.le_of_ble_eq_true rfl, Nat.le_of_ble_eq_true rfl⟩ (by decide) (B_row _) rfl rfl hl.1.symm rfl (Nat.le_of_ble_eq_true rfl) dX4_areMixesSound_90 ⟨Nat.zero_le _, Nat.zero_le _⟩) h (fun H locs h => ?_)
          refine lv_if_ne (tgt := 98) hx hb dX4_areMixesSound_93 (by decide) (fun c14 => ?_) (fun c14 => ?_)
          · rw [if_neg c14] at hf
            refine lv_iinc (v := (v2 + 1)) (lv' := [(2, .int (v2 + 1)), (0, .ref (ad 0)), (1, .int v1)]) hx hb dX4_areMixesSound_98 hl (k := 2) rfl rfl (by decide) rfl (fun ls hl => ?_)
            refine lv_goto (tgt := 15) hx hb dX4_areMixesSound_101 (by decide) ?_
            exact ih _ _ _ hf _ _ _ h (lv_sub hl [1, 2, 0] rfl)
          · rw [if_pos c14] at hf
            refine lv_iconst (v := (0 : Int32)) hx hb dX4_areMixesSound_96 (by decide) ?_
            obtain ⟨rfl, rfl⟩ := Prod.mk.inj (Option.some.inj hf)
            exact sE_z B hr h rfl dX4_areMixesSound_97
set_option maxHeartbeats 4000000 in
set_option maxRecDepth 100000 in
theorem k_X4_areMixesSound_2 {p : Program} {l : Launch} {e : Env} {s : State} {m : MethodId} {args : Array Value} {below : List Frame} {meth : Method} {c : Code} {D : va_G} {cy : Nat → ClassId} {ad : Nat → Nat} {X : sX} {r : Int32} {σ' : sM} (B : sB p l s m meth c args cX4_areMixesSound 3 RX4 D cy ad) (hr : meth.sig.returnType = (some .boolean)) : ∀ (n : Nat) (v1 : Int32) (σ : sM), b_X4_areMixesSound_2 n v1 σ = some (r, σ') → sGo p l e { frames := 4, cells := 0, slots := 0, locals := 181 } s m args below meth c D cy ad X 3 (sQ below args s 0 0 D cy ad (.inr (some (.int r))) X σ') σ 2 [(0, .ref (ad 0)), (1, .int v1)] [] := by
  intro n
  induction n with
  | zero =>
    intro v1 σ hf
    exact nomatch (show none = some (r, σ') from hf)
  | succ n ih =>
    intro v1 σ hf
    replace hf : (if (3 : Int32) ≤ v1 then (some ((1 : Int32), σ)) else (b_X4_areMixesSound_15 (b_X4_areMixesSound_2 n) FU v1 (v1 + (1 : Int32)) σ)) = some (r, σ') := hf
    intro H locs ls h hl
    have hx := B.1
    have hb := B.2.1
    refine lv_iload_n hx hb dX4_areMixesSound_2 rfl (lv_at hl 1 rfl) ?_
    refine lv_aload_n hx hb dX4_areMixesSound_3 rfl (lv_at hl 0 rfl) ?_
    refine g_get B h 0 (by decide) (C := RX4) (T := TX4) (N := 8) (S_row _) rfl hin_X4 0 (by decide) hw127 rfl rfl dX4_areMixesSound_4 ?_
    refine g_alen B h 1 (by decide) 3 rfl rfl (v := (3 : Int32)) rfl dX4_areMixesSound_7 ?_
    refine lv_icmp_ge (tgt := 110) hx hb dX4_areMixesSound_8 (by decide) (fun c1 => ?_) (fun c1 => ?_)
    · rw [if_pos c1] at hf
      refine lv_iconst (v := (1 : Int32)) hx hb dX4_areMixesSound_110 (by decide) ?_
      obtain ⟨rfl, rfl⟩ := Prod.mk.inj (Option.some.inj hf)
      exact sE_z B hr h rfl dX4_areMixesSound_111
    · rw [if_neg c1] at hf
      refine lv_iload_n hx hb dX4_areMixesSound_11 rfl (lv_at hl 1 rfl) ?_
      refine lv_iconst (v := (1 : Int32)) hx hb dX4_areMixesSound_12 (by decide) ?_
      refine lv_iadd hx hb dX4_areMixesSound_13 ?_
      refine lv_istore_n (lv' := [(2, .int (v1 + (1 : Int32))), (0, .ref (ad 0)), (1, .int v1)]) hx hb dX4_areMixesSound_14 rfl hl (by decide) rfl (fun ls hl => ?_)
      exact k_X4_areMixesSound_15 B hr ih _ _ _ _ hf _ _ _ h (lv_sub hl [1, 2, 0] rfl)
set_option maxHeartbeats 4000000 in
set_option maxRecDepth 100000 in
theorem k_X4_areMixesSound_0 {p : Program} {l : Launch} {e : Env} {s : State} {m : MethodId} {args : Array Value} {below : List Frame} {meth : Method} {c : Code} {D : va_G} {cy : Nat → ClassId} {ad : Nat → Nat} {X : sX} {r : Int32} {σ' : sM} (B : sB p l s m meth c args cX4_areMixesSound 3 RX4 D cy ad) (hr : meth.sig.returnType = (some .boolean)) (σ : sM) (hf : f_X4_areMixesSound σ = some (r, σ')) : sGo p l e { frames := 4, cells := 0, slots := 0, locals := 181 } s m args below meth c D cy ad X 3 (sQ below args s 0 0 D cy ad (.inr (some (.int r))) X σ') σ 0 [(0, .ref (ad 0))] [] := by
  replace hf : (b_X4_areMixesSound_2 FU (0 : Int32) σ) = some (r, σ') := hf
  intro H locs ls h hl
  have hx := B.1
  have hb := B.2.1
  refine lv_iconst (v := (0 : Int32)) hx hb dX4_areMixesSound_0 (by decide) ?_
  refine lv_istore_n (lv' := [(1, .int (0 : Int32)), (0, .ref (ad 0))]) hx hb dX4_areMixesSound_1 rfl hl (by decide) rfl (fun ls hl => ?_)
  exact k_X4_areMixesSound_2 B hr  _ _ _ hf _ _ _ h (lv_sub hl [1, 0] rfl)
set_option maxRecDepth 100000 in
theorem ok_X4_areMixesSound {l : Launch} (hl0 : l.stackTraces = false) {D : va_G} {cy : Nat → ClassId} {ad : Nat → Nat} (hap : sAp ad) (X : sX) (σ : sM) {r : Int32} {σ' : sM} (hf : f_X4_areMixesSound σ = some (r, σ')) : sMet l yX4_areMixesSound (sWs yX4_areMixesSound cX4_areMixesSound 3 (some .boolean)) 4 181 0 0 D cy ad X σ [.ref (ad 0)] (.inr (some (.int r))) X σ' := by
  refine sMet_of (by decide +kernel) (Nat.le_of_ble_eq_true rfl) hap hl0 ?_
  intro p e s m args below meth c ls B hr htab hl h
  exact k_X4_areMixesSound_0 B hr  _  hf _ _ _ h hl
set_option maxHeartbeats 4000000 in
set_option maxRecDepth 100000 in
theorem k_X4_areOppositesSound_13 {p : Program} {l : Launch} {e : Env} {s : State} {m : MethodId} {args : Array Value} {below : List Frame} {meth : Method} {c : Code} {D : va_G} {cy : Nat → ClassId} {ad : Nat → Nat} {X : sX} {r : Int32} {σ' : sM} (B : sB p l s m meth c args cX4_areOppositesSound 3 RX4 D cy ad) (hr : meth.sig.returnType = (some .boolean)) {K2 : Int32 → sM → Option (Int32 × sM)} (hK2 : ∀ (v1 : Int32) (σ : sM), K2 v1 σ = some (r, σ') → sGo p l e { frames := 6, cells := 0, slots := 0, locals := 221 } s m args below meth c D cy ad X 3 (sQ below args s 0 0 D cy ad (.inr (some (.int r))) X σ') σ 2 [(0, .ref (ad 0)), (1, .int v1)] []) : ∀ (n : Nat) (v1 : Int32) (v2 : Int32) (σ : sM), b_X4_areOppositesSound_13 K2 n v1 v2 σ = some (r, σ') → sGo p l e { frames := 6, cells := 0, slots := 0, locals := 221 } s m args below meth c D cy ad X 3 (sQ below args s 0 0 D cy ad (.inr (some (.int r))) X σ') σ 13 [(0, .ref (ad 0)), (1, .int v1), (2, .int v2)] [] := by
  intro n
  induction n with
  | zero =>
    intro v1 v2 σ hf
    exact nomatch (show none = some (r, σ') from hf)
  | succ n ih =>
    intro v1 v2 σ hf
    replace hf : (if (3 : Int32) ≤ v2 then (K2 (v1 + 1) σ) else (chk (inb v1 3) (chk (inb v2 3) (wthn (f_X0_isUndone (28 + 4 * v1.toNatClampNeg) (6 + 3 * v2.toNatClampNeg) σ) (fun vr5 σ5 => if vr5 = 0 then (some ((0 : Int32), σ5)) else (b_X4_areOppositesSound_13 K2 n v1 (v2 + 1) σ5)))))) = some (r, σ') := hf
    intro H locs ls h hl
    have hx := B.1
    have hb := B.2.1
    refine lv_iload_n hx hb dX4_areOppositesSound_13 rfl (lv_at hl 2 rfl) ?_
    refine lv_aload_n hx hb dX4_areOppositesSound_14 rfl (lv_at hl 0 rfl) ?_
    refine g_get B h 0 (by decide) (C := RX4) (T := TX4) (N := 8) (S_row _) rfl hin_X4 0 (by decide) hw127 rfl rfl dX4_areOppositesSound_15 ?_
    refine g_alen B h 1 (by decide) 3 rfl rfl (v := (3 : Int32)) rfl dX4_areOppositesSound_18 ?_
    refine lv_icmp_ge (tgt := 52) hx hb dX4_areOppositesSound_19 (by decide) (fun c2 => ?_) (fun c2 => ?_)
    · rw [if_pos c2] at hf
      refine lv_iinc (v := (v1 + 1)) (lv' := [(1, .int (v1 + 1)), (0, .ref (ad 0)), (2, .int v2)]) hx hb dX4_areOppositesSound_52 hl (k := 1) rfl rfl (by decide) rfl (fun ls hl => ?_)
      refine lv_goto (tgt := 2) hx hb dX4_areOppositesSound_55 (by decide) ?_
      exact hK2 _ _ hf _ _ _ h (lv_sub hl [1, 0] rfl)
    · rw [if_neg c2] at hf
      refine lv_aload_n hx hb dX4_areOppositesSound_22 rfl (lv_at hl 0 rfl) ?_
      refine g_get B h 0 (by decide) (C := RX4) (T := TX4) (N := 8) (S_row _) rfl hin_X4 3 (by decide) hw130 rfl rfl dX4_areOppositesSound_23 ?_
      refine lv_aload_n hx hb dX4_areOppositesSound_26 rfl (lv_at hl 0 rfl) ?_
      refine g_get B h 0 (by decide) (C := RX4) (T := TX4) (N := 8) (S_row _) rfl hin_X4 2 (by decide) hw129 rfl rfl dX4_areOppositesSound_27 ?_
      refine lv_iload_n hx hb dX4_areOppositesSound_30 rfl (lv_at hl 1 rfl) ?_
      obtain ⟨c3, hf⟩ := chk_some hf
      refine g_aald B h 3 (by decide) 5 (C := RX1) (n := 3) rfl rfl (inb_in c3) (r := (28 + 4 * v1.toNatClampNeg)) (hists_at c3) dX4_areOppositesSound_31 ?_
      refine lv_aload_n hx hb dX4_areOppositesSound_32 rfl (lv_at hl 0 rfl) ?_
      refine g_get B h 0 (by decide) (C := RX4) (T := TX4) (N := 8) (S_row _) rfl hin_X4 0 (by decide) hw127 rfl rfl dX4_areOppositesSound_33 ?_
      refine lv_iload_n hx hb dX4_areOppositesSound_36 rfl (lv_at hl 2 rfl) ?_
      obtain ⟨c4, hf⟩ := chk_some hf
      refine g_aald B h 1 (by decide) 3 (C := RX2) (n := 3) rfl rfl (inb_in c4) (r := (6 + 3 * v2.toNatClampNeg)) (maps_at c4) dX4_areOppositesSound_37 ?_
      obtain ⟨vr5, σ5, hq5, hf⟩ := wthn_some hf
      refine sRetC1 (g_runV (k := 4) (T := TX0) (N := 4) B h (ok_X0_isUndone B.2.2.2.2.2.2.2.2 B.2.2.2.2.2.2.1 _ _ (hists_H c3) (maps_T c4) hq5) cw_X4_270 ⟨Nat.le_of_ble_eq_true rfl, Nat.le_of_ble_eq_true rfl⟩ (by decide) (B_row _) rfl rfl hl.1.symm rfl (Nat.le_of_ble_eq_true rfl) dX4_areOppositesSound_38 ⟨Nat.zero_le _, Nat.zero_le _⟩) h (fun H locs h => ?_)
      refine lv_if_ne (tgt := 46) hx hb dX4_areOppositesSound_41 (by decide) (fun c6 => ?_) (fun c6 => ?_)
      · rw [if_neg c6] at hf
        refine lv_iinc (v := (v2 + 1)) (lv' := [(2, .int (v2 + 1)), (0, .ref (ad 0)), (1, .int v1)]) hx hb dX4_areOppositesSound_46 hl (k := 2) rfl rfl (by decide) rfl (fun ls hl => ?_)
        refine lv_goto (tgt := 13) hx hb dX4_areOppositesSound_49 (by decide) ?_
        exact ih _ _ _ hf _ _ _ h (lv_sub hl [1, 2, 0] rfl)
      · rw [if_pos c6] at hf
        refine lv_iconst (v := (0 : Int32)) hx hb dX4_areOppositesSound_44 (by decide) ?_
        obtain ⟨rfl, rfl⟩ := Prod.mk.inj (Option.some.inj hf)
        exact sE_z B hr h rfl dX4_areOppositesSound_45
set_option maxHeartbeats 4000000 in
set_option maxRecDepth 100000 in
theorem k_X4_areOppositesSound_2 {p : Program} {l : Launch} {e : Env} {s : State} {m : MethodId} {args : Array Value} {below : List Frame} {meth : Method} {c : Code} {D : va_G} {cy : Nat → ClassId} {ad : Nat → Nat} {X : sX} {r : Int32} {σ' : sM} (B : sB p l s m meth c args cX4_areOppositesSound 3 RX4 D cy ad) (hr : meth.sig.returnType = (some .boolean)) : ∀ (n : Nat) (v1 : Int32) (σ : sM), b_X4_areOppositesSound_2 n v1 σ = some (r, σ') → sGo p l e { frames := 6, cells := 0, slots := 0, locals := 221 } s m args below meth c D cy ad X 3 (sQ below args s 0 0 D cy ad (.inr (some (.int r))) X σ') σ 2 [(0, .ref (ad 0)), (1, .int v1)] [] := by
  intro n
  induction n with
  | zero =>
    intro v1 σ hf
    exact nomatch (show none = some (r, σ') from hf)
  | succ n ih =>
    intro v1 σ hf
    replace hf : (if (3 : Int32) ≤ v1 then (some ((1 : Int32), σ)) else (b_X4_areOppositesSound_13 (b_X4_areOppositesSound_2 n) FU v1 (0 : Int32) σ)) = some (r, σ') := hf
    intro H locs ls h hl
    have hx := B.1
    have hb := B.2.1
    refine lv_iload_n hx hb dX4_areOppositesSound_2 rfl (lv_at hl 1 rfl) ?_
    refine lv_aload_n hx hb dX4_areOppositesSound_3 rfl (lv_at hl 0 rfl) ?_
    refine g_get B h 0 (by decide) (C := RX4) (T := TX4) (N := 8) (S_row _) rfl hin_X4 2 (by decide) hw129 rfl rfl dX4_areOppositesSound_4 ?_
    refine g_alen B h 3 (by decide) 5 rfl rfl (v := (3 : Int32)) rfl dX4_areOppositesSound_7 ?_
    refine lv_icmp_ge (tgt := 58) hx hb dX4_areOppositesSound_8 (by decide) (fun c1 => ?_) (fun c1 => ?_)
    · rw [if_pos c1] at hf
      refine lv_iconst (v := (1 : Int32)) hx hb dX4_areOppositesSound_58 (by decide) ?_
      obtain ⟨rfl, rfl⟩ := Prod.mk.inj (Option.some.inj hf)
      exact sE_z B hr h rfl dX4_areOppositesSound_59
    · rw [if_neg c1] at hf
      refine lv_iconst (v := (0 : Int32)) hx hb dX4_areOppositesSound_11 (by decide) ?_
      refine lv_istore_n (lv' := [(2, .int (0 : Int32)), (0, .ref (ad 0)), (1, .int v1)]) hx hb dX4_areOppositesSound_12 rfl hl (by decide) rfl (fun ls hl => ?_)
      exact k_X4_areOppositesSound_13 B hr ih _ _ _ _ hf _ _ _ h (lv_sub hl [1, 2, 0] rfl)
set_option maxHeartbeats 4000000 in
set_option maxRecDepth 100000 in
theorem k_X4_areOppositesSound_0 {p : Program} {l : Launch} {e : Env} {s : State} {m : MethodId} {args : Array Value} {below : List Frame} {meth : Method} {c : Code} {D : va_G} {cy : Nat → ClassId} {ad : Nat → Nat} {X : sX} {r : Int32} {σ' : sM} (B : sB p l s m meth c args cX4_areOppositesSound 3 RX4 D cy ad) (hr : meth.sig.returnType = (some .boolean)) (σ : sM) (hf : f_X4_areOppositesSound σ = some (r, σ')) : sGo p l e { frames := 6, cells := 0, slots := 0, locals := 221 } s m args below meth c D cy ad X 3 (sQ below args s 0 0 D cy ad (.inr (some (.int r))) X σ') σ 0 [(0, .ref (ad 0))] [] := by
  replace hf : (b_X4_areOppositesSound_2 FU (0 : Int32) σ) = some (r, σ') := hf
  intro H locs ls h hl
  have hx := B.1
  have hb := B.2.1
  refine lv_iconst (v := (0 : Int32)) hx hb dX4_areOppositesSound_0 (by decide) ?_
  refine lv_istore_n (lv' := [(1, .int (0 : Int32)), (0, .ref (ad 0))]) hx hb dX4_areOppositesSound_1 rfl hl (by decide) rfl (fun ls hl => ?_)
  exact k_X4_areOppositesSound_2 B hr  _ _ _ hf _ _ _ h (lv_sub hl [1, 0] rfl)
set_option maxRecDepth 100000 in
theorem ok_X4_areOppositesSound {l : Launch} (hl0 : l.stackTraces = false) {D : va_G} {cy : Nat → ClassId} {ad : Nat → Nat} (hap : sAp ad) (X : sX) (σ : sM) {r : Int32} {σ' : sM} (hf : f_X4_areOppositesSound σ = some (r, σ')) : sMet l yX4_areOppositesSound (sWs yX4_areOppositesSound cX4_areOppositesSound 3 (some .boolean)) 6 221 0 0 D cy ad X σ [.ref (ad 0)] (.inr (some (.int r))) X σ' := by
  refine sMet_of (by decide +kernel) (Nat.le_of_ble_eq_true rfl) hap hl0 ?_
  intro p e s m args below meth c ls B hr htab hl h
  exact k_X4_areOppositesSound_0 B hr  _  hf _ _ _ h hl
set_option maxHeartbeats 4000000 in
set_option maxRecDepth 100000 in
theorem k_X4_areOrdersFree_26 {p : Program} {l : Launch} {e : Env} {s : State} {m : MethodId} {args : Array Value} {below : List Frame} {meth : Method} {c : Code} {D : va_G} {cy : Nat → ClassId} {ad : Nat → Nat} {X : sX} {r : Int32} {σ' : sM} (B : sB p l s m meth c args cX4_areOrdersFree 4 RX4 D cy ad) (hr : meth.sig.returnType = (some .boolean)) {K2 : Int32 → sM → Option (Int32 × sM)} (hK2 : ∀ (v1 : Int32) (σ : sM), K2 v1 σ = some (r, σ') → sGo p l e { frames := 6, cells := 0, slots := 0, locals := 222 } s m args below meth c D cy ad X 4 (sQ below args s 0 0 D cy ad (.inr (some (.int r))) X σ') σ 2 [(0, .ref (ad 0)), (1, .int v1)] []) {K15 : Int32 → Int32 → sM → Option (Int32 × sM)} (hK15 : ∀ (v1 : Int32) (v2 : Int32) (σ : sM), K15 v1 v2 σ = some (r, σ') → sGo p l e { frames := 6, cells := 0, slots := 0, locals := 222 } s m args below meth c D cy ad X 4 (sQ below args s 0 0 D cy ad (.inr (some (.int r))) X σ') σ 15 [(0, .ref (ad 0)), (1, .int v1), (2, .int v2)] []) : ∀ (n : Nat) (v1 : Int32) (v2 : Int32) (v3 : Int32) (σ : sM), b_X4_areOrdersFree_26 K2 K15 n v1 v2 v3 σ = some (r, σ') → sGo p l e { frames := 6, cells := 0, slots := 0, locals := 222 } s m args below meth c D cy ad X 4 (sQ below args s 0 0 D cy ad (.inr (some (.int r))) X σ') σ 26 [(0, .ref (ad 0)), (1, .int v1), (2, .int v2), (3, .int v3)] [] := by
  intro n
  induction n with
  | zero =>
    intro v1 v2 v3 σ hf
    exact nomatch (show none = some (r, σ') from hf)
  | succ n ih =>
    intro v1 v2 v3 σ hf
    replace hf : (if (3 : Int32) ≤ v3 then (K15 v1 (v2 + 1) σ) else (chk (inb v1 3) (chk (inb v2 3) (chk (inb v3 3) (wthn (f_X0_isOrderFree (28 + 4 * v1.toNatClampNeg) (28 + 4 * v2.toNatClampNeg) (6 + 3 * v3.toNatClampNeg) σ) (fun vr7 σ7 => if vr7 = 0 then (some ((0 : Int32), σ7)) else (b_X4_areOrdersFree_26 K2 K15 n v1 v2 (v3 + 1) σ7))))))) = some (r, σ') := hf
    intro H locs ls h hl
    have hx := B.1
    have hb := B.2.1
    refine lv_iload_n hx hb dX4_areOrdersFree_26 rfl (lv_at hl 3 rfl) ?_
    refine lv_aload_n hx hb dX4_areOrdersFree_27 rfl (lv_at hl 0 rfl) ?_
    refine g_get B h 0 (by decide) (C := RX4) (T := TX4) (N := 8) (S_row _) rfl hin_X4 0 (by decide) hw127 rfl rfl dX4_areOrdersFree_28 ?_
    refine g_alen B h 1 (by decide) 3 rfl rfl (v := (3 : Int32)) rfl dX4_areOrdersFree_31 ?_
    refine lv_icmp_ge (tgt := 71) hx hb dX4_areOrdersFree_32 (by decide) (fun c3 => ?_) (fun c3 => ?_)
    · rw [if_pos c3] at hf
      refine lv_iinc (v := (v2 + 1)) (lv' := [(2, .int (v2 + 1)), (0, .ref (ad 0)), (1, .int v1), (3, .int v3)]) hx hb dX4_areOrdersFree_71 hl (k := 2) rfl rfl (by decide) rfl (fun ls hl => ?_)
      refine lv_goto (tgt := 15) hx hb dX4_areOrdersFree_74 (by decide) ?_
      exact hK15 _ _ _ hf _ _ _ h (lv_sub hl [1, 2, 0] rfl)
    · rw [if_neg c3] at hf
      refine lv_aload_n hx hb dX4_areOrdersFree_35 rfl (lv_at hl 0 rfl) ?_
      refine g_get B h 0 (by decide) (C := RX4) (T := TX4) (N := 8) (S_row _) rfl hin_X4 3 (by decide) hw130 rfl rfl dX4_areOrdersFree_36 ?_
      refine lv_aload_n hx hb dX4_areOrdersFree_39 rfl (lv_at hl 0 rfl) ?_
      refine g_get B h 0 (by decide) (C := RX4) (T := TX4) (N := 8) (S_row _) rfl hin_X4 2 (by decide) hw129 rfl rfl dX4_areOrdersFree_40 ?_
      refine lv_iload_n hx hb dX4_areOrdersFree_43 rfl (lv_at hl 1 rfl) ?_
      obtain ⟨c4, hf⟩ := chk_some hf
      refine g_aald B h 3 (by decide) 5 (C := RX1) (n := 3) rfl rfl (inb_in c4) (r := (28 + 4 * v1.toNatClampNeg)) (hists_at c4) dX4_areOrdersFree_44 ?_
      refine lv_aload_n hx hb dX4_areOrdersFree_45 rfl (lv_at hl 0 rfl) ?_
      refine g_get B h 0 (by decide) (C := RX4) (T := TX4) (N := 8) (S_row _) rfl hin_X4 2 (by decide) hw129 rfl rfl dX4_areOrdersFree_46 ?_
      refine lv_iload_n hx hb dX4_areOrdersFree_49 rfl (lv_at hl 2 rfl) ?_
      obtain ⟨c5, hf⟩ := chk_some hf
      refine g_aald B h 3 (by decide) 5 (C := RX1) (n := 3) rfl rfl (inb_in c5) (r := (28 + 4 * v2.toNatClampNeg)) (hists_at c5) dX4_areOrdersFree_50 ?_
      refine lv_aload_n hx hb dX4_areOrdersFree_51 rfl (lv_at hl 0 rfl) ?_
      refine g_get B h 0 (by decide) (C := RX4) (T := TX4) (N := 8) (S_row _) rfl hin_X4 0 (by decide) hw127 rfl rfl dX4_areOrdersFree_52 ?_
      refine lv_iload_n hx hb dX4_areOrdersFree_55 rfl (lv_at hl 3 rfl) ?_
      obtain ⟨c6, hf⟩ := chk_some hf
      refine g_aald B h 1 (by decide) 3 (C := RX2) (n := 3) rfl rfl (inb_in c6) (r := (6 + 3 * v3.toNatClampNeg)) (maps_at c6) dX4_areOrdersFree_56 ?_
      obtain ⟨vr7, σ7, hq7, hf⟩ := wthn_some hf
      refine sRetC1 (g_runV (k := 4) (T := TX0) (N := 4) B h (ok_X0_isOrderFree B.2.2.2.2.2.2.2.2 B.2.2.2.2.2.2.1 _ _ (hists_H c4) (hists_H c5) (maps_T c6) hq7) cw_X4_266 ⟨Nat.le_of_ble_eq_true rfl, Nat.le_of_ble_eq_true rfl⟩ (by decide) (B_row _) rfl rfl hl.1.symm rfl (Nat.le_of_ble_eq_true rfl) dX4_areOrdersFree_57 ⟨Nat.zero_le _, Nat.zero_le _⟩) h (fun H locs h => ?_)
      refine lv_if_ne (tgt := 65) hx hb dX4_areOrdersFree_60 (by decide) (fun c8 => ?_) (fun c8 => ?_)
      · rw [if_neg c8] at hf
        refine lv_iinc (v := (v3 + 1)) (lv' := [(3, .int (v3 + 1)), (0, .ref (ad 0)), (1, .int v1), (2, .int v2)]) hx hb dX4_areOrdersFree_65 hl (k := 3) rfl rfl (by decide) rfl (fun ls hl => ?_)
        refine lv_goto (tgt := 26) hx hb dX4_areOrdersFree_68 (by decide) ?_
        exact ih _ _ _ _ hf _ _ _ h (lv_sub hl [1, 2, 3, 0] rfl)
      · rw [if_pos c8] at hf
        refine lv_iconst (v := (0 : Int32)) hx hb dX4_areOrdersFree_63 (by decide) ?_
        obtain ⟨rfl, rfl⟩ := Prod.mk.inj (Option.some.inj hf)
        exact sE_z B hr h rfl dX4_areOrdersFree_64
set_option maxHeartbeats 4000000 in
set_option maxRecDepth 100000 in
theorem k_X4_areOrdersFree_15 {p : Program} {l : Launch} {e : Env} {s : State} {m : MethodId} {args : Array Value} {below : List Frame} {meth : Method} {c : Code} {D : va_G} {cy : Nat → ClassId} {ad : Nat → Nat} {X : sX} {r : Int32} {σ' : sM} (B : sB p l s m meth c args cX4_areOrdersFree 4 RX4 D cy ad) (hr : meth.sig.returnType = (some .boolean)) {K2 : Int32 → sM → Option (Int32 × sM)} (hK2 : ∀ (v1 : Int32) (σ : sM), K2 v1 σ = some (r, σ') → sGo p l e { frames := 6, cells := 0, slots := 0, locals := 222 } s m args below meth c D cy ad X 4 (sQ below args s 0 0 D cy ad (.inr (some (.int r))) X σ') σ 2 [(0, .ref (ad 0)), (1, .int v1)] []) : ∀ (n : Nat) (v1 : Int32) (v2 : Int32) (σ : sM), b_X4_areOrdersFree_15 K2 n v1 v2 σ = some (r, σ') → sGo p l e { frames := 6, cells := 0, slots := 0, locals := 222 } s m args below meth c D cy ad X 4 (sQ below args s 0 0 D cy ad (.inr (some (.int r))) X σ') σ 15 [(0, .ref (ad 0)), (1, .int v1), (2, .int v2)] [] := by
  intro n
  induction n with
  | zero =>
    intro v1 v2 σ hf
    exact nomatch (show none = some (r, σ') from hf)
  | succ n ih =>
    intro v1 v2 σ hf
    replace hf : (if (3 : Int32) ≤ v2 then (K2 (v1 + 1) σ) else (b_X4_areOrdersFree_26 K2 (b_X4_areOrdersFree_15 K2 n) FU v1 v2 (0 : Int32) σ)) = some (r, σ') := hf
    intro H locs ls h hl
    have hx := B.1
    have hb := B.2.1
    refine lv_iload_n hx hb dX4_areOrdersFree_15 rfl (lv_at hl 2 rfl) ?_
    refine lv_aload_n hx hb dX4_areOrdersFree_16 rfl (lv_at hl 0 rfl) ?_
    refine g_get B h 0 (by decide) (C := RX4) (T := TX4) (N := 8) (S_row _) rfl hin_X4 2 (by decide) hw129 rfl rfl dX4_areOrdersFree_17 ?_
    refine g_alen B h 3 (by decide) 5 rfl rfl (v := (3 : Int32)) rfl dX4_areOrdersFree_20 ?_
    refine lv_icmp_ge (tgt := 77) hx hb dX4_areOrdersFree_21 (by decide) (fun c2 => ?_) (fun c2 => ?_)
    · rw [if_pos c2] at hf
      refine lv_iinc (v := (v1 + 1)) (lv' := [(1, .int (v1 + 1)), (0, .ref (ad 0)), (2, .int v2)]) hx hb dX4_areOrdersFree_77 hl (k := 1) rfl rfl (by decide) rfl (fun ls hl => ?_)
      refine lv_goto (tgt := 2) hx hb dX4_areOrdersFree_80 (by decide) ?_
      exact hK2 _ _ hf _ _ _ h (lv_sub hl [1, 0] rfl)
    · rw [if_neg c2] at hf
      refine lv_iconst (v := (0 : Int32)) hx hb dX4_areOrdersFree_24 (by decide) ?_
      refine lv_istore_n (lv' := [(3, .int (0 : Int32)), (0, .ref (ad 0)), (1, .int v1), (2, .int v2)]) hx hb dX4_areOrdersFree_25 rfl hl (by decide) rfl (fun ls hl => ?_)
      exact k_X4_areOrdersFree_26 B hr hK2 ih _ _ _ _ _ hf _ _ _ h (lv_sub hl [1, 2, 3, 0] rfl)
set_option maxHeartbeats 4000000 in
set_option maxRecDepth 100000 in
theorem k_X4_areOrdersFree_2 {p : Program} {l : Launch} {e : Env} {s : State} {m : MethodId} {args : Array Value} {below : List Frame} {meth : Method} {c : Code} {D : va_G} {cy : Nat → ClassId} {ad : Nat → Nat} {X : sX} {r : Int32} {σ' : sM} (B : sB p l s m meth c args cX4_areOrdersFree 4 RX4 D cy ad) (hr : meth.sig.returnType = (some .boolean)) : ∀ (n : Nat) (v1 : Int32) (σ : sM), b_X4_areOrdersFree_2 n v1 σ = some (r, σ') → sGo p l e { frames := 6, cells := 0, slots := 0, locals := 222 } s m args below meth c D cy ad X 4 (sQ below args s 0 0 D cy ad (.inr (some (.int r))) X σ') σ 2 [(0, .ref (ad 0)), (1, .int v1)] [] := by
  intro n
  induction n with
  | zero =>
    intro v1 σ hf
    exact nomatch (show none = some (r, σ') from hf)
  | succ n ih =>
    intro v1 σ hf
    replace hf : (if (3 : Int32) ≤ v1 then (some ((1 : Int32), σ)) else (b_X4_areOrdersFree_15 (b_X4_areOrdersFree_2 n) FU v1 (v1 + (1 : Int32)) σ)) = some (r, σ') := hf
    intro H locs ls h hl
    have hx := B.1
    have hb := B.2.1
    refine lv_iload_n hx hb dX4_areOrdersFree_2 rfl (lv_at hl 1 rfl) ?_
    refine lv_aload_n hx hb dX4_areOrdersFree_3 rfl (lv_at hl 0 rfl) ?_
    refine g_get B h 0 (by decide) (C := RX4) (T := TX4) (N := 8) (S_row _) rfl hin_X4 2 (by decide) hw129 rfl rfl dX4_areOrdersFree_4 ?_
    refine g_alen B h 3 (by decide) 5 rfl rfl (v := (3 : Int32)) rfl dX4_areOrdersFree_7 ?_
    refine lv_icmp_ge (tgt := 83) hx hb dX4_areOrdersFree_8 (by decide) (fun c1 => ?_) (fun c1 => ?_)
    · rw [if_pos c1] at hf
      refine lv_iconst (v := (1 : Int32)) hx hb dX4_areOrdersFree_83 (by decide) ?_
      obtain ⟨rfl, rfl⟩ := Prod.mk.inj (Option.some.inj hf)
      exact sE_z B hr h rfl dX4_areOrdersFree_84
    · rw [if_neg c1] at hf
      refine lv_iload_n hx hb dX4_areOrdersFree_11 rfl (lv_at hl 1 rfl) ?_
      refine lv_iconst (v := (1 : Int32)) hx hb dX4_areOrdersFree_12 (by decide) ?_
      refine lv_iadd hx hb dX4_areOrdersFree_13 ?_
      refine lv_istore_n (lv' := [(2, .int (v1 + (1 : Int32))), (0, .ref (ad 0)), (1, .int v1)]) hx hb dX4_areOrdersFree_14 rfl hl (by decide) rfl (fun ls hl => ?_)
      exact k_X4_areOrdersFree_15 B hr ih _ _ _ _ hf _ _ _ h (lv_sub hl [1, 2, 0] rfl)
set_option maxHeartbeats 4000000 in
set_option maxRecDepth 100000 in
theorem k_X4_areOrdersFree_0 {p : Program} {l : Launch} {e : Env} {s : State} {m : MethodId} {args : Array Value} {below : List Frame} {meth : Method} {c : Code} {D : va_G} {cy : Nat → ClassId} {ad : Nat → Nat} {X : sX} {r : Int32} {σ' : sM} (B : sB p l s m meth c args cX4_areOrdersFree 4 RX4 D cy ad) (hr : meth.sig.returnType = (some .boolean)) (σ : sM) (hf : f_X4_areOrdersFree σ = some (r, σ')) : sGo p l e { frames := 6, cells := 0, slots := 0, locals := 222 } s m args below meth c D cy ad X 4 (sQ below args s 0 0 D cy ad (.inr (some (.int r))) X σ') σ 0 [(0, .ref (ad 0))] [] := by
  replace hf : (b_X4_areOrdersFree_2 FU (0 : Int32) σ) = some (r, σ') := hf
  intro H locs ls h hl
  have hx := B.1
  have hb := B.2.1
  refine lv_iconst (v := (0 : Int32)) hx hb dX4_areOrdersFree_0 (by decide) ?_
  refine lv_istore_n (lv' := [(1, .int (0 : Int32)), (0, .ref (ad 0))]) hx hb dX4_areOrdersFree_1 rfl hl (by decide) rfl (fun ls hl => ?_)
  exact k_X4_areOrdersFree_2 B hr  _ _ _ hf _ _ _ h (lv_sub hl [1, 0] rfl)
set_option maxRecDepth 100000 in
theorem ok_X4_areOrdersFree {l : Launch} (hl0 : l.stackTraces = false) {D : va_G} {cy : Nat → ClassId} {ad : Nat → Nat} (hap : sAp ad) (X : sX) (σ : sM) {r : Int32} {σ' : sM} (hf : f_X4_areOrdersFree σ = some (r, σ')) : sMet l yX4_areOrdersFree (sWs yX4_areOrdersFree cX4_areOrdersFree 4 (some .boolean)) 6 222 0 0 D cy ad X σ [.ref (ad 0)] (.inr (some (.int r))) X σ' := by
  refine sMet_of (by decide +kernel) (Nat.le_of_ble_eq_true rfl) hap hl0 ?_
  intro p e s m args below meth c ls B hr htab hl h
  exact k_X4_areOrdersFree_0 B hr  _  hf _ _ _ h hl
set_option maxHeartbeats 4000000 in
set_option maxRecDepth 100000 in
theorem k_X4_areViewsSound_2 {p : Program} {l : Launch} {e : Env} {s : State} {m : MethodId} {args : Array Value} {below : List Frame} {meth : Method} {c : Code} {D : va_G} {cy : Nat → ClassId} {ad : Nat → Nat} {X : sX} {r : Int32} (B : sB p l s m meth c args cX4_areViewsSound 2 RX4 D cy ad) (hr : meth.sig.returnType = (some .boolean)) : ∀ (n : Nat) (v1 : Int32) (σ : sM), b_X4_areViewsSound_2 n v1 σ = some r → sGo p l e { frames := 5, cells := 0, slots := 0, locals := 114 } s m args below meth c D cy ad X 2 (sQ below args s 0 0 D cy ad (.inr (some (.int r))) X σ) σ 2 [(0, .ref (ad 0)), (1, .int v1)] [] := by
  intro n
  induction n with
  | zero =>
    intro v1 σ hf
    exact nomatch (show none = some r from hf)
  | succ n ih =>
    intro v1 σ hf
    replace hf : (if (4 : Int32) ≤ v1 then (some (1 : Int32)) else (chk (inb v1 4) (rthn (f_X3_hasJustItsSpan (24 + v1.toNatClampNeg) σ) (fun vr3 => if vr3 = 0 then (some (0 : Int32)) else (b_X4_areViewsSound_2 n (v1 + 1) σ))))) = some r := hf
    intro H locs ls h hl
    have hx := B.1
    have hb := B.2.1
    refine lv_iload_n hx hb dX4_areViewsSound_2 rfl (lv_at hl 1 rfl) ?_
    refine lv_aload_n hx hb dX4_areViewsSound_3 rfl (lv_at hl 0 rfl) ?_
    refine g_get B h 0 (by decide) (C := RX4) (T := TX4) (N := 8) (S_row _) rfl hin_X4 1 (by decide) hw128 rfl rfl dX4_areViewsSound_4 ?_
    refine g_alen B h 2 (by decide) 4 rfl rfl (v := (4 : Int32)) rfl dX4_areViewsSound_7 ?_
    refine lv_icmp_ge (tgt := 31) hx hb dX4_areViewsSound_8 (by decide) (fun c1 => ?_) (fun c1 => ?_)
    · rw [if_pos c1] at hf
      refine lv_iconst (v := (1 : Int32)) hx hb dX4_areViewsSound_31 (by decide) ?_
      obtain rfl := Option.some.inj hf
      exact sE_z B hr h rfl dX4_areViewsSound_32
    · rw [if_neg c1] at hf
      refine lv_aload_n hx hb dX4_areViewsSound_11 rfl (lv_at hl 0 rfl) ?_
      refine g_get B h 0 (by decide) (C := RX4) (T := TX4) (N := 8) (S_row _) rfl hin_X4 1 (by decide) hw128 rfl rfl dX4_areViewsSound_12 ?_
      refine lv_iload_n hx hb dX4_areViewsSound_15 rfl (lv_at hl 1 rfl) ?_
      obtain ⟨c2, hf⟩ := chk_some hf
      refine g_aald B h 2 (by decide) 4 (C := RX3) (n := 4) rfl rfl (inb_in c2) (r := (24 + v1.toNatClampNeg)) (views_at c2) dX4_areViewsSound_16 ?_
      obtain ⟨vr3, hq3, hf⟩ := rthn_some hf
      refine sRetC1 (g_runV (k := (24 + v1.toNatClampNeg)) (T := TX3) (N := 6) B h (ok_X3_hasJustItsSpan B.2.2.2.2.2.2.2.2 B.2.2.2.2.2.2.1 _ _ (views_V c2) hq3) cw_X4_263 ⟨Nat.le_of_ble_eq_true rfl, Nat.le_of_ble_eq_true rfl⟩ (V_lt (views_V c2)) (V_row (views_V c2) _) rfl rfl hl.1.symm rfl (Nat.le_of_ble_eq_true rfl) dX4_areViewsSound_17 ⟨Nat.zero_le _, Nat.zero_le _⟩) h (fun H locs h => ?_)
      refine lv_if_ne (tgt := 25) hx hb dX4_areViewsSound_20 (by decide) (fun c4 => ?_) (fun c4 => ?_)
      · rw [if_neg c4] at hf
        refine lv_iinc (v := (v1 + 1)) (lv' := [(1, .int (v1 + 1)), (0, .ref (ad 0))]) hx hb dX4_areViewsSound_25 hl (k := 1) rfl rfl (by decide) rfl (fun ls hl => ?_)
        refine lv_goto (tgt := 2) hx hb dX4_areViewsSound_28 (by decide) ?_
        exact ih _ _ hf _ _ _ h (lv_sub hl [1, 0] rfl)
      · rw [if_pos c4] at hf
        refine lv_iconst (v := (0 : Int32)) hx hb dX4_areViewsSound_23 (by decide) ?_
        obtain rfl := Option.some.inj hf
        exact sE_z B hr h rfl dX4_areViewsSound_24
set_option maxHeartbeats 4000000 in
set_option maxRecDepth 100000 in
theorem k_X4_areViewsSound_0 {p : Program} {l : Launch} {e : Env} {s : State} {m : MethodId} {args : Array Value} {below : List Frame} {meth : Method} {c : Code} {D : va_G} {cy : Nat → ClassId} {ad : Nat → Nat} {X : sX} {r : Int32} (B : sB p l s m meth c args cX4_areViewsSound 2 RX4 D cy ad) (hr : meth.sig.returnType = (some .boolean)) (σ : sM) (hf : f_X4_areViewsSound σ = some r) : sGo p l e { frames := 5, cells := 0, slots := 0, locals := 114 } s m args below meth c D cy ad X 2 (sQ below args s 0 0 D cy ad (.inr (some (.int r))) X σ) σ 0 [(0, .ref (ad 0))] [] := by
  replace hf : (b_X4_areViewsSound_2 FU (0 : Int32) σ) = some r := hf
  intro H locs ls h hl
  have hx := B.1
  have hb := B.2.1
  refine lv_iconst (v := (0 : Int32)) hx hb dX4_areViewsSound_0 (by decide) ?_
  refine lv_istore_n (lv' := [(1, .int (0 : Int32)), (0, .ref (ad 0))]) hx hb dX4_areViewsSound_1 rfl hl (by decide) rfl (fun ls hl => ?_)
  exact k_X4_areViewsSound_2 B hr  _ _ _ hf _ _ _ h (lv_sub hl [1, 0] rfl)
set_option maxRecDepth 100000 in
theorem ok_X4_areViewsSound {l : Launch} (hl0 : l.stackTraces = false) {D : va_G} {cy : Nat → ClassId} {ad : Nat → Nat} (hap : sAp ad) (X : sX) (σ : sM) {r : Int32} (hf : f_X4_areViewsSound σ = some r) : sMet l yX4_areViewsSound (sWs yX4_areViewsSound cX4_areViewsSound 2 (some .boolean)) 5 114 0 0 D cy ad X σ [.ref (ad 0)] (.inr (some (.int r))) X σ := by
  refine sMet_of (by decide +kernel) (Nat.le_of_ble_eq_true rfl) hap hl0 ?_
  intro p e s m args below meth c ls B hr htab hl h
  exact k_X4_areViewsSound_0 B hr  _  hf _ _ _ h hl
set_option maxHeartbeats 4000000 in
set_option maxRecDepth 100000 in
theorem k_X4_checksum_62 {p : Program} {l : Launch} {e : Env} {s : State} {m : MethodId} {args : Array Value} {below : List Frame} {meth : Method} {c : Code} {D : va_G} {cy : Nat → ClassId} {ad : Nat → Nat} {X : sX} {r : Int64} (B : sB p l s m meth c args cX4_checksum 4 RX4 D cy ad) (hr : meth.sig.returnType = (some .long)) : ∀ (n : Nat) (v1 : Int64) (v3 : Int32) (σ : sM), b_X4_checksum_62 n v1 v3 σ = some r → sGo p l e { frames := 6, cells := 0, slots := 0, locals := 135 } s m args below meth c D cy ad X 4 (sQ below args s 0 0 D cy ad (.inr (some (.long r))) X σ) σ 62 [(0, .ref (ad 0)), (1, .long v1), (3, .int v3)] [] := by
  intro n
  induction n with
  | zero =>
    intro v1 v3 σ hf
    exact nomatch (show none = some r from hf)
  | succ n ih =>
    intro v1 v3 σ hf
    replace hf : (if (3 : Int32) ≤ v3 then (some v1) else (chk (inb v3 3) (rthn (f_X1_addTo (28 + 4 * v3.toNatClampNeg) v1 σ) (fun vr9 => b_X4_checksum_62 n vr9 (v3 + 1) σ)))) = some r := hf
    intro H locs ls h hl
    have hx := B.1
    have hb := B.2.1
    refine lv_iload_n hx hb dX4_checksum_62 rfl (lv_at hl 2 rfl) ?_
    refine lv_aload_n hx hb dX4_checksum_63 rfl (lv_at hl 0 rfl) ?_
    refine g_get B h 0 (by decide) (C := RX4) (T := TX4) (N := 8) (S_row _) rfl hin_X4 2 (by decide) hw129 rfl rfl dX4_checksum_64 ?_
    refine g_alen B h 3 (by decide) 5 rfl rfl (v := (3 : Int32)) rfl dX4_checksum_67 ?_
    refine lv_icmp_ge (tgt := 88) hx hb dX4_checksum_68 (by decide) (fun c7 => ?_) (fun c7 => ?_)
    · rw [if_pos c7] at hf
      refine lv_lload_n hx hb dX4_checksum_88 rfl (lv_at hl 1 rfl) ?_
      obtain rfl := Option.some.inj hf
      exact sE_l B hr h dX4_checksum_89
    · rw [if_neg c7] at hf
      refine lv_aload_n hx hb dX4_checksum_71 rfl (lv_at hl 0 rfl) ?_
      refine g_get B h 0 (by decide) (C := RX4) (T := TX4) (N := 8) (S_row _) rfl hin_X4 2 (by decide) hw129 rfl rfl dX4_checksum_72 ?_
      refine lv_iload_n hx hb dX4_checksum_75 rfl (lv_at hl 2 rfl) ?_
      obtain ⟨c8, hf⟩ := chk_some hf
      refine g_aald B h 3 (by decide) 5 (C := RX1) (n := 3) rfl rfl (inb_in c8) (r := (28 + 4 * v3.toNatClampNeg)) (hists_at c8) dX4_checksum_76 ?_
      refine lv_lload_n hx hb dX4_checksum_77 rfl (lv_at hl 1 rfl) ?_
      obtain ⟨vr9, hq9, hf⟩ := rthn_some hf
      refine sRetC1 (g_runV (k := (28 + 4 * v3.toNatClampNeg)) (T := TX1) (N := 4) B h (ok_X1_addTo B.2.2.2.2.2.2.2.2 B.2.2.2.2.2.2.1 _ _ (hists_H c8) v1 hq9) cw_X4_240 ⟨Nat.le_of_ble_eq_true rfl, Nat.le_of_ble_eq_true rfl⟩ (H_lt (hists_H c8)) (H_row (hists_H c8) _) rfl rfl hl.1.symm rfl (Nat.le_of_ble_eq_true rfl) dX4_checksum_78 ⟨Nat.zero_le _, Nat.zero_le _⟩) h (fun H locs h => ?_)
      refine lv_lstore_n (lv' := [(1, .long vr9), (0, .ref (ad 0)), (3, .int v3)]) hx hb dX4_checksum_81 rfl hl (by decide) rfl (fun ls hl => ?_)
      refine lv_iinc (v := (v3 + 1)) (lv' := [(3, .int (v3 + 1)), (1, .long vr9), (0, .ref (ad 0))]) hx hb dX4_checksum_82 hl (k := 2) rfl rfl (by decide) rfl (fun ls hl => ?_)
      refine lv_goto (tgt := 62) hx hb dX4_checksum_85 (by decide) ?_
      exact ih _ _ _ hf _ _ _ h (lv_sub hl [2, 1, 0] rfl)
set_option maxHeartbeats 4000000 in
set_option maxRecDepth 100000 in
theorem k_X4_checksum_34 {p : Program} {l : Launch} {e : Env} {s : State} {m : MethodId} {args : Array Value} {below : List Frame} {meth : Method} {c : Code} {D : va_G} {cy : Nat → ClassId} {ad : Nat → Nat} {X : sX} {r : Int64} (B : sB p l s m meth c args cX4_checksum 4 RX4 D cy ad) (hr : meth.sig.returnType = (some .long)) : ∀ (n : Nat) (v1 : Int64) (v3 : Int32) (σ : sM), b_X4_checksum_34 n v1 v3 σ = some r → sGo p l e { frames := 6, cells := 0, slots := 0, locals := 135 } s m args below meth c D cy ad X 4 (sQ below args s 0 0 D cy ad (.inr (some (.long r))) X σ) σ 34 [(0, .ref (ad 0)), (1, .long v1), (3, .int v3)] [] := by
  intro n
  induction n with
  | zero =>
    intro v1 v3 σ hf
    exact nomatch (show none = some r from hf)
  | succ n ih =>
    intro v1 v3 σ hf
    replace hf : (if (4 : Int32) ≤ v3 then (b_X4_checksum_62 FU v1 (0 : Int32) σ) else (chk (inb v3 4) (rthn (f_X3_addTo (24 + v3.toNatClampNeg) v1 σ) (fun vr6 => b_X4_checksum_34 n vr6 (v3 + 1) σ)))) = some r := hf
    intro H locs ls h hl
    have hx := B.1
    have hb := B.2.1
    refine lv_iload_n hx hb dX4_checksum_34 rfl (lv_at hl 2 rfl) ?_
    refine lv_aload_n hx hb dX4_checksum_35 rfl (lv_at hl 0 rfl) ?_
    refine g_get B h 0 (by decide) (C := RX4) (T := TX4) (N := 8) (S_row _) rfl hin_X4 1 (by decide) hw128 rfl rfl dX4_checksum_36 ?_
    refine g_alen B h 2 (by decide) 4 rfl rfl (v := (4 : Int32)) rfl dX4_checksum_39 ?_
    refine lv_icmp_ge (tgt := 60) hx hb dX4_checksum_40 (by decide) (fun c4 => ?_) (fun c4 => ?_)
    · rw [if_pos c4] at hf
      refine lv_iconst (v := (0 : Int32)) hx hb dX4_checksum_60 (by decide) ?_
      refine lv_istore_n (lv' := [(3, .int (0 : Int32)), (0, .ref (ad 0)), (1, .long v1)]) hx hb dX4_checksum_61 rfl hl (by decide) rfl (fun ls hl => ?_)
      exact k_X4_checksum_62 B hr  _ _ _ _ hf _ _ _ h (lv_sub hl [1, 2, 0] rfl)
    · rw [if_neg c4] at hf
      refine lv_aload_n hx hb dX4_checksum_43 rfl (lv_at hl 0 rfl) ?_
      refine g_get B h 0 (by decide) (C := RX4) (T := TX4) (N := 8) (S_row _) rfl hin_X4 1 (by decide) hw128 rfl rfl dX4_checksum_44 ?_
      refine lv_iload_n hx hb dX4_checksum_47 rfl (lv_at hl 2 rfl) ?_
      obtain ⟨c5, hf⟩ := chk_some hf
      refine g_aald B h 2 (by decide) 4 (C := RX3) (n := 4) rfl rfl (inb_in c5) (r := (24 + v3.toNatClampNeg)) (views_at c5) dX4_checksum_48 ?_
      refine lv_lload_n hx hb dX4_checksum_49 rfl (lv_at hl 1 rfl) ?_
      obtain ⟨vr6, hq6, hf⟩ := rthn_some hf
      refine sRetC1 (g_runV (k := (24 + v3.toNatClampNeg)) (T := TX3) (N := 6) B h (ok_X3_addTo B.2.2.2.2.2.2.2.2 B.2.2.2.2.2.2.1 _ _ (views_V c5) v1 hq6) cw_X4_239 ⟨Nat.le_of_ble_eq_true rfl, Nat.le_of_ble_eq_true rfl⟩ (V_lt (views_V c5)) (V_row (views_V c5) _) rfl rfl hl.1.symm rfl (Nat.le_of_ble_eq_true rfl) dX4_checksum_50 ⟨Nat.zero_le _, Nat.zero_le _⟩) h (fun H locs h => ?_)
      refine lv_lstore_n (lv' := [(1, .long vr6), (0, .ref (ad 0)), (3, .int v3)]) hx hb dX4_checksum_53 rfl hl (by decide) rfl (fun ls hl => ?_)
      refine lv_iinc (v := (v3 + 1)) (lv' := [(3, .int (v3 + 1)), (1, .long vr6), (0, .ref (ad 0))]) hx hb dX4_checksum_54 hl (k := 2) rfl rfl (by decide) rfl (fun ls hl => ?_)
      refine lv_goto (tgt := 34) hx hb dX4_checksum_57 (by decide) ?_
      exact ih _ _ _ hf _ _ _ h (lv_sub hl [2, 1, 0] rfl)
set_option maxHeartbeats 4000000 in
set_option maxRecDepth 100000 in
theorem k_X4_checksum_6 {p : Program} {l : Launch} {e : Env} {s : State} {m : MethodId} {args : Array Value} {below : List Frame} {meth : Method} {c : Code} {D : va_G} {cy : Nat → ClassId} {ad : Nat → Nat} {X : sX} {r : Int64} (B : sB p l s m meth c args cX4_checksum 4 RX4 D cy ad) (hr : meth.sig.returnType = (some .long)) : ∀ (n : Nat) (v1 : Int64) (v3 : Int32) (σ : sM), b_X4_checksum_6 n v1 v3 σ = some r → sGo p l e { frames := 6, cells := 0, slots := 0, locals := 135 } s m args below meth c D cy ad X 4 (sQ below args s 0 0 D cy ad (.inr (some (.long r))) X σ) σ 6 [(0, .ref (ad 0)), (1, .long v1), (3, .int v3)] [] := by
  intro n
  induction n with
  | zero =>
    intro v1 v3 σ hf
    exact nomatch (show none = some r from hf)
  | succ n ih =>
    intro v1 v3 σ hf
    replace hf : (if (3 : Int32) ≤ v3 then (b_X4_checksum_34 FU v1 (0 : Int32) σ) else (chk (inb v3 3) (rthn (f_X2_addTo (6 + 3 * v3.toNatClampNeg) v1 σ) (fun vr3 => b_X4_checksum_6 n vr3 (v3 + 1) σ)))) = some r := hf
    intro H locs ls h hl
    have hx := B.1
    have hb := B.2.1
    refine lv_iload_n hx hb dX4_checksum_6 rfl (lv_at hl 2 rfl) ?_
    refine lv_aload_n hx hb dX4_checksum_7 rfl (lv_at hl 0 rfl) ?_
    refine g_get B h 0 (by decide) (C := RX4) (T := TX4) (N := 8) (S_row _) rfl hin_X4 0 (by decide) hw127 rfl rfl dX4_checksum_8 ?_
    refine g_alen B h 1 (by decide) 3 rfl rfl (v := (3 : Int32)) rfl dX4_checksum_11 ?_
    refine lv_icmp_ge (tgt := 32) hx hb dX4_checksum_12 (by decide) (fun c1 => ?_) (fun c1 => ?_)
    · rw [if_pos c1] at hf
      refine lv_iconst (v := (0 : Int32)) hx hb dX4_checksum_32 (by decide) ?_
      refine lv_istore_n (lv' := [(3, .int (0 : Int32)), (0, .ref (ad 0)), (1, .long v1)]) hx hb dX4_checksum_33 rfl hl (by decide) rfl (fun ls hl => ?_)
      exact k_X4_checksum_34 B hr  _ _ _ _ hf _ _ _ h (lv_sub hl [1, 2, 0] rfl)
    · rw [if_neg c1] at hf
      refine lv_aload_n hx hb dX4_checksum_15 rfl (lv_at hl 0 rfl) ?_
      refine g_get B h 0 (by decide) (C := RX4) (T := TX4) (N := 8) (S_row _) rfl hin_X4 0 (by decide) hw127 rfl rfl dX4_checksum_16 ?_
      refine lv_iload_n hx hb dX4_checksum_19 rfl (lv_at hl 2 rfl) ?_
      obtain ⟨c2, hf⟩ := chk_some hf
      refine g_aald B h 1 (by decide) 3 (C := RX2) (n := 3) rfl rfl (inb_in c2) (r := (6 + 3 * v3.toNatClampNeg)) (maps_at c2) dX4_checksum_20 ?_
      refine lv_lload_n hx hb dX4_checksum_21 rfl (lv_at hl 1 rfl) ?_
      obtain ⟨vr3, hq3, hf⟩ := rthn_some hf
      refine sRetC1 (g_runV (k := (6 + 3 * v3.toNatClampNeg)) (T := TX2) (N := 3) B h (ok_X2_addTo B.2.2.2.2.2.2.2.2 B.2.2.2.2.2.2.1 _ _ (maps_T c2) v1 hq3) cw_X4_235 ⟨Nat.le_of_ble_eq_true rfl, Nat.le_of_ble_eq_true rfl⟩ (T_lt (maps_T c2)) (T_row (maps_T c2) _) rfl rfl hl.1.symm rfl (Nat.le_of_ble_eq_true rfl) dX4_checksum_22 ⟨Nat.zero_le _, Nat.zero_le _⟩) h (fun H locs h => ?_)
      refine lv_lstore_n (lv' := [(1, .long vr3), (0, .ref (ad 0)), (3, .int v3)]) hx hb dX4_checksum_25 rfl hl (by decide) rfl (fun ls hl => ?_)
      refine lv_iinc (v := (v3 + 1)) (lv' := [(3, .int (v3 + 1)), (1, .long vr3), (0, .ref (ad 0))]) hx hb dX4_checksum_26 hl (k := 2) rfl rfl (by decide) rfl (fun ls hl => ?_)
      refine lv_goto (tgt := 6) hx hb dX4_checksum_29 (by decide) ?_
      exact ih _ _ _ hf _ _ _ h (lv_sub hl [2, 1, 0] rfl)
set_option maxHeartbeats 4000000 in
set_option maxRecDepth 100000 in
theorem k_X4_checksum_0 {p : Program} {l : Launch} {e : Env} {s : State} {m : MethodId} {args : Array Value} {below : List Frame} {meth : Method} {c : Code} {D : va_G} {cy : Nat → ClassId} {ad : Nat → Nat} {X : sX} {r : Int64} (B : sB p l s m meth c args cX4_checksum 4 RX4 D cy ad) (hr : meth.sig.returnType = (some .long)) (σ : sM) (hf : f_X4_checksum σ = some r) : sGo p l e { frames := 6, cells := 0, slots := 0, locals := 135 } s m args below meth c D cy ad X 4 (sQ below args s 0 0 D cy ad (.inr (some (.long r))) X σ) σ 0 [(0, .ref (ad 0))] [] := by
  replace hf : (b_X4_checksum_6 FU (7 : Int64) (0 : Int32) σ) = some r := hf
  intro H locs ls h hl
  have hx := B.1
  have hb := B.2.1
  refine lv_ldc2 (own := RX4) (v := (7 : Int64)) hx hb B.2.2.2.1 (B.2.2.2.2.1 _ hw156) dX4_checksum_0 ?_
  refine lv_lstore_n (lv' := [(1, .long (7 : Int64)), (0, .ref (ad 0))]) hx hb dX4_checksum_3 rfl hl (by decide) rfl (fun ls hl => ?_)
  refine lv_iconst (v := (0 : Int32)) hx hb dX4_checksum_4 (by decide) ?_
  refine lv_istore_n (lv' := [(3, .int (0 : Int32)), (1, .long (7 : Int64)), (0, .ref (ad 0))]) hx hb dX4_checksum_5 rfl hl (by decide) rfl (fun ls hl => ?_)
  exact k_X4_checksum_6 B hr  _ _ _ _ hf _ _ _ h (lv_sub hl [2, 1, 0] rfl)
set_option maxRecDepth 100000 in
theorem ok_X4_checksum {l : Launch} (hl0 : l.stackTraces = false) {D : va_G} {cy : Nat → ClassId} {ad : Nat → Nat} (hap : sAp ad) (X : sX) (σ : sM) {r : Int64} (hf : f_X4_checksum σ = some r) : sMet l yX4_checksum (sWs yX4_checksum cX4_checksum 4 (some .long)) 6 135 0 0 D cy ad X σ [.ref (ad 0)] (.inr (some (.long r))) X σ := by
  refine sMet_of (by decide +kernel) (Nat.le_of_ble_eq_true rfl) hap hl0 ?_
  intro p e s m args below meth c ls B hr htab hl h
  exact k_X4_checksum_0 B hr  _  hf _ _ _ h hl
set_option maxHeartbeats 4000000 in
set_option maxRecDepth 100000 in
theorem k_X4_mapAt_0 {p : Program} {l : Launch} {e : Env} {s : State} {m : MethodId} {args : Array Value} {below : List Frame} {meth : Method} {c : Code} {D : va_G} {cy : Nat → ClassId} {ad : Nat → Nat} {X : sX} {oo : String ⊕ Nat} {σ' : sM} (B : sB p l s m meth c args cX4_mapAt 2 RX4 D cy ad) (hr : meth.sig.returnType = (some (.object "Spanwarden$Table"))) (htab : ∀ x ∈ c.exceptionTable.toList, False) (v1 : Int32) (σ : sM) (hf : f_X4_mapAt v1 σ = some (oo, σ')) : sGo p l e { frames := 6, cells := (sC (oA ad oo)), slots := (sS (oA ad oo)), locals := 100 } s m args below meth c D cy ad X 2 (sQ below args s (sC (oA ad oo)) (sS (oA ad oo)) D cy ad (oA ad oo) X σ') σ 0 [(0, .ref (ad 0)), (1, .int v1)] [] := by
  replace hf : (if v1 < 0 then (some (.inl "java/lang/IndexOutOfBoundsException", σ)) else (if v1 < (3 : Int32) then (chk (inb v1 3) (some (.inr (6 + 3 * v1.toNatClampNeg), σ))) else (some (.inl "java/lang/IndexOutOfBoundsException", σ)))) = some (oo, σ') := hf
  intro H locs ls h hl
  have hx := B.1
  have hb := B.2.1
  refine lv_iload_n hx hb dX4_mapAt_0 rfl (lv_at hl 1 rfl) ?_
  refine lv_if_lt (tgt := 13) hx hb dX4_mapAt_1 (by decide) (fun c1 => ?_) (fun c1 => ?_)
  · rw [if_pos c1] at hf
    obtain ⟨rfl, rfl⟩ := Prod.mk.inj (Option.some.inj hf)
    exact sE_thrW (own := RX4) (E := "java/lang/IndexOutOfBoundsException") (text := "no such map") (ic := 113) B htab h hl.1.symm ["java/lang/RuntimeException", "java/lang/Exception"] (by decide +kernel) (by decide +kernel) hw431 hw10 (by decide +kernel) (by decide +kernel) at_X4_113_g at_X4_113_n at_X4_113_o dX4_mapAt_13 dX4_mapAt_16 dX4_mapAt_17 dX4_mapAt_20 dX4_mapAt_23 (Nat.le_of_ble_eq_true rfl) (Nat.le_of_ble_eq_true rfl) (Nat.le_of_eq (Nat.zero_add _)) (Nat.le_of_eq (Nat.zero_add _)) (Nat.le_of_eq (Nat.zero_add _)) (Nat.le_of_eq (Nat.zero_add _))
  · rw [if_neg c1] at hf
    refine lv_iload_n hx hb dX4_mapAt_4 rfl (lv_at hl 1 rfl) ?_
    refine lv_aload_n hx hb dX4_mapAt_5 rfl (lv_at hl 0 rfl) ?_
    refine g_get B h 0 (by decide) (C := RX4) (T := TX4) (N := 8) (S_row _) rfl hin_X4 0 (by decide) hw127 rfl rfl dX4_mapAt_6 ?_
    refine g_alen B h 1 (by decide) 3 rfl rfl (v := (3 : Int32)) rfl dX4_mapAt_9 ?_
    refine lv_icmp_lt (tgt := 24) hx hb dX4_mapAt_10 (by decide) (fun c2 => ?_) (fun c2 => ?_)
    · rw [if_pos c2] at hf
      refine lv_aload_n hx hb dX4_mapAt_24 rfl (lv_at hl 0 rfl) ?_
      refine g_get B h 0 (by decide) (C := RX4) (T := TX4) (N := 8) (S_row _) rfl hin_X4 0 (by decide) hw127 rfl rfl dX4_mapAt_25 ?_
      refine lv_iload_n hx hb dX4_mapAt_28 rfl (lv_at hl 1 rfl) ?_
      obtain ⟨c3, hf⟩ := chk_some hf
      refine g_aald B h 1 (by decide) 3 (C := RX2) (n := 3) rfl rfl (inb_in c3) (r := (6 + 3 * v1.toNatClampNeg)) (maps_at c3) dX4_mapAt_29 ?_
      obtain ⟨rfl, rfl⟩ := Prod.mk.inj (Option.some.inj hf)
      exact sE_a B hr h dX4_mapAt_30
    · rw [if_neg c2] at hf
      obtain ⟨rfl, rfl⟩ := Prod.mk.inj (Option.some.inj hf)
      exact sE_thrW (own := RX4) (E := "java/lang/IndexOutOfBoundsException") (text := "no such map") (ic := 113) B htab h hl.1.symm ["java/lang/RuntimeException", "java/lang/Exception"] (by decide +kernel) (by decide +kernel) hw431 hw10 (by decide +kernel) (by decide +kernel) at_X4_113_g at_X4_113_n at_X4_113_o dX4_mapAt_13 dX4_mapAt_16 dX4_mapAt_17 dX4_mapAt_20 dX4_mapAt_23 (Nat.le_of_ble_eq_true rfl) (Nat.le_of_ble_eq_true rfl) (Nat.le_of_eq (Nat.zero_add _)) (Nat.le_of_eq (Nat.zero_add _)) (Nat.le_of_eq (Nat.zero_add _)) (Nat.le_of_eq (Nat.zero_add _))
set_option maxRecDepth 100000 in
theorem ok_X4_mapAt {l : Launch} (hl0 : l.stackTraces = false) {D : va_G} {cy : Nat → ClassId} {ad : Nat → Nat} (hap : sAp ad) (X : sX) (σ : sM) (v1 : Int32) {oo : String ⊕ Nat} {σ' : sM} (hf : f_X4_mapAt v1 σ = some (oo, σ')) : sMet l yX4_mapAt (sWs yX4_mapAt cX4_mapAt 2 (some (.object "Spanwarden$Table"))) 6 100 (sC (oA ad oo)) (sS (oA ad oo)) D cy ad X σ [.ref (ad 0), .int v1] (oA ad oo) X σ' := by
  refine sMet_of (by decide +kernel) (Nat.le_of_ble_eq_true rfl) hap hl0 ?_
  intro p e s m args below meth c ls B hr htab hl h
  exact k_X4_mapAt_0 B hr htab _ _  hf _ _ _ h hl
