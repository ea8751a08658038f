set_option maxHeartbeats 4000000 in
set_option maxRecDepth 100000 in
theorem k_X5_isView_0 {p : Program} {l : Launch} {e : Env} {s : State} {m : MethodId} {args : Array Value} {below : List Frame} {meth : Method} {c : Code} {D : va_G} {cy : Nat → ClassId} {ad : Nat → Nat} {X : sX} {r : Int32} (B : sB p l s m meth c args cX5_isView 1 RX5 D cy ad) (hr : meth.sig.returnType = (some .boolean)) (v0 : Int32) (σ : sM) (hf : f_X5_isView v0 σ = some r) : sGo p l e { frames := 1, cells := 0, slots := 0, locals := 22 } s m args below meth c D cy ad X 1 (sQ below args s 0 0 D cy ad (.inr (some (.int r))) X σ) σ 0 [(0, .int v0)] [] := by
  replace hf : (rthn (f_X5_in v0 (0 : Int32) (3 : Int32) σ) (fun vr1 => chk (isb vr1) (some vr1))) = some r := hf
  intro H locs ls h hl
  have hx := B.1
  have hb := B.2.1
  refine lv_iload_n hx hb dX5_isView_0 rfl (lv_at hl 0 rfl) ?_
  refine lv_iconst (v := (0 : Int32)) hx hb dX5_isView_1 (by decide) ?_
  refine lv_iconst (v := (3 : Int32)) hx hb dX5_isView_2 (by decide) ?_
  obtain ⟨vr1, hq1, hf⟩ := rthn_some hf
  refine sRetC1 (g_runS B h (ok_X5_in B.2.2.2.2.2.2.2.2 B.2.2.2.2.2.2.1 _ _ v0 (0 : Int32) (3 : Int32) hq1) cw_X5_64 ⟨Nat.le_of_ble_eq_true rfl, Nat.le_of_ble_eq_true rfl⟩ rfl hl.1.symm rfl (Nat.le_of_ble_eq_true rfl) dX5_isView_3 ⟨Nat.zero_le _, Nat.zero_le _⟩) h (fun H locs h => ?_)
  obtain ⟨c2, hf⟩ := chk_some hf
  obtain rfl := Option.some.inj hf
  exact sE_z B hr h (isb_n c2) dX5_isView_6
set_option maxRecDepth 100000 in
theorem ok_X5_isView {l : Launch} (hl0 : l.stackTraces = false) {D : va_G} {cy : Nat → ClassId} {ad : Nat → Nat} (hap : sAp ad) (X : sX) (σ : sM) (v0 : Int32) {r : Int32} (hf : f_X5_isView v0 σ = some r) : sMet l yX5_isView (sWs yX5_isView cX5_isView 1 (some .boolean)) 1 22 0 0 D cy ad X σ [.int v0] (.inr (some (.int r))) X σ := by
  refine sMet_of (by decide +kernel) (Nat.le_of_ble_eq_true rfl) hap hl0 ?_
  intro p e s m args below meth c ls B hr htab hl h
  exact k_X5_isView_0 B hr _ _  hf _ _ _ h hl
set_option maxHeartbeats 4000000 in
set_option maxRecDepth 100000 in
theorem k_X5_cut_172 {p : Program} {l : Launch} {e : Env} {s : State} {m : MethodId} {args : Array Value} {below : List Frame} {meth : Method} {c : Code} {D : va_G} {cy : Nat → ClassId} {ad : Nat → Nat} {X : sX} {r : Int32} {σ' : sM} (B : sB p l s m meth c args cX5_cut 6 RX5 D cy ad) (hr : meth.sig.returnType = (some .int)) (v1 : Int32) (v2 : Int32) (vs1 : Int32) (vs2 : Int32) (σ : sM) (hf : b_X5_cut_172 v1 v2 vs1 vs2 σ = some (r, σ')) : sGo p l e { frames := 3, cells := 0, slots := 0, locals := 68 } s m args below meth c D cy ad X 6 (sQ below args s 0 0 D cy ad (.inr (some (.int r))) X σ') σ 172 [(0, .ref (ad 44)), (1, .int v1), (2, .int v2)] [.int vs2, .int vs1, .ref (ad 53)] := by
  replace hf : (chk (inb vs1 4) (stl (va_up σ 53 (upd (σ 53) (vs1).toNatClampNeg (vp_nar .boolean vs2))) (fun σ41 => chk (inb v2 4) (chk (inb v1 4) (stl (va_up σ41 54 (upd (σ41 54) (v1).toNatClampNeg ((σ41 54 (v2).toNatClampNeg) + (1 : Int32)))) (fun σ44 => rthn (f_X5_manyOf v1 σ44) (fun vr45 => some (vr45, σ44)))))))) = some (r, σ') := hf
  intro H locs ls h hl
  have hx := B.1
  have hb := B.2.1
  obtain ⟨c40, hf⟩ := chk_some hf
  refine g_zast B h 53 (by decide) (n := 4) (fun _ => rfl) (inb_in c40) dX5_cut_172 (fun H locs h => ?_)
  obtain ⟨σ41, e41, hf⟩ := stl_some hf
  rw [← e41] at h
  refine lv_aload_n hx hb dX5_cut_173 rfl (lv_at hl 0 rfl) ?_
  refine g_get B h 44 (by decide) (C := RX5) (T := TX5) (N := 21) (M_row _) rfl hin_X5 9 (by decide) hw835 rfl rfl dX5_cut_174 ?_
  refine lv_iload_n hx hb dX5_cut_177 rfl (lv_at hl 1 rfl) ?_
  refine lv_aload_n hx hb dX5_cut_178 rfl (lv_at hl 0 rfl) ?_
  refine g_get B h 44 (by decide) (C := RX5) (T := TX5) (N := 21) (M_row _) rfl hin_X5 9 (by decide) hw835 rfl rfl dX5_cut_179 ?_
  refine lv_iload_n hx hb dX5_cut_182 rfl (lv_at hl 2 rfl) ?_
  obtain ⟨c42, hf⟩ := chk_some hf
  refine g_iald B h 54 (by decide) (n := 4) (fun _ => rfl) (inb_in c42) dX5_cut_183 ?_
  refine lv_iconst (v := (1 : Int32)) hx hb dX5_cut_184 (by decide) ?_
  refine lv_iadd hx hb dX5_cut_185 ?_
  obtain ⟨c43, hf⟩ := chk_some hf
  refine g_iast B h 54 (by decide) (n := 4) (fun _ => rfl) (inb_in c43) dX5_cut_186 (fun H locs h => ?_)
  obtain ⟨σ44, e44, hf⟩ := stl_some hf
  rw [← e44] at h
  refine lv_aload_n hx hb dX5_cut_187 rfl (lv_at hl 0 rfl) ?_
  refine lv_iload_n hx hb dX5_cut_188 rfl (lv_at hl 1 rfl) ?_
  obtain ⟨vr45, hq45, hf⟩ := rthn_some hf
  refine sRetC1 (g_runV (k := 44) (T := TX5) (N := 21) B h (ok_X5_manyOf B.2.2.2.2.2.2.2.2 B.2.2.2.2.2.2.1 _ _ v1 hq45) cw_X5_129 ⟨Nat.le_of_ble_eq_true rfl, Nat.le_of_ble_eq_true rfl⟩ (by decide) (M_row _) rfl rfl hl.1.symm rfl (Nat.le_of_ble_eq_true rfl) dX5_cut_189 ⟨Nat.zero_le _, Nat.zero_le _⟩) h (fun H locs h => ?_)
  obtain ⟨rfl, rfl⟩ := Prod.mk.inj (Option.some.inj hf)
  exact sE_i B hr h dX5_cut_192
set_option maxHeartbeats 4000000 in
set_option maxRecDepth 100000 in
theorem k_X5_cut_130 {p : Program} {l : Launch} {e : Env} {s : State} {m : MethodId} {args : Array Value} {below : List Frame} {meth : Method} {c : Code} {D : va_G} {cy : Nat → ClassId} {ad : Nat → Nat} {X : sX} {r : Int32} {σ' : sM} (B : sB p l s m meth c args cX5_cut 6 RX5 D cy ad) (hr : meth.sig.returnType = (some .int)) (v1 : Int32) (v2 : Int32) (v3 : Int32) (v4 : Int32) (v5 : Int32) (vs1 : Int32) (vs2 : Int32) (σ : sM) (hf : b_X5_cut_130 v1 v2 v3 v4 v5 vs1 vs2 σ = some (r, σ')) : sGo p l e { frames := 3, cells := 0, slots := 0, locals := 68 } s m args below meth c D cy ad X 6 (sQ below args s 0 0 D cy ad (.inr (some (.int r))) X σ') σ 130 [(0, .ref (ad 44)), (1, .int v1), (2, .int v2), (3, .int v3), (4, .int v4), (5, .int v5)] [.int vs2, .int vs1, .ref (ad 52)] := by
  replace hf : (chk (inb vs1 4) (stl (va_up σ 52 (upd (σ 52) (vs1).toNatClampNeg (vp_nar .boolean vs2))) (fun σ29 => if v3 = 0 then (chk (inb v2 4) (chk (inb v1 4) (stl (va_up σ29 51 (upd (σ29 51) (v1).toNatClampNeg (σ29 51 (v2).toNatClampNeg))) (fun σ33 => if v3 = 0 then (chk (inb v2 4) (b_X5_cut_172 v1 v2 v1 (σ33 53 (v2).toNatClampNeg) σ33)) else (b_X5_cut_172 v1 v2 v1 v5 σ33))))) else (chk (inb v1 4) (stl (va_up σ29 51 (upd (σ29 51) (v1).toNatClampNeg v4)) (fun σ37 => if v3 = 0 then (chk (inb v2 4) (b_X5_cut_172 v1 v2 v1 (σ37 53 (v2).toNatClampNeg) σ37)) else (b_X5_cut_172 v1 v2 v1 v5 σ37))))))) = some (r, σ') := hf
  intro H locs ls h hl
  have hx := B.1
  have hb := B.2.1
  obtain ⟨c28, hf⟩ := chk_some hf
  refine g_zast B h 52 (by decide) (n := 4) (fun _ => rfl) (inb_in c28) dX5_cut_130 (fun H locs h => ?_)
  obtain ⟨σ29, e29, hf⟩ := stl_some hf
  rw [← e29] at h
  refine lv_aload_n hx hb dX5_cut_131 rfl (lv_at hl 0 rfl) ?_
  refine g_get B h 44 (by decide) (C := RX5) (T := TX5) (N := 21) (M_row _) rfl hin_X5 6 (by decide) hw832 rfl rfl dX5_cut_132 ?_
  refine lv_iload_n hx hb dX5_cut_135 rfl (lv_at hl 1 rfl) ?_
  refine lv_iload_n hx hb dX5_cut_136 rfl (lv_at hl 3 rfl) ?_
  refine lv_if_eq (tgt := 145) hx hb dX5_cut_137 (by decide) (fun c30 => ?_) (fun c30 => ?_)
  · rw [if_pos c30] at hf
    refine lv_aload_n hx hb dX5_cut_145 rfl (lv_at hl 0 rfl) ?_
    refine g_get B h 44 (by decide) (C := RX5) (T := TX5) (N := 21) (M_row _) rfl hin_X5 6 (by decide) hw832 rfl rfl dX5_cut_146 ?_
    refine lv_iload_n hx hb dX5_cut_149 rfl (lv_at hl 2 rfl) ?_
    obtain ⟨c31, hf⟩ := chk_some hf
    refine g_iald B h 51 (by decide) (n := 4) (fun _ => rfl) (inb_in c31) dX5_cut_150 ?_
    obtain ⟨c32, hf⟩ := chk_some hf
    refine g_iast B h 51 (by decide) (n := 4) (fun _ => rfl) (inb_in c32) dX5_cut_151 (fun H locs h => ?_)
    obtain ⟨σ33, e33, hf⟩ := stl_some hf
    rw [← e33] at h
    refine lv_aload_n hx hb dX5_cut_152 rfl (lv_at hl 0 rfl) ?_
    refine g_get B h 44 (by decide) (C := RX5) (T := TX5) (N := 21) (M_row _) rfl hin_X5 8 (by decide) hw834 rfl rfl dX5_cut_153 ?_
    refine lv_iload_n hx hb dX5_cut_156 rfl (lv_at hl 1 rfl) ?_
    refine lv_iload_n hx hb dX5_cut_157 rfl (lv_at hl 3 rfl) ?_
    refine lv_if_eq (tgt := 166) hx hb dX5_cut_158 (by decide) (fun c34 => ?_) (fun c34 => ?_)
    · rw [if_pos c34] at hf
      refine lv_aload_n hx hb dX5_cut_166 rfl (lv_at hl 0 rfl) ?_
      refine g_get B h 44 (by decide) (C := RX5) (T := TX5) (N := 21) (M_row _) rfl hin_X5 8 (by decide) hw834 rfl rfl dX5_cut_167 ?_
      refine lv_iload_n hx hb dX5_cut_170 rfl (lv_at hl 2 rfl) ?_
      obtain ⟨c35, hf⟩ := chk_some hf
      refine g_zald B h 53 (by decide) (n := 4) (fun _ => rfl) (inb_in c35) dX5_cut_171 ?_
      exact k_X5_cut_172 B hr  _ _ _ _ _ hf _ _ _ h (lv_sub hl [0, 1, 2] rfl)
    · rw [if_neg c34] at hf
      refine lv_iload hx hb dX5_cut_161 (lv_at hl 5 rfl) ?_
      refine lv_goto (tgt := 172) hx hb dX5_cut_163 (by decide) ?_
      exact k_X5_cut_172 B hr  _ _ _ _ _ hf _ _ _ h (lv_sub hl [0, 1, 2] rfl)
  · rw [if_neg c30] at hf
    refine lv_iload hx hb dX5_cut_140 (lv_at hl 4 rfl) ?_
    refine lv_goto (tgt := 151) hx hb dX5_cut_142 (by decide) ?_
    obtain ⟨c36, hf⟩ := chk_some hf
    refine g_iast B h 51 (by decide) (n := 4) (fun _ => rfl) (inb_in c36) dX5_cut_151 (fun H locs h => ?_)
    obtain ⟨σ37, e37, hf⟩ := stl_some hf
    rw [← e37] at h
    refine lv_aload_n hx hb dX5_cut_152 rfl (lv_at hl 0 rfl) ?_
    refine g_get B h 44 (by decide) (C := RX5) (T := TX5) (N := 21) (M_row _) rfl hin_X5 8 (by decide) hw834 rfl rfl dX5_cut_153 ?_
    refine lv_iload_n hx hb dX5_cut_156 rfl (lv_at hl 1 rfl) ?_
    refine lv_iload_n hx hb dX5_cut_157 rfl (lv_at hl 3 rfl) ?_
    refine lv_if_eq (tgt := 166) hx hb dX5_cut_158 (by decide) (fun c38 => ?_) (fun c38 => ?_)
    · rw [if_pos c38] at hf
      refine lv_aload_n hx hb dX5_cut_166 rfl (lv_at hl 0 rfl) ?_
      refine g_get B h 44 (by decide) (C := RX5) (T := TX5) (N := 21) (M_row _) rfl hin_X5 8 (by decide) hw834 rfl rfl dX5_cut_167 ?_
      refine lv_iload_n hx hb dX5_cut_170 rfl (lv_at hl 2 rfl) ?_
      obtain ⟨c39, hf⟩ := chk_some hf
      refine g_zald B h 53 (by decide) (n := 4) (fun _ => rfl) (inb_in c39) dX5_cut_171 ?_
      exact k_X5_cut_172 B hr  _ _ _ _ _ hf _ _ _ h (lv_sub hl [0, 1, 2] rfl)
    · rw [if_neg c38] at hf
      refine lv_iload hx hb dX5_cut_161 (lv_at hl 5 rfl) ?_
      refine lv_goto (tgt := 172) hx hb dX5_cut_163 (by decide) ?_
      exact k_X5_cut_172 B hr  _ _ _ _ _ hf _ _ _ h (lv_sub hl [0, 1, 2] rfl)
set_option maxHeartbeats 4000000 in
set_option maxRecDepth 100000 in
theorem k_X5_cut_62 {p : Program} {l : Launch} {e : Env} {s : State} {m : MethodId} {args : Array Value} {below : List Frame} {meth : Method} {c : Code} {D : va_G} {cy : Nat → ClassId} {ad : Nat → Nat} {X : sX} {r : Int32} {σ' : sM} (B : sB p l s m meth c args cX5_cut 6 RX5 D cy ad) (hr : meth.sig.returnType = (some .int)) (v1 : Int32) (v2 : Int32) (v3 : Int32) (v4 : Int32) (v5 : Int32) (vs1 : Int32) (σ : sM) (hf : b_X5_cut_62 v1 v2 v3 v4 v5 vs1 σ = some (r, σ')) : sGo p l e { frames := 3, cells := 0, slots := 0, locals := 68 } s m args below meth c D cy ad X 6 (sQ below args s 0 0 D cy ad (.inr (some (.int r))) X σ') σ 62 [(0, .ref (ad 44)), (1, .int v1), (2, .int v2), (3, .int v3), (4, .int v4), (5, .int v5)] [.int vs1, .ref (ad 44)] := by
  replace hf : (wthn (f_X5_refused vs1 σ) (fun vr11 σ11 => if vr11 = 0 then (chk (inb v1 4) (stl (va_up σ11 48 (upd (σ11 48) (v1).toNatClampNeg (vp_nar .boolean (1 : Int32)))) (fun σ14 => chk (inb v2 4) (chk (inb v1 4) (stl (va_up σ14 49 (upd (σ14 49) (v1).toNatClampNeg (σ14 49 (v2).toNatClampNeg))) (fun σ17 => if v3 = 0 then (chk (inb v1 4) (stl (va_up σ17 50 (upd (σ17 50) (v1).toNatClampNeg v4)) (fun σ20 => if v3 = 0 then (b_X5_cut_130 v1 v2 v3 v4 v5 v1 v5 σ20) else (chk (inb v2 4) (b_X5_cut_130 v1 v2 v3 v4 v5 v1 (σ20 52 (v2).toNatClampNeg) σ20))))) else (chk (inb v2 4) (chk (inb v1 4) (stl (va_up σ17 50 (upd (σ17 50) (v1).toNatClampNeg (σ17 50 (v2).toNatClampNeg))) (fun σ25 => if v3 = 0 then (b_X5_cut_130 v1 v2 v3 v4 v5 v1 v5 σ25) else (chk (inb v2 4) (b_X5_cut_130 v1 v2 v3 v4 v5 v1 (σ25 52 (v2).toNatClampNeg) σ25)))))))))))) else (some ((0 : Int32), σ11)))) = some (r, σ') := hf
  intro H locs ls h hl
  have hx := B.1
  have hb := B.2.1
  obtain ⟨vr11, σ11, hq11, hf⟩ := wthn_some hf
  refine sRetC1 (g_runV (k := 44) (T := TX5) (N := 21) B h (ok_X5_refused B.2.2.2.2.2.2.2.2 B.2.2.2.2.2.2.1 _ _ vs1 hq11) cw_X5_95 ⟨Nat.le_of_ble_eq_true rfl, Nat.le_of_ble_eq_true rfl⟩ (by decide) (M_row _) rfl rfl hl.1.symm rfl (Nat.le_of_ble_eq_true rfl) dX5_cut_62 ⟨Nat.zero_le _, Nat.zero_le _⟩) h (fun H locs h => ?_)
  refine lv_if_eq (tgt := 70) hx hb dX5_cut_65 (by decide) (fun c12 => ?_) (fun c12 => ?_)
  · rw [if_pos c12] at hf
    refine lv_aload_n hx hb dX5_cut_70 rfl (lv_at hl 0 rfl) ?_
    refine g_get B h 44 (by decide) (C := RX5) (T := TX5) (N := 21) (M_row _) rfl hin_X5 3 (by decide) hw829 rfl rfl dX5_cut_71 ?_
    refine lv_iload_n hx hb dX5_cut_74 rfl (lv_at hl 1 rfl) ?_
    refine lv_iconst (v := (1 : Int32)) hx hb dX5_cut_75 (by decide) ?_
    obtain ⟨c13, hf⟩ := chk_some hf
    refine g_zast B h 48 (by decide) (n := 4) (fun _ => rfl) (inb_in c13) dX5_cut_76 (fun H locs h => ?_)
    obtain ⟨σ14, e14, hf⟩ := stl_some hf
    rw [← e14] at h
    refine lv_aload_n hx hb dX5_cut_77 rfl (lv_at hl 0 rfl) ?_
    refine g_get B h 44 (by decide) (C := RX5) (T := TX5) (N := 21) (M_row _) rfl hin_X5 4 (by decide) hw830 rfl rfl dX5_cut_78 ?_
    refine lv_iload_n hx hb dX5_cut_81 rfl (lv_at hl 1 rfl) ?_
    refine lv_aload_n hx hb dX5_cut_82 rfl (lv_at hl 0 rfl) ?_
    refine g_get B h 44 (by decide) (C := RX5) (T := TX5) (N := 21) (M_row _) rfl hin_X5 4 (by decide) hw830 rfl rfl dX5_cut_83 ?_
    refine lv_iload_n hx hb dX5_cut_86 rfl (lv_at hl 2 rfl) ?_
    obtain ⟨c15, hf⟩ := chk_some hf
    refine g_iald B h 49 (by decide) (n := 4) (fun _ => rfl) (inb_in c15) dX5_cut_87 ?_
    obtain ⟨c16, hf⟩ := chk_some hf
    refine g_iast B h 49 (by decide) (n := 4) (fun _ => rfl) (inb_in c16) dX5_cut_88 (fun H locs h => ?_)
    obtain ⟨σ17, e17, hf⟩ := stl_some hf
    rw [← e17] at h
    refine lv_aload_n hx hb dX5_cut_89 rfl (lv_at hl 0 rfl) ?_
    refine g_get B h 44 (by decide) (C := RX5) (T := TX5) (N := 21) (M_row _) rfl hin_X5 5 (by decide) hw831 rfl rfl dX5_cut_90 ?_
    refine lv_iload_n hx hb dX5_cut_93 rfl (lv_at hl 1 rfl) ?_
    refine lv_iload_n hx hb dX5_cut_94 rfl (lv_at hl 3 rfl) ?_
    refine lv_if_eq (tgt := 107) hx hb dX5_cut_95 (by decide) (fun c18 => ?_) (fun c18 => ?_)
    · rw [if_pos c18] at hf
      refine lv_iload hx hb dX5_cut_107 (lv_at hl 4 rfl) ?_
      obtain ⟨c19, hf⟩ := chk_some hf
      refine g_iast B h 50 (by decide) (n := 4) (fun _ => rfl) (inb_in c19) dX5_cut_109 (fun H locs h => ?_)
      obtain ⟨σ20, e20, hf⟩ := stl_some hf
      rw [← e20] at h
      refine lv_aload_n hx hb dX5_cut_110 rfl (lv_at hl 0 rfl) ?_
      refine g_get B h 44 (by decide) (C := RX5) (T := TX5) (N := 21) (M_row _) rfl hin_X5 7 (by decide) hw833 rfl rfl dX5_cut_111 ?_
      refine lv_iload_n hx hb dX5_cut_114 rfl (lv_at hl 1 rfl) ?_
      refine lv_iload_n hx hb dX5_cut_115 rfl (lv_at hl 3 rfl) ?_
      refine lv_if_eq (tgt := 128) hx hb dX5_cut_116 (by decide) (fun c21 => ?_) (fun c21 => ?_)
      · rw [if_pos c21] at hf
        refine lv_iload hx hb dX5_cut_128 (lv_at hl 5 rfl) ?_
        exact k_X5_cut_130 B hr  _ _ _ _ _ _ _ _ hf _ _ _ h (lv_sub hl [0, 1, 2, 3, 4, 5] rfl)
      · rw [if_neg c21] at hf
        refine lv_aload_n hx hb dX5_cut_119 rfl (lv_at hl 0 rfl) ?_
        refine g_get B h 44 (by decide) (C := RX5) (T := TX5) (N := 21) (M_row _) rfl hin_X5 7 (by decide) hw833 rfl rfl dX5_cut_120 ?_
        refine lv_iload_n hx hb dX5_cut_123 rfl (lv_at hl 2 rfl) ?_
        obtain ⟨c22, hf⟩ := chk_some hf
        refine g_zald B h 52 (by decide) (n := 4) (fun _ => rfl) (inb_in c22) dX5_cut_124 ?_
        refine lv_goto (tgt := 130) hx hb dX5_cut_125 (by decide) ?_
        exact k_X5_cut_130 B hr  _ _ _ _ _ _ _ _ hf _ _ _ h (lv_sub hl [0, 1, 2, 3, 4, 5] rfl)
    · rw [if_neg c18] at hf
      refine lv_aload_n hx hb dX5_cut_98 rfl (lv_at hl 0 rfl) ?_
      refine g_get B h 44 (by decide) (C := RX5) (T := TX5) (N := 21) (M_row _) rfl hin_X5 5 (by decide) hw831 rfl rfl dX5_cut_99 ?_
      refine lv_iload_n hx hb dX5_cut_102 rfl (lv_at hl 2 rfl) ?_
      obtain ⟨c23, hf⟩ := chk_some hf
      refine g_iald B h 50 (by decide) (n := 4) (fun _ => rfl) (inb_in c23) dX5_cut_103 ?_
      refine lv_goto (tgt := 109) hx hb dX5_cut_104 (by decide) ?_
      obtain ⟨c24, hf⟩ := chk_some hf
      refine g_iast B h 50 (by decide) (n := 4) (fun _ => rfl) (inb_in c24) dX5_cut_109 (fun H locs h => ?_)
      obtain ⟨σ25, e25, hf⟩ := stl_some hf
      rw [← e25] at h
      refine lv_aload_n hx hb dX5_cut_110 rfl (lv_at hl 0 rfl) ?_
      refine g_get B h 44 (by decide) (C := RX5) (T := TX5) (N := 21) (M_row _) rfl hin_X5 7 (by decide) hw833 rfl rfl dX5_cut_111 ?_
      refine lv_iload_n hx hb dX5_cut_114 rfl (lv_at hl 1 rfl) ?_
      refine lv_iload_n hx hb dX5_cut_115 rfl (lv_at hl 3 rfl) ?_
      refine lv_if_eq (tgt := 128) hx hb dX5_cut_116 (by decide) (fun c26 => ?_) (fun c26 => ?_)
      · rw [if_pos c26] at hf
        refine lv_iload hx hb dX5_cut_128 (lv_at hl 5 rfl) ?_
        exact k_X5_cut_130 B hr  _ _ _ _ _ _ _ _ hf _ _ _ h (lv_sub hl [0, 1, 2, 3, 4, 5] rfl)
      · rw [if_neg c26] at hf
        refine lv_aload_n hx hb dX5_cut_119 rfl (lv_at hl 0 rfl) ?_
        refine g_get B h 44 (by decide) (C := RX5) (T := TX5) (N := 21) (M_row _) rfl hin_X5 7 (by decide) hw833 rfl rfl dX5_cut_120 ?_
        refine lv_iload_n hx hb dX5_cut_123 rfl (lv_at hl 2 rfl) ?_
        obtain ⟨c27, hf⟩ := chk_some hf
        refine g_zald B h 52 (by decide) (n := 4) (fun _ => rfl) (inb_in c27) dX5_cut_124 ?_
        refine lv_goto (tgt := 130) hx hb dX5_cut_125 (by decide) ?_
        exact k_X5_cut_130 B hr  _ _ _ _ _ _ _ _ hf _ _ _ h (lv_sub hl [0, 1, 2, 3, 4, 5] rfl)
  · rw [if_neg c12] at hf
    refine lv_iconst (v := (0 : Int32)) hx hb dX5_cut_68 (by decide) ?_
    obtain ⟨rfl, rfl⟩ := Prod.mk.inj (Option.some.inj hf)
    exact sE_i B hr h dX5_cut_69
set_option maxHeartbeats 4000000 in
set_option maxRecDepth 100000 in
theorem k_X5_cut_0 {p : Program} {l : Launch} {e : Env} {s : State} {m : MethodId} {args : Array Value} {below : List Frame} {meth : Method} {c : Code} {D : va_G} {cy : Nat → ClassId} {ad : Nat → Nat} {X : sX} {r : Int32} {σ' : sM} (B : sB p l s m meth c args cX5_cut 6 RX5 D cy ad) (hr : meth.sig.returnType = (some .int)) (v1 : Int32) (v2 : Int32) (v3 : Int32) (v4 : Int32) (v5 : Int32) (σ : sM) (hf : f_X5_cut v1 v2 v3 v4 v5 σ = some (r, σ')) : sGo p l e { frames := 3, cells := 0, slots := 0, locals := 68 } s m args below meth c D cy ad X 6 (sQ below args s 0 0 D cy ad (.inr (some (.int r))) X σ') σ 0 [(0, .ref (ad 44)), (1, .int v1), (2, .int v2), (3, .int v3), (4, .int v4), (5, .int v5)] [] := by
  replace hf : (rthn (f_X5_isView v1 σ) (fun vr1 => if vr1 = 0 then (b_X5_cut_62 v1 v2 v3 v4 v5 (1 : Int32) σ) else (rthn (f_X5_isView v2 σ) (fun vr3 => if vr3 = 0 then (b_X5_cut_62 v1 v2 v3 v4 v5 (1 : Int32) σ) else (chk (inb v2 4) (if (σ 48 (v2).toNatClampNeg) = 0 then (b_X5_cut_62 v1 v2 v3 v4 v5 (2 : Int32) σ) else (rthn (f_X5_isIn v2 v4 σ) (fun vr7 => if vr7 = 0 then (b_X5_cut_62 v1 v2 v3 v4 v5 (3 : Int32) σ) else (chk (inb v2 4) (if (σ 54 (v2).toNatClampNeg) = (12 : Int32) then (b_X5_cut_62 v1 v2 v3 v4 v5 (4 : Int32) σ) else (b_X5_cut_62 v1 v2 v3 v4 v5 (0 : Int32) σ))))))))))) = some (r, σ') := hf
  intro H locs ls h hl
  have hx := B.1
  have hb := B.2.1
  refine lv_aload_n hx hb dX5_cut_0 rfl (lv_at hl 0 rfl) ?_
  refine lv_iload_n hx hb dX5_cut_1 rfl (lv_at hl 1 rfl) ?_
  obtain ⟨vr1, hq1, hf⟩ := rthn_some hf
  refine sRetC1 (g_runS B h (ok_X5_isView B.2.2.2.2.2.2.2.2 B.2.2.2.2.2.2.1 _ _ v1 hq1) cw_X5_126 ⟨Nat.le_of_ble_eq_true rfl, Nat.le_of_ble_eq_true rfl⟩ rfl hl.1.symm rfl (Nat.le_of_ble_eq_true rfl) dX5_cut_2 ⟨Nat.zero_le _, Nat.zero_le _⟩) h (fun H locs h => ?_)
  refine lv_if_eq (tgt := 15) hx hb dX5_cut_5 (by decide) (fun c2 => ?_) (fun c2 => ?_)
  · rw [if_pos c2] at hf
    refine lv_iconst (v := (1 : Int32)) hx hb dX5_cut_15 (by decide) ?_
    refine lv_goto (tgt := 62) hx hb dX5_cut_16 (by decide) ?_
    exact k_X5_cut_62 B hr  _ _ _ _ _ _ _ hf _ _ _ h (lv_sub hl [0, 1, 2, 3, 4, 5] rfl)
  · rw [if_neg c2] at hf
    refine lv_iload_n hx hb dX5_cut_8 rfl (lv_at hl 2 rfl) ?_
    obtain ⟨vr3, hq3, hf⟩ := rthn_some hf
    refine sRetC1 (g_runS B h (ok_X5_isView B.2.2.2.2.2.2.2.2 B.2.2.2.2.2.2.1 _ _ v2 hq3) cw_X5_126 ⟨Nat.le_of_ble_eq_true rfl, Nat.le_of_ble_eq_true rfl⟩ rfl hl.1.symm rfl (Nat.le_of_ble_eq_true rfl) dX5_cut_9 ⟨Nat.zero_le _, Nat.zero_le _⟩) h (fun H locs h => ?_)
    refine lv_if_ne (tgt := 19) hx hb dX5_cut_12 (by decide) (fun c4 => ?_) (fun c4 => ?_)
    · rw [if_neg c4] at hf
      refine lv_aload_n hx hb dX5_cut_19 rfl (lv_at hl 0 rfl) ?_
      refine g_get B h 44 (by decide) (C := RX5) (T := TX5) (N := 21) (M_row _) rfl hin_X5 3 (by decide) hw829 rfl rfl dX5_cut_20 ?_
      refine lv_iload_n hx hb dX5_cut_23 rfl (lv_at hl 2 rfl) ?_
      obtain ⟨c5, hf⟩ := chk_some hf
      refine g_zald B h 48 (by decide) (n := 4) (fun _ => rfl) (inb_in c5) dX5_cut_24 ?_
      refine lv_if_ne (tgt := 32) hx hb dX5_cut_25 (by decide) (fun c6 => ?_) (fun c6 => ?_)
      · rw [if_neg c6] at hf
        refine lv_aload_n hx hb dX5_cut_32 rfl (lv_at hl 0 rfl) ?_
        refine lv_iload_n hx hb dX5_cut_33 rfl (lv_at hl 2 rfl) ?_
        refine lv_iload hx hb dX5_cut_34 (lv_at hl 4 rfl) ?_
        obtain ⟨vr7, hq7, hf⟩ := rthn_some hf
        refine sRetC1 (g_runV (k := 44) (T := TX5) (N := 21) B h (ok_X5_isIn B.2.2.2.2.2.2.2.2 B.2.2.2.2.2.2.1 _ _ v2 v4 hq7) cw_X5_120 ⟨Nat.le_of_ble_eq_true rfl, Nat.le_of_ble_eq_true rfl⟩ (by decide) (M_row _) rfl rfl hl.1.symm rfl (Nat.le_of_ble_eq_true rfl) dX5_cut_36 ⟨Nat.zero_le _, Nat.zero_le _⟩) h (fun H locs h => ?_)
        refine lv_if_ne (tgt := 46) hx hb dX5_cut_39 (by decide) (fun c8 => ?_) (fun c8 => ?_)
        · rw [if_neg c8] at hf
          refine lv_aload_n hx hb dX5_cut_46 rfl (lv_at hl 0 rfl) ?_
          refine g_get B h 44 (by decide) (C := RX5) (T := TX5) (N := 21) (M_row _) rfl hin_X5 9 (by decide) hw835 rfl rfl dX5_cut_47 ?_
          refine lv_iload_n hx hb dX5_cut_50 rfl (lv_at hl 2 rfl) ?_
          obtain ⟨c9, hf⟩ := chk_some hf
          refine g_iald B h 54 (by decide) (n := 4) (fun _ => rfl) (inb_in c9) dX5_cut_51 ?_
          refine lv_bipush (v := (12 : Int32)) hx hb dX5_cut_52 (by decide) ?_
          refine lv_icmp_ne (tgt := 61) hx hb dX5_cut_54 (by decide) (fun c10 => ?_) (fun c10 => ?_)
          · rw [if_neg c10] at hf
            refine lv_iconst (v := (0 : Int32)) hx hb dX5_cut_61 (by decide) ?_
            exact k_X5_cut_62 B hr  _ _ _ _ _ _ _ hf _ _ _ h (lv_sub hl [0, 1, 2, 3, 4, 5] rfl)
          · rw [if_pos c10] at hf
            refine lv_iconst (v := (4 : Int32)) hx hb dX5_cut_57 (by decide) ?_
            refine lv_goto (tgt := 62) hx hb dX5_cut_58 (by decide) ?_
            exact k_X5_cut_62 B hr  _ _ _ _ _ _ _ hf _ _ _ h (lv_sub hl [0, 1, 2, 3, 4, 5] rfl)
        · rw [if_pos c8] at hf
          refine lv_iconst (v := (3 : Int32)) hx hb dX5_cut_42 (by decide) ?_
          refine lv_goto (tgt := 62) hx hb dX5_cut_43 (by decide) ?_
          exact k_X5_cut_62 B hr  _ _ _ _ _ _ _ hf _ _ _ h (lv_sub hl [0, 1, 2, 3, 4, 5] rfl)
      · rw [if_pos c6] at hf
        refine lv_iconst (v := (2 : Int32)) hx hb dX5_cut_28 (by decide) ?_
        refine lv_goto (tgt := 62) hx hb dX5_cut_29 (by decide) ?_
        exact k_X5_cut_62 B hr  _ _ _ _ _ _ _ hf _ _ _ h (lv_sub hl [0, 1, 2, 3, 4, 5] rfl)
    · rw [if_pos c4] at hf
      refine lv_iconst (v := (1 : Int32)) hx hb dX5_cut_15 (by decide) ?_
      refine lv_goto (tgt := 62) hx hb dX5_cut_16 (by decide) ?_
      exact k_X5_cut_62 B hr  _ _ _ _ _ _ _ hf _ _ _ h (lv_sub hl [0, 1, 2, 3, 4, 5] rfl)
set_option maxRecDepth 100000 in
theorem ok_X5_cut {l : Launch} (hl0 : l.stackTraces = false) {D : va_G} {cy : Nat → ClassId} {ad : Nat → Nat} (hap : sAp ad) (X : sX) (σ : sM) (v1 : Int32) (v2 : Int32) (v3 : Int32) (v4 : Int32) (v5 : Int32) {r : Int32} {σ' : sM} (hf : f_X5_cut v1 v2 v3 v4 v5 σ = some (r, σ')) : sMet l yX5_cut (sWs yX5_cut cX5_cut 6 (some .int)) 3 68 0 0 D cy ad X σ [.ref (ad 44), .int v1, .int v2, .int v3, .int v4, .int v5] (.inr (some (.int r))) X σ' := by
  refine sMet_of (by decide +kernel) (Nat.le_of_ble_eq_true rfl) hap hl0 ?_
  intro p e s m args below meth c ls B hr htab hl h
  exact k_X5_cut_0 B hr _ _ _ _ _ _  hf _ _ _ h hl
set_option maxHeartbeats 4000000 in
set_option maxRecDepth 100000 in
theorem k_X5_takes_12 {p : Program} {l : Launch} {e : Env} {s : State} {m : MethodId} {args : Array Value} {below : List Frame} {meth : Method} {c : Code} {D : va_G} {cy : Nat → ClassId} {ad : Nat → Nat} {X : sX} {r : Unit} {σ' : sM} (B : sB p l s m meth c args cX5_takes 4 RX5 D cy ad) (hr : meth.sig.returnType = none) : ∀ (n : Nat) (v1 : Int32) (v3 : Int32) (σ : sM), b_X5_takes_12 n v1 v3 σ = some (r, σ') → sGo p l e { frames := 0, cells := 0, slots := 0, locals := 0 } s m args below meth c D cy ad X 4 (sQ below args s 0 0 D cy ad (.inr none) X σ') σ 12 [(0, .ref (ad 44)), (1, .int v1), (3, .int v3)] [] := by
  intro n
  induction n with
  | zero =>
    intro v1 v3 σ hf
    exact nomatch (show none = some (r, σ') from hf)
  | succ n ih =>
    intro v1 v3 σ hf
    replace hf : (chk (inb v1 3) (if (σ 47 (v1).toNatClampNeg) ≤ v3 then (some ((), σ)) else (chk (inb ((((60 : Int32) * v1) + v3) + (1 : Int32)) 180) (chk (inb (((60 : Int32) * v1) + v3) 180) (stl (va_up σ 45 (upd (σ 45) ((((60 : Int32) * v1) + v3)).toNatClampNeg (σ 45 (((((60 : Int32) * v1) + v3) + (1 : Int32))).toNatClampNeg))) (fun σ8 => chk (inb ((((60 : Int32) * v1) + v3) + (1 : Int32)) 180) (chk (inb (((60 : Int32) * v1) + v3) 180) (stl (va_up σ8 46 (upd (σ8 46) ((((60 : Int32) * v1) + v3)).toNatClampNeg (σ8 46 (((((60 : Int32) * v1) + v3) + (1 : Int32))).toNatClampNeg))) (fun σ11 => b_X5_takes_12 n v1 (v3 + 1) σ11))))))))) = some (r, σ') := hf
    intro H locs ls h hl
    have hx := B.1
    have hb := B.2.1
    refine lv_iload_n hx hb dX5_takes_12 rfl (lv_at hl 2 rfl) ?_
    refine lv_aload_n hx hb dX5_takes_13 rfl (lv_at hl 0 rfl) ?_
    refine g_get B h 44 (by decide) (C := RX5) (T := TX5) (N := 21) (M_row _) rfl hin_X5 2 (by decide) hw828 rfl rfl dX5_takes_14 ?_
    refine lv_iload_n hx hb dX5_takes_17 rfl (lv_at hl 1 rfl) ?_
    obtain ⟨c4, hf⟩ := chk_some hf
    refine g_iald B h 47 (by decide) (n := 3) (fun _ => rfl) (inb_in c4) dX5_takes_18 ?_
    refine lv_icmp_ge (tgt := 76) hx hb dX5_takes_19 (by decide) (fun c5 => ?_) (fun c5 => ?_)
    · rw [if_pos c5] at hf
      obtain ⟨rfl, rfl⟩ := Prod.mk.inj (Option.some.inj hf)
      exact sE_v B hr h dX5_takes_76
    · rw [if_neg c5] at hf
      refine lv_aload_n hx hb dX5_takes_22 rfl (lv_at hl 0 rfl) ?_
      refine g_get B h 44 (by decide) (C := RX5) (T := TX5) (N := 21) (M_row _) rfl hin_X5 0 (by decide) hw826 rfl rfl dX5_takes_23 ?_
      refine lv_bipush (v := (60 : Int32)) hx hb dX5_takes_26 (by decide) ?_
      refine lv_iload_n hx hb dX5_takes_28 rfl (lv_at hl 1 rfl) ?_
      refine lv_imul hx hb dX5_takes_29 ?_
      refine lv_iload_n hx hb dX5_takes_30 rfl (lv_at hl 2 rfl) ?_
      refine lv_iadd hx hb dX5_takes_31 ?_
      refine lv_aload_n hx hb dX5_takes_32 rfl (lv_at hl 0 rfl) ?_
      refine g_get B h 44 (by decide) (C := RX5) (T := TX5) (N := 21) (M_row _) rfl hin_X5 0 (by decide) hw826 rfl rfl dX5_takes_33 ?_
      refine lv_bipush (v := (60 : Int32)) hx hb dX5_takes_36 (by decide) ?_
      refine lv_iload_n hx hb dX5_takes_38 rfl (lv_at hl 1 rfl) ?_
      refine lv_imul hx hb dX5_takes_39 ?_
      refine lv_iload_n hx hb dX5_takes_40 rfl (lv_at hl 2 rfl) ?_
      refine lv_iadd hx hb dX5_takes_41 ?_
      refine lv_iconst (v := (1 : Int32)) hx hb dX5_takes_42 (by decide) ?_
      refine lv_iadd hx hb dX5_takes_43 ?_
      obtain ⟨c6, hf⟩ := chk_some hf
      refine g_iald B h 45 (by decide) (n := 180) (fun _ => rfl) (inb_in c6) dX5_takes_44 ?_
      obtain ⟨c7, hf⟩ := chk_some hf
      refine g_iast B h 45 (by decide) (n := 180) (fun _ => rfl) (inb_in c7) dX5_takes_45 (fun H locs h => ?_)
      obtain ⟨σ8, e8, hf⟩ := stl_some hf
      rw [← e8] at h
      refine lv_aload_n hx hb dX5_takes_46 rfl (lv_at hl 0 rfl) ?_
      refine g_get B h 44 (by decide) (C := RX5) (T := TX5) (N := 21) (M_row _) rfl hin_X5 1 (by decide) hw827 rfl rfl dX5_takes_47 ?_
      refine lv_bipush (v := (60 : Int32)) hx hb dX5_takes_50 (by decide) ?_
      refine lv_iload_n hx hb dX5_takes_52 rfl (lv_at hl 1 rfl) ?_
      refine lv_imul hx hb dX5_takes_53 ?_
      refine lv_iload_n hx hb dX5_takes_54 rfl (lv_at hl 2 rfl) ?_
      refine lv_iadd hx hb dX5_takes_55 ?_
      refine lv_aload_n hx hb dX5_takes_56 rfl (lv_at hl 0 rfl) ?_
      refine g_get B h 44 (by decide) (C := RX5) (T := TX5) (N := 21) (M_row _) rfl hin_X5 1 (by decide) hw827 rfl rfl dX5_takes_57 ?_
      refine lv_bipush (v := (60 : Int32)) hx hb dX5_takes_60 (by decide) ?_
      refine lv_iload_n hx hb dX5_takes_62 rfl (lv_at hl 1 rfl) ?_
      refine lv_imul hx hb dX5_takes_63 ?_
      refine lv_iload_n hx hb dX5_takes_64 rfl (lv_at hl 2 rfl) ?_
      refine lv_iadd hx hb dX5_takes_65 ?_
      refine lv_iconst (v := (1 : Int32)) hx hb dX5_takes_66 (by decide) ?_
      refine lv_iadd hx hb dX5_takes_67 ?_
      obtain ⟨c9, hf⟩ := chk_some hf
      refine g_iald B h 46 (by decide) (n := 180) (fun _ => rfl) (inb_in c9) dX5_takes_68 ?_
      obtain ⟨c10, hf⟩ := chk_some hf
      refine g_iast B h 46 (by decide) (n := 180) (fun _ => rfl) (inb_in c10) dX5_takes_69 (fun H locs h => ?_)
      obtain ⟨σ11, e11, hf⟩ := stl_some hf
      rw [← e11] at h
      refine lv_iinc (v := (v3 + 1)) (lv' := [(3, .int (v3 + 1)), (0, .ref (ad 44)), (1, .int v1)]) hx hb dX5_takes_70 hl (k := 2) rfl rfl (by decide) rfl (fun ls hl => ?_)
      refine lv_goto (tgt := 12) hx hb dX5_takes_73 (by decide) ?_
      exact ih _ _ _ hf _ _ _ h (lv_sub hl [1, 2, 0] rfl)
set_option maxHeartbeats 4000000 in
set_option maxRecDepth 100000 in
theorem k_X5_takes_0 {p : Program} {l : Launch} {e : Env} {s : State} {m : MethodId} {args : Array Value} {below : List Frame} {meth : Method} {c : Code} {D : va_G} {cy : Nat → ClassId} {ad : Nat → Nat} {X : sX} {r : Unit} {σ' : sM} (B : sB p l s m meth c args cX5_takes 4 RX5 D cy ad) (hr : meth.sig.returnType = none) (v1 : Int32) (v2 : Int32) (σ : sM) (hf : f_X5_takes v1 v2 σ = some (r, σ')) : sGo p l e { frames := 0, cells := 0, slots := 0, locals := 0 } s m args below meth c D cy ad X 4 (sQ below args s 0 0 D cy ad (.inr none) X σ') σ 0 [(0, .ref (ad 44)), (1, .int v1), (2, .int v2)] [] := by
  replace hf : (chk (inb v1 3) (chk (inb v1 3) (stl (va_up σ 47 (upd (σ 47) (v1).toNatClampNeg ((σ 47 (v1).toNatClampNeg) - (1 : Int32)))) (fun σ3 => b_X5_takes_12 FU v1 v2 σ3)))) = some (r, σ') := hf
  intro H locs ls h hl
  have hx := B.1
  have hb := B.2.1
  refine lv_aload_n hx hb dX5_takes_0 rfl (lv_at hl 0 rfl) ?_
  refine g_get B h 44 (by decide) (C := RX5) (T := TX5) (N := 21) (M_row _) rfl hin_X5 2 (by decide) hw828 rfl rfl dX5_takes_1 ?_
  refine lv_iload_n hx hb dX5_takes_4 rfl (lv_at hl 1 rfl) ?_
  refine lv_dup2_11 hx hb dX5_takes_5 rfl rfl ?_
  obtain ⟨c1, hf⟩ := chk_some hf
  refine g_iald B h 47 (by decide) (n := 3) (fun _ => rfl) (inb_in c1) dX5_takes_6 ?_
  refine lv_iconst (v := (1 : Int32)) hx hb dX5_takes_7 (by decide) ?_
  refine lv_isub hx hb dX5_takes_8 ?_
  obtain ⟨c2, hf⟩ := chk_some hf
  refine g_iast B h 47 (by decide) (n := 3) (fun _ => rfl) (inb_in c2) dX5_takes_9 (fun H locs h => ?_)
  obtain ⟨σ3, e3, hf⟩ := stl_some hf
  rw [← e3] at h
  refine lv_iload_n hx hb dX5_takes_10 rfl (lv_at hl 2 rfl) ?_
  refine lv_istore_n (lv' := [(3, .int v2), (0, .ref (ad 44)), (1, .int v1), (2, .int v2)]) hx hb dX5_takes_11 rfl hl (by decide) rfl (fun ls hl => ?_)
  exact k_X5_takes_12 B hr  _ _ _ _ hf _ _ _ h (lv_sub hl [1, 2, 0] rfl)
set_option maxRecDepth 100000 in
theorem ok_X5_takes {l : Launch} (hl0 : l.stackTraces = false) {D : va_G} {cy : Nat → ClassId} {ad : Nat → Nat} (hap : sAp ad) (X : sX) (σ : sM) (v1 : Int32) (v2 : Int32) {r : Unit} {σ' : sM} (hf : f_X5_takes v1 v2 σ = some (r, σ')) : sMet l yX5_takes (sWs yX5_takes cX5_takes 4 none) 0 0 0 0 D cy ad X σ [.ref (ad 44), .int v1, .int v2] (.inr none) X σ' := by
  refine sMet_of (by decide +kernel) (Nat.le_of_ble_eq_true rfl) hap hl0 ?_
  intro p e s m args below meth c ls B hr htab hl h
  exact k_X5_takes_0 B hr _ _ _  hf _ _ _ h hl
set_option maxHeartbeats 4000000 in
set_option maxRecDepth 100000 in
theorem k_X5_does_132 {p : Program} {l : Launch} {e : Env} {s : State} {m : MethodId} {args : Array Value} {below : List Frame} {meth : Method} {c : Code} {D : va_G} {cy : Nat → ClassId} {ad : Nat → Nat} {X : sX} {r : Int32} {σ' : sM} (B : sB p l s m meth c args cX5_does 9 RX5 D cy ad) (hr : meth.sig.returnType = (some .boolean)) (v1 : Int32) (v3 : Int32) (v6 : Int32) (v7 : Int32) (vs0 : Int32) (σ : sM) (hf : b_X5_does_132 v1 v3 v6 v7 vs0 σ = some (r, σ')) : sGo p l e { frames := 2, cells := 0, slots := 0, locals := 48 } s m args below meth c D cy ad X 9 (sQ below args s 0 0 D cy ad (.inr (some (.int r))) X σ') σ 132 [(0, .ref (ad 44)), (1, .int v1), (3, .int v3), (6, .int v6), (7, .int v7)] [.int vs0] := by
  replace hf : (wthn (f_X5_puts v1 v3 vs0 σ) (fun _ σ22 => if v6 = 0 then (some ((1 : Int32), σ22)) else (if vs0 = v7 then (some ((0 : Int32), σ22)) else (some ((1 : Int32), σ22))))) = some (r, σ') := hf
  intro H locs ls h hl
  have hx := B.1
  have hb := B.2.1
  refine lv_istore (lv' := [(8, .int vs0), (0, .ref (ad 44)), (1, .int v1), (3, .int v3), (6, .int v6), (7, .int v7)]) hx hb dX5_does_132 hl (by decide) rfl (fun ls hl => ?_)
  refine lv_aload_n hx hb dX5_does_134 rfl (lv_at hl 1 rfl) ?_
  refine lv_iload_n hx hb dX5_does_135 rfl (lv_at hl 2 rfl) ?_
  refine lv_iload_n hx hb dX5_does_136 rfl (lv_at hl 3 rfl) ?_
  refine lv_iload hx hb dX5_does_137 (lv_at hl 0 rfl) ?_
  obtain ⟨vr22, σ22, hq22, hf⟩ := wthn_some hf
  refine sRetC0 (g_runV (k := 44) (T := TX5) (N := 21) B h (ok_X5_puts B.2.2.2.2.2.2.2.2 B.2.2.2.2.2.2.1 _ _ v1 v3 vs0 hq22) cw_X5_98 ⟨Nat.le_of_ble_eq_true rfl, Nat.le_of_ble_eq_true rfl⟩ (by decide) (M_row _) rfl rfl hl.1.symm rfl (Nat.le_of_ble_eq_true rfl) dX5_does_139 ⟨Nat.zero_le _, Nat.zero_le _⟩) h (fun H locs h => ?_)
  refine lv_iload hx hb dX5_does_142 (lv_at hl 4 rfl) ?_
  refine lv_if_eq (tgt := 154) hx hb dX5_does_144 (by decide) (fun c23 => ?_) (fun c23 => ?_)
  · rw [if_pos c23] at hf
    refine lv_iconst (v := (1 : Int32)) hx hb dX5_does_154 (by decide) ?_
    refine lv_goto (tgt := 159) hx hb dX5_does_155 (by decide) ?_
    obtain ⟨rfl, rfl⟩ := Prod.mk.inj (Option.some.inj hf)
    exact sE_z B hr h rfl dX5_does_159
  · rw [if_neg c23] at hf
    refine lv_iload hx hb dX5_does_147 (lv_at hl 0 rfl) ?_
    refine lv_iload hx hb dX5_does_149 (lv_at hl 5 rfl) ?_
    refine lv_icmp_eq (tgt := 158) hx hb dX5_does_151 (by decide) (fun c24 => ?_) (fun c24 => ?_)
    · rw [if_pos c24] at hf
      refine lv_iconst (v := (0 : Int32)) hx hb dX5_does_158 (by decide) ?_
      obtain ⟨rfl, rfl⟩ := Prod.mk.inj (Option.some.inj hf)
      exact sE_z B hr h rfl dX5_does_159
    · rw [if_neg c24] at hf
      refine lv_iconst (v := (1 : Int32)) hx hb dX5_does_154 (by decide) ?_
      refine lv_goto (tgt := 159) hx hb dX5_does_155 (by decide) ?_
      obtain ⟨rfl, rfl⟩ := Prod.mk.inj (Option.some.inj hf)
      exact sE_z B hr h rfl dX5_does_159
set_option maxHeartbeats 4000000 in
set_option maxRecDepth 100000 in
theorem k_X5_does_96 {p : Program} {l : Launch} {e : Env} {s : State} {m : MethodId} {args : Array Value} {below : List Frame} {meth : Method} {c : Code} {D : va_G} {cy : Nat → ClassId} {ad : Nat → Nat} {X : sX} {r : Int32} {σ' : sM} (B : sB p l s m meth c args cX5_does 9 RX5 D cy ad) (hr : meth.sig.returnType = (some .boolean)) (v1 : Int32) (v3 : Int32) (v4 : Int32) (v5 : Int32) (v6 : Int32) (v7 : Int32) (σ : sM) (hf : b_X5_does_96 v1 v3 v4 v5 v6 v7 σ = some (r, σ')) : sGo p l e { frames := 2, cells := 0, slots := 0, locals := 48 } s m args below meth c D cy ad X 9 (sQ below args s 0 0 D cy ad (.inr (some (.int r))) X σ') σ 96 [(0, .ref (ad 44)), (1, .int v1), (3, .int v3), (4, .int v4), (5, .int v5), (6, .int v6), (7, .int v7)] [] := by
  replace hf : (if v5 = (120 : Int32) then (if v6 = 0 then (some ((0 : Int32), σ)) else (if v5 = (115 : Int32) then (if v6 = 0 then (b_X5_does_132 v1 v3 v6 v7 v4 σ) else (b_X5_does_132 v1 v3 v6 v7 (v7 + v4) σ)) else (b_X5_does_132 v1 v3 v6 v7 v4 σ))) else (if v5 = (115 : Int32) then (if v6 = 0 then (b_X5_does_132 v1 v3 v6 v7 v4 σ) else (b_X5_does_132 v1 v3 v6 v7 (v7 + v4) σ)) else (b_X5_does_132 v1 v3 v6 v7 v4 σ))) = some (r, σ') := hf
  intro H locs ls h hl
  have hx := B.1
  have hb := B.2.1
  refine lv_iload hx hb dX5_does_96 (lv_at hl 4 rfl) ?_
  refine lv_bipush (v := (120 : Int32)) hx hb dX5_does_98 (by decide) ?_
  refine lv_icmp_ne (tgt := 110) hx hb dX5_does_100 (by decide) (fun c16 => ?_) (fun c16 => ?_)
  · rw [if_neg c16] at hf
    refine lv_iload hx hb dX5_does_110 (lv_at hl 4 rfl) ?_
    refine lv_bipush (v := (115 : Int32)) hx hb dX5_does_112 (by decide) ?_
    refine lv_icmp_ne (tgt := 130) hx hb dX5_does_114 (by decide) (fun c17 => ?_) (fun c17 => ?_)
    · rw [if_neg c17] at hf
      refine lv_iload hx hb dX5_does_130 (lv_at hl 3 rfl) ?_
      exact k_X5_does_132 B hr  _ _ _ _ _ _ hf _ _ _ h (lv_sub hl [0, 1, 2, 5, 6] rfl)
    · rw [if_pos c17] at hf
      refine lv_iload hx hb dX5_does_117 (lv_at hl 5 rfl) ?_
      refine lv_if_eq (tgt := 130) hx hb dX5_does_119 (by decide) (fun c18 => ?_) (fun c18 => ?_)
      · rw [if_pos c18] at hf
        refine lv_iload hx hb dX5_does_130 (lv_at hl 3 rfl) ?_
        exact k_X5_does_132 B hr  _ _ _ _ _ _ hf _ _ _ h (lv_sub hl [0, 1, 2, 5, 6] rfl)
      · rw [if_neg c18] at hf
        refine lv_iload hx hb dX5_does_122 (lv_at hl 6 rfl) ?_
        refine lv_iload hx hb dX5_does_124 (lv_at hl 3 rfl) ?_
        refine lv_iadd hx hb dX5_does_126 ?_
        refine lv_goto (tgt := 132) hx hb dX5_does_127 (by decide) ?_
        exact k_X5_does_132 B hr  _ _ _ _ _ _ hf _ _ _ h (lv_sub hl [0, 1, 2, 5, 6] rfl)
  · rw [if_pos c16] at hf
    refine lv_iload hx hb dX5_does_103 (lv_at hl 5 rfl) ?_
    refine lv_if_ne (tgt := 110) hx hb dX5_does_105 (by decide) (fun c19 => ?_) (fun c19 => ?_)
    · rw [if_neg c19] at hf
      refine lv_iload hx hb dX5_does_110 (lv_at hl 4 rfl) ?_
      refine lv_bipush (v := (115 : Int32)) hx hb dX5_does_112 (by decide) ?_
      refine lv_icmp_ne (tgt := 130) hx hb dX5_does_114 (by decide) (fun c20 => ?_) (fun c20 => ?_)
      · rw [if_neg c20] at hf
        refine lv_iload hx hb dX5_does_130 (lv_at hl 3 rfl) ?_
        exact k_X5_does_132 B hr  _ _ _ _ _ _ hf _ _ _ h (lv_sub hl [0, 1, 2, 5, 6] rfl)
      · rw [if_pos c20] at hf
        refine lv_iload hx hb dX5_does_117 (lv_at hl 5 rfl) ?_
        refine lv_if_eq (tgt := 130) hx hb dX5_does_119 (by decide) (fun c21 => ?_) (fun c21 => ?_)
        · rw [if_pos c21] at hf
          refine lv_iload hx hb dX5_does_130 (lv_at hl 3 rfl) ?_
          exact k_X5_does_132 B hr  _ _ _ _ _ _ hf _ _ _ h (lv_sub hl [0, 1, 2, 5, 6] rfl)
        · rw [if_neg c21] at hf
          refine lv_iload hx hb dX5_does_122 (lv_at hl 6 rfl) ?_
          refine lv_iload hx hb dX5_does_124 (lv_at hl 3 rfl) ?_
          refine lv_iadd hx hb dX5_does_126 ?_
          refine lv_goto (tgt := 132) hx hb dX5_does_127 (by decide) ?_
          exact k_X5_does_132 B hr  _ _ _ _ _ _ hf _ _ _ h (lv_sub hl [0, 1, 2, 5, 6] rfl)
    · rw [if_pos c19] at hf
      refine lv_iconst (v := (0 : Int32)) hx hb dX5_does_108 (by decide) ?_
      obtain ⟨rfl, rfl⟩ := Prod.mk.inj (Option.some.inj hf)
      exact sE_z B hr h rfl dX5_does_109
set_option maxHeartbeats 4000000 in
set_option maxRecDepth 100000 in
theorem k_X5_does_56 {p : Program} {l : Launch} {e : Env} {s : State} {m : MethodId} {args : Array Value} {below : List Frame} {meth : Method} {c : Code} {D : va_G} {cy : Nat → ClassId} {ad : Nat → Nat} {X : sX} {r : Int32} {σ' : sM} (B : sB p l s m meth c args cX5_does 9 RX5 D cy ad) (hr : meth.sig.returnType = (some .boolean)) (v1 : Int32) (v3 : Int32) (v4 : Int32) (v5 : Int32) (v6 : Int32) (vs0 : Int32) (σ : sM) (hf : b_X5_does_56 v1 v3 v4 v5 v6 vs0 σ = some (r, σ')) : sGo p l e { frames := 2, cells := 0, slots := 0, locals := 48 } s m args below meth c D cy ad X 9 (sQ below args s 0 0 D cy ad (.inr (some (.int r))) X σ') σ 56 [(0, .ref (ad 44)), (1, .int v1), (3, .int v3), (4, .int v4), (5, .int v5), (6, .int v6)] [.int vs0] := by
  replace hf : (if v5 = (114 : Int32) then (if v6 = 0 then (chk (isb v6) (some (v6, σ))) else (rthn (f_X5_placeOf v1 v3 σ) (fun vr13 => wthn (f_X5_takes v1 vr13 σ) (fun _ σ14 => chk (isb v6) (some (v6, σ14)))))) else (if v5 = (97 : Int32) then (if v6 = 0 then (b_X5_does_96 v1 v3 v4 v5 v6 vs0 σ) else (some ((0 : Int32), σ))) else (b_X5_does_96 v1 v3 v4 v5 v6 vs0 σ))) = some (r, σ') := hf
  intro H locs ls h hl
  have hx := B.1
  have hb := B.2.1
  refine lv_istore (lv' := [(7, .int vs0), (0, .ref (ad 44)), (1, .int v1), (3, .int v3), (4, .int v4), (5, .int v5), (6, .int v6)]) hx hb dX5_does_56 hl (by decide) rfl (fun ls hl => ?_)
  refine lv_iload hx hb dX5_does_58 (lv_at hl 5 rfl) ?_
  refine lv_bipush (v := (114 : Int32)) hx hb dX5_does_60 (by decide) ?_
  refine lv_icmp_ne (tgt := 84) hx hb dX5_does_62 (by decide) (fun c8 => ?_) (fun c8 => ?_)
  · rw [if_neg c8] at hf
    refine lv_iload hx hb dX5_does_84 (lv_at hl 5 rfl) ?_
    refine lv_bipush (v := (97 : Int32)) hx hb dX5_does_86 (by decide) ?_
    refine lv_icmp_ne (tgt := 96) hx hb dX5_does_88 (by decide) (fun c9 => ?_) (fun c9 => ?_)
    · rw [if_neg c9] at hf
      exact k_X5_does_96 B hr  _ _ _ _ _ _ _ hf _ _ _ h (lv_sub hl [1, 2, 3, 4, 5, 6, 0] rfl)
    · rw [if_pos c9] at hf
      refine lv_iload hx hb dX5_does_91 (lv_at hl 6 rfl) ?_
      refine lv_if_ne (tgt := 108) hx hb dX5_does_93 (by decide) (fun c10 => ?_) (fun c10 => ?_)
      · rw [if_neg c10] at hf
        refine lv_iconst (v := (0 : Int32)) hx hb dX5_does_108 (by decide) ?_
        obtain ⟨rfl, rfl⟩ := Prod.mk.inj (Option.some.inj hf)
        exact sE_z B hr h rfl dX5_does_109
      · rw [if_pos c10] at hf
        exact k_X5_does_96 B hr  _ _ _ _ _ _ _ hf _ _ _ h (lv_sub hl [1, 2, 3, 4, 5, 6, 0] rfl)
  · rw [if_pos c8] at hf
    refine lv_iload hx hb dX5_does_65 (lv_at hl 6 rfl) ?_
    refine lv_if_eq (tgt := 81) hx hb dX5_does_67 (by decide) (fun c11 => ?_) (fun c11 => ?_)
    · rw [if_pos c11] at hf
      refine lv_iload hx hb dX5_does_81 (lv_at hl 6 rfl) ?_
      obtain ⟨c12, hf⟩ := chk_some hf
      obtain ⟨rfl, rfl⟩ := Prod.mk.inj (Option.some.inj hf)
      exact sE_z B hr h (isb_n c12) dX5_does_83
    · rw [if_neg c11] at hf
      refine lv_aload_n hx hb dX5_does_70 rfl (lv_at hl 1 rfl) ?_
      refine lv_iload_n hx hb dX5_does_71 rfl (lv_at hl 2 rfl) ?_
      refine lv_aload_n hx hb dX5_does_72 rfl (lv_at hl 1 rfl) ?_
      refine lv_iload_n hx hb dX5_does_73 rfl (lv_at hl 2 rfl) ?_
      refine lv_iload_n hx hb dX5_does_74 rfl (lv_at hl 3 rfl) ?_
      obtain ⟨vr13, hq13, hf⟩ := rthn_some hf
      refine sRetC1 (g_runV (k := 44) (T := TX5) (N := 21) B h (ok_X5_placeOf B.2.2.2.2.2.2.2.2 B.2.2.2.2.2.2.1 _ _ v1 v3 hq13) cw_X5_68 ⟨Nat.le_of_ble_eq_true rfl, Nat.le_of_ble_eq_true rfl⟩ (by decide) (M_row _) rfl rfl hl.1.symm rfl (Nat.le_of_ble_eq_true rfl) dX5_does_75 ⟨Nat.zero_le _, Nat.zero_le _⟩) h (fun H locs h => ?_)
      obtain ⟨vr14, σ14, hq14, hf⟩ := wthn_some hf
      refine sRetC0 (g_runV (k := 44) (T := TX5) (N := 21) B h (ok_X5_takes B.2.2.2.2.2.2.2.2 B.2.2.2.2.2.2.1 _ _ v1 vr13 hq14) cw_X5_79 ⟨Nat.le_of_ble_eq_true rfl, Nat.le_of_ble_eq_true rfl⟩ (by decide) (M_row _) rfl rfl hl.1.symm rfl (Nat.le_of_ble_eq_true rfl) dX5_does_78 ⟨Nat.zero_le _, Nat.zero_le _⟩) h (fun H locs h => ?_)
      refine lv_iload hx hb dX5_does_81 (lv_at hl 6 rfl) ?_
      obtain ⟨c15, hf⟩ := chk_some hf
      obtain ⟨rfl, rfl⟩ := Prod.mk.inj (Option.some.inj hf)
      exact sE_z B hr h (isb_n c15) dX5_does_83
set_option maxHeartbeats 4000000 in
set_option maxRecDepth 100000 in
theorem k_X5_does_0 {p : Program} {l : Launch} {e : Env} {s : State} {m : MethodId} {args : Array Value} {below : List Frame} {meth : Method} {c : Code} {D : va_G} {cy : Nat → ClassId} {ad : Nat → Nat} {X : sX} {r : Int32} {σ' : sM} (B : sB p l s m meth c args cX5_does 9 RX5 D cy ad) (hr : meth.sig.returnType = (some .boolean)) (v1 : Int32) (v2 : Int32) (σ : sM) (hf : f_X5_does v1 v2 σ = some (r, σ')) : sGo p l e { frames := 2, cells := 0, slots := 0, locals := 48 } s m args below meth c D cy ad X 9 (sQ below args s 0 0 D cy ad (.inr (some (.int r))) X σ') σ 0 [(0, .ref (ad 44)), (1, .int v1), (2, .int v2)] [] := by
  replace hf : (chk (inb v2 90) (chk (inb v2 90) (chk (inb v2 90) (rthn (f_X5_has v1 (σ 56 (v2).toNatClampNeg) σ) (fun vr4 => if vr4 = 0 then (b_X5_does_56 v1 (σ 56 (v2).toNatClampNeg) (σ 57 (v2).toNatClampNeg) (σ 55 (v2).toNatClampNeg) vr4 (0 : Int32) σ) else (rthn (f_X5_placeOf v1 (σ 56 (v2).toNatClampNeg) σ) (fun vr6 => chk (inb (((60 : Int32) * v1) + vr6) 180) (b_X5_does_56 v1 (σ 56 (v2).toNatClampNeg) (σ 57 (v2).toNatClampNeg) (σ 55 (v2).toNatClampNeg) vr4 (σ 46 ((((60 : Int32) * v1) + vr6)).toNatClampNeg) σ)))))))) = some (r, σ') := hf
  intro H locs ls h hl
  have hx := B.1
  have hb := B.2.1
  refine lv_aload_n hx hb dX5_does_0 rfl (lv_at hl 0 rfl) ?_
  refine g_get B h 44 (by decide) (C := RX5) (T := TX5) (N := 21) (M_row _) rfl hin_X5 11 (by decide) hw837 rfl rfl dX5_does_1 ?_
  refine lv_iload_n hx hb dX5_does_4 rfl (lv_at hl 2 rfl) ?_
  obtain ⟨c1, hf⟩ := chk_some hf
  refine g_iald B h 56 (by decide) (n := 90) (fun _ => rfl) (inb_in c1) dX5_does_5 ?_
  refine lv_istore_n (lv' := [(3, .int (σ 56 (v2).toNatClampNeg)), (0, .ref (ad 44)), (1, .int v1), (2, .int v2)]) hx hb dX5_does_6 rfl hl (by decide) rfl (fun ls hl => ?_)
  refine lv_aload_n hx hb dX5_does_7 rfl (lv_at hl 1 rfl) ?_
  refine g_get B h 44 (by decide) (C := RX5) (T := TX5) (N := 21) (M_row _) rfl hin_X5 12 (by decide) hw838 rfl rfl dX5_does_8 ?_
  refine lv_iload_n hx hb dX5_does_11 rfl (lv_at hl 3 rfl) ?_
  obtain ⟨c2, hf⟩ := chk_some hf
  refine g_iald B h 57 (by decide) (n := 90) (fun _ => rfl) (inb_in c2) dX5_does_12 ?_
  refine lv_istore (lv' := [(4, .int (σ 57 (v2).toNatClampNeg)), (3, .int (σ 56 (v2).toNatClampNeg)), (0, .ref (ad 44)), (1, .int v1), (2, .int v2)]) hx hb dX5_does_13 hl (by decide) rfl (fun ls hl => ?_)
  refine lv_aload_n hx hb dX5_does_15 rfl (lv_at hl 2 rfl) ?_
  refine g_get B h 44 (by decide) (C := RX5) (T := TX5) (N := 21) (M_row _) rfl hin_X5 10 (by decide) hw836 rfl rfl dX5_does_16 ?_
  refine lv_iload_n hx hb dX5_does_19 rfl (lv_at hl 4 rfl) ?_
  obtain ⟨c3, hf⟩ := chk_some hf
  refine g_cald B h 55 (by decide) (n := 90) (fun _ => rfl) (inb_in c3) dX5_does_20 ?_
  refine lv_istore (lv' := [(5, .int (σ 55 (v2).toNatClampNeg)), (4, .int (σ 57 (v2).toNatClampNeg)), (3, .int (σ 56 (v2).toNatClampNeg)), (0, .ref (ad 44)), (1, .int v1), (2, .int v2)]) hx hb dX5_does_21 hl (by decide) rfl (fun ls hl => ?_)
  refine lv_aload_n hx hb dX5_does_23 rfl (lv_at hl 3 rfl) ?_
  refine lv_iload_n hx hb dX5_does_24 rfl (lv_at hl 4 rfl) ?_
  refine lv_iload_n hx hb dX5_does_25 rfl (lv_at hl 2 rfl) ?_
  obtain ⟨vr4, hq4, hf⟩ := rthn_some hf
  refine sRetC1 (g_runV (k := 44) (T := TX5) (N := 21) B h (ok_X5_has B.2.2.2.2.2.2.2.2 B.2.2.2.2.2.2.1 _ _ v1 (σ 56 (v2).toNatClampNeg) hq4) cw_X5_91 ⟨Nat.le_of_ble_eq_true rfl, Nat.le_of_ble_eq_true rfl⟩ (by decide) (M_row _) rfl rfl hl.1.symm rfl (Nat.le_of_ble_eq_true rfl) dX5_does_26 ⟨Nat.zero_le _, Nat.zero_le _⟩) h (fun H locs h => ?_)
  refine lv_istore (lv' := [(6, .int vr4), (5, .int (σ 55 (v2).toNatClampNeg)), (4, .int (σ 57 (v2).toNatClampNeg)), (3, .int (σ 56 (v2).toNatClampNeg)), (0, .ref (ad 44)), (1, .int v1), (2, .int v2)]) hx hb dX5_does_29 hl (by decide) rfl (fun ls hl => ?_)
  refine lv_iload hx hb dX5_does_31 (lv_at hl 0 rfl) ?_
  refine lv_if_eq (tgt := 55) hx hb dX5_does_33 (by decide) (fun c5 => ?_) (fun c5 => ?_)
  · rw [if_pos c5] at hf
    refine lv_iconst (v := (0 : Int32)) hx hb dX5_does_55 (by decide) ?_
    exact k_X5_does_56 B hr  _ _ _ _ _ _ _ hf _ _ _ h (lv_sub hl [4, 5, 3, 2, 1, 0] rfl)
  · rw [if_neg c5] at hf
    refine lv_aload_n hx hb dX5_does_36 rfl (lv_at hl 4 rfl) ?_
    refine g_get B h 44 (by decide) (C := RX5) (T := TX5) (N := 21) (M_row _) rfl hin_X5 1 (by decide) hw827 rfl rfl dX5_does_37 ?_
    refine lv_bipush (v := (60 : Int32)) hx hb dX5_does_40 (by decide) ?_
    refine lv_iload_n hx hb dX5_does_42 rfl (lv_at hl 5 rfl) ?_
    refine lv_imul hx hb dX5_does_43 ?_
    refine lv_aload_n hx hb dX5_does_44 rfl (lv_at hl 4 rfl) ?_
    refine lv_iload_n hx hb dX5_does_45 rfl (lv_at hl 5 rfl) ?_
    refine lv_iload_n hx hb dX5_does_46 rfl (lv_at hl 3 rfl) ?_
    obtain ⟨vr6, hq6, hf⟩ := rthn_some hf
    refine sRetC1 (g_runV (k := 44) (T := TX5) (N := 21) B h (ok_X5_placeOf B.2.2.2.2.2.2.2.2 B.2.2.2.2.2.2.1 _ _ v1 (σ 56 (v2).toNatClampNeg) hq6) cw_X5_68 ⟨Nat.le_of_ble_eq_true rfl, Nat.le_of_ble_eq_true rfl⟩ (by decide) (M_row _) rfl rfl hl.1.symm rfl (Nat.le_of_ble_eq_true rfl) dX5_does_47 ⟨Nat.zero_le _, Nat.zero_le _⟩) h (fun H locs h => ?_)
    refine lv_iadd hx hb dX5_does_50 ?_
    obtain ⟨c7, hf⟩ := chk_some hf
    refine g_iald B h 46 (by decide) (n := 180) (fun _ => rfl) (inb_in c7) dX5_does_51 ?_
    refine lv_goto (tgt := 56) hx hb dX5_does_52 (by decide) ?_
    exact k_X5_does_56 B hr  _ _ _ _ _ _ _ hf _ _ _ h (lv_sub hl [4, 5, 3, 2, 1, 0] rfl)
set_option maxRecDepth 100000 in
theorem ok_X5_does {l : Launch} (hl0 : l.stackTraces = false) {D : va_G} {cy : Nat → ClassId} {ad : Nat → Nat} (hap : sAp ad) (X : sX) (σ : sM) (v1 : Int32) (v2 : Int32) {r : Int32} {σ' : sM} (hf : f_X5_does v1 v2 σ = some (r, σ')) : sMet l yX5_does (sWs yX5_does cX5_does 9 (some .boolean)) 2 48 0 0 D cy ad X σ [.ref (ad 44), .int v1, .int v2] (.inr (some (.int r))) X σ' := by
  refine sMet_of (by decide +kernel) (Nat.le_of_ble_eq_true rfl) hap hl0 ?_
  intro p e s m args below meth c ls B hr htab hl h
  exact k_X5_does_0 B hr _ _ _  hf _ _ _ h hl
set_option maxHeartbeats 4000000 in
set_option maxRecDepth 100000 in
theorem k_X5_pollsAt_0 {p : Program} {l : Launch} {e : Env} {s : State} {m : MethodId} {args : Array Value} {below : List Frame} {meth : Method} {c : Code} {D : va_G} {cy : Nat → ClassId} {ad : Nat → Nat} {X : sX} {r : Int32} {σ' : sM} (B : sB p l s m meth c args cX5_pollsAt 4 RX5 D cy ad) (hr : meth.sig.returnType = (some .int)) (v1 : Int32) (v2 : Int32) (σ : sM) (hf : f_X5_pollsAt v1 v2 σ = some (r, σ')) : sGo p l e { frames := 1, cells := 0, slots := 0, locals := 23 } s m args below meth c D cy ad X 4 (sQ below args s 0 0 D cy ad (.inr (some (.int r))) X σ') σ 0 [(0, .ref (ad 44)), (1, .int v1), (2, .int v2)] [] := by
  replace hf : (chk (inb (((60 : Int32) * v1) + v2) 180) (stl (va_up σ 44 (upd (σ 44) 18 (1 : Int32))) (fun σ2 => chk (inb (((60 : Int32) * v1) + v2) 180) (stl (va_up σ2 44 (upd (σ2 44) 19 (σ2 46 ((((60 : Int32) * v1) + v2)).toNatClampNeg))) (fun σ4 => wthn (f_X5_takes v1 v2 σ4) (fun _ σ5 => some ((σ 45 ((((60 : Int32) * v1) + v2)).toNatClampNeg), σ5))))))) = some (r, σ') := hf
  intro H locs ls h hl
  have hx := B.1
  have hb := B.2.1
  refine lv_aload_n hx hb dX5_pollsAt_0 rfl (lv_at hl 0 rfl) ?_
  refine g_get B h 44 (by decide) (C := RX5) (T := TX5) (N := 21) (M_row _) rfl hin_X5 0 (by decide) hw826 rfl rfl dX5_pollsAt_1 ?_
  refine lv_bipush (v := (60 : Int32)) hx hb dX5_pollsAt_4 (by decide) ?_
  refine lv_iload_n hx hb dX5_pollsAt_6 rfl (lv_at hl 1 rfl) ?_
  refine lv_imul hx hb dX5_pollsAt_7 ?_
  refine lv_iload_n hx hb dX5_pollsAt_8 rfl (lv_at hl 2 rfl) ?_
  refine lv_iadd hx hb dX5_pollsAt_9 ?_
  obtain ⟨c1, hf⟩ := chk_some hf
  refine g_iald B h 45 (by decide) (n := 180) (fun _ => rfl) (inb_in c1) dX5_pollsAt_10 ?_
  refine lv_istore_n (lv' := [(3, .int (σ 45 ((((60 : Int32) * v1) + v2)).toNatClampNeg)), (0, .ref (ad 44)), (1, .int v1), (2, .int v2)]) hx hb dX5_pollsAt_11 rfl hl (by decide) rfl (fun ls hl => ?_)
  refine lv_aload_n hx hb dX5_pollsAt_12 rfl (lv_at hl 1 rfl) ?_
  refine lv_iconst (v := (1 : Int32)) hx hb dX5_pollsAt_13 (by decide) ?_
  refine g_put B h 44 (by decide) (C := RX5) (T := TX5) (N := 21) (M_row _) rfl hin_X5 tyX5 tyX5_ok nmX5 18 (by decide) hw844 rfl rfl rfl rfl (upd (σ 44) 18 (1 : Int32)) (M_put18 _ _) (Nat.le_of_ble_eq_true rfl) dX5_pollsAt_14 (fun H locs h => ?_)
  obtain ⟨σ2, e2, hf⟩ := stl_some hf
  rw [← e2] at h
  refine lv_aload_n hx hb dX5_pollsAt_17 rfl (lv_at hl 1 rfl) ?_
  refine lv_aload_n hx hb dX5_pollsAt_18 rfl (lv_at hl 1 rfl) ?_
  refine g_get B h 44 (by decide) (C := RX5) (T := TX5) (N := 21) (M_row _) rfl hin_X5 1 (by decide) hw827 rfl rfl dX5_pollsAt_19 ?_
  refine lv_bipush (v := (60 : Int32)) hx hb dX5_pollsAt_22 (by decide) ?_
  refine lv_iload_n hx hb dX5_pollsAt_24 rfl (lv_at hl 2 rfl) ?_
  refine lv_imul hx hb dX5_pollsAt_25 ?_
  refine lv_iload_n hx hb dX5_pollsAt_26 rfl (lv_at hl 3 rfl) ?_
  refine lv_iadd hx hb dX5_pollsAt_27 ?_
  obtain ⟨c3, hf⟩ := chk_some hf
  refine g_iald B h 46 (by decide) (n := 180) (fun _ => rfl) (inb_in c3) dX5_pollsAt_28 ?_
  refine g_put B h 44 (by decide) (C := RX5) (T := TX5) (N := 21) (M_row _) rfl hin_X5 tyX5 tyX5_ok nmX5 19 (by decide) hw845 rfl rfl rfl rfl (upd (σ2 44) 19 (σ2 46 ((((60 : Int32) * v1) + v2)).toNatClampNeg)) (M_put19 _ _) (Nat.le_of_ble_eq_true rfl) dX5_pollsAt_29 (fun H locs h => ?_)
  obtain ⟨σ4, e4, hf⟩ := stl_some hf
  rw [← e4] at h
  refine lv_aload_n hx hb dX5_pollsAt_32 rfl (lv_at hl 1 rfl) ?_
  refine lv_iload_n hx hb dX5_pollsAt_33 rfl (lv_at hl 2 rfl) ?_
  refine lv_iload_n hx hb dX5_pollsAt_34 rfl (lv_at hl 3 rfl) ?_
  obtain ⟨vr5, σ5, hq5, hf⟩ := wthn_some hf
  refine sRetC0 (g_runV (k := 44) (T := TX5) (N := 21) B h (ok_X5_takes B.2.2.2.2.2.2.2.2 B.2.2.2.2.2.2.1 _ _ v1 v2 hq5) cw_X5_79 ⟨Nat.le_of_ble_eq_true rfl, Nat.le_of_ble_eq_true rfl⟩ (by decide) (M_row _) rfl rfl hl.1.symm rfl (Nat.le_of_ble_eq_true rfl) dX5_pollsAt_35 ⟨Nat.zero_le _, Nat.zero_le _⟩) h (fun H locs h => ?_)
  refine lv_iload_n hx hb dX5_pollsAt_38 rfl (lv_at hl 0 rfl) ?_
  obtain ⟨rfl, rfl⟩ := Prod.mk.inj (Option.some.inj hf)
  exact sE_i B hr h dX5_pollsAt_39
set_option maxRecDepth 100000 in
theorem ok_X5_pollsAt {l : Launch} (hl0 : l.stackTraces = false) {D : va_G} {cy : Nat → ClassId} {ad : Nat → Nat} (hap : sAp ad) (X : sX) (σ : sM) (v1 : Int32) (v2 : Int32) {r : Int32} {σ' : sM} (hf : f_X5_pollsAt v1 v2 σ = some (r, σ')) : sMet l yX5_pollsAt (sWs yX5_pollsAt cX5_pollsAt 4 (some .int)) 1 23 0 0 D cy ad X σ [.ref (ad 44), .int v1, .int v2] (.inr (some (.int r))) X σ' := by
  refine sMet_of (by decide +kernel) (Nat.le_of_ble_eq_true rfl) hap hl0 ?_
  intro p e s m args below meth c ls B hr htab hl h
  exact k_X5_pollsAt_0 B hr _ _ _  hf _ _ _ h hl
set_option maxHeartbeats 4000000 in
set_option maxRecDepth 100000 in
theorem k_X5_drain_26 {p : Program} {l : Launch} {e : Env} {s : State} {m : MethodId} {args : Array Value} {below : List Frame} {meth : Method} {c : Code} {D : va_G} {cy : Nat → ClassId} {ad : Nat → Nat} {X : sX} {r : Int32} {σ' : sM} (B : sB p l s m meth c args cX5_drain 3 RX5 D cy ad) (hr : meth.sig.returnType = (some .int)) : ∀ (n : Nat) (v1 : Int32) (v2 : Int32) (σ : sM), b_X5_drain_26 n v1 v2 σ = some (r, σ') → sGo p l e { frames := 2, cells := 0, slots := 0, locals := 46 } s m args below meth c D cy ad X 3 (sQ below args s 0 0 D cy ad (.inr (some (.int r))) X σ') σ 26 [(0, .ref (ad 44)), (1, .int v1), (2, .int v2)] [] := by
  intro n
  induction n with
  | zero =>
    intro v1 v2 σ hf
    exact nomatch (show none = some (r, σ') from hf)
  | succ n ih =>
    intro v1 v2 σ hf
    replace hf : (chk (inb v1 3) (if (σ 47 (v1).toNatClampNeg) ≤ 0 then (some ((σ 44 17), σ)) else (if v2 = 0 then (wthn (f_X5_pollsAt v1 (0 : Int32) σ) (fun vr12 σ12 => chk (inb (σ 44 17) 60) (stl (va_up σ12 60 (upd (σ12 60) ((σ 44 17)).toNatClampNeg vr12)) (fun σ14 => stl (va_up σ14 44 (upd (σ14 44) 17 ((σ14 44 17) + (1 : Int32)))) (fun σ15 => b_X5_drain_26 n v1 v2 σ15))))) else (chk (inb v1 3) (wthn (f_X5_pollsAt v1 ((σ 47 (v1).toNatClampNeg) - (1 : Int32)) σ) (fun vr17 σ17 => chk (inb (σ 44 17) 60) (stl (va_up σ17 60 (upd (σ17 60) ((σ 44 17)).toNatClampNeg vr17)) (fun σ19 => stl (va_up σ19 44 (upd (σ19 44) 17 ((σ19 44 17) + (1 : Int32)))) (fun σ20 => b_X5_drain_26 n v1 v2 σ20))))))))) = some (r, σ') := hf
    intro H locs ls h hl
    have hx := B.1
    have hb := B.2.1
    refine lv_aload_n hx hb dX5_drain_26 rfl (lv_at hl 0 rfl) ?_
    refine g_get B h 44 (by decide) (C := RX5) (T := TX5) (N := 21) (M_row _) rfl hin_X5 2 (by decide) hw828 rfl rfl dX5_drain_27 ?_
    refine lv_iload_n hx hb dX5_drain_30 rfl (lv_at hl 1 rfl) ?_
    obtain ⟨c9, hf⟩ := chk_some hf
    refine g_iald B h 47 (by decide) (n := 3) (fun _ => rfl) (inb_in c9) dX5_drain_31 ?_
    refine lv_if_le (tgt := 78) hx hb dX5_drain_32 (by decide) (fun c10 => ?_) (fun c10 => ?_)
    · rw [if_pos c10] at hf
      refine lv_aload_n hx hb dX5_drain_78 rfl (lv_at hl 0 rfl) ?_
      refine g_get B h 44 (by decide) (C := RX5) (T := TX5) (N := 21) (M_row _) rfl hin_X5 17 (by decide) hw843 rfl rfl dX5_drain_79 ?_
      obtain ⟨rfl, rfl⟩ := Prod.mk.inj (Option.some.inj hf)
      exact sE_i B hr h dX5_drain_82
    · rw [if_neg c10] at hf
      refine lv_aload_n hx hb dX5_drain_35 rfl (lv_at hl 0 rfl) ?_
      refine g_get B h 44 (by decide) (C := RX5) (T := TX5) (N := 21) (M_row _) rfl hin_X5 16 (by decide) hw842 rfl rfl dX5_drain_36 ?_
      refine lv_aload_n hx hb dX5_drain_39 rfl (lv_at hl 0 rfl) ?_
      refine g_get B h 44 (by decide) (C := RX5) (T := TX5) (N := 21) (M_row _) rfl hin_X5 17 (by decide) hw843 rfl rfl dX5_drain_40 ?_
      refine lv_aload_n hx hb dX5_drain_43 rfl (lv_at hl 0 rfl) ?_
      refine lv_iload_n hx hb dX5_drain_44 rfl (lv_at hl 1 rfl) ?_
      refine lv_iload_n hx hb dX5_drain_45 rfl (lv_at hl 2 rfl) ?_
      refine lv_if_eq (tgt := 60) hx hb dX5_drain_46 (by decide) (fun c11 => ?_) (fun c11 => ?_)
      · rw [if_pos c11] at hf
        refine lv_iconst (v := (0 : Int32)) hx hb dX5_drain_60 (by decide) ?_
        obtain ⟨vr12, σ12, hq12, hf⟩ := wthn_some hf
        refine sRetC1 (g_runV (k := 44) (T := TX5) (N := 21) B h (ok_X5_pollsAt B.2.2.2.2.2.2.2.2 B.2.2.2.2.2.2.1 _ _ v1 (0 : Int32) hq12) cw_X5_110 ⟨Nat.le_of_ble_eq_true rfl, Nat.le_of_ble_eq_true rfl⟩ (by decide) (M_row _) rfl rfl hl.1.symm rfl (Nat.le_of_ble_eq_true rfl) dX5_drain_61 ⟨Nat.zero_le _, Nat.zero_le _⟩) h (fun H locs h => ?_)
        obtain ⟨c13, hf⟩ := chk_some hf
        refine g_iast B h 60 (by decide) (n := 60) (fun _ => rfl) (inb_in c13) dX5_drain_64 (fun H locs h => ?_)
        obtain ⟨σ14, e14, hf⟩ := stl_some hf
        rw [← e14] at h
        refine lv_aload_n hx hb dX5_drain_65 rfl (lv_at hl 0 rfl) ?_
        refine lv_dup hx hb dX5_drain_66 rfl ?_
        refine g_get B h 44 (by decide) (C := RX5) (T := TX5) (N := 21) (M_row _) rfl hin_X5 17 (by decide) hw843 rfl rfl dX5_drain_67 ?_
        refine lv_iconst (v := (1 : Int32)) hx hb dX5_drain_70 (by decide) ?_
        refine lv_iadd hx hb dX5_drain_71 ?_
        refine g_put B h 44 (by decide) (C := RX5) (T := TX5) (N := 21) (M_row _) rfl hin_X5 tyX5 tyX5_ok nmX5 17 (by decide) hw843 rfl rfl rfl rfl (upd (σ14 44) 17 ((σ14 44 17) + (1 : Int32))) (M_put17 _ _) (Nat.le_of_ble_eq_true rfl) dX5_drain_72 (fun H locs h => ?_)
        obtain ⟨σ15, e15, hf⟩ := stl_some hf
        rw [← e15] at h
        refine lv_goto (tgt := 26) hx hb dX5_drain_75 (by decide) ?_
        exact ih _ _ _ hf _ _ _ h (lv_sub hl [0, 1, 2] rfl)
      · rw [if_neg c11] at hf
        refine lv_aload_n hx hb dX5_drain_49 rfl (lv_at hl 0 rfl) ?_
        refine g_get B h 44 (by decide) (C := RX5) (T := TX5) (N := 21) (M_row _) rfl hin_X5 2 (by decide) hw828 rfl rfl dX5_drain_50 ?_
        refine lv_iload_n hx hb dX5_drain_53 rfl (lv_at hl 1 rfl) ?_
        obtain ⟨c16, hf⟩ := chk_some hf
        refine g_iald B h 47 (by decide) (n := 3) (fun _ => rfl) (inb_in c16) dX5_drain_54 ?_
        refine lv_iconst (v := (1 : Int32)) hx hb dX5_drain_55 (by decide) ?_
        refine lv_isub hx hb dX5_drain_56 ?_
        refine lv_goto (tgt := 61) hx hb dX5_drain_57 (by decide) ?_
        obtain ⟨vr17, σ17, hq17, hf⟩ := wthn_some hf
        refine sRetC1 (g_runV (k := 44) (T := TX5) (N := 21) B h (ok_X5_pollsAt B.2.2.2.2.2.2.2.2 B.2.2.2.2.2.2.1 _ _ v1 ((σ 47 (v1).toNatClampNeg) - (1 : Int32)) hq17) cw_X5_110 ⟨Nat.le_of_ble_eq_true rfl, Nat.le_of_ble_eq_true rfl⟩ (by decide) (M_row _) rfl rfl hl.1.symm rfl (Nat.le_of_ble_eq_true rfl) dX5_drain_61 ⟨Nat.zero_le _, Nat.zero_le _⟩) h (fun H locs h => ?_)
        obtain ⟨c18, hf⟩ := chk_some hf
        refine g_iast B h 60 (by decide) (n := 60) (fun _ => rfl) (inb_in c18) dX5_drain_64 (fun H locs h => ?_)
        obtain ⟨σ19, e19, hf⟩ := stl_some hf
        rw [← e19] at h
        refine lv_aload_n hx hb dX5_drain_65 rfl (lv_at hl 0 rfl) ?_
        refine lv_dup hx hb dX5_drain_66 rfl ?_
        refine g_get B h 44 (by decide) (C := RX5) (T := TX5) (N := 21) (M_row _) rfl hin_X5 17 (by decide) hw843 rfl rfl dX5_drain_67 ?_
        refine lv_iconst (v := (1 : Int32)) hx hb dX5_drain_70 (by decide) ?_
        refine lv_iadd hx hb dX5_drain_71 ?_
        refine g_put B h 44 (by decide) (C := RX5) (T := TX5) (N := 21) (M_row _) rfl hin_X5 tyX5 tyX5_ok nmX5 17 (by decide) hw843 rfl rfl rfl rfl (upd (σ19 44) 17 ((σ19 44 17) + (1 : Int32))) (M_put17 _ _) (Nat.le_of_ble_eq_true rfl) dX5_drain_72 (fun H locs h => ?_)
        obtain ⟨σ20, e20, hf⟩ := stl_some hf
        rw [← e20] at h
        refine lv_goto (tgt := 26) hx hb dX5_drain_75 (by decide) ?_
        exact ih _ _ _ hf _ _ _ h (lv_sub hl [0, 1, 2] rfl)
set_option maxHeartbeats 4000000 in
set_option maxRecDepth 100000 in
theorem k_X5_drain_0 {p : Program} {l : Launch} {e : Env} {s : State} {m : MethodId} {args : Array Value} {below : List Frame} {meth : Method} {c : Code} {D : va_G} {cy : Nat → ClassId} {ad : Nat → Nat} {X : sX} {r : Int32} {σ' : sM} (B : sB p l s m meth c args cX5_drain 3 RX5 D cy ad) (hr : meth.sig.returnType = (some .int)) (v1 : Int32) (v2 : Int32) (σ : sM) (hf : f_X5_drain v1 v2 σ = some (r, σ')) : sGo p l e { frames := 2, cells := 0, slots := 0, locals := 46 } s m args below meth c D cy ad X 3 (sQ below args s 0 0 D cy ad (.inr (some (.int r))) X σ') σ 0 [(0, .ref (ad 44)), (1, .int v1), (2, .int v2)] [] := by
  replace hf : (rthn (f_X5_isMap v1 σ) (fun vr1 => if vr1 = 0 then (wthn (f_X5_refused (1 : Int32) σ) (fun vr6 σ6 => if vr6 = 0 then (stl (va_up σ6 44 (upd (σ6 44) 17 (0 : Int32))) (fun σ8 => b_X5_drain_26 FU v1 v2 σ8)) else (some ((0 : Int32), σ6)))) else (wthn (f_X5_refused (0 : Int32) σ) (fun vr3 σ3 => if vr3 = 0 then (stl (va_up σ3 44 (upd (σ3 44) 17 (0 : Int32))) (fun σ5 => b_X5_drain_26 FU v1 v2 σ5)) else (some ((0 : Int32), σ3)))))) = some (r, σ') := hf
  intro H locs ls h hl
  have hx := B.1
  have hb := B.2.1
  refine lv_aload_n hx hb dX5_drain_0 rfl (lv_at hl 0 rfl) ?_
  refine lv_iload_n hx hb dX5_drain_1 rfl (lv_at hl 1 rfl) ?_
  obtain ⟨vr1, hq1, hf⟩ := rthn_some hf
  refine sRetC1 (g_runS B h (ok_X5_isMap B.2.2.2.2.2.2.2.2 B.2.2.2.2.2.2.1 _ _ v1 hq1) cw_X5_87 ⟨Nat.le_of_ble_eq_true rfl, Nat.le_of_ble_eq_true rfl⟩ rfl hl.1.symm rfl (Nat.le_of_ble_eq_true rfl) dX5_drain_2 ⟨Nat.zero_le _, Nat.zero_le _⟩) h (fun H locs h => ?_)
  refine lv_if_ne (tgt := 12) hx hb dX5_drain_5 (by decide) (fun c2 => ?_) (fun c2 => ?_)
  · rw [if_neg c2] at hf
    refine lv_iconst (v := (0 : Int32)) hx hb dX5_drain_12 (by decide) ?_
    obtain ⟨vr3, σ3, hq3, hf⟩ := wthn_some hf
    refine sRetC1 (g_runV (k := 44) (T := TX5) (N := 21) B h (ok_X5_refused B.2.2.2.2.2.2.2.2 B.2.2.2.2.2.2.1 _ _ (0 : Int32) hq3) cw_X5_95 ⟨Nat.le_of_ble_eq_true rfl, Nat.le_of_ble_eq_true rfl⟩ (by decide) (M_row _) rfl rfl hl.1.symm rfl (Nat.le_of_ble_eq_true rfl) dX5_drain_13 ⟨Nat.zero_le _, Nat.zero_le _⟩) h (fun H locs h => ?_)
    refine lv_if_eq (tgt := 21) hx hb dX5_drain_16 (by decide) (fun c4 => ?_) (fun c4 => ?_)
    · rw [if_pos c4] at hf
      refine lv_aload_n hx hb dX5_drain_21 rfl (lv_at hl 0 rfl) ?_
      refine lv_iconst (v := (0 : Int32)) hx hb dX5_drain_22 (by decide) ?_
      refine g_put B h 44 (by decide) (C := RX5) (T := TX5) (N := 21) (M_row _) rfl hin_X5 tyX5 tyX5_ok nmX5 17 (by decide) hw843 rfl rfl rfl rfl (upd (σ3 44) 17 (0 : Int32)) (M_put17 _ _) (Nat.le_of_ble_eq_true rfl) dX5_drain_23 (fun H locs h => ?_)
      obtain ⟨σ5, e5, hf⟩ := stl_some hf
      rw [← e5] at h
      exact k_X5_drain_26 B hr  _ _ _ _ hf _ _ _ h (lv_sub hl [0, 1, 2] rfl)
    · rw [if_neg c4] at hf
      refine lv_iconst (v := (0 : Int32)) hx hb dX5_drain_19 (by decide) ?_
      obtain ⟨rfl, rfl⟩ := Prod.mk.inj (Option.some.inj hf)
      exact sE_i B hr h dX5_drain_20
  · rw [if_pos c2] at hf
    refine lv_iconst (v := (1 : Int32)) hx hb dX5_drain_8 (by decide) ?_
    refine lv_goto (tgt := 13) hx hb dX5_drain_9 (by decide) ?_
    obtain ⟨vr6, σ6, hq6, hf⟩ := wthn_some hf
    refine sRetC1 (g_runV (k := 44) (T := TX5) (N := 21) B h (ok_X5_refused B.2.2.2.2.2.2.2.2 B.2.2.2.2.2.2.1 _ _ (1 : Int32) hq6) cw_X5_95 ⟨Nat.le_of_ble_eq_true rfl, Nat.le_of_ble_eq_true rfl⟩ (by decide) (M_row _) rfl rfl hl.1.symm rfl (Nat.le_of_ble_eq_true rfl) dX5_drain_13 ⟨Nat.zero_le _, Nat.zero_le _⟩) h (fun H locs h => ?_)
    refine lv_if_eq (tgt := 21) hx hb dX5_drain_16 (by decide) (fun c7 => ?_) (fun c7 => ?_)
    · rw [if_pos c7] at hf
      refine lv_aload_n hx hb dX5_drain_21 rfl (lv_at hl 0 rfl) ?_
      refine lv_iconst (v := (0 : Int32)) hx hb dX5_drain_22 (by decide) ?_
      refine g_put B h 44 (by decide) (C := RX5) (T := TX5) (N := 21) (M_row _) rfl hin_X5 tyX5 tyX5_ok nmX5 17 (by decide) hw843 rfl rfl rfl rfl (upd (σ6 44) 17 (0 : Int32)) (M_put17 _ _) (Nat.le_of_ble_eq_true rfl) dX5_drain_23 (fun H locs h => ?_)
      obtain ⟨σ8, e8, hf⟩ := stl_some hf
      rw [← e8] at h
      exact k_X5_drain_26 B hr  _ _ _ _ hf _ _ _ h (lv_sub hl [0, 1, 2] rfl)
    · rw [if_neg c7] at hf
      refine lv_iconst (v := (0 : Int32)) hx hb dX5_drain_19 (by decide) ?_
      obtain ⟨rfl, rfl⟩ := Prod.mk.inj (Option.some.inj hf)
      exact sE_i B hr h dX5_drain_20
set_option maxRecDepth 100000 in
theorem ok_X5_drain {l : Launch} (hl0 : l.stackTraces = false) {D : va_G} {cy : Nat → ClassId} {ad : Nat → Nat} (hap : sAp ad) (X : sX) (σ : sM) (v1 : Int32) (v2 : Int32) {r : Int32} {σ' : sM} (hf : f_X5_drain v1 v2 σ = some (r, σ')) : sMet l yX5_drain (sWs yX5_drain cX5_drain 3 (some .int)) 2 46 0 0 D cy ad X σ [.ref (ad 44), .int v1, .int v2] (.inr (some (.int r))) X σ' := by
  refine sMet_of (by decide +kernel) (Nat.le_of_ble_eq_true rfl) hap hl0 ?_
  intro p e s m args below meth c ls B hr htab hl h
  exact k_X5_drain_0 B hr _ _ _  hf _ _ _ h hl
