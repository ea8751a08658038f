set_option maxHeartbeats 8000000 in
set_option maxRecDepth 100000 in
theorem k_L_law_1243 {p : Program} {l : Launch} {e : Env} {s : State} {d0 : Drawn} {m : MethodId} {below : List Frame} {meth : Method} {c : Code} {b L : Nat} {xs : Nat → Int32} {D : va_G} {cy : Nat → ClassId} {ad : Nat → Nat} (C : lwC s d0 b L xs ad) (B : sB p l (s.setDrawn d0) m meth c #[Value.ref b] code 9 RL D cy ad) (hr : meth.sig.returnType = ret) {n : Nat} {K28 : Int32 → sM → sX → Option Int32} (hK28 : ∀ (v5 : Int32) (σ : sM) (X : sX), K28 v5 σ X = some 1 → sGoL p l e s d0 m below meth c b D cy ad (n) X σ 28 [(0, .ref b), (1, .ref (ad 0)), (2, .ref (ad 44)), (3, .ref (ad 61)), (4, .ref (ad 62)), (5, .int v5)] []) (v5 : Int32) (v6 : Int32) (vs1 : Int32) (vs2 : Int32) (vs3 : Int32) (vs4 : Int32) (vs5 : Int32) (vs6 : Int32) (σ : sM) (X : sX) (hf : b_L_law_1243 L xs K28 v5 v6 vs1 vs2 vs3 vs4 vs5 vs6 σ X = some 1) : sGoL p l e s d0 m below meth c b D cy ad (n) X σ 1243 [(0, .ref b), (1, .ref (ad 0)), (2, .ref (ad 44)), (3, .ref (ad 61)), (4, .ref (ad 62)), (5, .int v5), (6, .int v6)] [.int vs6, .int vs5, .int vs4, .int vs3, .int vs2, .int vs1, .ref (ad 44)] := by
  replace hf : (wthn (f_X5_open vs1 vs2 vs3 vs4 vs5 vs6 σ) (fun vr367 σ367 => rthn (f_X5_thrown σ367) (fun vr368 => if vr368 = v6 then (if v6 = 0 then (if (lg_cmp (X.1 ((0 : Int32)).toNatClampNeg) (vr367.toInt64)) = 0 then (K28 (v5 + 7) σ367 X) else (some (0 : Int32))) else (K28 (v5 + 7) σ367 X)) else (some (0 : Int32))))) = some 1 := hf
  intro H locs ls cells slots h hl hc1 hc2
  have hx := B.1
  have hb := B.2.1
  obtain ⟨vr367, σ367, hq367, hf⟩ := wthn_some hf
  refine sRetC1 (g_runV (k := 44) (T := TX5) (N := 21) B h (ok_X5_open B.2.2.2.2.2.2.2.2 B.2.2.2.2.2.2.1 _ _ vs1 vs2 vs3 vs4 vs5 vs6 hq367) cw_L_187 ⟨Nat.le_of_ble_eq_true rfl, Nat.le_of_ble_eq_true rfl⟩ (by decide) (M_row _) rfl rfl hl.1.symm rfl (Nat.le_of_ble_eq_true rfl) dL_law_1243 ⟨lw_c0 hc1, lw_s0 hc2⟩) h (fun H locs h => ?_)
  refine lv_istore (lv' := [(7, .int vr367), (0, .ref b), (1, .ref (ad 0)), (2, .ref (ad 44)), (3, .ref (ad 61)), (4, .ref (ad 62)), (5, .int v5), (6, .int v6)]) hx hb dL_law_1246 hl (by decide) rfl (fun ls hl => ?_)
  refine lv_aload_n hx hb dL_law_1248 rfl (lv_at hl 3 rfl) ?_
  obtain ⟨vr368, hq368, hf⟩ := rthn_some hf
  refine sRetC1 (g_runV (k := 44) (T := TX5) (N := 21) B h (ok_X5_thrown B.2.2.2.2.2.2.2.2 B.2.2.2.2.2.2.1 _ _  hq368) cw_L_139 ⟨Nat.le_of_ble_eq_true rfl, Nat.le_of_ble_eq_true rfl⟩ (by decide) (M_row _) rfl rfl hl.1.symm rfl (Nat.le_of_ble_eq_true rfl) dL_law_1249 ⟨lw_c0 hc1, lw_s0 hc2⟩) h (fun H locs h => ?_)
  refine lv_iload hx hb dL_law_1252 (lv_at hl 7 rfl) ?_
  refine lv_icmp_eq (tgt := 1259) hx hb dL_law_1254 (by decide) (fun c369 => ?_) (fun c369 => ?_)
  · rw [if_pos c369] at hf
    refine lv_iload hx hb dL_law_1259 (lv_at hl 7 rfl) ?_
    refine lv_if_ne (tgt := 1276) hx hb dL_law_1261 (by decide) (fun c370 => ?_) (fun c370 => ?_)
    · rw [if_neg c370] at hf
      refine lv_goto (tgt := 2729) hx hb dL_law_1276 (by decide) ?_
      refine lv_iinc (v := (v5 + 7)) (lv' := [(5, .int (v5 + 7)), (7, .int vr367), (0, .ref b), (1, .ref (ad 0)), (2, .ref (ad 44)), (3, .ref (ad 61)), (4, .ref (ad 62)), (6, .int v6)]) hx hb dL_law_2729 hl (k := 6) rfl rfl (by decide) rfl (fun ls hl => ?_)
      refine lv_goto (tgt := 28) hx hb dL_law_2732 (by decide) ?_
      exact hK28 _ _ _ hf _ _ _ _ _ h (lv_sub hl [2, 3, 4, 5, 6, 0] rfl) hc1 hc2
    · rw [if_pos c370] at hf
      refine lv_aload_n hx hb dL_law_1264 rfl (lv_at hl 4 rfl) ?_
      refine lv_iconst (v := (0 : Int32)) hx hb dL_law_1265 (by decide) ?_
      refine g_lald B h (i := (0 : Int32)) (inb_in (n := 1) (by decide)) dL_law_1266 ?_
      refine lv_iload hx hb dL_law_1267 (lv_at hl 0 rfl) ?_
      refine lv_i2l (v := (vr367.toInt64)) hx hb dL_law_1269 rfl ?_
      refine W.lcmp hx hb dL_law_1270 ?_
      refine lv_if_eq (tgt := 1276) hx hb dL_law_1271 (by decide) (fun c371 => ?_) (fun c371 => ?_)
      · rw [if_pos c371] at hf
        refine lv_goto (tgt := 2729) hx hb dL_law_1276 (by decide) ?_
        refine lv_iinc (v := (v5 + 7)) (lv' := [(5, .int (v5 + 7)), (7, .int vr367), (0, .ref b), (1, .ref (ad 0)), (2, .ref (ad 44)), (3, .ref (ad 61)), (4, .ref (ad 62)), (6, .int v6)]) hx hb dL_law_2729 hl (k := 6) rfl rfl (by decide) rfl (fun ls hl => ?_)
        refine lv_goto (tgt := 28) hx hb dL_law_2732 (by decide) ?_
        exact hK28 _ _ _ hf _ _ _ _ _ h (lv_sub hl [2, 3, 4, 5, 6, 0] rfl) hc1 hc2
      · rw [if_neg c371] at hf
        refine lv_iconst (v := (0 : Int32)) hx hb dL_law_1274 (by decide) ?_
        exact absurd hf (by decide)
  · rw [if_neg c369] at hf
    refine lv_iconst (v := (0 : Int32)) hx hb dL_law_1257 (by decide) ?_
    exact absurd hf (by decide)
set_option maxHeartbeats 8000000 in
set_option maxRecDepth 100000 in
theorem k_L_law_1222 {p : Program} {l : Launch} {e : Env} {s : State} {d0 : Drawn} {m : MethodId} {below : List Frame} {meth : Method} {c : Code} {b L : Nat} {xs : Nat → Int32} {D : va_G} {cy : Nat → ClassId} {ad : Nat → Nat} (C : lwC s d0 b L xs ad) (B : sB p l (s.setDrawn d0) m meth c #[Value.ref b] code 9 RL D cy ad) (hr : meth.sig.returnType = ret) {n : Nat} {K28 : Int32 → sM → sX → Option Int32} (hK28 : ∀ (v5 : Int32) (σ : sM) (X : sX), K28 v5 σ X = some 1 → sGoL p l e s d0 m below meth c b D cy ad (n) X σ 28 [(0, .ref b), (1, .ref (ad 0)), (2, .ref (ad 44)), (3, .ref (ad 61)), (4, .ref (ad 62)), (5, .int v5)] []) (v5 : Int32) (v6 : Int32) (vs1 : Int32) (vs2 : Int32) (vs3 : Int32) (vs4 : Int32) (σ : sM) (X : sX) (hf : b_L_law_1222 L xs K28 v5 v6 vs1 vs2 vs3 vs4 σ X = some 1) : sGoL p l e s d0 m below meth c b D cy ad (n) X σ 1222 [(0, .ref b), (1, .ref (ad 0)), (2, .ref (ad 44)), (3, .ref (ad 61)), (4, .ref (ad 62)), (5, .int v5), (6, .int v6)] [.int vs4, .int vs3, .int vs2, .int vs1, .ref (ad 44)] := by
  replace hf : (chk (inb (v5 + (5 : Int32)) L) (chk (inb (v5 + (6 : Int32)) L) (if (xs ((v5 + (6 : Int32))).toNatClampNeg) = 0 then (b_L_law_1243 L xs K28 v5 v6 vs1 vs2 vs3 vs4 (xs ((v5 + (5 : Int32))).toNatClampNeg) (0 : Int32) σ X) else (b_L_law_1243 L xs K28 v5 v6 vs1 vs2 vs3 vs4 (xs ((v5 + (5 : Int32))).toNatClampNeg) (1 : Int32) σ X)))) = some 1 := hf
  intro H locs ls cells slots h hl hc1 hc2
  have hx := B.1
  have hb := B.2.1
  refine lv_aload_n hx hb dL_law_1222 rfl (lv_at hl 0 rfl) ?_
  refine lv_iload hx hb dL_law_1223 (lv_at hl 5 rfl) ?_
  refine lv_iconst (v := (5 : Int32)) hx hb dL_law_1225 (by decide) ?_
  refine lv_iadd hx hb dL_law_1226 ?_
  obtain ⟨c361, hf⟩ := chk_some hf
  refine va_sld hx hb C.1 C.2.1 C.2.2.1 h.2 (inb_in c361) dL_law_1227 ?_
  refine lv_aload_n hx hb dL_law_1228 rfl (lv_at hl 0 rfl) ?_
  refine lv_iload hx hb dL_law_1229 (lv_at hl 5 rfl) ?_
  refine lv_bipush (v := (6 : Int32)) hx hb dL_law_1231 (by decide) ?_
  refine lv_iadd hx hb dL_law_1233 ?_
  obtain ⟨c362, hf⟩ := chk_some hf
  refine va_sld hx hb C.1 C.2.1 C.2.2.1 h.2 (inb_in c362) dL_law_1234 ?_
  refine lv_if_eq (tgt := 1242) hx hb dL_law_1235 (by decide) (fun c363 => ?_) (fun c363 => ?_)
  · rw [if_pos c363] at hf
    refine lv_iconst (v := (0 : Int32)) hx hb dL_law_1242 (by decide) ?_
    exact k_L_law_1243 C B hr hK28 _ _ _ _ _ _ _ _ _ _ hf _ _ _ _ _ h (lv_sub hl [0, 1, 2, 3, 4, 5, 6] rfl) hc1 hc2
  · rw [if_neg c363] at hf
    refine lv_iconst (v := (1 : Int32)) hx hb dL_law_1238 (by decide) ?_
    refine lv_goto (tgt := 1243) hx hb dL_law_1239 (by decide) ?_
    exact k_L_law_1243 C B hr hK28 _ _ _ _ _ _ _ _ _ _ hf _ _ _ _ _ h (lv_sub hl [0, 1, 2, 3, 4, 5, 6] rfl) hc1 hc2
set_option maxHeartbeats 8000000 in
set_option maxRecDepth 100000 in
theorem k_L_law_1183 {p : Program} {l : Launch} {e : Env} {s : State} {d0 : Drawn} {m : MethodId} {below : List Frame} {meth : Method} {c : Code} {b L : Nat} {xs : Nat → Int32} {D : va_G} {cy : Nat → ClassId} {ad : Nat → Nat} (C : lwC s d0 b L xs ad) (B : sB p l (s.setDrawn d0) m meth c #[Value.ref b] code 9 RL D cy ad) (hr : meth.sig.returnType = ret) {n : Nat} {K28 : Int32 → sM → sX → Option Int32} (hK28 : ∀ (v5 : Int32) (σ : sM) (X : sX), K28 v5 σ X = some 1 → sGoL p l e s d0 m below meth c b D cy ad (n) X σ 28 [(0, .ref b), (1, .ref (ad 0)), (2, .ref (ad 44)), (3, .ref (ad 61)), (4, .ref (ad 62)), (5, .int v5)] []) (v5 : Int32) (vs1 : Int32) (vs2 : Int32) (vs3 : Int32) (vs4 : Int32) (vs5 : Int32) (vs6 : Int32) (σ : sM) (X : sX) (hf : b_L_law_1183 L xs K28 v5 vs1 vs2 vs3 vs4 vs5 vs6 σ X = some 1) : sGoL p l e s d0 m below meth c b D cy ad (n + 1) X σ 1183 [(0, .ref b), (1, .ref (ad 0)), (2, .ref (ad 44)), (3, .ref (ad 61)), (4, .ref (ad 62)), (5, .int v5)] [.int vs6, .int vs5, .int vs4, .int vs3, .int vs2, .int vs1, .ref (ad 0)] := by
  replace hf : (lthn (f_L_open vs1 vs2 vs3 vs4 vs5 vs6 σ X) (fun vr340 σ340 X340 => chk (inb (v5 + (1 : Int32)) L) (chk (inb (v5 + (2 : Int32)) L) (chk (inb (v5 + (3 : Int32)) L) (chk (inb (v5 + (4 : Int32)) L) (if (xs ((v5 + (4 : Int32))).toNatClampNeg) = 0 then (b_L_law_1222 L xs K28 v5 vr340 (xs ((v5 + (1 : Int32))).toNatClampNeg) (xs ((v5 + (2 : Int32))).toNatClampNeg) (xs ((v5 + (3 : Int32))).toNatClampNeg) (0 : Int32) σ340 X340) else (b_L_law_1222 L xs K28 v5 vr340 (xs ((v5 + (1 : Int32))).toNatClampNeg) (xs ((v5 + (2 : Int32))).toNatClampNeg) (xs ((v5 + (3 : Int32))).toNatClampNeg) (1 : Int32) σ340 X340))))))) = some 1 := hf
  intro H locs ls cells slots h hl hc1 hc2
  have hx := B.1
  have hb := B.2.1
  refine lv_aload_n hx hb dL_law_1183 rfl (lv_at hl 3 rfl) ?_
  obtain ⟨vr340, σ340, X340, hq340, hf⟩ := lthn_some hf
  refine sRetC (g_runH B h (ok_L_open B.2.2.2.2.2.2.2.2 B.2.2.2.2.2.2.1 _ _ vs1 vs2 vs3 vs4 vs5 vs6 hq340) cw_L_184 ⟨Nat.le_of_ble_eq_true rfl, Nat.le_of_ble_eq_true rfl⟩ rfl hl.1.symm rfl (Nat.le_of_ble_eq_true rfl) dL_law_1184 ⟨lw_c1 hc1, lw_s1 hc2⟩) h (fun H locs h => ?_)
  replace hc1 := lw_c2 hc1
  replace hc2 := lw_s2 hc2
  refine lv_istore (lv' := [(6, .int vr340), (0, .ref b), (1, .ref (ad 0)), (2, .ref (ad 44)), (3, .ref (ad 61)), (4, .ref (ad 62)), (5, .int v5)]) hx hb dL_law_1187 hl (by decide) rfl (fun ls hl => ?_)
  refine lv_aload_n hx hb dL_law_1189 rfl (lv_at hl 3 rfl) ?_
  refine lv_aload_n hx hb dL_law_1190 rfl (lv_at hl 1 rfl) ?_
  refine lv_iload hx hb dL_law_1191 (lv_at hl 6 rfl) ?_
  refine lv_iconst (v := (1 : Int32)) hx hb dL_law_1193 (by decide) ?_
  refine lv_iadd hx hb dL_law_1194 ?_
  obtain ⟨c341, hf⟩ := chk_some hf
  refine va_sld hx hb C.1 C.2.1 C.2.2.1 h.2 (inb_in c341) dL_law_1195 ?_
  refine lv_aload_n hx hb dL_law_1196 rfl (lv_at hl 1 rfl) ?_
  refine lv_iload hx hb dL_law_1197 (lv_at hl 6 rfl) ?_
  refine lv_iconst (v := (2 : Int32)) hx hb dL_law_1199 (by decide) ?_
  refine lv_iadd hx hb dL_law_1200 ?_
  obtain ⟨c342, hf⟩ := chk_some hf
  refine va_sld hx hb C.1 C.2.1 C.2.2.1 h.2 (inb_in c342) dL_law_1201 ?_
  refine lv_aload_n hx hb dL_law_1202 rfl (lv_at hl 1 rfl) ?_
  refine lv_iload hx hb dL_law_1203 (lv_at hl 6 rfl) ?_
  refine lv_iconst (v := (3 : Int32)) hx hb dL_law_1205 (by decide) ?_
  refine lv_iadd hx hb dL_law_1206 ?_
  obtain ⟨c343, hf⟩ := chk_some hf
  refine va_sld hx hb C.1 C.2.1 C.2.2.1 h.2 (inb_in c343) dL_law_1207 ?_
  refine lv_aload_n hx hb dL_law_1208 rfl (lv_at hl 1 rfl) ?_
  refine lv_iload hx hb dL_law_1209 (lv_at hl 6 rfl) ?_
  refine lv_iconst (v := (4 : Int32)) hx hb dL_law_1211 (by decide) ?_
  refine lv_iadd hx hb dL_law_1212 ?_
  obtain ⟨c344, hf⟩ := chk_some hf
  refine va_sld hx hb C.1 C.2.1 C.2.2.1 h.2 (inb_in c344) dL_law_1213 ?_
  refine lv_if_eq (tgt := 1221) hx hb dL_law_1214 (by decide) (fun c345 => ?_) (fun c345 => ?_)
  · rw [if_pos c345] at hf
    refine lv_iconst (v := (0 : Int32)) hx hb dL_law_1221 (by decide) ?_
    exact k_L_law_1222 C B hr hK28 _ _ _ _ _ _ _ _ hf _ _ _ _ _ h (lv_sub hl [1, 2, 3, 4, 5, 6, 0] rfl) hc1 hc2
  · rw [if_neg c345] at hf
    refine lv_iconst (v := (1 : Int32)) hx hb dL_law_1217 (by decide) ?_
    refine lv_goto (tgt := 1222) hx hb dL_law_1218 (by decide) ?_
    exact k_L_law_1222 C B hr hK28 _ _ _ _ _ _ _ _ hf _ _ _ _ _ h (lv_sub hl [1, 2, 3, 4, 5, 6, 0] rfl) hc1 hc2
set_option maxHeartbeats 8000000 in
set_option maxRecDepth 100000 in
theorem k_L_law_1162 {p : Program} {l : Launch} {e : Env} {s : State} {d0 : Drawn} {m : MethodId} {below : List Frame} {meth : Method} {c : Code} {b L : Nat} {xs : Nat → Int32} {D : va_G} {cy : Nat → ClassId} {ad : Nat → Nat} (C : lwC s d0 b L xs ad) (B : sB p l (s.setDrawn d0) m meth c #[Value.ref b] code 9 RL D cy ad) (hr : meth.sig.returnType = ret) {n : Nat} {K28 : Int32 → sM → sX → Option Int32} (hK28 : ∀ (v5 : Int32) (σ : sM) (X : sX), K28 v5 σ X = some 1 → sGoL p l e s d0 m below meth c b D cy ad (n) X σ 28 [(0, .ref b), (1, .ref (ad 0)), (2, .ref (ad 44)), (3, .ref (ad 61)), (4, .ref (ad 62)), (5, .int v5)] []) (v5 : Int32) (vs1 : Int32) (vs2 : Int32) (vs3 : Int32) (vs4 : Int32) (σ : sM) (X : sX) (hf : b_L_law_1162 L xs K28 v5 vs1 vs2 vs3 vs4 σ X = some 1) : sGoL p l e s d0 m below meth c b D cy ad (n + 1) X σ 1162 [(0, .ref b), (1, .ref (ad 0)), (2, .ref (ad 44)), (3, .ref (ad 61)), (4, .ref (ad 62)), (5, .int v5)] [.int vs4, .int vs3, .int vs2, .int vs1, .ref (ad 0)] := by
  replace hf : (chk (inb (v5 + (5 : Int32)) L) (chk (inb (v5 + (6 : Int32)) L) (if (xs ((v5 + (6 : Int32))).toNatClampNeg) = 0 then (b_L_law_1183 L xs K28 v5 vs1 vs2 vs3 vs4 (xs ((v5 + (5 : Int32))).toNatClampNeg) (0 : Int32) σ X) else (b_L_law_1183 L xs K28 v5 vs1 vs2 vs3 vs4 (xs ((v5 + (5 : Int32))).toNatClampNeg) (1 : Int32) σ X)))) = some 1 := hf
  intro H locs ls cells slots h hl hc1 hc2
  have hx := B.1
  have hb := B.2.1
  refine lv_aload_n hx hb dL_law_1162 rfl (lv_at hl 0 rfl) ?_
  refine lv_iload hx hb dL_law_1163 (lv_at hl 5 rfl) ?_
  refine lv_iconst (v := (5 : Int32)) hx hb dL_law_1165 (by decide) ?_
  refine lv_iadd hx hb dL_law_1166 ?_
  obtain ⟨c306, hf⟩ := chk_some hf
  refine va_sld hx hb C.1 C.2.1 C.2.2.1 h.2 (inb_in c306) dL_law_1167 ?_
  refine lv_aload_n hx hb dL_law_1168 rfl (lv_at hl 0 rfl) ?_
  refine lv_iload hx hb dL_law_1169 (lv_at hl 5 rfl) ?_
  refine lv_bipush (v := (6 : Int32)) hx hb dL_law_1171 (by decide) ?_
  refine lv_iadd hx hb dL_law_1173 ?_
  obtain ⟨c307, hf⟩ := chk_some hf
  refine va_sld hx hb C.1 C.2.1 C.2.2.1 h.2 (inb_in c307) dL_law_1174 ?_
  refine lv_if_eq (tgt := 1182) hx hb dL_law_1175 (by decide) (fun c308 => ?_) (fun c308 => ?_)
  · rw [if_pos c308] at hf
    refine lv_iconst (v := (0 : Int32)) hx hb dL_law_1182 (by decide) ?_
    exact k_L_law_1183 C B hr hK28 _ _ _ _ _ _ _ _ _ hf _ _ _ _ _ h (lv_sub hl [0, 1, 2, 3, 4, 5] rfl) hc1 hc2
  · rw [if_neg c308] at hf
    refine lv_iconst (v := (1 : Int32)) hx hb dL_law_1178 (by decide) ?_
    refine lv_goto (tgt := 1183) hx hb dL_law_1179 (by decide) ?_
    exact k_L_law_1183 C B hr hK28 _ _ _ _ _ _ _ _ _ hf _ _ _ _ _ h (lv_sub hl [0, 1, 2, 3, 4, 5] rfl) hc1 hc2
set_option maxHeartbeats 8000000 in
set_option maxRecDepth 100000 in
theorem k_L_law_1379 {p : Program} {l : Launch} {e : Env} {s : State} {d0 : Drawn} {m : MethodId} {below : List Frame} {meth : Method} {c : Code} {b L : Nat} {xs : Nat → Int32} {D : va_G} {cy : Nat → ClassId} {ad : Nat → Nat} (C : lwC s d0 b L xs ad) (B : sB p l (s.setDrawn d0) m meth c #[Value.ref b] code 9 RL D cy ad) (hr : meth.sig.returnType = ret) {n : Nat} {K28 : Int32 → sM → sX → Option Int32} (hK28 : ∀ (v5 : Int32) (σ : sM) (X : sX), K28 v5 σ X = some 1 → sGoL p l e s d0 m below meth c b D cy ad (n) X σ 28 [(0, .ref b), (1, .ref (ad 0)), (2, .ref (ad 44)), (3, .ref (ad 61)), (4, .ref (ad 62)), (5, .int v5)] []) (v5 : Int32) (v6 : Int32) (vs1 : Int32) (vs2 : Int32) (vs3 : Int32) (vs4 : Int32) (vs5 : Int32) (σ : sM) (X : sX) (hf : b_L_law_1379 L xs K28 v5 v6 vs1 vs2 vs3 vs4 vs5 σ X = some 1) : sGoL p l e s d0 m below meth c b D cy ad (n) X σ 1379 [(0, .ref b), (1, .ref (ad 0)), (2, .ref (ad 44)), (3, .ref (ad 61)), (4, .ref (ad 62)), (5, .int v5), (6, .int v6)] [.int vs5, .int vs4, .int vs3, .int vs2, .int vs1, .ref (ad 44)] := by
  replace hf : (wthn (f_X5_cut vs1 vs2 vs3 vs4 vs5 σ) (fun vr372 σ372 => rthn (f_X5_thrown σ372) (fun vr373 => if vr373 = v6 then (if v6 = 0 then (if (lg_cmp (X.1 ((0 : Int32)).toNatClampNeg) (vr372.toInt64)) = 0 then (K28 (v5 + 7) σ372 X) else (some (0 : Int32))) else (K28 (v5 + 7) σ372 X)) else (some (0 : Int32))))) = some 1 := hf
  intro H locs ls cells slots h hl hc1 hc2
  have hx := B.1
  have hb := B.2.1
  obtain ⟨vr372, σ372, hq372, hf⟩ := wthn_some hf
  refine sRetC1 (g_runV (k := 44) (T := TX5) (N := 21) B h (ok_X5_cut B.2.2.2.2.2.2.2.2 B.2.2.2.2.2.2.1 _ _ vs1 vs2 vs3 vs4 vs5 hq372) cw_L_191 ⟨Nat.le_of_ble_eq_true rfl, Nat.le_of_ble_eq_true rfl⟩ (by decide) (M_row _) rfl rfl hl.1.symm rfl (Nat.le_of_ble_eq_true rfl) dL_law_1379 ⟨lw_c0 hc1, lw_s0 hc2⟩) h (fun H locs h => ?_)
  refine lv_istore (lv' := [(7, .int vr372), (0, .ref b), (1, .ref (ad 0)), (2, .ref (ad 44)), (3, .ref (ad 61)), (4, .ref (ad 62)), (5, .int v5), (6, .int v6)]) hx hb dL_law_1382 hl (by decide) rfl (fun ls hl => ?_)
  refine lv_aload_n hx hb dL_law_1384 rfl (lv_at hl 3 rfl) ?_
  obtain ⟨vr373, hq373, hf⟩ := rthn_some hf
  refine sRetC1 (g_runV (k := 44) (T := TX5) (N := 21) B h (ok_X5_thrown B.2.2.2.2.2.2.2.2 B.2.2.2.2.2.2.1 _ _  hq373) cw_L_139 ⟨Nat.le_of_ble_eq_true rfl, Nat.le_of_ble_eq_true rfl⟩ (by decide) (M_row _) rfl rfl hl.1.symm rfl (Nat.le_of_ble_eq_true rfl) dL_law_1385 ⟨lw_c0 hc1, lw_s0 hc2⟩) h (fun H locs h => ?_)
  refine lv_iload hx hb dL_law_1388 (lv_at hl 7 rfl) ?_
  refine lv_icmp_eq (tgt := 1395) hx hb dL_law_1390 (by decide) (fun c374 => ?_) (fun c374 => ?_)
  · rw [if_pos c374] at hf
    refine lv_iload hx hb dL_law_1395 (lv_at hl 7 rfl) ?_
    refine lv_if_ne (tgt := 1412) hx hb dL_law_1397 (by decide) (fun c375 => ?_) (fun c375 => ?_)
    · rw [if_neg c375] at hf
      refine lv_goto (tgt := 2729) hx hb dL_law_1412 (by decide) ?_
      refine lv_iinc (v := (v5 + 7)) (lv' := [(5, .int (v5 + 7)), (7, .int vr372), (0, .ref b), (1, .ref (ad 0)), (2, .ref (ad 44)), (3, .ref (ad 61)), (4, .ref (ad 62)), (6, .int v6)]) hx hb dL_law_2729 hl (k := 6) rfl rfl (by decide) rfl (fun ls hl => ?_)
      refine lv_goto (tgt := 28) hx hb dL_law_2732 (by decide) ?_
      exact hK28 _ _ _ hf _ _ _ _ _ h (lv_sub hl [2, 3, 4, 5, 6, 0] rfl) hc1 hc2
    · rw [if_pos c375] at hf
      refine lv_aload_n hx hb dL_law_1400 rfl (lv_at hl 4 rfl) ?_
      refine lv_iconst (v := (0 : Int32)) hx hb dL_law_1401 (by decide) ?_
      refine g_lald B h (i := (0 : Int32)) (inb_in (n := 1) (by decide)) dL_law_1402 ?_
      refine lv_iload hx hb dL_law_1403 (lv_at hl 0 rfl) ?_
      refine lv_i2l (v := (vr372.toInt64)) hx hb dL_law_1405 rfl ?_
      refine W.lcmp hx hb dL_law_1406 ?_
      refine lv_if_eq (tgt := 1412) hx hb dL_law_1407 (by decide) (fun c376 => ?_) (fun c376 => ?_)
      · rw [if_pos c376] at hf
        refine lv_goto (tgt := 2729) hx hb dL_law_1412 (by decide) ?_
        refine lv_iinc (v := (v5 + 7)) (lv' := [(5, .int (v5 + 7)), (7, .int vr372), (0, .ref b), (1, .ref (ad 0)), (2, .ref (ad 44)), (3, .ref (ad 61)), (4, .ref (ad 62)), (6, .int v6)]) hx hb dL_law_2729 hl (k := 6) rfl rfl (by decide) rfl (fun ls hl => ?_)
        refine lv_goto (tgt := 28) hx hb dL_law_2732 (by decide) ?_
        exact hK28 _ _ _ hf _ _ _ _ _ h (lv_sub hl [2, 3, 4, 5, 6, 0] rfl) hc1 hc2
      · rw [if_neg c376] at hf
        refine lv_iconst (v := (0 : Int32)) hx hb dL_law_1410 (by decide) ?_
        exact absurd hf (by decide)
  · rw [if_neg c374] at hf
    refine lv_iconst (v := (0 : Int32)) hx hb dL_law_1393 (by decide) ?_
    exact absurd hf (by decide)
set_option maxHeartbeats 8000000 in
set_option maxRecDepth 100000 in
theorem k_L_law_1359 {p : Program} {l : Launch} {e : Env} {s : State} {d0 : Drawn} {m : MethodId} {below : List Frame} {meth : Method} {c : Code} {b L : Nat} {xs : Nat → Int32} {D : va_G} {cy : Nat → ClassId} {ad : Nat → Nat} (C : lwC s d0 b L xs ad) (B : sB p l (s.setDrawn d0) m meth c #[Value.ref b] code 9 RL D cy ad) (hr : meth.sig.returnType = ret) {n : Nat} {K28 : Int32 → sM → sX → Option Int32} (hK28 : ∀ (v5 : Int32) (σ : sM) (X : sX), K28 v5 σ X = some 1 → sGoL p l e s d0 m below meth c b D cy ad (n) X σ 28 [(0, .ref b), (1, .ref (ad 0)), (2, .ref (ad 44)), (3, .ref (ad 61)), (4, .ref (ad 62)), (5, .int v5)] []) (v5 : Int32) (v6 : Int32) (vs1 : Int32) (vs2 : Int32) (vs3 : Int32) (σ : sM) (X : sX) (hf : b_L_law_1359 L xs K28 v5 v6 vs1 vs2 vs3 σ X = some 1) : sGoL p l e s d0 m below meth c b D cy ad (n) X σ 1359 [(0, .ref b), (1, .ref (ad 0)), (2, .ref (ad 44)), (3, .ref (ad 61)), (4, .ref (ad 62)), (5, .int v5), (6, .int v6)] [.int vs3, .int vs2, .int vs1, .ref (ad 44)] := by
  replace hf : (chk (inb (v5 + (4 : Int32)) L) (chk (inb (v5 + (5 : Int32)) L) (if (xs ((v5 + (5 : Int32))).toNatClampNeg) = 0 then (b_L_law_1379 L xs K28 v5 v6 vs1 vs2 vs3 (xs ((v5 + (4 : Int32))).toNatClampNeg) (0 : Int32) σ X) else (b_L_law_1379 L xs K28 v5 v6 vs1 vs2 vs3 (xs ((v5 + (4 : Int32))).toNatClampNeg) (1 : Int32) σ X)))) = some 1 := hf
  intro H locs ls cells slots h hl hc1 hc2
  have hx := B.1
  have hb := B.2.1
  refine lv_aload_n hx hb dL_law_1359 rfl (lv_at hl 0 rfl) ?_
  refine lv_iload hx hb dL_law_1360 (lv_at hl 5 rfl) ?_
  refine lv_iconst (v := (4 : Int32)) hx hb dL_law_1362 (by decide) ?_
  refine lv_iadd hx hb dL_law_1363 ?_
  obtain ⟨c364, hf⟩ := chk_some hf
  refine va_sld hx hb C.1 C.2.1 C.2.2.1 h.2 (inb_in c364) dL_law_1364 ?_
  refine lv_aload_n hx hb dL_law_1365 rfl (lv_at hl 0 rfl) ?_
  refine lv_iload hx hb dL_law_1366 (lv_at hl 5 rfl) ?_
  refine lv_iconst (v := (5 : Int32)) hx hb dL_law_1368 (by decide) ?_
  refine lv_iadd hx hb dL_law_1369 ?_
  obtain ⟨c365, hf⟩ := chk_some hf
  refine va_sld hx hb C.1 C.2.1 C.2.2.1 h.2 (inb_in c365) dL_law_1370 ?_
  refine lv_if_eq (tgt := 1378) hx hb dL_law_1371 (by decide) (fun c366 => ?_) (fun c366 => ?_)
  · rw [if_pos c366] at hf
    refine lv_iconst (v := (0 : Int32)) hx hb dL_law_1378 (by decide) ?_
    exact k_L_law_1379 C B hr hK28 _ _ _ _ _ _ _ _ _ hf _ _ _ _ _ h (lv_sub hl [0, 1, 2, 3, 4, 5, 6] rfl) hc1 hc2
  · rw [if_neg c366] at hf
    refine lv_iconst (v := (1 : Int32)) hx hb dL_law_1374 (by decide) ?_
    refine lv_goto (tgt := 1379) hx hb dL_law_1375 (by decide) ?_
    exact k_L_law_1379 C B hr hK28 _ _ _ _ _ _ _ _ _ hf _ _ _ _ _ h (lv_sub hl [0, 1, 2, 3, 4, 5, 6] rfl) hc1 hc2
set_option maxHeartbeats 8000000 in
set_option maxRecDepth 100000 in
theorem k_L_law_1326 {p : Program} {l : Launch} {e : Env} {s : State} {d0 : Drawn} {m : MethodId} {below : List Frame} {meth : Method} {c : Code} {b L : Nat} {xs : Nat → Int32} {D : va_G} {cy : Nat → ClassId} {ad : Nat → Nat} (C : lwC s d0 b L xs ad) (B : sB p l (s.setDrawn d0) m meth c #[Value.ref b] code 9 RL D cy ad) (hr : meth.sig.returnType = ret) {n : Nat} {K28 : Int32 → sM → sX → Option Int32} (hK28 : ∀ (v5 : Int32) (σ : sM) (X : sX), K28 v5 σ X = some 1 → sGoL p l e s d0 m below meth c b D cy ad (n) X σ 28 [(0, .ref b), (1, .ref (ad 0)), (2, .ref (ad 44)), (3, .ref (ad 61)), (4, .ref (ad 62)), (5, .int v5)] []) (v5 : Int32) (vs1 : Int32) (vs2 : Int32) (vs3 : Int32) (vs4 : Int32) (vs5 : Int32) (σ : sM) (X : sX) (hf : b_L_law_1326 L xs K28 v5 vs1 vs2 vs3 vs4 vs5 σ X = some 1) : sGoL p l e s d0 m below meth c b D cy ad (n + 1) X σ 1326 [(0, .ref b), (1, .ref (ad 0)), (2, .ref (ad 44)), (3, .ref (ad 61)), (4, .ref (ad 62)), (5, .int v5)] [.int vs5, .int vs4, .int vs3, .int vs2, .int vs1, .ref (ad 0)] := by
  replace hf : (lthn (f_L_cut vs1 vs2 vs3 vs4 vs5 σ X) (fun vr346 σ346 X346 => chk (inb (v5 + (1 : Int32)) L) (chk (inb (v5 + (2 : Int32)) L) (chk (inb (v5 + (3 : Int32)) L) (if (xs ((v5 + (3 : Int32))).toNatClampNeg) = 0 then (b_L_law_1359 L xs K28 v5 vr346 (xs ((v5 + (1 : Int32))).toNatClampNeg) (xs ((v5 + (2 : Int32))).toNatClampNeg) (0 : Int32) σ346 X346) else (b_L_law_1359 L xs K28 v5 vr346 (xs ((v5 + (1 : Int32))).toNatClampNeg) (xs ((v5 + (2 : Int32))).toNatClampNeg) (1 : Int32) σ346 X346)))))) = some 1 := hf
  intro H locs ls cells slots h hl hc1 hc2
  have hx := B.1
  have hb := B.2.1
  refine lv_aload_n hx hb dL_law_1326 rfl (lv_at hl 3 rfl) ?_
  obtain ⟨vr346, σ346, X346, hq346, hf⟩ := lthn_some hf
  refine sRetC (g_runH B h (ok_L_cut B.2.2.2.2.2.2.2.2 B.2.2.2.2.2.2.1 _ _ vs1 vs2 vs3 vs4 vs5 hq346) cw_L_188 ⟨Nat.le_of_ble_eq_true rfl, Nat.le_of_ble_eq_true rfl⟩ rfl hl.1.symm rfl (Nat.le_of_ble_eq_true rfl) dL_law_1327 ⟨lw_c1 hc1, lw_s1 hc2⟩) h (fun H locs h => ?_)
  replace hc1 := lw_c2 hc1
  replace hc2 := lw_s2 hc2
  refine lv_istore (lv' := [(6, .int vr346), (0, .ref b), (1, .ref (ad 0)), (2, .ref (ad 44)), (3, .ref (ad 61)), (4, .ref (ad 62)), (5, .int v5)]) hx hb dL_law_1330 hl (by decide) rfl (fun ls hl => ?_)
  refine lv_aload_n hx hb dL_law_1332 rfl (lv_at hl 3 rfl) ?_
  refine lv_aload_n hx hb dL_law_1333 rfl (lv_at hl 1 rfl) ?_
  refine lv_iload hx hb dL_law_1334 (lv_at hl 6 rfl) ?_
  refine lv_iconst (v := (1 : Int32)) hx hb dL_law_1336 (by decide) ?_
  refine lv_iadd hx hb dL_law_1337 ?_
  obtain ⟨c347, hf⟩ := chk_some hf
  refine va_sld hx hb C.1 C.2.1 C.2.2.1 h.2 (inb_in c347) dL_law_1338 ?_
  refine lv_aload_n hx hb dL_law_1339 rfl (lv_at hl 1 rfl) ?_
  refine lv_iload hx hb dL_law_1340 (lv_at hl 6 rfl) ?_
  refine lv_iconst (v := (2 : Int32)) hx hb dL_law_1342 (by decide) ?_
  refine lv_iadd hx hb dL_law_1343 ?_
  obtain ⟨c348, hf⟩ := chk_some hf
  refine va_sld hx hb C.1 C.2.1 C.2.2.1 h.2 (inb_in c348) dL_law_1344 ?_
  refine lv_aload_n hx hb dL_law_1345 rfl (lv_at hl 1 rfl) ?_
  refine lv_iload hx hb dL_law_1346 (lv_at hl 6 rfl) ?_
  refine lv_iconst (v := (3 : Int32)) hx hb dL_law_1348 (by decide) ?_
  refine lv_iadd hx hb dL_law_1349 ?_
  obtain ⟨c349, hf⟩ := chk_some hf
  refine va_sld hx hb C.1 C.2.1 C.2.2.1 h.2 (inb_in c349) dL_law_1350 ?_
  refine lv_if_eq (tgt := 1358) hx hb dL_law_1351 (by decide) (fun c350 => ?_) (fun c350 => ?_)
  · rw [if_pos c350] at hf
    refine lv_iconst (v := (0 : Int32)) hx hb dL_law_1358 (by decide) ?_
    exact k_L_law_1359 C B hr hK28 _ _ _ _ _ _ _ hf _ _ _ _ _ h (lv_sub hl [1, 2, 3, 4, 5, 6, 0] rfl) hc1 hc2
  · rw [if_neg c350] at hf
    refine lv_iconst (v := (1 : Int32)) hx hb dL_law_1354 (by decide) ?_
    refine lv_goto (tgt := 1359) hx hb dL_law_1355 (by decide) ?_
    exact k_L_law_1359 C B hr hK28 _ _ _ _ _ _ _ hf _ _ _ _ _ h (lv_sub hl [1, 2, 3, 4, 5, 6, 0] rfl) hc1 hc2
set_option maxHeartbeats 8000000 in
set_option maxRecDepth 100000 in
theorem k_L_law_1306 {p : Program} {l : Launch} {e : Env} {s : State} {d0 : Drawn} {m : MethodId} {below : List Frame} {meth : Method} {c : Code} {b L : Nat} {xs : Nat → Int32} {D : va_G} {cy : Nat → ClassId} {ad : Nat → Nat} (C : lwC s d0 b L xs ad) (B : sB p l (s.setDrawn d0) m meth c #[Value.ref b] code 9 RL D cy ad) (hr : meth.sig.returnType = ret) {n : Nat} {K28 : Int32 → sM → sX → Option Int32} (hK28 : ∀ (v5 : Int32) (σ : sM) (X : sX), K28 v5 σ X = some 1 → sGoL p l e s d0 m below meth c b D cy ad (n) X σ 28 [(0, .ref b), (1, .ref (ad 0)), (2, .ref (ad 44)), (3, .ref (ad 61)), (4, .ref (ad 62)), (5, .int v5)] []) (v5 : Int32) (vs1 : Int32) (vs2 : Int32) (vs3 : Int32) (σ : sM) (X : sX) (hf : b_L_law_1306 L xs K28 v5 vs1 vs2 vs3 σ X = some 1) : sGoL p l e s d0 m below meth c b D cy ad (n + 1) X σ 1306 [(0, .ref b), (1, .ref (ad 0)), (2, .ref (ad 44)), (3, .ref (ad 61)), (4, .ref (ad 62)), (5, .int v5)] [.int vs3, .int vs2, .int vs1, .ref (ad 0)] := by
  replace hf : (chk (inb (v5 + (4 : Int32)) L) (chk (inb (v5 + (5 : Int32)) L) (if (xs ((v5 + (5 : Int32))).toNatClampNeg) = 0 then (b_L_law_1326 L xs K28 v5 vs1 vs2 vs3 (xs ((v5 + (4 : Int32))).toNatClampNeg) (0 : Int32) σ X) else (b_L_law_1326 L xs K28 v5 vs1 vs2 vs3 (xs ((v5 + (4 : Int32))).toNatClampNeg) (1 : Int32) σ X)))) = some 1 := hf
  intro H locs ls cells slots h hl hc1 hc2
  have hx := B.1
  have hb := B.2.1
  refine lv_aload_n hx hb dL_law_1306 rfl (lv_at hl 0 rfl) ?_
  refine lv_iload hx hb dL_law_1307 (lv_at hl 5 rfl) ?_
  refine lv_iconst (v := (4 : Int32)) hx hb dL_law_1309 (by decide) ?_
  refine lv_iadd hx hb dL_law_1310 ?_
  obtain ⟨c309, hf⟩ := chk_some hf
  refine va_sld hx hb C.1 C.2.1 C.2.2.1 h.2 (inb_in c309) dL_law_1311 ?_
  refine lv_aload_n hx hb dL_law_1312 rfl (lv_at hl 0 rfl) ?_
  refine lv_iload hx hb dL_law_1313 (lv_at hl 5 rfl) ?_
  refine lv_iconst (v := (5 : Int32)) hx hb dL_law_1315 (by decide) ?_
  refine lv_iadd hx hb dL_law_1316 ?_
  obtain ⟨c310, hf⟩ := chk_some hf
  refine va_sld hx hb C.1 C.2.1 C.2.2.1 h.2 (inb_in c310) dL_law_1317 ?_
  refine lv_if_eq (tgt := 1325) hx hb dL_law_1318 (by decide) (fun c311 => ?_) (fun c311 => ?_)
  · rw [if_pos c311] at hf
    refine lv_iconst (v := (0 : Int32)) hx hb dL_law_1325 (by decide) ?_
    exact k_L_law_1326 C B hr hK28 _ _ _ _ _ _ _ _ hf _ _ _ _ _ h (lv_sub hl [0, 1, 2, 3, 4, 5] rfl) hc1 hc2
  · rw [if_neg c311] at hf
    refine lv_iconst (v := (1 : Int32)) hx hb dL_law_1321 (by decide) ?_
    refine lv_goto (tgt := 1326) hx hb dL_law_1322 (by decide) ?_
    exact k_L_law_1326 C B hr hK28 _ _ _ _ _ _ _ _ hf _ _ _ _ _ h (lv_sub hl [0, 1, 2, 3, 4, 5] rfl) hc1 hc2
set_option maxHeartbeats 8000000 in
set_option maxRecDepth 100000 in
theorem k_L_law_1700 {p : Program} {l : Launch} {e : Env} {s : State} {d0 : Drawn} {m : MethodId} {below : List Frame} {meth : Method} {c : Code} {b L : Nat} {xs : Nat → Int32} {D : va_G} {cy : Nat → ClassId} {ad : Nat → Nat} (C : lwC s d0 b L xs ad) (B : sB p l (s.setDrawn d0) m meth c #[Value.ref b] code 9 RL D cy ad) (hr : meth.sig.returnType = ret) {n : Nat} {K28 : Int32 → sM → sX → Option Int32} (hK28 : ∀ (v5 : Int32) (σ : sM) (X : sX), K28 v5 σ X = some 1 → sGoL p l e s d0 m below meth c b D cy ad (n) X σ 28 [(0, .ref b), (1, .ref (ad 0)), (2, .ref (ad 44)), (3, .ref (ad 61)), (4, .ref (ad 62)), (5, .int v5)] []) (v5 : Int32) (v6 : Int32) (vs1 : Int32) (vs2 : Int32) (σ : sM) (X : sX) (hf : b_L_law_1700 L xs K28 v5 v6 vs1 vs2 σ X = some 1) : sGoL p l e s d0 m below meth c b D cy ad (n) X σ 1700 [(0, .ref b), (1, .ref (ad 0)), (2, .ref (ad 44)), (3, .ref (ad 61)), (4, .ref (ad 62)), (5, .int v5), (6, .int v6)] [.int vs2, .int vs1, .ref (ad 44)] := by
  replace hf : (wthn (f_X5_viewEnd vs1 vs2 σ) (fun vr351 σ351 => rthn (f_X5_thrown σ351) (fun vr352 => if vr352 = v6 then (if v6 = 0 then (if (lg_cmp (X.1 ((0 : Int32)).toNatClampNeg) (vr351.toInt64)) = 0 then (K28 (v5 + 7) σ351 X) else (some (0 : Int32))) else (K28 (v5 + 7) σ351 X)) else (some (0 : Int32))))) = some 1 := hf
  intro H locs ls cells slots h hl hc1 hc2
  have hx := B.1
  have hb := B.2.1
  obtain ⟨vr351, σ351, hq351, hf⟩ := wthn_some hf
  refine sRetC1 (g_runV (k := 44) (T := TX5) (N := 21) B h (ok_X5_viewEnd B.2.2.2.2.2.2.2.2 B.2.2.2.2.2.2.1 _ _ vs1 vs2 hq351) cw_L_203 ⟨Nat.le_of_ble_eq_true rfl, Nat.le_of_ble_eq_true rfl⟩ (by decide) (M_row _) rfl rfl hl.1.symm rfl (Nat.le_of_ble_eq_true rfl) dL_law_1700 ⟨lw_c0 hc1, lw_s0 hc2⟩) h (fun H locs h => ?_)
  refine lv_istore (lv' := [(7, .int vr351), (0, .ref b), (1, .ref (ad 0)), (2, .ref (ad 44)), (3, .ref (ad 61)), (4, .ref (ad 62)), (5, .int v5), (6, .int v6)]) hx hb dL_law_1703 hl (by decide) rfl (fun ls hl => ?_)
  refine lv_aload_n hx hb dL_law_1705 rfl (lv_at hl 3 rfl) ?_
  obtain ⟨vr352, hq352, hf⟩ := rthn_some hf
  refine sRetC1 (g_runV (k := 44) (T := TX5) (N := 21) B h (ok_X5_thrown B.2.2.2.2.2.2.2.2 B.2.2.2.2.2.2.1 _ _  hq352) cw_L_139 ⟨Nat.le_of_ble_eq_true rfl, Nat.le_of_ble_eq_true rfl⟩ (by decide) (M_row _) rfl rfl hl.1.symm rfl (Nat.le_of_ble_eq_true rfl) dL_law_1706 ⟨lw_c0 hc1, lw_s0 hc2⟩) h (fun H locs h => ?_)
  refine lv_iload hx hb dL_law_1709 (lv_at hl 7 rfl) ?_
  refine lv_icmp_eq (tgt := 1716) hx hb dL_law_1711 (by decide) (fun c353 => ?_) (fun c353 => ?_)
  · rw [if_pos c353] at hf
    refine lv_iload hx hb dL_law_1716 (lv_at hl 7 rfl) ?_
    refine lv_if_ne (tgt := 1733) hx hb dL_law_1718 (by decide) (fun c354 => ?_) (fun c354 => ?_)
    · rw [if_neg c354] at hf
      refine lv_goto (tgt := 2729) hx hb dL_law_1733 (by decide) ?_
      refine lv_iinc (v := (v5 + 7)) (lv' := [(5, .int (v5 + 7)), (7, .int vr351), (0, .ref b), (1, .ref (ad 0)), (2, .ref (ad 44)), (3, .ref (ad 61)), (4, .ref (ad 62)), (6, .int v6)]) hx hb dL_law_2729 hl (k := 6) rfl rfl (by decide) rfl (fun ls hl => ?_)
      refine lv_goto (tgt := 28) hx hb dL_law_2732 (by decide) ?_
      exact hK28 _ _ _ hf _ _ _ _ _ h (lv_sub hl [2, 3, 4, 5, 6, 0] rfl) hc1 hc2
    · rw [if_pos c354] at hf
      refine lv_aload_n hx hb dL_law_1721 rfl (lv_at hl 4 rfl) ?_
      refine lv_iconst (v := (0 : Int32)) hx hb dL_law_1722 (by decide) ?_
      refine g_lald B h (i := (0 : Int32)) (inb_in (n := 1) (by decide)) dL_law_1723 ?_
      refine lv_iload hx hb dL_law_1724 (lv_at hl 0 rfl) ?_
      refine lv_i2l (v := (vr351.toInt64)) hx hb dL_law_1726 rfl ?_
      refine W.lcmp hx hb dL_law_1727 ?_
      refine lv_if_eq (tgt := 1733) hx hb dL_law_1728 (by decide) (fun c355 => ?_) (fun c355 => ?_)
      · rw [if_pos c355] at hf
        refine lv_goto (tgt := 2729) hx hb dL_law_1733 (by decide) ?_
        refine lv_iinc (v := (v5 + 7)) (lv' := [(5, .int (v5 + 7)), (7, .int vr351), (0, .ref b), (1, .ref (ad 0)), (2, .ref (ad 44)), (3, .ref (ad 61)), (4, .ref (ad 62)), (6, .int v6)]) hx hb dL_law_2729 hl (k := 6) rfl rfl (by decide) rfl (fun ls hl => ?_)
        refine lv_goto (tgt := 28) hx hb dL_law_2732 (by decide) ?_
        exact hK28 _ _ _ hf _ _ _ _ _ h (lv_sub hl [2, 3, 4, 5, 6, 0] rfl) hc1 hc2
      · rw [if_neg c355] at hf
        refine lv_iconst (v := (0 : Int32)) hx hb dL_law_1731 (by decide) ?_
        exact absurd hf (by decide)
  · rw [if_neg c353] at hf
    refine lv_iconst (v := (0 : Int32)) hx hb dL_law_1714 (by decide) ?_
    exact absurd hf (by decide)
set_option maxHeartbeats 8000000 in
set_option maxRecDepth 100000 in
theorem k_L_law_1673 {p : Program} {l : Launch} {e : Env} {s : State} {d0 : Drawn} {m : MethodId} {below : List Frame} {meth : Method} {c : Code} {b L : Nat} {xs : Nat → Int32} {D : va_G} {cy : Nat → ClassId} {ad : Nat → Nat} (C : lwC s d0 b L xs ad) (B : sB p l (s.setDrawn d0) m meth c #[Value.ref b] code 9 RL D cy ad) (hr : meth.sig.returnType = ret) {n : Nat} {K28 : Int32 → sM → sX → Option Int32} (hK28 : ∀ (v5 : Int32) (σ : sM) (X : sX), K28 v5 σ X = some 1 → sGoL p l e s d0 m below meth c b D cy ad (n) X σ 28 [(0, .ref b), (1, .ref (ad 0)), (2, .ref (ad 44)), (3, .ref (ad 61)), (4, .ref (ad 62)), (5, .int v5)] []) (v5 : Int32) (vs1 : Int32) (vs2 : Int32) (σ : sM) (X : sX) (hf : b_L_law_1673 L xs K28 v5 vs1 vs2 σ X = some 1) : sGoL p l e s d0 m below meth c b D cy ad (n + 1) X σ 1673 [(0, .ref b), (1, .ref (ad 0)), (2, .ref (ad 44)), (3, .ref (ad 61)), (4, .ref (ad 62)), (5, .int v5)] [.int vs2, .int vs1, .ref (ad 0)] := by
  replace hf : (lthn (f_L_viewEnd vs1 vs2 σ X) (fun vr312 σ312 X312 => chk (inb (v5 + (1 : Int32)) L) (chk (inb (v5 + (2 : Int32)) L) (if (xs ((v5 + (2 : Int32))).toNatClampNeg) = 0 then (b_L_law_1700 L xs K28 v5 vr312 (xs ((v5 + (1 : Int32))).toNatClampNeg) (0 : Int32) σ312 X312) else (b_L_law_1700 L xs K28 v5 vr312 (xs ((v5 + (1 : Int32))).toNatClampNeg) (1 : Int32) σ312 X312))))) = some 1 := hf
  intro H locs ls cells slots h hl hc1 hc2
  have hx := B.1
  have hb := B.2.1
  refine lv_aload_n hx hb dL_law_1673 rfl (lv_at hl 3 rfl) ?_
  obtain ⟨vr312, σ312, X312, hq312, hf⟩ := lthn_some hf
  refine sRetC (g_runH B h (ok_L_viewEnd B.2.2.2.2.2.2.2.2 B.2.2.2.2.2.2.1 _ _ vs1 vs2 hq312) cw_L_201 ⟨Nat.le_of_ble_eq_true rfl, Nat.le_of_ble_eq_true rfl⟩ rfl hl.1.symm rfl (Nat.le_of_ble_eq_true rfl) dL_law_1674 ⟨lw_c1 hc1, lw_s1 hc2⟩) h (fun H locs h => ?_)
  replace hc1 := lw_c2 hc1
  replace hc2 := lw_s2 hc2
  refine lv_istore (lv' := [(6, .int vr312), (0, .ref b), (1, .ref (ad 0)), (2, .ref (ad 44)), (3, .ref (ad 61)), (4, .ref (ad 62)), (5, .int v5)]) hx hb dL_law_1677 hl (by decide) rfl (fun ls hl => ?_)
  refine lv_aload_n hx hb dL_law_1679 rfl (lv_at hl 3 rfl) ?_
  refine lv_aload_n hx hb dL_law_1680 rfl (lv_at hl 1 rfl) ?_
  refine lv_iload hx hb dL_law_1681 (lv_at hl 6 rfl) ?_
  refine lv_iconst (v := (1 : Int32)) hx hb dL_law_1683 (by decide) ?_
  refine lv_iadd hx hb dL_law_1684 ?_
  obtain ⟨c313, hf⟩ := chk_some hf
  refine va_sld hx hb C.1 C.2.1 C.2.2.1 h.2 (inb_in c313) dL_law_1685 ?_
  refine lv_aload_n hx hb dL_law_1686 rfl (lv_at hl 1 rfl) ?_
  refine lv_iload hx hb dL_law_1687 (lv_at hl 6 rfl) ?_
  refine lv_iconst (v := (2 : Int32)) hx hb dL_law_1689 (by decide) ?_
  refine lv_iadd hx hb dL_law_1690 ?_
  obtain ⟨c314, hf⟩ := chk_some hf
  refine va_sld hx hb C.1 C.2.1 C.2.2.1 h.2 (inb_in c314) dL_law_1691 ?_
  refine lv_if_eq (tgt := 1699) hx hb dL_law_1692 (by decide) (fun c315 => ?_) (fun c315 => ?_)
  · rw [if_pos c315] at hf
    refine lv_iconst (v := (0 : Int32)) hx hb dL_law_1699 (by decide) ?_
    exact k_L_law_1700 C B hr hK28 _ _ _ _ _ _ hf _ _ _ _ _ h (lv_sub hl [1, 2, 3, 4, 5, 6, 0] rfl) hc1 hc2
  · rw [if_neg c315] at hf
    refine lv_iconst (v := (1 : Int32)) hx hb dL_law_1695 (by decide) ?_
    refine lv_goto (tgt := 1700) hx hb dL_law_1696 (by decide) ?_
    exact k_L_law_1700 C B hr hK28 _ _ _ _ _ _ hf _ _ _ _ _ h (lv_sub hl [1, 2, 3, 4, 5, 6, 0] rfl) hc1 hc2
set_option maxHeartbeats 8000000 in
set_option maxRecDepth 100000 in
theorem k_L_law_1784 {p : Program} {l : Launch} {e : Env} {s : State} {d0 : Drawn} {m : MethodId} {below : List Frame} {meth : Method} {c : Code} {b L : Nat} {xs : Nat → Int32} {D : va_G} {cy : Nat → ClassId} {ad : Nat → Nat} (C : lwC s d0 b L xs ad) (B : sB p l (s.setDrawn d0) m meth c #[Value.ref b] code 9 RL D cy ad) (hr : meth.sig.returnType = ret) {n : Nat} {K28 : Int32 → sM → sX → Option Int32} (hK28 : ∀ (v5 : Int32) (σ : sM) (X : sX), K28 v5 σ X = some 1 → sGoL p l e s d0 m below meth c b D cy ad (n) X σ 28 [(0, .ref b), (1, .ref (ad 0)), (2, .ref (ad 44)), (3, .ref (ad 61)), (4, .ref (ad 62)), (5, .int v5)] []) (v5 : Int32) (v6 : Int32) (vs1 : Int32) (vs2 : Int32) (σ : sM) (X : sX) (hf : b_L_law_1784 L xs K28 v5 v6 vs1 vs2 σ X = some 1) : sGoL p l e s d0 m below meth c b D cy ad (n) X σ 1784 [(0, .ref b), (1, .ref (ad 0)), (2, .ref (ad 44)), (3, .ref (ad 61)), (4, .ref (ad 62)), (5, .int v5), (6, .int v6)] [.int vs2, .int vs1, .ref (ad 44)] := by
  replace hf : (wthn (f_X5_viewPoll vs1 vs2 σ) (fun vr356 σ356 => rthn (f_X5_thrown σ356) (fun vr357 => if vr357 = v6 then (if v6 = 0 then (if (lg_cmp (X.1 ((0 : Int32)).toNatClampNeg) (vr356.toInt64)) = 0 then (K28 (v5 + 7) σ356 X) else (some (0 : Int32))) else (K28 (v5 + 7) σ356 X)) else (some (0 : Int32))))) = some 1 := hf
  intro H locs ls cells slots h hl hc1 hc2
  have hx := B.1
  have hb := B.2.1
  obtain ⟨vr356, σ356, hq356, hf⟩ := wthn_some hf
  refine sRetC1 (g_runV (k := 44) (T := TX5) (N := 21) B h (ok_X5_viewPoll B.2.2.2.2.2.2.2.2 B.2.2.2.2.2.2.1 _ _ vs1 vs2 hq356) cw_L_206 ⟨Nat.le_of_ble_eq_true rfl, Nat.le_of_ble_eq_true rfl⟩ (by decide) (M_row _) rfl rfl hl.1.symm rfl (Nat.le_of_ble_eq_true rfl) dL_law_1784 ⟨lw_c0 hc1, lw_s0 hc2⟩) h (fun H locs h => ?_)
  refine lv_istore (lv' := [(7, .int vr356), (0, .ref b), (1, .ref (ad 0)), (2, .ref (ad 44)), (3, .ref (ad 61)), (4, .ref (ad 62)), (5, .int v5), (6, .int v6)]) hx hb dL_law_1787 hl (by decide) rfl (fun ls hl => ?_)
  refine lv_aload_n hx hb dL_law_1789 rfl (lv_at hl 3 rfl) ?_
  obtain ⟨vr357, hq357, hf⟩ := rthn_some hf
  refine sRetC1 (g_runV (k := 44) (T := TX5) (N := 21) B h (ok_X5_thrown B.2.2.2.2.2.2.2.2 B.2.2.2.2.2.2.1 _ _  hq357) cw_L_139 ⟨Nat.le_of_ble_eq_true rfl, Nat.le_of_ble_eq_true rfl⟩ (by decide) (M_row _) rfl rfl hl.1.symm rfl (Nat.le_of_ble_eq_true rfl) dL_law_1790 ⟨lw_c0 hc1, lw_s0 hc2⟩) h (fun H locs h => ?_)
  refine lv_iload hx hb dL_law_1793 (lv_at hl 7 rfl) ?_
  refine lv_icmp_eq (tgt := 1800) hx hb dL_law_1795 (by decide) (fun c358 => ?_) (fun c358 => ?_)
  · rw [if_pos c358] at hf
    refine lv_iload hx hb dL_law_1800 (lv_at hl 7 rfl) ?_
    refine lv_if_ne (tgt := 1817) hx hb dL_law_1802 (by decide) (fun c359 => ?_) (fun c359 => ?_)
    · rw [if_neg c359] at hf
      refine lv_goto (tgt := 2729) hx hb dL_law_1817 (by decide) ?_
      refine lv_iinc (v := (v5 + 7)) (lv' := [(5, .int (v5 + 7)), (7, .int vr356), (0, .ref b), (1, .ref (ad 0)), (2, .ref (ad 44)), (3, .ref (ad 61)), (4, .ref (ad 62)), (6, .int v6)]) hx hb dL_law_2729 hl (k := 6) rfl rfl (by decide) rfl (fun ls hl => ?_)
      refine lv_goto (tgt := 28) hx hb dL_law_2732 (by decide) ?_
      exact hK28 _ _ _ hf _ _ _ _ _ h (lv_sub hl [2, 3, 4, 5, 6, 0] rfl) hc1 hc2
    · rw [if_pos c359] at hf
      refine lv_aload_n hx hb dL_law_1805 rfl (lv_at hl 4 rfl) ?_
      refine lv_iconst (v := (0 : Int32)) hx hb dL_law_1806 (by decide) ?_
      refine g_lald B h (i := (0 : Int32)) (inb_in (n := 1) (by decide)) dL_law_1807 ?_
      refine lv_iload hx hb dL_law_1808 (lv_at hl 0 rfl) ?_
      refine lv_i2l (v := (vr356.toInt64)) hx hb dL_law_1810 rfl ?_
      refine W.lcmp hx hb dL_law_1811 ?_
      refine lv_if_eq (tgt := 1817) hx hb dL_law_1812 (by decide) (fun c360 => ?_) (fun c360 => ?_)
      · rw [if_pos c360] at hf
        refine lv_goto (tgt := 2729) hx hb dL_law_1817 (by decide) ?_
        refine lv_iinc (v := (v5 + 7)) (lv' := [(5, .int (v5 + 7)), (7, .int vr356), (0, .ref b), (1, .ref (ad 0)), (2, .ref (ad 44)), (3, .ref (ad 61)), (4, .ref (ad 62)), (6, .int v6)]) hx hb dL_law_2729 hl (k := 6) rfl rfl (by decide) rfl (fun ls hl => ?_)
        refine lv_goto (tgt := 28) hx hb dL_law_2732 (by decide) ?_
        exact hK28 _ _ _ hf _ _ _ _ _ h (lv_sub hl [2, 3, 4, 5, 6, 0] rfl) hc1 hc2
      · rw [if_neg c360] at hf
        refine lv_iconst (v := (0 : Int32)) hx hb dL_law_1815 (by decide) ?_
        exact absurd hf (by decide)
  · rw [if_neg c358] at hf
    refine lv_iconst (v := (0 : Int32)) hx hb dL_law_1798 (by decide) ?_
    exact absurd hf (by decide)
set_option maxHeartbeats 8000000 in
set_option maxRecDepth 100000 in
theorem k_L_law_1757 {p : Program} {l : Launch} {e : Env} {s : State} {d0 : Drawn} {m : MethodId} {below : List Frame} {meth : Method} {c : Code} {b L : Nat} {xs : Nat → Int32} {D : va_G} {cy : Nat → ClassId} {ad : Nat → Nat} (C : lwC s d0 b L xs ad) (B : sB p l (s.setDrawn d0) m meth c #[Value.ref b] code 9 RL D cy ad) (hr : meth.sig.returnType = ret) {n : Nat} {K28 : Int32 → sM → sX → Option Int32} (hK28 : ∀ (v5 : Int32) (σ : sM) (X : sX), K28 v5 σ X = some 1 → sGoL p l e s d0 m below meth c b D cy ad (n) X σ 28 [(0, .ref b), (1, .ref (ad 0)), (2, .ref (ad 44)), (3, .ref (ad 61)), (4, .ref (ad 62)), (5, .int v5)] []) (v5 : Int32) (vs1 : Int32) (vs2 : Int32) (σ : sM) (X : sX) (hf : b_L_law_1757 L xs K28 v5 vs1 vs2 σ X = some 1) : sGoL p l e s d0 m below meth c b D cy ad (n + 1) X σ 1757 [(0, .ref b), (1, .ref (ad 0)), (2, .ref (ad 44)), (3, .ref (ad 61)), (4, .ref (ad 62)), (5, .int v5)] [.int vs2, .int vs1, .ref (ad 0)] := by
  replace hf : (lthn (f_L_viewPoll vs1 vs2 σ X) (fun vr316 σ316 X316 => chk (inb (v5 + (1 : Int32)) L) (chk (inb (v5 + (2 : Int32)) L) (if (xs ((v5 + (2 : Int32))).toNatClampNeg) = 0 then (b_L_law_1784 L xs K28 v5 vr316 (xs ((v5 + (1 : Int32))).toNatClampNeg) (0 : Int32) σ316 X316) else (b_L_law_1784 L xs K28 v5 vr316 (xs ((v5 + (1 : Int32))).toNatClampNeg) (1 : Int32) σ316 X316))))) = some 1 := hf
  intro H locs ls cells slots h hl hc1 hc2
  have hx := B.1
  have hb := B.2.1
  refine lv_aload_n hx hb dL_law_1757 rfl (lv_at hl 3 rfl) ?_
  obtain ⟨vr316, σ316, X316, hq316, hf⟩ := lthn_some hf
  refine sRetC (g_runH B h (ok_L_viewPoll B.2.2.2.2.2.2.2.2 B.2.2.2.2.2.2.1 _ _ vs1 vs2 hq316) cw_L_204 ⟨Nat.le_of_ble_eq_true rfl, Nat.le_of_ble_eq_true rfl⟩ rfl hl.1.symm rfl (Nat.le_of_ble_eq_true rfl) dL_law_1758 ⟨lw_c1 hc1, lw_s1 hc2⟩) h (fun H locs h => ?_)
  replace hc1 := lw_c2 hc1
  replace hc2 := lw_s2 hc2
  refine lv_istore (lv' := [(6, .int vr316), (0, .ref b), (1, .ref (ad 0)), (2, .ref (ad 44)), (3, .ref (ad 61)), (4, .ref (ad 62)), (5, .int v5)]) hx hb dL_law_1761 hl (by decide) rfl (fun ls hl => ?_)
  refine lv_aload_n hx hb dL_law_1763 rfl (lv_at hl 3 rfl) ?_
  refine lv_aload_n hx hb dL_law_1764 rfl (lv_at hl 1 rfl) ?_
  refine lv_iload hx hb dL_law_1765 (lv_at hl 6 rfl) ?_
  refine lv_iconst (v := (1 : Int32)) hx hb dL_law_1767 (by decide) ?_
  refine lv_iadd hx hb dL_law_1768 ?_
  obtain ⟨c317, hf⟩ := chk_some hf
  refine va_sld hx hb C.1 C.2.1 C.2.2.1 h.2 (inb_in c317) dL_law_1769 ?_
  refine lv_aload_n hx hb dL_law_1770 rfl (lv_at hl 1 rfl) ?_
  refine lv_iload hx hb dL_law_1771 (lv_at hl 6 rfl) ?_
  refine lv_iconst (v := (2 : Int32)) hx hb dL_law_1773 (by decide) ?_
  refine lv_iadd hx hb dL_law_1774 ?_
  obtain ⟨c318, hf⟩ := chk_some hf
  refine va_sld hx hb C.1 C.2.1 C.2.2.1 h.2 (inb_in c318) dL_law_1775 ?_
  refine lv_if_eq (tgt := 1783) hx hb dL_law_1776 (by decide) (fun c319 => ?_) (fun c319 => ?_)
  · rw [if_pos c319] at hf
    refine lv_iconst (v := (0 : Int32)) hx hb dL_law_1783 (by decide) ?_
    exact k_L_law_1784 C B hr hK28 _ _ _ _ _ _ hf _ _ _ _ _ h (lv_sub hl [1, 2, 3, 4, 5, 6, 0] rfl) hc1 hc2
  · rw [if_neg c319] at hf
    refine lv_iconst (v := (1 : Int32)) hx hb dL_law_1779 (by decide) ?_
    refine lv_goto (tgt := 1784) hx hb dL_law_1780 (by decide) ?_
    exact k_L_law_1784 C B hr hK28 _ _ _ _ _ _ hf _ _ _ _ _ h (lv_sub hl [1, 2, 3, 4, 5, 6, 0] rfl) hc1 hc2
set_option maxHeartbeats 8000000 in
set_option maxRecDepth 100000 in
theorem k_L_law_542 {p : Program} {l : Launch} {e : Env} {s : State} {d0 : Drawn} {m : MethodId} {below : List Frame} {meth : Method} {c : Code} {b L : Nat} {xs : Nat → Int32} {D : va_G} {cy : Nat → ClassId} {ad : Nat → Nat} (C : lwC s d0 b L xs ad) (B : sB p l (s.setDrawn d0) m meth c #[Value.ref b] code 9 RL D cy ad) (hr : meth.sig.returnType = ret) {n : Nat} {K28 : Int32 → sM → sX → Option Int32} (hK28 : ∀ (v5 : Int32) (σ : sM) (X : sX), K28 v5 σ X = some 1 → sGoL p l e s d0 m below meth c b D cy ad (n) X σ 28 [(0, .ref b), (1, .ref (ad 0)), (2, .ref (ad 44)), (3, .ref (ad 61)), (4, .ref (ad 62)), (5, .int v5)] []) (v5 : Int32) (v6 : Int32) (vs1 : Int32) (vs2 : Int32) (σ : sM) (X : sX) (hf : b_L_law_542 L xs K28 v5 v6 vs1 vs2 σ X = some 1) : sGoL p l e s d0 m below meth c b D cy ad (n) X σ 542 [(0, .ref b), (1, .ref (ad 0)), (2, .ref (ad 44)), (3, .ref (ad 61)), (4, .ref (ad 62)), (5, .int v5), (6, .int v6)] [.int vs2, .int vs1, .ref (ad 44)] := by
  replace hf : (wthn (f_X5_end vs1 vs2 σ) (fun vr320 σ320 => rthn (f_X5_thrown σ320) (fun vr321 => if vr321 = v6 then (if v6 = 0 then (if (lg_cmp (X.1 ((0 : Int32)).toNatClampNeg) (vr320.toInt64)) = 0 then (K28 (v5 + 7) σ320 X) else (some (0 : Int32))) else (K28 (v5 + 7) σ320 X)) else (some (0 : Int32))))) = some 1 := hf
  intro H locs ls cells slots h hl hc1 hc2
  have hx := B.1
  have hb := B.2.1
  obtain ⟨vr320, σ320, hq320, hf⟩ := wthn_some hf
  refine sRetC1 (g_runV (k := 44) (T := TX5) (N := 21) B h (ok_X5_end B.2.2.2.2.2.2.2.2 B.2.2.2.2.2.2.1 _ _ vs1 vs2 hq320) cw_L_156 ⟨Nat.le_of_ble_eq_true rfl, Nat.le_of_ble_eq_true rfl⟩ (by decide) (M_row _) rfl rfl hl.1.symm rfl (Nat.le_of_ble_eq_true rfl) dL_law_542 ⟨lw_c0 hc1, lw_s0 hc2⟩) h (fun H locs h => ?_)
  refine lv_istore (lv' := [(7, .int vr320), (0, .ref b), (1, .ref (ad 0)), (2, .ref (ad 44)), (3, .ref (ad 61)), (4, .ref (ad 62)), (5, .int v5), (6, .int v6)]) hx hb dL_law_545 hl (by decide) rfl (fun ls hl => ?_)
  refine lv_aload_n hx hb dL_law_547 rfl (lv_at hl 3 rfl) ?_
  obtain ⟨vr321, hq321, hf⟩ := rthn_some hf
  refine sRetC1 (g_runV (k := 44) (T := TX5) (N := 21) B h (ok_X5_thrown B.2.2.2.2.2.2.2.2 B.2.2.2.2.2.2.1 _ _  hq321) cw_L_139 ⟨Nat.le_of_ble_eq_true rfl, Nat.le_of_ble_eq_true rfl⟩ (by decide) (M_row _) rfl rfl hl.1.symm rfl (Nat.le_of_ble_eq_true rfl) dL_law_548 ⟨lw_c0 hc1, lw_s0 hc2⟩) h (fun H locs h => ?_)
  refine lv_iload hx hb dL_law_551 (lv_at hl 7 rfl) ?_
  refine lv_icmp_eq (tgt := 558) hx hb dL_law_553 (by decide) (fun c322 => ?_) (fun c322 => ?_)
  · rw [if_pos c322] at hf
    refine lv_iload hx hb dL_law_558 (lv_at hl 7 rfl) ?_
    refine lv_if_ne (tgt := 575) hx hb dL_law_560 (by decide) (fun c323 => ?_) (fun c323 => ?_)
    · rw [if_neg c323] at hf
      refine lv_goto (tgt := 2729) hx hb dL_law_575 (by decide) ?_
      refine lv_iinc (v := (v5 + 7)) (lv' := [(5, .int (v5 + 7)), (7, .int vr320), (0, .ref b), (1, .ref (ad 0)), (2, .ref (ad 44)), (3, .ref (ad 61)), (4, .ref (ad 62)), (6, .int v6)]) hx hb dL_law_2729 hl (k := 6) rfl rfl (by decide) rfl (fun ls hl => ?_)
      refine lv_goto (tgt := 28) hx hb dL_law_2732 (by decide) ?_
      exact hK28 _ _ _ hf _ _ _ _ _ h (lv_sub hl [2, 3, 4, 5, 6, 0] rfl) hc1 hc2
    · rw [if_pos c323] at hf
      refine lv_aload_n hx hb dL_law_563 rfl (lv_at hl 4 rfl) ?_
      refine lv_iconst (v := (0 : Int32)) hx hb dL_law_564 (by decide) ?_
      refine g_lald B h (i := (0 : Int32)) (inb_in (n := 1) (by decide)) dL_law_565 ?_
      refine lv_iload hx hb dL_law_566 (lv_at hl 0 rfl) ?_
      refine lv_i2l (v := (vr320.toInt64)) hx hb dL_law_568 rfl ?_
      refine W.lcmp hx hb dL_law_569 ?_
      refine lv_if_eq (tgt := 575) hx hb dL_law_570 (by decide) (fun c324 => ?_) (fun c324 => ?_)
      · rw [if_pos c324] at hf
        refine lv_goto (tgt := 2729) hx hb dL_law_575 (by decide) ?_
        refine lv_iinc (v := (v5 + 7)) (lv' := [(5, .int (v5 + 7)), (7, .int vr320), (0, .ref b), (1, .ref (ad 0)), (2, .ref (ad 44)), (3, .ref (ad 61)), (4, .ref (ad 62)), (6, .int v6)]) hx hb dL_law_2729 hl (k := 6) rfl rfl (by decide) rfl (fun ls hl => ?_)
        refine lv_goto (tgt := 28) hx hb dL_law_2732 (by decide) ?_
        exact hK28 _ _ _ hf _ _ _ _ _ h (lv_sub hl [2, 3, 4, 5, 6, 0] rfl) hc1 hc2
      · rw [if_neg c324] at hf
        refine lv_iconst (v := (0 : Int32)) hx hb dL_law_573 (by decide) ?_
        exact absurd hf (by decide)
  · rw [if_neg c322] at hf
    refine lv_iconst (v := (0 : Int32)) hx hb dL_law_556 (by decide) ?_
    exact absurd hf (by decide)
set_option maxHeartbeats 8000000 in
set_option maxRecDepth 100000 in
theorem k_L_law_515 {p : Program} {l : Launch} {e : Env} {s : State} {d0 : Drawn} {m : MethodId} {below : List Frame} {meth : Method} {c : Code} {b L : Nat} {xs : Nat → Int32} {D : va_G} {cy : Nat → ClassId} {ad : Nat → Nat} (C : lwC s d0 b L xs ad) (B : sB p l (s.setDrawn d0) m meth c #[Value.ref b] code 9 RL D cy ad) (hr : meth.sig.returnType = ret) {n : Nat} {K28 : Int32 → sM → sX → Option Int32} (hK28 : ∀ (v5 : Int32) (σ : sM) (X : sX), K28 v5 σ X = some 1 → sGoL p l e s d0 m below meth c b D cy ad (n) X σ 28 [(0, .ref b), (1, .ref (ad 0)), (2, .ref (ad 44)), (3, .ref (ad 61)), (4, .ref (ad 62)), (5, .int v5)] []) (v5 : Int32) (vs1 : Int32) (vs2 : Int32) (σ : sM) (X : sX) (hf : b_L_law_515 L xs K28 v5 vs1 vs2 σ X = some 1) : sGoL p l e s d0 m below meth c b D cy ad (n + 1) X σ 515 [(0, .ref b), (1, .ref (ad 0)), (2, .ref (ad 44)), (3, .ref (ad 61)), (4, .ref (ad 62)), (5, .int v5)] [.int vs2, .int vs1, .ref (ad 0)] := by
  replace hf : (lthn (f_L_end vs1 vs2 σ X) (fun vr289 σ289 X289 => chk (inb (v5 + (1 : Int32)) L) (chk (inb (v5 + (2 : Int32)) L) (if (xs ((v5 + (2 : Int32))).toNatClampNeg) = 0 then (b_L_law_542 L xs K28 v5 vr289 (xs ((v5 + (1 : Int32))).toNatClampNeg) (0 : Int32) σ289 X289) else (b_L_law_542 L xs K28 v5 vr289 (xs ((v5 + (1 : Int32))).toNatClampNeg) (1 : Int32) σ289 X289))))) = some 1 := hf
  intro H locs ls cells slots h hl hc1 hc2
  have hx := B.1
  have hb := B.2.1
  refine lv_aload_n hx hb dL_law_515 rfl (lv_at hl 3 rfl) ?_
  obtain ⟨vr289, σ289, X289, hq289, hf⟩ := lthn_some hf
  refine sRetC (g_runH B h (ok_L_end B.2.2.2.2.2.2.2.2 B.2.2.2.2.2.2.1 _ _ vs1 vs2 hq289) cw_L_153 ⟨Nat.le_of_ble_eq_true rfl, Nat.le_of_ble_eq_true rfl⟩ rfl hl.1.symm rfl (Nat.le_of_ble_eq_true rfl) dL_law_516 ⟨lw_c1 hc1, lw_s1 hc2⟩) h (fun H locs h => ?_)
  replace hc1 := lw_c2 hc1
  replace hc2 := lw_s2 hc2
  refine lv_istore (lv' := [(6, .int vr289), (0, .ref b), (1, .ref (ad 0)), (2, .ref (ad 44)), (3, .ref (ad 61)), (4, .ref (ad 62)), (5, .int v5)]) hx hb dL_law_519 hl (by decide) rfl (fun ls hl => ?_)
  refine lv_aload_n hx hb dL_law_521 rfl (lv_at hl 3 rfl) ?_
  refine lv_aload_n hx hb dL_law_522 rfl (lv_at hl 1 rfl) ?_
  refine lv_iload hx hb dL_law_523 (lv_at hl 6 rfl) ?_
  refine lv_iconst (v := (1 : Int32)) hx hb dL_law_525 (by decide) ?_
  refine lv_iadd hx hb dL_law_526 ?_
  obtain ⟨c290, hf⟩ := chk_some hf
  refine va_sld hx hb C.1 C.2.1 C.2.2.1 h.2 (inb_in c290) dL_law_527 ?_
  refine lv_aload_n hx hb dL_law_528 rfl (lv_at hl 1 rfl) ?_
  refine lv_iload hx hb dL_law_529 (lv_at hl 6 rfl) ?_
  refine lv_iconst (v := (2 : Int32)) hx hb dL_law_531 (by decide) ?_
  refine lv_iadd hx hb dL_law_532 ?_
  obtain ⟨c291, hf⟩ := chk_some hf
  refine va_sld hx hb C.1 C.2.1 C.2.2.1 h.2 (inb_in c291) dL_law_533 ?_
  refine lv_if_eq (tgt := 541) hx hb dL_law_534 (by decide) (fun c292 => ?_) (fun c292 => ?_)
  · rw [if_pos c292] at hf
    refine lv_iconst (v := (0 : Int32)) hx hb dL_law_541 (by decide) ?_
    exact k_L_law_542 C B hr hK28 _ _ _ _ _ _ hf _ _ _ _ _ h (lv_sub hl [1, 2, 3, 4, 5, 6, 0] rfl) hc1 hc2
  · rw [if_neg c292] at hf
    refine lv_iconst (v := (1 : Int32)) hx hb dL_law_537 (by decide) ?_
    refine lv_goto (tgt := 542) hx hb dL_law_538 (by decide) ?_
    exact k_L_law_542 C B hr hK28 _ _ _ _ _ _ hf _ _ _ _ _ h (lv_sub hl [1, 2, 3, 4, 5, 6, 0] rfl) hc1 hc2
set_option maxHeartbeats 8000000 in
set_option maxRecDepth 100000 in
theorem k_L_law_626 {p : Program} {l : Launch} {e : Env} {s : State} {d0 : Drawn} {m : MethodId} {below : List Frame} {meth : Method} {c : Code} {b L : Nat} {xs : Nat → Int32} {D : va_G} {cy : Nat → ClassId} {ad : Nat → Nat} (C : lwC s d0 b L xs ad) (B : sB p l (s.setDrawn d0) m meth c #[Value.ref b] code 9 RL D cy ad) (hr : meth.sig.returnType = ret) {n : Nat} {K28 : Int32 → sM → sX → Option Int32} (hK28 : ∀ (v5 : Int32) (σ : sM) (X : sX), K28 v5 σ X = some 1 → sGoL p l e s d0 m below meth c b D cy ad (n) X σ 28 [(0, .ref b), (1, .ref (ad 0)), (2, .ref (ad 44)), (3, .ref (ad 61)), (4, .ref (ad 62)), (5, .int v5)] []) (v5 : Int32) (v6 : Int32) (vs1 : Int32) (vs2 : Int32) (σ : sM) (X : sX) (hf : b_L_law_626 L xs K28 v5 v6 vs1 vs2 σ X = some 1) : sGoL p l e s d0 m below meth c b D cy ad (n) X σ 626 [(0, .ref b), (1, .ref (ad 0)), (2, .ref (ad 44)), (3, .ref (ad 61)), (4, .ref (ad 62)), (5, .int v5), (6, .int v6)] [.int vs2, .int vs1, .ref (ad 44)] := by
  replace hf : (wthn (f_X5_poll vs1 vs2 σ) (fun vr325 σ325 => rthn (f_X5_thrown σ325) (fun vr326 => if vr326 = v6 then (if v6 = 0 then (if (lg_cmp (X.1 ((0 : Int32)).toNatClampNeg) (vr325.toInt64)) = 0 then (K28 (v5 + 7) σ325 X) else (some (0 : Int32))) else (K28 (v5 + 7) σ325 X)) else (some (0 : Int32))))) = some 1 := hf
  intro H locs ls cells slots h hl hc1 hc2
  have hx := B.1
  have hb := B.2.1
  obtain ⟨vr325, σ325, hq325, hf⟩ := wthn_some hf
  refine sRetC1 (g_runV (k := 44) (T := TX5) (N := 21) B h (ok_X5_poll B.2.2.2.2.2.2.2.2 B.2.2.2.2.2.2.1 _ _ vs1 vs2 hq325) cw_L_159 ⟨Nat.le_of_ble_eq_true rfl, Nat.le_of_ble_eq_true rfl⟩ (by decide) (M_row _) rfl rfl hl.1.symm rfl (Nat.le_of_ble_eq_true rfl) dL_law_626 ⟨lw_c0 hc1, lw_s0 hc2⟩) h (fun H locs h => ?_)
  refine lv_istore (lv' := [(7, .int vr325), (0, .ref b), (1, .ref (ad 0)), (2, .ref (ad 44)), (3, .ref (ad 61)), (4, .ref (ad 62)), (5, .int v5), (6, .int v6)]) hx hb dL_law_629 hl (by decide) rfl (fun ls hl => ?_)
  refine lv_aload_n hx hb dL_law_631 rfl (lv_at hl 3 rfl) ?_
  obtain ⟨vr326, hq326, hf⟩ := rthn_some hf
  refine sRetC1 (g_runV (k := 44) (T := TX5) (N := 21) B h (ok_X5_thrown B.2.2.2.2.2.2.2.2 B.2.2.2.2.2.2.1 _ _  hq326) cw_L_139 ⟨Nat.le_of_ble_eq_true rfl, Nat.le_of_ble_eq_true rfl⟩ (by decide) (M_row _) rfl rfl hl.1.symm rfl (Nat.le_of_ble_eq_true rfl) dL_law_632 ⟨lw_c0 hc1, lw_s0 hc2⟩) h (fun H locs h => ?_)
  refine lv_iload hx hb dL_law_635 (lv_at hl 7 rfl) ?_
  refine lv_icmp_eq (tgt := 642) hx hb dL_law_637 (by decide) (fun c327 => ?_) (fun c327 => ?_)
  · rw [if_pos c327] at hf
    refine lv_iload hx hb dL_law_642 (lv_at hl 7 rfl) ?_
    refine lv_if_ne (tgt := 659) hx hb dL_law_644 (by decide) (fun c328 => ?_) (fun c328 => ?_)
    · rw [if_neg c328] at hf
      refine lv_goto (tgt := 2729) hx hb dL_law_659 (by decide) ?_
      refine lv_iinc (v := (v5 + 7)) (lv' := [(5, .int (v5 + 7)), (7, .int vr325), (0, .ref b), (1, .ref (ad 0)), (2, .ref (ad 44)), (3, .ref (ad 61)), (4, .ref (ad 62)), (6, .int v6)]) hx hb dL_law_2729 hl (k := 6) rfl rfl (by decide) rfl (fun ls hl => ?_)
      refine lv_goto (tgt := 28) hx hb dL_law_2732 (by decide) ?_
      exact hK28 _ _ _ hf _ _ _ _ _ h (lv_sub hl [2, 3, 4, 5, 6, 0] rfl) hc1 hc2
    · rw [if_pos c328] at hf
      refine lv_aload_n hx hb dL_law_647 rfl (lv_at hl 4 rfl) ?_
      refine lv_iconst (v := (0 : Int32)) hx hb dL_law_648 (by decide) ?_
      refine g_lald B h (i := (0 : Int32)) (inb_in (n := 1) (by decide)) dL_law_649 ?_
      refine lv_iload hx hb dL_law_650 (lv_at hl 0 rfl) ?_
      refine lv_i2l (v := (vr325.toInt64)) hx hb dL_law_652 rfl ?_
      refine W.lcmp hx hb dL_law_653 ?_
      refine lv_if_eq (tgt := 659) hx hb dL_law_654 (by decide) (fun c329 => ?_) (fun c329 => ?_)
      · rw [if_pos c329] at hf
        refine lv_goto (tgt := 2729) hx hb dL_law_659 (by decide) ?_
        refine lv_iinc (v := (v5 + 7)) (lv' := [(5, .int (v5 + 7)), (7, .int vr325), (0, .ref b), (1, .ref (ad 0)), (2, .ref (ad 44)), (3, .ref (ad 61)), (4, .ref (ad 62)), (6, .int v6)]) hx hb dL_law_2729 hl (k := 6) rfl rfl (by decide) rfl (fun ls hl => ?_)
        refine lv_goto (tgt := 28) hx hb dL_law_2732 (by decide) ?_
        exact hK28 _ _ _ hf _ _ _ _ _ h (lv_sub hl [2, 3, 4, 5, 6, 0] rfl) hc1 hc2
      · rw [if_neg c329] at hf
        refine lv_iconst (v := (0 : Int32)) hx hb dL_law_657 (by decide) ?_
        exact absurd hf (by decide)
  · rw [if_neg c327] at hf
    refine lv_iconst (v := (0 : Int32)) hx hb dL_law_640 (by decide) ?_
    exact absurd hf (by decide)
set_option maxHeartbeats 8000000 in
set_option maxRecDepth 100000 in
theorem k_L_law_599 {p : Program} {l : Launch} {e : Env} {s : State} {d0 : Drawn} {m : MethodId} {below : List Frame} {meth : Method} {c : Code} {b L : Nat} {xs : Nat → Int32} {D : va_G} {cy : Nat → ClassId} {ad : Nat → Nat} (C : lwC s d0 b L xs ad) (B : sB p l (s.setDrawn d0) m meth c #[Value.ref b] code 9 RL D cy ad) (hr : meth.sig.returnType = ret) {n : Nat} {K28 : Int32 → sM → sX → Option Int32} (hK28 : ∀ (v5 : Int32) (σ : sM) (X : sX), K28 v5 σ X = some 1 → sGoL p l e s d0 m below meth c b D cy ad (n) X σ 28 [(0, .ref b), (1, .ref (ad 0)), (2, .ref (ad 44)), (3, .ref (ad 61)), (4, .ref (ad 62)), (5, .int v5)] []) (v5 : Int32) (vs1 : Int32) (vs2 : Int32) (σ : sM) (X : sX) (hf : b_L_law_599 L xs K28 v5 vs1 vs2 σ X = some 1) : sGoL p l e s d0 m below meth c b D cy ad (n + 1) X σ 599 [(0, .ref b), (1, .ref (ad 0)), (2, .ref (ad 44)), (3, .ref (ad 61)), (4, .ref (ad 62)), (5, .int v5)] [.int vs2, .int vs1, .ref (ad 0)] := by
  replace hf : (lthn (f_L_poll vs1 vs2 σ X) (fun vr293 σ293 X293 => chk (inb (v5 + (1 : Int32)) L) (chk (inb (v5 + (2 : Int32)) L) (if (xs ((v5 + (2 : Int32))).toNatClampNeg) = 0 then (b_L_law_626 L xs K28 v5 vr293 (xs ((v5 + (1 : Int32))).toNatClampNeg) (0 : Int32) σ293 X293) else (b_L_law_626 L xs K28 v5 vr293 (xs ((v5 + (1 : Int32))).toNatClampNeg) (1 : Int32) σ293 X293))))) = some 1 := hf
  intro H locs ls cells slots h hl hc1 hc2
  have hx := B.1
  have hb := B.2.1
  refine lv_aload_n hx hb dL_law_599 rfl (lv_at hl 3 rfl) ?_
  obtain ⟨vr293, σ293, X293, hq293, hf⟩ := lthn_some hf
  refine sRetC (g_runH B h (ok_L_poll B.2.2.2.2.2.2.2.2 B.2.2.2.2.2.2.1 _ _ vs1 vs2 hq293) cw_L_157 ⟨Nat.le_of_ble_eq_true rfl, Nat.le_of_ble_eq_true rfl⟩ rfl hl.1.symm rfl (Nat.le_of_ble_eq_true rfl) dL_law_600 ⟨lw_c1 hc1, lw_s1 hc2⟩) h (fun H locs h => ?_)
  replace hc1 := lw_c2 hc1
  replace hc2 := lw_s2 hc2
  refine lv_istore (lv' := [(6, .int vr293), (0, .ref b), (1, .ref (ad 0)), (2, .ref (ad 44)), (3, .ref (ad 61)), (4, .ref (ad 62)), (5, .int v5)]) hx hb dL_law_603 hl (by decide) rfl (fun ls hl => ?_)
  refine lv_aload_n hx hb dL_law_605 rfl (lv_at hl 3 rfl) ?_
  refine lv_aload_n hx hb dL_law_606 rfl (lv_at hl 1 rfl) ?_
  refine lv_iload hx hb dL_law_607 (lv_at hl 6 rfl) ?_
  refine lv_iconst (v := (1 : Int32)) hx hb dL_law_609 (by decide) ?_
  refine lv_iadd hx hb dL_law_610 ?_
  obtain ⟨c294, hf⟩ := chk_some hf
  refine va_sld hx hb C.1 C.2.1 C.2.2.1 h.2 (inb_in c294) dL_law_611 ?_
  refine lv_aload_n hx hb dL_law_612 rfl (lv_at hl 1 rfl) ?_
  refine lv_iload hx hb dL_law_613 (lv_at hl 6 rfl) ?_
  refine lv_iconst (v := (2 : Int32)) hx hb dL_law_615 (by decide) ?_
  refine lv_iadd hx hb dL_law_616 ?_
  obtain ⟨c295, hf⟩ := chk_some hf
  refine va_sld hx hb C.1 C.2.1 C.2.2.1 h.2 (inb_in c295) dL_law_617 ?_
  refine lv_if_eq (tgt := 625) hx hb dL_law_618 (by decide) (fun c296 => ?_) (fun c296 => ?_)
  · rw [if_pos c296] at hf
    refine lv_iconst (v := (0 : Int32)) hx hb dL_law_625 (by decide) ?_
    exact k_L_law_626 C B hr hK28 _ _ _ _ _ _ hf _ _ _ _ _ h (lv_sub hl [1, 2, 3, 4, 5, 6, 0] rfl) hc1 hc2
  · rw [if_neg c296] at hf
    refine lv_iconst (v := (1 : Int32)) hx hb dL_law_621 (by decide) ?_
    refine lv_goto (tgt := 626) hx hb dL_law_622 (by decide) ?_
    exact k_L_law_626 C B hr hK28 _ _ _ _ _ _ hf _ _ _ _ _ h (lv_sub hl [1, 2, 3, 4, 5, 6, 0] rfl) hc1 hc2
set_option maxHeartbeats 8000000 in
set_option maxRecDepth 100000 in
theorem k_L_law_754 {p : Program} {l : Launch} {e : Env} {s : State} {d0 : Drawn} {m : MethodId} {below : List Frame} {meth : Method} {c : Code} {b L : Nat} {xs : Nat → Int32} {D : va_G} {cy : Nat → ClassId} {ad : Nat → Nat} (C : lwC s d0 b L xs ad) (B : sB p l (s.setDrawn d0) m meth c #[Value.ref b] code 9 RL D cy ad) (hr : meth.sig.returnType = ret) {n : Nat} {K28 : Int32 → sM → sX → Option Int32} (hK28 : ∀ (v5 : Int32) (σ : sM) (X : sX), K28 v5 σ X = some 1 → sGoL p l e s d0 m below meth c b D cy ad (n) X σ 28 [(0, .ref b), (1, .ref (ad 0)), (2, .ref (ad 44)), (3, .ref (ad 61)), (4, .ref (ad 62)), (5, .int v5)] []) (v5 : Int32) (v6 : Int32) (vs1 : Int32) (vs2 : Int32) (σ : sM) (X : sX) (hf : b_L_law_754 L xs K28 v5 v6 vs1 vs2 σ X = some 1) : sGoL p l e s d0 m below meth c b D cy ad (n) X σ 754 [(0, .ref b), (1, .ref (ad 0)), (2, .ref (ad 44)), (3, .ref (ad 61)), (4, .ref (ad 62)), (5, .int v5), (6, .int v6)] [.int vs2, .int vs1, .ref (ad 44)] := by
  replace hf : (wthn (f_X5_drain vs1 vs2 σ) (fun vr330 σ330 => rthn (f_X5_thrown σ330) (fun vr331 => if vr331 = v6 then (if v6 = 0 then (if (lg_cmp (X.1 ((0 : Int32)).toNatClampNeg) (vr330.toInt64)) = 0 then (K28 (v5 + 7) σ330 X) else (some (0 : Int32))) else (K28 (v5 + 7) σ330 X)) else (some (0 : Int32))))) = some 1 := hf
  intro H locs ls cells slots h hl hc1 hc2
  have hx := B.1
  have hb := B.2.1
  obtain ⟨vr330, σ330, hq330, hf⟩ := wthn_some hf
  refine sRetC1 (g_runV (k := 44) (T := TX5) (N := 21) B h (ok_X5_drain B.2.2.2.2.2.2.2.2 B.2.2.2.2.2.2.1 _ _ vs1 vs2 hq330) cw_L_166 ⟨Nat.le_of_ble_eq_true rfl, Nat.le_of_ble_eq_true rfl⟩ (by decide) (M_row _) rfl rfl hl.1.symm rfl (Nat.le_of_ble_eq_true rfl) dL_law_754 ⟨lw_c0 hc1, lw_s0 hc2⟩) h (fun H locs h => ?_)
  refine lv_istore (lv' := [(7, .int vr330), (0, .ref b), (1, .ref (ad 0)), (2, .ref (ad 44)), (3, .ref (ad 61)), (4, .ref (ad 62)), (5, .int v5), (6, .int v6)]) hx hb dL_law_757 hl (by decide) rfl (fun ls hl => ?_)
  refine lv_aload_n hx hb dL_law_759 rfl (lv_at hl 3 rfl) ?_
  obtain ⟨vr331, hq331, hf⟩ := rthn_some hf
  refine sRetC1 (g_runV (k := 44) (T := TX5) (N := 21) B h (ok_X5_thrown B.2.2.2.2.2.2.2.2 B.2.2.2.2.2.2.1 _ _  hq331) cw_L_139 ⟨Nat.le_of_ble_eq_true rfl, Nat.le_of_ble_eq_true rfl⟩ (by decide) (M_row _) rfl rfl hl.1.symm rfl (Nat.le_of_ble_eq_true rfl) dL_law_760 ⟨lw_c0 hc1, lw_s0 hc2⟩) h (fun H locs h => ?_)
  refine lv_iload hx hb dL_law_763 (lv_at hl 7 rfl) ?_
  refine lv_icmp_eq (tgt := 770) hx hb dL_law_765 (by decide) (fun c332 => ?_) (fun c332 => ?_)
  · rw [if_pos c332] at hf
    refine lv_iload hx hb dL_law_770 (lv_at hl 7 rfl) ?_
    refine lv_if_ne (tgt := 787) hx hb dL_law_772 (by decide) (fun c333 => ?_) (fun c333 => ?_)
    · rw [if_neg c333] at hf
      refine lv_goto (tgt := 2729) hx hb dL_law_787 (by decide) ?_
      refine lv_iinc (v := (v5 + 7)) (lv' := [(5, .int (v5 + 7)), (7, .int vr330), (0, .ref b), (1, .ref (ad 0)), (2, .ref (ad 44)), (3, .ref (ad 61)), (4, .ref (ad 62)), (6, .int v6)]) hx hb dL_law_2729 hl (k := 6) rfl rfl (by decide) rfl (fun ls hl => ?_)
      refine lv_goto (tgt := 28) hx hb dL_law_2732 (by decide) ?_
      exact hK28 _ _ _ hf _ _ _ _ _ h (lv_sub hl [2, 3, 4, 5, 6, 0] rfl) hc1 hc2
    · rw [if_pos c333] at hf
      refine lv_aload_n hx hb dL_law_775 rfl (lv_at hl 4 rfl) ?_
      refine lv_iconst (v := (0 : Int32)) hx hb dL_law_776 (by decide) ?_
      refine g_lald B h (i := (0 : Int32)) (inb_in (n := 1) (by decide)) dL_law_777 ?_
      refine lv_iload hx hb dL_law_778 (lv_at hl 0 rfl) ?_
      refine lv_i2l (v := (vr330.toInt64)) hx hb dL_law_780 rfl ?_
      refine W.lcmp hx hb dL_law_781 ?_
      refine lv_if_eq (tgt := 787) hx hb dL_law_782 (by decide) (fun c334 => ?_) (fun c334 => ?_)
      · rw [if_pos c334] at hf
        refine lv_goto (tgt := 2729) hx hb dL_law_787 (by decide) ?_
        refine lv_iinc (v := (v5 + 7)) (lv' := [(5, .int (v5 + 7)), (7, .int vr330), (0, .ref b), (1, .ref (ad 0)), (2, .ref (ad 44)), (3, .ref (ad 61)), (4, .ref (ad 62)), (6, .int v6)]) hx hb dL_law_2729 hl (k := 6) rfl rfl (by decide) rfl (fun ls hl => ?_)
        refine lv_goto (tgt := 28) hx hb dL_law_2732 (by decide) ?_
        exact hK28 _ _ _ hf _ _ _ _ _ h (lv_sub hl [2, 3, 4, 5, 6, 0] rfl) hc1 hc2
      · rw [if_neg c334] at hf
        refine lv_iconst (v := (0 : Int32)) hx hb dL_law_785 (by decide) ?_
        exact absurd hf (by decide)
  · rw [if_neg c332] at hf
    refine lv_iconst (v := (0 : Int32)) hx hb dL_law_768 (by decide) ?_
    exact absurd hf (by decide)
set_option maxHeartbeats 8000000 in
set_option maxRecDepth 100000 in
theorem k_L_law_727 {p : Program} {l : Launch} {e : Env} {s : State} {d0 : Drawn} {m : MethodId} {below : List Frame} {meth : Method} {c : Code} {b L : Nat} {xs : Nat → Int32} {D : va_G} {cy : Nat → ClassId} {ad : Nat → Nat} (C : lwC s d0 b L xs ad) (B : sB p l (s.setDrawn d0) m meth c #[Value.ref b] code 9 RL D cy ad) (hr : meth.sig.returnType = ret) {n : Nat} {K28 : Int32 → sM → sX → Option Int32} (hK28 : ∀ (v5 : Int32) (σ : sM) (X : sX), K28 v5 σ X = some 1 → sGoL p l e s d0 m below meth c b D cy ad (n) X σ 28 [(0, .ref b), (1, .ref (ad 0)), (2, .ref (ad 44)), (3, .ref (ad 61)), (4, .ref (ad 62)), (5, .int v5)] []) (v5 : Int32) (vs1 : Int32) (vs2 : Int32) (σ : sM) (X : sX) (hf : b_L_law_727 L xs K28 v5 vs1 vs2 σ X = some 1) : sGoL p l e s d0 m below meth c b D cy ad (n + 1) X σ 727 [(0, .ref b), (1, .ref (ad 0)), (2, .ref (ad 44)), (3, .ref (ad 61)), (4, .ref (ad 62)), (5, .int v5)] [.int vs2, .int vs1, .ref (ad 0)] := by
  replace hf : (lthn (f_L_drain vs1 vs2 σ X) (fun vr297 σ297 X297 => chk (inb (v5 + (1 : Int32)) L) (chk (inb (v5 + (2 : Int32)) L) (if (xs ((v5 + (2 : Int32))).toNatClampNeg) = 0 then (b_L_law_754 L xs K28 v5 vr297 (xs ((v5 + (1 : Int32))).toNatClampNeg) (0 : Int32) σ297 X297) else (b_L_law_754 L xs K28 v5 vr297 (xs ((v5 + (1 : Int32))).toNatClampNeg) (1 : Int32) σ297 X297))))) = some 1 := hf
  intro H locs ls cells slots h hl hc1 hc2
  have hx := B.1
  have hb := B.2.1
  refine lv_aload_n hx hb dL_law_727 rfl (lv_at hl 3 rfl) ?_
  obtain ⟨vr297, σ297, X297, hq297, hf⟩ := lthn_some hf
  refine sRetC (g_runH B h (ok_L_drain B.2.2.2.2.2.2.2.2 B.2.2.2.2.2.2.1 _ _ vs1 vs2 hq297) cw_L_164 ⟨Nat.le_of_ble_eq_true rfl, Nat.le_of_ble_eq_true rfl⟩ rfl hl.1.symm rfl (Nat.le_of_ble_eq_true rfl) dL_law_728 ⟨lw_c1 hc1, lw_s1 hc2⟩) h (fun H locs h => ?_)
  replace hc1 := lw_c2 hc1
  replace hc2 := lw_s2 hc2
  refine lv_istore (lv' := [(6, .int vr297), (0, .ref b), (1, .ref (ad 0)), (2, .ref (ad 44)), (3, .ref (ad 61)), (4, .ref (ad 62)), (5, .int v5)]) hx hb dL_law_731 hl (by decide) rfl (fun ls hl => ?_)
  refine lv_aload_n hx hb dL_law_733 rfl (lv_at hl 3 rfl) ?_
  refine lv_aload_n hx hb dL_law_734 rfl (lv_at hl 1 rfl) ?_
  refine lv_iload hx hb dL_law_735 (lv_at hl 6 rfl) ?_
  refine lv_iconst (v := (1 : Int32)) hx hb dL_law_737 (by decide) ?_
  refine lv_iadd hx hb dL_law_738 ?_
  obtain ⟨c298, hf⟩ := chk_some hf
  refine va_sld hx hb C.1 C.2.1 C.2.2.1 h.2 (inb_in c298) dL_law_739 ?_
  refine lv_aload_n hx hb dL_law_740 rfl (lv_at hl 1 rfl) ?_
  refine lv_iload hx hb dL_law_741 (lv_at hl 6 rfl) ?_
  refine lv_iconst (v := (2 : Int32)) hx hb dL_law_743 (by decide) ?_
  refine lv_iadd hx hb dL_law_744 ?_
  obtain ⟨c299, hf⟩ := chk_some hf
  refine va_sld hx hb C.1 C.2.1 C.2.2.1 h.2 (inb_in c299) dL_law_745 ?_
  refine lv_if_eq (tgt := 753) hx hb dL_law_746 (by decide) (fun c300 => ?_) (fun c300 => ?_)
  · rw [if_pos c300] at hf
    refine lv_iconst (v := (0 : Int32)) hx hb dL_law_753 (by decide) ?_
    exact k_L_law_754 C B hr hK28 _ _ _ _ _ _ hf _ _ _ _ _ h (lv_sub hl [1, 2, 3, 4, 5, 6, 0] rfl) hc1 hc2
  · rw [if_neg c300] at hf
    refine lv_iconst (v := (1 : Int32)) hx hb dL_law_749 (by decide) ?_
    refine lv_goto (tgt := 754) hx hb dL_law_750 (by decide) ?_
    exact k_L_law_754 C B hr hK28 _ _ _ _ _ _ hf _ _ _ _ _ h (lv_sub hl [1, 2, 3, 4, 5, 6, 0] rfl) hc1 hc2
set_option maxHeartbeats 8000000 in
set_option maxRecDepth 100000 in
theorem k_L_law_962 {p : Program} {l : Launch} {e : Env} {s : State} {d0 : Drawn} {m : MethodId} {below : List Frame} {meth : Method} {c : Code} {b L : Nat} {xs : Nat → Int32} {D : va_G} {cy : Nat → ClassId} {ad : Nat → Nat} (C : lwC s d0 b L xs ad) (B : sB p l (s.setDrawn d0) m meth c #[Value.ref b] code 9 RL D cy ad) (hr : meth.sig.returnType = ret) {n : Nat} {K28 : Int32 → sM → sX → Option Int32} (hK28 : ∀ (v5 : Int32) (σ : sM) (X : sX), K28 v5 σ X = some 1 → sGoL p l e s d0 m below meth c b D cy ad (n) X σ 28 [(0, .ref b), (1, .ref (ad 0)), (2, .ref (ad 44)), (3, .ref (ad 61)), (4, .ref (ad 62)), (5, .int v5)] []) (v5 : Int32) (v6 : Int32) (vs1 : Int32) (vs2 : Int32) (vs3 : Int32) (σ : sM) (X : sX) (hf : b_L_law_962 L xs K28 v5 v6 vs1 vs2 vs3 σ X = some 1) : sGoL p l e s d0 m below meth c b D cy ad (n) X σ 962 [(0, .ref b), (1, .ref (ad 0)), (2, .ref (ad 44)), (3, .ref (ad 61)), (4, .ref (ad 62)), (5, .int v5), (6, .int v6)] [.int vs3, .int vs2, .int vs1, .ref (ad 44)] := by
  replace hf : (wthn (f_X5_keyAt vs1 vs2 vs3 σ) (fun vr335 σ335 => rthn (f_X5_thrown σ335) (fun vr336 => if vr336 = v6 then (if v6 = 0 then (if (lg_cmp (X.1 ((0 : Int32)).toNatClampNeg) (vr335.toInt64)) = 0 then (K28 (v5 + 7) σ335 X) else (some (0 : Int32))) else (K28 (v5 + 7) σ335 X)) else (some (0 : Int32))))) = some 1 := hf
  intro H locs ls cells slots h hl hc1 hc2
  have hx := B.1
  have hb := B.2.1
  obtain ⟨vr335, σ335, hq335, hf⟩ := wthn_some hf
  refine sRetC1 (g_runV (k := 44) (T := TX5) (N := 21) B h (ok_X5_keyAt B.2.2.2.2.2.2.2.2 B.2.2.2.2.2.2.1 _ _ vs1 vs2 vs3 hq335) cw_L_177 ⟨Nat.le_of_ble_eq_true rfl, Nat.le_of_ble_eq_true rfl⟩ (by decide) (M_row _) rfl rfl hl.1.symm rfl (Nat.le_of_ble_eq_true rfl) dL_law_962 ⟨lw_c0 hc1, lw_s0 hc2⟩) h (fun H locs h => ?_)
  refine lv_istore (lv' := [(7, .int vr335), (0, .ref b), (1, .ref (ad 0)), (2, .ref (ad 44)), (3, .ref (ad 61)), (4, .ref (ad 62)), (5, .int v5), (6, .int v6)]) hx hb dL_law_965 hl (by decide) rfl (fun ls hl => ?_)
  refine lv_aload_n hx hb dL_law_967 rfl (lv_at hl 3 rfl) ?_
  obtain ⟨vr336, hq336, hf⟩ := rthn_some hf
  refine sRetC1 (g_runV (k := 44) (T := TX5) (N := 21) B h (ok_X5_thrown B.2.2.2.2.2.2.2.2 B.2.2.2.2.2.2.1 _ _  hq336) cw_L_139 ⟨Nat.le_of_ble_eq_true rfl, Nat.le_of_ble_eq_true rfl⟩ (by decide) (M_row _) rfl rfl hl.1.symm rfl (Nat.le_of_ble_eq_true rfl) dL_law_968 ⟨lw_c0 hc1, lw_s0 hc2⟩) h (fun H locs h => ?_)
  refine lv_iload hx hb dL_law_971 (lv_at hl 7 rfl) ?_
  refine lv_icmp_eq (tgt := 978) hx hb dL_law_973 (by decide) (fun c337 => ?_) (fun c337 => ?_)
  · rw [if_pos c337] at hf
    refine lv_iload hx hb dL_law_978 (lv_at hl 7 rfl) ?_
    refine lv_if_ne (tgt := 995) hx hb dL_law_980 (by decide) (fun c338 => ?_) (fun c338 => ?_)
    · rw [if_neg c338] at hf
      refine lv_goto (tgt := 2729) hx hb dL_law_995 (by decide) ?_
      refine lv_iinc (v := (v5 + 7)) (lv' := [(5, .int (v5 + 7)), (7, .int vr335), (0, .ref b), (1, .ref (ad 0)), (2, .ref (ad 44)), (3, .ref (ad 61)), (4, .ref (ad 62)), (6, .int v6)]) hx hb dL_law_2729 hl (k := 6) rfl rfl (by decide) rfl (fun ls hl => ?_)
      refine lv_goto (tgt := 28) hx hb dL_law_2732 (by decide) ?_
      exact hK28 _ _ _ hf _ _ _ _ _ h (lv_sub hl [2, 3, 4, 5, 6, 0] rfl) hc1 hc2
    · rw [if_pos c338] at hf
      refine lv_aload_n hx hb dL_law_983 rfl (lv_at hl 4 rfl) ?_
      refine lv_iconst (v := (0 : Int32)) hx hb dL_law_984 (by decide) ?_
      refine g_lald B h (i := (0 : Int32)) (inb_in (n := 1) (by decide)) dL_law_985 ?_
      refine lv_iload hx hb dL_law_986 (lv_at hl 0 rfl) ?_
      refine lv_i2l (v := (vr335.toInt64)) hx hb dL_law_988 rfl ?_
      refine W.lcmp hx hb dL_law_989 ?_
      refine lv_if_eq (tgt := 995) hx hb dL_law_990 (by decide) (fun c339 => ?_) (fun c339 => ?_)
      · rw [if_pos c339] at hf
        refine lv_goto (tgt := 2729) hx hb dL_law_995 (by decide) ?_
        refine lv_iinc (v := (v5 + 7)) (lv' := [(5, .int (v5 + 7)), (7, .int vr335), (0, .ref b), (1, .ref (ad 0)), (2, .ref (ad 44)), (3, .ref (ad 61)), (4, .ref (ad 62)), (6, .int v6)]) hx hb dL_law_2729 hl (k := 6) rfl rfl (by decide) rfl (fun ls hl => ?_)
        refine lv_goto (tgt := 28) hx hb dL_law_2732 (by decide) ?_
        exact hK28 _ _ _ hf _ _ _ _ _ h (lv_sub hl [2, 3, 4, 5, 6, 0] rfl) hc1 hc2
      · rw [if_neg c339] at hf
        refine lv_iconst (v := (0 : Int32)) hx hb dL_law_993 (by decide) ?_
        exact absurd hf (by decide)
  · rw [if_neg c337] at hf
    refine lv_iconst (v := (0 : Int32)) hx hb dL_law_976 (by decide) ?_
    exact absurd hf (by decide)
set_option maxHeartbeats 8000000 in
set_option maxRecDepth 100000 in
theorem k_L_law_929 {p : Program} {l : Launch} {e : Env} {s : State} {d0 : Drawn} {m : MethodId} {below : List Frame} {meth : Method} {c : Code} {b L : Nat} {xs : Nat → Int32} {D : va_G} {cy : Nat → ClassId} {ad : Nat → Nat} (C : lwC s d0 b L xs ad) (B : sB p l (s.setDrawn d0) m meth c #[Value.ref b] code 9 RL D cy ad) (hr : meth.sig.returnType = ret) {n : Nat} {K28 : Int32 → sM → sX → Option Int32} (hK28 : ∀ (v5 : Int32) (σ : sM) (X : sX), K28 v5 σ X = some 1 → sGoL p l e s d0 m below meth c b D cy ad (n) X σ 28 [(0, .ref b), (1, .ref (ad 0)), (2, .ref (ad 44)), (3, .ref (ad 61)), (4, .ref (ad 62)), (5, .int v5)] []) (v5 : Int32) (vs1 : Int32) (vs2 : Int32) (vs3 : Int32) (σ : sM) (X : sX) (hf : b_L_law_929 L xs K28 v5 vs1 vs2 vs3 σ X = some 1) : sGoL p l e s d0 m below meth c b D cy ad (n + 1) X σ 929 [(0, .ref b), (1, .ref (ad 0)), (2, .ref (ad 44)), (3, .ref (ad 61)), (4, .ref (ad 62)), (5, .int v5)] [.int vs3, .int vs2, .int vs1, .ref (ad 0)] := by
  replace hf : (lthn (f_L_keyAt vs1 vs2 vs3 σ X) (fun vr301 σ301 X301 => chk (inb (v5 + (1 : Int32)) L) (chk (inb (v5 + (2 : Int32)) L) (chk (inb (v5 + (3 : Int32)) L) (if (xs ((v5 + (3 : Int32))).toNatClampNeg) = 0 then (b_L_law_962 L xs K28 v5 vr301 (xs ((v5 + (1 : Int32))).toNatClampNeg) (xs ((v5 + (2 : Int32))).toNatClampNeg) (0 : Int32) σ301 X301) else (b_L_law_962 L xs K28 v5 vr301 (xs ((v5 + (1 : Int32))).toNatClampNeg) (xs ((v5 + (2 : Int32))).toNatClampNeg) (1 : Int32) σ301 X301)))))) = some 1 := hf
  intro H locs ls cells slots h hl hc1 hc2
  have hx := B.1
  have hb := B.2.1
  refine lv_aload_n hx hb dL_law_929 rfl (lv_at hl 3 rfl) ?_
  obtain ⟨vr301, σ301, X301, hq301, hf⟩ := lthn_some hf
  refine sRetC (g_runH B h (ok_L_keyAt B.2.2.2.2.2.2.2.2 B.2.2.2.2.2.2.1 _ _ vs1 vs2 vs3 hq301) cw_L_174 ⟨Nat.le_of_ble_eq_true rfl, Nat.le_of_ble_eq_true rfl⟩ rfl hl.1.symm rfl (Nat.le_of_ble_eq_true rfl) dL_law_930 ⟨lw_c1 hc1, lw_s1 hc2⟩) h (fun H locs h => ?_)
  replace hc1 := lw_c2 hc1
  replace hc2 := lw_s2 hc2
  refine lv_istore (lv' := [(6, .int vr301), (0, .ref b), (1, .ref (ad 0)), (2, .ref (ad 44)), (3, .ref (ad 61)), (4, .ref (ad 62)), (5, .int v5)]) hx hb dL_law_933 hl (by decide) rfl (fun ls hl => ?_)
  refine lv_aload_n hx hb dL_law_935 rfl (lv_at hl 3 rfl) ?_
  refine lv_aload_n hx hb dL_law_936 rfl (lv_at hl 1 rfl) ?_
  refine lv_iload hx hb dL_law_937 (lv_at hl 6 rfl) ?_
  refine lv_iconst (v := (1 : Int32)) hx hb dL_law_939 (by decide) ?_
  refine lv_iadd hx hb dL_law_940 ?_
  obtain ⟨c302, hf⟩ := chk_some hf
  refine va_sld hx hb C.1 C.2.1 C.2.2.1 h.2 (inb_in c302) dL_law_941 ?_
  refine lv_aload_n hx hb dL_law_942 rfl (lv_at hl 1 rfl) ?_
  refine lv_iload hx hb dL_law_943 (lv_at hl 6 rfl) ?_
  refine lv_iconst (v := (2 : Int32)) hx hb dL_law_945 (by decide) ?_
  refine lv_iadd hx hb dL_law_946 ?_
  obtain ⟨c303, hf⟩ := chk_some hf
  refine va_sld hx hb C.1 C.2.1 C.2.2.1 h.2 (inb_in c303) dL_law_947 ?_
  refine lv_aload_n hx hb dL_law_948 rfl (lv_at hl 1 rfl) ?_
  refine lv_iload hx hb dL_law_949 (lv_at hl 6 rfl) ?_
  refine lv_iconst (v := (3 : Int32)) hx hb dL_law_951 (by decide) ?_
  refine lv_iadd hx hb dL_law_952 ?_
  obtain ⟨c304, hf⟩ := chk_some hf
  refine va_sld hx hb C.1 C.2.1 C.2.2.1 h.2 (inb_in c304) dL_law_953 ?_
  refine lv_if_eq (tgt := 961) hx hb dL_law_954 (by decide) (fun c305 => ?_) (fun c305 => ?_)
  · rw [if_pos c305] at hf
    refine lv_iconst (v := (0 : Int32)) hx hb dL_law_961 (by decide) ?_
    exact k_L_law_962 C B hr hK28 _ _ _ _ _ _ _ hf _ _ _ _ _ h (lv_sub hl [1, 2, 3, 4, 5, 6, 0] rfl) hc1 hc2
  · rw [if_neg c305] at hf
    refine lv_iconst (v := (1 : Int32)) hx hb dL_law_957 (by decide) ?_
    refine lv_goto (tgt := 962) hx hb dL_law_958 (by decide) ?_
    exact k_L_law_962 C B hr hK28 _ _ _ _ _ _ _ hf _ _ _ _ _ h (lv_sub hl [1, 2, 3, 4, 5, 6, 0] rfl) hc1 hc2
set_option maxHeartbeats 8000000 in
set_option maxRecDepth 100000 in
theorem k_L_law_28 {p : Program} {l : Launch} {e : Env} {s : State} {d0 : Drawn} {m : MethodId} {below : List Frame} {meth : Method} {c : Code} {b L : Nat} {xs : Nat → Int32} {D : va_G} {cy : Nat → ClassId} {ad : Nat → Nat} (C : lwC s d0 b L xs ad) (B : sB p l (s.setDrawn d0) m meth c #[Value.ref b] code 9 RL D cy ad) (hr : meth.sig.returnType = ret) : ∀ (n : Nat) (v5 : Int32) (σ : sM) (X : sX), b_L_law_28 L xs n v5 σ X = some 1 → sGoL p l e s d0 m below meth c b D cy ad (n) X σ 28 [(0, .ref b), (1, .ref (ad 0)), (2, .ref (ad 44)), (3, .ref (ad 61)), (4, .ref (ad 62)), (5, .int v5)] [] := by
  intro n
  induction n with
  | zero =>
    intro v5 σ X hf
    exact nomatch (show none = some (1 : Int32) from hf)
  | succ n ih =>
    intro v5 σ X hf
    replace hf : (if ((Int32.ofNat L) - (7 : Int32)) < v5 then (some (1 : Int32)) else (chk (inb v5 L) (rthn (some ((xs (v5).toNatClampNeg) &&& (63 : Int32))) (fun vx3 => if vx3 = (0 : Int32) then (chk (inb (v5 + (1 : Int32)) L) (chk (inb (v5 + (2 : Int32)) L) (chk (inb (v5 + (3 : Int32)) L) (lthn (f_L_put (xs ((v5 + (1 : Int32))).toNatClampNeg) (xs ((v5 + (2 : Int32))).toNatClampNeg) (xs ((v5 + (3 : Int32))).toNatClampNeg) σ X) (fun vr7 σ7 X7 => chk (inb (v5 + (1 : Int32)) L) (chk (inb (v5 + (2 : Int32)) L) (chk (inb (v5 + (3 : Int32)) L) (wthn (f_X5_put (xs ((v5 + (1 : Int32))).toNatClampNeg) (xs ((v5 + (2 : Int32))).toNatClampNeg) (xs ((v5 + (3 : Int32))).toNatClampNeg) σ7) (fun vr11 σ11 => rthn (f_X5_thrown σ11) (fun vr12 => if vr12 = vr7 then (if vr7 = 0 then (if (lg_cmp (X7.1 ((0 : Int32)).toNatClampNeg) (vr11.toInt64)) = 0 then (b_L_law_28 L xs n (v5 + 7) σ11 X7) else (some (0 : Int32))) else (b_L_law_28 L xs n (v5 + 7) σ11 X7)) else (some (0 : Int32)))))))))))) else if vx3 = (1 : Int32) then (chk (inb (v5 + (1 : Int32)) L) (chk (inb (v5 + (2 : Int32)) L) (lthn (f_L_value (xs ((v5 + (1 : Int32))).toNatClampNeg) (xs ((v5 + (2 : Int32))).toNatClampNeg) σ X) (fun vr18 σ18 X18 => chk (inb (v5 + (1 : Int32)) L) (chk (inb (v5 + (2 : Int32)) L) (wthn (f_X5_value (xs ((v5 + (1 : Int32))).toNatClampNeg) (xs ((v5 + (2 : Int32))).toNatClampNeg) σ18) (fun vr21 σ21 => rthn (f_X5_thrown σ21) (fun vr22 => if vr22 = vr18 then (if vr18 = 0 then (if (lg_cmp (X18.1 ((0 : Int32)).toNatClampNeg) (vr21.toInt64)) = 0 then (b_L_law_28 L xs n (v5 + 7) σ21 X18) else (some (0 : Int32))) else (b_L_law_28 L xs n (v5 + 7) σ21 X18)) else (some (0 : Int32)))))))))) else if vx3 = (2 : Int32) then (chk (inb (v5 + (1 : Int32)) L) (chk (inb (v5 + (2 : Int32)) L) (lthn (f_L_remove (xs ((v5 + (1 : Int32))).toNatClampNeg) (xs ((v5 + (2 : Int32))).toNatClampNeg) σ X) (fun vr28 σ28 X28 => chk (inb (v5 + (1 : Int32)) L) (chk (inb (v5 + (2 : Int32)) L) (wthn (f_X5_remove (xs ((v5 + (1 : Int32))).toNatClampNeg) (xs ((v5 + (2 : Int32))).toNatClampNeg) σ28) (fun vr31 σ31 => rthn (f_X5_thrown σ31) (fun vr32 => if vr32 = vr28 then (if vr28 = 0 then (if (lg_cmp (X28.1 ((0 : Int32)).toNatClampNeg) (vr31.toInt64)) = 0 then (b_L_law_28 L xs n (v5 + 7) σ31 X28) else (some (0 : Int32))) else (b_L_law_28 L xs n (v5 + 7) σ31 X28)) else (some (0 : Int32)))))))))) else if vx3 = (3 : Int32) then (chk (inb (v5 + (1 : Int32)) L) (chk (inb (v5 + (2 : Int32)) L) (chk (inb (v5 + (3 : Int32)) L) (lthn (f_L_near (xs ((v5 + (1 : Int32))).toNatClampNeg) (xs ((v5 + (2 : Int32))).toNatClampNeg) (((xs ((v5 + (3 : Int32))).toNatClampNeg).toUInt32 % 65536).toInt32) σ X) (fun vr39 σ39 X39 => chk (inb (v5 + (1 : Int32)) L) (chk (inb (v5 + (2 : Int32)) L) (chk (inb (v5 + (3 : Int32)) L) (wthn (f_X5_near (xs ((v5 + (1 : Int32))).toNatClampNeg) (xs ((v5 + (2 : Int32))).toNatClampNeg) (((xs ((v5 + (3 : Int32))).toNatClampNeg).toUInt32 % 65536).toInt32) σ39) (fun vr43 σ43 => rthn (f_X5_thrown σ43) (fun vr44 => if vr44 = vr39 then (if vr39 = 0 then (if (lg_cmp (X39.1 ((0 : Int32)).toNatClampNeg) (vr43.toInt64)) = 0 then (b_L_law_28 L xs n (v5 + 7) σ43 X39) else (some (0 : Int32))) else (b_L_law_28 L xs n (v5 + 7) σ43 X39)) else (some (0 : Int32)))))))))))) else if vx3 = (4 : Int32) then (chk (inb (v5 + (1 : Int32)) L) (chk (inb (v5 + (2 : Int32)) L) (if (xs ((v5 + (2 : Int32))).toNatClampNeg) = 0 then (b_L_law_515 L xs (b_L_law_28 L xs n) v5 (xs ((v5 + (1 : Int32))).toNatClampNeg) (0 : Int32) σ X) else (b_L_law_515 L xs (b_L_law_28 L xs n) v5 (xs ((v5 + (1 : Int32))).toNatClampNeg) (1 : Int32) σ X)))) else if vx3 = (5 : Int32) then (chk (inb (v5 + (1 : Int32)) L) (chk (inb (v5 + (2 : Int32)) L) (if (xs ((v5 + (2 : Int32))).toNatClampNeg) = 0 then (b_L_law_599 L xs (b_L_law_28 L xs n) v5 (xs ((v5 + (1 : Int32))).toNatClampNeg) (0 : Int32) σ X) else (b_L_law_599 L xs (b_L_law_28 L xs n) v5 (xs ((v5 + (1 : Int32))).toNatClampNeg) (1 : Int32) σ X)))) else if vx3 = (6 : Int32) then (lthn (f_L_polled σ X) (fun vr54 σ54 X54 => wthn (f_X5_polled σ54) (fun vr55 σ55 => rthn (f_X5_thrown σ55) (fun vr56 => if vr56 = vr54 then (if vr54 = 0 then (if (lg_cmp (X54.1 ((0 : Int32)).toNatClampNeg) (vr55.toInt64)) = 0 then (b_L_law_28 L xs n (v5 + 7) σ55 X54) else (some (0 : Int32))) else (b_L_law_28 L xs n (v5 + 7) σ55 X54)) else (some (0 : Int32)))))) else if vx3 = (7 : Int32) then (chk (inb (v5 + (1 : Int32)) L) (chk (inb (v5 + (2 : Int32)) L) (if (xs ((v5 + (2 : Int32))).toNatClampNeg) = 0 then (b_L_law_727 L xs (b_L_law_28 L xs n) v5 (xs ((v5 + (1 : Int32))).toNatClampNeg) (0 : Int32) σ X) else (b_L_law_727 L xs (b_L_law_28 L xs n) v5 (xs ((v5 + (1 : Int32))).toNatClampNeg) (1 : Int32) σ X)))) else if vx3 = (8 : Int32) then (chk (inb (v5 + (1 : Int32)) L) (lthn (f_L_drained (xs ((v5 + (1 : Int32))).toNatClampNeg) σ X) (fun vr64 σ64 X64 => chk (inb (v5 + (1 : Int32)) L) (wthn (f_X5_drained (xs ((v5 + (1 : Int32))).toNatClampNeg) σ64) (fun vr66 σ66 => rthn (f_X5_thrown σ66) (fun vr67 => if vr67 = vr64 then (if vr64 = 0 then (if (lg_cmp (X64.1 ((0 : Int32)).toNatClampNeg) (vr66.toInt64)) = 0 then (b_L_law_28 L xs n (v5 + 7) σ66 X64) else (some (0 : Int32))) else (b_L_law_28 L xs n (v5 + 7) σ66 X64)) else (some (0 : Int32)))))))) else if vx3 = (9 : Int32) then (chk (inb (v5 + (1 : Int32)) L) (lthn (f_L_size (xs ((v5 + (1 : Int32))).toNatClampNeg) σ X) (fun vr72 σ72 X72 => chk (inb (v5 + (1 : Int32)) L) (wthn (f_X5_size (xs ((v5 + (1 : Int32))).toNatClampNeg) σ72) (fun vr74 σ74 => rthn (f_X5_thrown σ74) (fun vr75 => if vr75 = vr72 then (if vr72 = 0 then (if (lg_cmp (X72.1 ((0 : Int32)).toNatClampNeg) (vr74.toInt64)) = 0 then (b_L_law_28 L xs n (v5 + 7) σ74 X72) else (some (0 : Int32))) else (b_L_law_28 L xs n (v5 + 7) σ74 X72)) else (some (0 : Int32)))))))) else if vx3 = (10 : Int32) then (chk (inb (v5 + (1 : Int32)) L) (chk (inb (v5 + (2 : Int32)) L) (chk (inb (v5 + (3 : Int32)) L) (if (xs ((v5 + (3 : Int32))).toNatClampNeg) = 0 then (b_L_law_929 L xs (b_L_law_28 L xs n) v5 (xs ((v5 + (1 : Int32))).toNatClampNeg) (xs ((v5 + (2 : Int32))).toNatClampNeg) (0 : Int32) σ X) else (b_L_law_929 L xs (b_L_law_28 L xs n) v5 (xs ((v5 + (1 : Int32))).toNatClampNeg) (xs ((v5 + (2 : Int32))).toNatClampNeg) (1 : Int32) σ X))))) else if vx3 = (11 : Int32) then (chk (inb (v5 + (1 : Int32)) L) (lthn (f_L_mark (xs ((v5 + (1 : Int32))).toNatClampNeg) σ X) (fun vr84 σ84 X84 => chk (inb (v5 + (1 : Int32)) L) (wthn (f_X5_mark (xs ((v5 + (1 : Int32))).toNatClampNeg) σ84) (fun vr86 σ86 => rthn (f_X5_thrown σ86) (fun vr87 => if vr87 = vr84 then (if vr84 = 0 then (if (lg_cmp (X84.1 ((0 : Int32)).toNatClampNeg) (vr86.toInt64)) = 0 then (b_L_law_28 L xs n (v5 + 7) σ86 X84) else (some (0 : Int32))) else (b_L_law_28 L xs n (v5 + 7) σ86 X84)) else (some (0 : Int32)))))))) else if vx3 = (12 : Int32) then (chk (inb (v5 + (1 : Int32)) L) (chk (inb (v5 + (2 : Int32)) L) (lthn (f_L_isLike (xs ((v5 + (1 : Int32))).toNatClampNeg) (xs ((v5 + (2 : Int32))).toNatClampNeg) σ X) (fun vr93 σ93 X93 => chk (inb (v5 + (1 : Int32)) L) (chk (inb (v5 + (2 : Int32)) L) (wthn (f_X5_isLike (xs ((v5 + (1 : Int32))).toNatClampNeg) (xs ((v5 + (2 : Int32))).toNatClampNeg) σ93) (fun vr96 σ96 => rthn (f_X5_thrown σ96) (fun vr97 => if vr97 = vr93 then (if vr93 = 0 then (if vr96 = 0 then (if (lg_cmp (X93.1 ((0 : Int32)).toNatClampNeg) (0 : Int64)) = 0 then (b_L_law_28 L xs n (v5 + 7) σ96 X93) else (some (0 : Int32))) else (if (lg_cmp (X93.1 ((0 : Int32)).toNatClampNeg) (1 : Int64)) = 0 then (b_L_law_28 L xs n (v5 + 7) σ96 X93) else (some (0 : Int32)))) else (b_L_law_28 L xs n (v5 + 7) σ96 X93)) else (some (0 : Int32)))))))))) else if vx3 = (13 : Int32) then (chk (inb (v5 + (1 : Int32)) L) (chk (inb (v5 + (2 : Int32)) L) (chk (inb (v5 + (3 : Int32)) L) (chk (inb (v5 + (4 : Int32)) L) (if (xs ((v5 + (4 : Int32))).toNatClampNeg) = 0 then (b_L_law_1162 L xs (b_L_law_28 L xs n) v5 (xs ((v5 + (1 : Int32))).toNatClampNeg) (xs ((v5 + (2 : Int32))).toNatClampNeg) (xs ((v5 + (3 : Int32))).toNatClampNeg) (0 : Int32) σ X) else (b_L_law_1162 L xs (b_L_law_28 L xs n) v5 (xs ((v5 + (1 : Int32))).toNatClampNeg) (xs ((v5 + (2 : Int32))).toNatClampNeg) (xs ((v5 + (3 : Int32))).toNatClampNeg) (1 : Int32) σ X)))))) else if vx3 = (14 : Int32) then (chk (inb (v5 + (1 : Int32)) L) (chk (inb (v5 + (2 : Int32)) L) (chk (inb (v5 + (3 : Int32)) L) (if (xs ((v5 + (3 : Int32))).toNatClampNeg) = 0 then (b_L_law_1306 L xs (b_L_law_28 L xs n) v5 (xs ((v5 + (1 : Int32))).toNatClampNeg) (xs ((v5 + (2 : Int32))).toNatClampNeg) (0 : Int32) σ X) else (b_L_law_1306 L xs (b_L_law_28 L xs n) v5 (xs ((v5 + (1 : Int32))).toNatClampNeg) (xs ((v5 + (2 : Int32))).toNatClampNeg) (1 : Int32) σ X))))) else if vx3 = (15 : Int32) then (chk (inb (v5 + (1 : Int32)) L) (chk (inb (v5 + (2 : Int32)) L) (chk (inb (v5 + (3 : Int32)) L) (lthn (f_L_viewPut (xs ((v5 + (1 : Int32))).toNatClampNeg) (xs ((v5 + (2 : Int32))).toNatClampNeg) (xs ((v5 + (3 : Int32))).toNatClampNeg) σ X) (fun vr115 σ115 X115 => chk (inb (v5 + (1 : Int32)) L) (chk (inb (v5 + (2 : Int32)) L) (chk (inb (v5 + (3 : Int32)) L) (wthn (f_X5_viewPut (xs ((v5 + (1 : Int32))).toNatClampNeg) (xs ((v5 + (2 : Int32))).toNatClampNeg) (xs ((v5 + (3 : Int32))).toNatClampNeg) σ115) (fun vr119 σ119 => rthn (f_X5_thrown σ119) (fun vr120 => if vr120 = vr115 then (if vr115 = 0 then (if (lg_cmp (X115.1 ((0 : Int32)).toNatClampNeg) (vr119.toInt64)) = 0 then (b_L_law_28 L xs n (v5 + 7) σ119 X115) else (some (0 : Int32))) else (b_L_law_28 L xs n (v5 + 7) σ119 X115)) else (some (0 : Int32)))))))))))) else if vx3 = (16 : Int32) then (chk (inb (v5 + (1 : Int32)) L) (chk (inb (v5 + (2 : Int32)) L) (lthn (f_L_viewRemove (xs ((v5 + (1 : Int32))).toNatClampNeg) (xs ((v5 + (2 : Int32))).toNatClampNeg) σ X) (fun vr126 σ126 X126 => chk (inb (v5 + (1 : Int32)) L) (chk (inb (v5 + (2 : Int32)) L) (wthn (f_X5_viewRemove (xs ((v5 + (1 : Int32))).toNatClampNeg) (xs ((v5 + (2 : Int32))).toNatClampNeg) σ126) (fun vr129 σ129 => rthn (f_X5_thrown σ129) (fun vr130 => if vr130 = vr126 then (if vr126 = 0 then (if vr129 = 0 then (if (lg_cmp (X126.1 ((0 : Int32)).toNatClampNeg) (0 : Int64)) = 0 then (b_L_law_28 L xs n (v5 + 7) σ129 X126) else (some (0 : Int32))) else (if (lg_cmp (X126.1 ((0 : Int32)).toNatClampNeg) (1 : Int64)) = 0 then (b_L_law_28 L xs n (v5 + 7) σ129 X126) else (some (0 : Int32)))) else (b_L_law_28 L xs n (v5 + 7) σ129 X126)) else (some (0 : Int32)))))))))) else if vx3 = (17 : Int32) then (chk (inb (v5 + (1 : Int32)) L) (chk (inb (v5 + (2 : Int32)) L) (chk (inb (v5 + (3 : Int32)) L) (lthn (f_L_viewNear (xs ((v5 + (1 : Int32))).toNatClampNeg) (xs ((v5 + (2 : Int32))).toNatClampNeg) (((xs ((v5 + (3 : Int32))).toNatClampNeg).toUInt32 % 65536).toInt32) σ X) (fun vr139 σ139 X139 => chk (inb (v5 + (1 : Int32)) L) (chk (inb (v5 + (2 : Int32)) L) (chk (inb (v5 + (3 : Int32)) L) (wthn (f_X5_viewNear (xs ((v5 + (1 : Int32))).toNatClampNeg) (xs ((v5 + (2 : Int32))).toNatClampNeg) (((xs ((v5 + (3 : Int32))).toNatClampNeg).toUInt32 % 65536).toInt32) σ139) (fun vr143 σ143 => rthn (f_X5_thrown σ143) (fun vr144 => if vr144 = vr139 then (if vr139 = 0 then (if (lg_cmp (X139.1 ((0 : Int32)).toNatClampNeg) (vr143.toInt64)) = 0 then (b_L_law_28 L xs n (v5 + 7) σ143 X139) else (some (0 : Int32))) else (b_L_law_28 L xs n (v5 + 7) σ143 X139)) else (some (0 : Int32)))))))))))) else if vx3 = (18 : Int32) then (chk (inb (v5 + (1 : Int32)) L) (chk (inb (v5 + (2 : Int32)) L) (if (xs ((v5 + (2 : Int32))).toNatClampNeg) = 0 then (b_L_law_1673 L xs (b_L_law_28 L xs n) v5 (xs ((v5 + (1 : Int32))).toNatClampNeg) (0 : Int32) σ X) else (b_L_law_1673 L xs (b_L_law_28 L xs n) v5 (xs ((v5 + (1 : Int32))).toNatClampNeg) (1 : Int32) σ X)))) else if vx3 = (19 : Int32) then (chk (inb (v5 + (1 : Int32)) L) (chk (inb (v5 + (2 : Int32)) L) (if (xs ((v5 + (2 : Int32))).toNatClampNeg) = 0 then (b_L_law_1757 L xs (b_L_law_28 L xs n) v5 (xs ((v5 + (1 : Int32))).toNatClampNeg) (0 : Int32) σ X) else (b_L_law_1757 L xs (b_L_law_28 L xs n) v5 (xs ((v5 + (1 : Int32))).toNatClampNeg) (1 : Int32) σ X)))) else if vx3 = (20 : Int32) then (chk (inb (v5 + (1 : Int32)) L) (lthn (f_L_viewClear (xs ((v5 + (1 : Int32))).toNatClampNeg) σ X) (fun vr155 σ155 X155 => chk (inb (v5 + (1 : Int32)) L) (wthn (f_X5_viewClear (xs ((v5 + (1 : Int32))).toNatClampNeg) σ155) (fun vr157 σ157 => rthn (f_X5_thrown σ157) (fun vr158 => if vr158 = vr155 then (if vr155 = 0 then (if (lg_cmp (X155.1 ((0 : Int32)).toNatClampNeg) (vr157.toInt64)) = 0 then (b_L_law_28 L xs n (v5 + 7) σ157 X155) else (some (0 : Int32))) else (b_L_law_28 L xs n (v5 + 7) σ157 X155)) else (some (0 : Int32)))))))) else if vx3 = (21 : Int32) then (chk (inb (v5 + (1 : Int32)) L) (lthn (f_L_viewSize (xs ((v5 + (1 : Int32))).toNatClampNeg) σ X) (fun vr163 σ163 X163 => chk (inb (v5 + (1 : Int32)) L) (wthn (f_X5_viewSize (xs ((v5 + (1 : Int32))).toNatClampNeg) σ163) (fun vr165 σ165 => rthn (f_X5_thrown σ165) (fun vr166 => if vr166 = vr163 then (if vr163 = 0 then (if (lg_cmp (X163.1 ((0 : Int32)).toNatClampNeg) (vr165.toInt64)) = 0 then (b_L_law_28 L xs n (v5 + 7) σ165 X163) else (some (0 : Int32))) else (b_L_law_28 L xs n (v5 + 7) σ165 X163)) else (some (0 : Int32)))))))) else if vx3 = (22 : Int32) then (chk (inb (v5 + (1 : Int32)) L) (chk (inb (v5 + (2 : Int32)) L) (lthn (f_L_lies (xs ((v5 + (1 : Int32))).toNatClampNeg) (xs ((v5 + (2 : Int32))).toNatClampNeg) σ X) (fun vr172 σ172 X172 => chk (inb (v5 + (1 : Int32)) L) (chk (inb (v5 + (2 : Int32)) L) (wthn (f_X5_lies (xs ((v5 + (1 : Int32))).toNatClampNeg) (xs ((v5 + (2 : Int32))).toNatClampNeg) σ172) (fun vr175 σ175 => rthn (f_X5_thrown σ175) (fun vr176 => if vr176 = vr172 then (if vr172 = 0 then (if vr175 = 0 then (if (lg_cmp (X172.1 ((0 : Int32)).toNatClampNeg) (0 : Int64)) = 0 then (b_L_law_28 L xs n (v5 + 7) σ175 X172) else (some (0 : Int32))) else (if (lg_cmp (X172.1 ((0 : Int32)).toNatClampNeg) (1 : Int64)) = 0 then (b_L_law_28 L xs n (v5 + 7) σ175 X172) else (some (0 : Int32)))) else (b_L_law_28 L xs n (v5 + 7) σ175 X172)) else (some (0 : Int32)))))))))) else if vx3 = (23 : Int32) then (chk (inb (v5 + (1 : Int32)) L) (chk (inb (v5 + (2 : Int32)) L) (chk (inb (v5 + (3 : Int32)) L) (chk (inb (v5 + (4 : Int32)) L) (lthn (f_L_step (xs ((v5 + (1 : Int32))).toNatClampNeg) (((xs ((v5 + (2 : Int32))).toNatClampNeg).toUInt32 % 65536).toInt32) (xs ((v5 + (3 : Int32))).toNatClampNeg) (xs ((v5 + (4 : Int32))).toNatClampNeg) σ X) (fun vr186 σ186 X186 => chk (inb (v5 + (1 : Int32)) L) (chk (inb (v5 + (2 : Int32)) L) (chk (inb (v5 + (3 : Int32)) L) (chk (inb (v5 + (4 : Int32)) L) (wthn (f_X5_step (xs ((v5 + (1 : Int32))).toNatClampNeg) (((xs ((v5 + (2 : Int32))).toNatClampNeg).toUInt32 % 65536).toInt32) (xs ((v5 + (3 : Int32))).toNatClampNeg) (xs ((v5 + (4 : Int32))).toNatClampNeg) σ186) (fun vr191 σ191 => rthn (f_X5_thrown σ191) (fun vr192 => if vr192 = vr186 then (if vr186 = 0 then (if (lg_cmp (X186.1 ((0 : Int32)).toNatClampNeg) (vr191.toInt64)) = 0 then (b_L_law_28 L xs n (v5 + 7) σ191 X186) else (some (0 : Int32))) else (b_L_law_28 L xs n (v5 + 7) σ191 X186)) else (some (0 : Int32)))))))))))))) else if vx3 = (24 : Int32) then (chk (inb (v5 + (1 : Int32)) L) (lthn (f_L_forget (xs ((v5 + (1 : Int32))).toNatClampNeg) σ X) (fun vr197 σ197 X197 => chk (inb (v5 + (1 : Int32)) L) (wthn (f_X5_forget (xs ((v5 + (1 : Int32))).toNatClampNeg) σ197) (fun vr199 σ199 => rthn (f_X5_thrown σ199) (fun vr200 => if vr200 = vr197 then (if vr197 = 0 then (if (lg_cmp (X197.1 ((0 : Int32)).toNatClampNeg) (vr199.toInt64)) = 0 then (b_L_law_28 L xs n (v5 + 7) σ199 X197) else (some (0 : Int32))) else (b_L_law_28 L xs n (v5 + 7) σ199 X197)) else (some (0 : Int32)))))))) else if vx3 = (25 : Int32) then (chk (inb (v5 + (1 : Int32)) L) (chk (inb (v5 + (2 : Int32)) L) (lthn (f_L_play (xs ((v5 + (1 : Int32))).toNatClampNeg) (xs ((v5 + (2 : Int32))).toNatClampNeg) σ X) (fun vr206 σ206 X206 => chk (inb (v5 + (1 : Int32)) L) (chk (inb (v5 + (2 : Int32)) L) (wthn (f_X5_play (xs ((v5 + (1 : Int32))).toNatClampNeg) (xs ((v5 + (2 : Int32))).toNatClampNeg) σ206) (fun vr209 σ209 => rthn (f_X5_thrown σ209) (fun vr210 => if vr210 = vr206 then (if vr206 = 0 then (if (lg_cmp (X206.1 ((0 : Int32)).toNatClampNeg) (vr209.toInt64)) = 0 then (b_L_law_28 L xs n (v5 + 7) σ209 X206) else (some (0 : Int32))) else (b_L_law_28 L xs n (v5 + 7) σ209 X206)) else (some (0 : Int32)))))))))) else if vx3 = (26 : Int32) then (chk (inb (v5 + (1 : Int32)) L) (chk (inb (v5 + (2 : Int32)) L) (chk (inb (v5 + (3 : Int32)) L) (chk (inb (v5 + (4 : Int32)) L) (lthn (f_L_playBoth (xs ((v5 + (1 : Int32))).toNatClampNeg) (xs ((v5 + (2 : Int32))).toNatClampNeg) (xs ((v5 + (3 : Int32))).toNatClampNeg) (xs ((v5 + (4 : Int32))).toNatClampNeg) σ X) (fun vr218 σ218 X218 => chk (inb (v5 + (1 : Int32)) L) (chk (inb (v5 + (2 : Int32)) L) (chk (inb (v5 + (3 : Int32)) L) (chk (inb (v5 + (4 : Int32)) L) (wthn (f_X5_playBoth (xs ((v5 + (1 : Int32))).toNatClampNeg) (xs ((v5 + (2 : Int32))).toNatClampNeg) (xs ((v5 + (3 : Int32))).toNatClampNeg) (xs ((v5 + (4 : Int32))).toNatClampNeg) σ218) (fun vr223 σ223 => rthn (f_X5_thrown σ223) (fun vr224 => if vr224 = vr218 then (if vr218 = 0 then (if (lg_cmp (X218.1 ((0 : Int32)).toNatClampNeg) (vr223.toInt64)) = 0 then (b_L_law_28 L xs n (v5 + 7) σ223 X218) else (some (0 : Int32))) else (b_L_law_28 L xs n (v5 + 7) σ223 X218)) else (some (0 : Int32)))))))))))))) else if vx3 = (27 : Int32) then (chk (inb (v5 + (1 : Int32)) L) (chk (inb (v5 + (2 : Int32)) L) (lthn (f_L_meet (xs ((v5 + (1 : Int32))).toNatClampNeg) (xs ((v5 + (2 : Int32))).toNatClampNeg) σ X) (fun vr230 σ230 X230 => chk (inb (v5 + (1 : Int32)) L) (chk (inb (v5 + (2 : Int32)) L) (wthn (f_X5_meet (xs ((v5 + (1 : Int32))).toNatClampNeg) (xs ((v5 + (2 : Int32))).toNatClampNeg) σ230) (fun vr233 σ233 => rthn (f_X5_thrown σ233) (fun vr234 => if vr234 = vr230 then (if vr230 = 0 then (if (lg_cmp (X230.1 ((0 : Int32)).toNatClampNeg) (vr233.toInt64)) = 0 then (b_L_law_28 L xs n (v5 + 7) σ233 X230) else (some (0 : Int32))) else (b_L_law_28 L xs n (v5 + 7) σ233 X230)) else (some (0 : Int32)))))))))) else if vx3 = (28 : Int32) then (chk (inb (v5 + (1 : Int32)) L) (chk (inb (v5 + (2 : Int32)) L) (chk (inb (v5 + (3 : Int32)) L) (lthn (f_L_opposite (xs ((v5 + (1 : Int32))).toNatClampNeg) (xs ((v5 + (2 : Int32))).toNatClampNeg) (xs ((v5 + (3 : Int32))).toNatClampNeg) σ X) (fun vr241 σ241 X241 => chk (inb (v5 + (1 : Int32)) L) (chk (inb (v5 + (2 : Int32)) L) (chk (inb (v5 + (3 : Int32)) L) (wthn (f_X5_opposite (xs ((v5 + (1 : Int32))).toNatClampNeg) (xs ((v5 + (2 : Int32))).toNatClampNeg) (xs ((v5 + (3 : Int32))).toNatClampNeg) σ241) (fun vr245 σ245 => rthn (f_X5_thrown σ245) (fun vr246 => if vr246 = vr241 then (if vr241 = 0 then (if (lg_cmp (X241.1 ((0 : Int32)).toNatClampNeg) (vr245.toInt64)) = 0 then (b_L_law_28 L xs n (v5 + 7) σ245 X241) else (some (0 : Int32))) else (b_L_law_28 L xs n (v5 + 7) σ245 X241)) else (some (0 : Int32)))))))))))) else if vx3 = (29 : Int32) then (chk (inb (v5 + (1 : Int32)) L) (chk (inb (v5 + (2 : Int32)) L) (chk (inb (v5 + (3 : Int32)) L) (lthn (f_L_combine (xs ((v5 + (1 : Int32))).toNatClampNeg) (xs ((v5 + (2 : Int32))).toNatClampNeg) (((xs ((v5 + (3 : Int32))).toNatClampNeg).toUInt32 % 65536).toInt32) σ X) (fun vr253 σ253 X253 => chk (inb (v5 + (1 : Int32)) L) (chk (inb (v5 + (2 : Int32)) L) (chk (inb (v5 + (3 : Int32)) L) (wthn (f_X5_combine (xs ((v5 + (1 : Int32))).toNatClampNeg) (xs ((v5 + (2 : Int32))).toNatClampNeg) (((xs ((v5 + (3 : Int32))).toNatClampNeg).toUInt32 % 65536).toInt32) σ253) (fun vr257 σ257 => rthn (f_X5_thrown σ257) (fun vr258 => if vr258 = vr253 then (if vr253 = 0 then (if (lg_cmp (X253.1 ((0 : Int32)).toNatClampNeg) (vr257.toInt64)) = 0 then (b_L_law_28 L xs n (v5 + 7) σ257 X253) else (some (0 : Int32))) else (b_L_law_28 L xs n (v5 + 7) σ257 X253)) else (some (0 : Int32)))))))))))) else if vx3 = (30 : Int32) then (chk (inb (v5 + (1 : Int32)) L) (lthn (f_L_fullShare (xs ((v5 + (1 : Int32))).toNatClampNeg) σ X) (fun vr263 σ263 X263 => chk (inb (v5 + (1 : Int32)) L) (wthn (f_X5_fullShare (xs ((v5 + (1 : Int32))).toNatClampNeg) σ263) (fun vr265 σ265 => rthn (f_X5_thrown σ265) (fun vr266 => if vr266 = vr263 then (if vr263 = 0 then (chk (nn64 (FP.f2d vr265)) (if (Op.cmpValue (FP.dcmp (X263.2 ((0 : Int32)).toNatClampNeg) (FP.f2d vr265)) .l) = 0 then (b_L_law_28 L xs n (v5 + 7) σ265 X263) else (if (Op.cmpValue (FP.dcmp (X263.2 ((0 : Int32)).toNatClampNeg) (X263.2 ((0 : Int32)).toNatClampNeg)) .l) = 0 then (some (0 : Int32)) else (if (Op.cmpValue (FP.fcmp vr265 vr265) .l) = 0 then (some (0 : Int32)) else (b_L_law_28 L xs n (v5 + 7) σ265 X263))))) else (b_L_law_28 L xs n (v5 + 7) σ265 X263)) else (some (0 : Int32)))))))) else if vx3 = (31 : Int32) then (chk (inb (v5 + (1 : Int32)) L) (lthn (f_L_meanKey (xs ((v5 + (1 : Int32))).toNatClampNeg) σ X) (fun vr274 σ274 X274 => chk (inb (v5 + (1 : Int32)) L) (wthn (f_X5_meanKey (xs ((v5 + (1 : Int32))).toNatClampNeg) σ274) (fun vr276 σ276 => rthn (f_X5_thrown σ276) (fun vr277 => if vr277 = vr274 then (if vr274 = 0 then (if (Op.cmpValue (FP.dcmp (X274.2 ((0 : Int32)).toNatClampNeg) vr276) .l) = 0 then (b_L_law_28 L xs n (v5 + 7) σ276 X274) else (if (Op.cmpValue (FP.dcmp (X274.2 ((0 : Int32)).toNatClampNeg) (X274.2 ((0 : Int32)).toNatClampNeg)) .l) = 0 then (some (0 : Int32)) else (if (Op.cmpValue (FP.dcmp vr276 vr276) .l) = 0 then (some (0 : Int32)) else (b_L_law_28 L xs n (v5 + 7) σ276 X274)))) else (b_L_law_28 L xs n (v5 + 7) σ276 X274)) else (some (0 : Int32)))))))) else if vx3 = (32 : Int32) then (rthn (f_X4_checksum σ) (fun vr283 => wthn (f_X5_checksum σ) (fun vr284 σ284 => if (lg_cmp vr283 vr284) = 0 then (b_L_law_28 L xs n (v5 + 7) σ284 X) else (some (0 : Int32))))) else if vx3 = (33 : Int32) then (wthn (f_X4_isSound σ) (fun vr286 σ286 => wthn (f_X5_isSound σ286) (fun vr287 σ287 => if vr286 = vr287 then (b_L_law_28 L xs n (v5 + 7) σ287 X) else (some (0 : Int32))))) else (b_L_law_28 L xs n (v5 + 7) σ X))))) = some 1 := hf
    intro H locs ls cells slots h hl hc1 hc2
    have hx := B.1
    have hb := B.2.1
    refine lv_iload hx hb dL_law_28 (lv_at hl 5 rfl) ?_
    refine lv_aload_n hx hb dL_law_30 rfl (lv_at hl 0 rfl) ?_
    refine va_slen hx hb C.1 C.2.1 C.2.2.1 h.2 dL_law_31 ?_
    refine lv_bipush (v := (7 : Int32)) hx hb dL_law_32 (by decide) ?_
    refine lv_isub hx hb dL_law_34 ?_
    refine lv_icmp_gt (tgt := 2735) hx hb dL_law_35 (by decide) (fun c1 => ?_) (fun c1 => ?_)
    · rw [if_pos c1] at hf
      refine lv_iconst (v := (1 : Int32)) hx hb dL_law_2735 (by decide) ?_
      exact lw_end C B hr h hc1 hc2 dL_law_2736
    · rw [if_neg c1] at hf
      refine lv_aload_n hx hb dL_law_38 rfl (lv_at hl 0 rfl) ?_
      refine lv_iload hx hb dL_law_39 (lv_at hl 5 rfl) ?_
      obtain ⟨c2, hf⟩ := chk_some hf
      refine va_sld hx hb C.1 C.2.1 C.2.2.1 h.2 (inb_in c2) dL_law_41 ?_
      refine lv_bipush (v := (63 : Int32)) hx hb dL_law_42 (by decide) ?_
      refine lv_iand hx hb dL_law_44 ?_
      obtain ⟨vx3, hq3, hf⟩ := rthn_some hf
      rw [Option.some.inj hq3]
      clear hq3
      by_cases e0 : vx3 = (0 : Int32)
      · rw [if_pos e0] at hf
        refine lv_tableIn (off := 151) (tgt := 196) hx hb dL_law_45 (by rw [e0]; decide) (by rw [e0]; decide) (by rw [e0]; rfl) (by decide) ?_
        refine lv_aload_n hx hb dL_law_196 rfl (lv_at hl 1 rfl) ?_
        refine lv_aload_n hx hb dL_law_197 rfl (lv_at hl 0 rfl) ?_
        refine lv_iload hx hb dL_law_198 (lv_at hl 5 rfl) ?_
        refine lv_iconst (v := (1 : Int32)) hx hb dL_law_200 (by decide) ?_
        refine lv_iadd hx hb dL_law_201 ?_
        obtain ⟨c4, hf⟩ := chk_some hf
        refine va_sld hx hb C.1 C.2.1 C.2.2.1 h.2 (inb_in c4) dL_law_202 ?_
        refine lv_aload_n hx hb dL_law_203 rfl (lv_at hl 0 rfl) ?_
        refine lv_iload hx hb dL_law_204 (lv_at hl 5 rfl) ?_
        refine lv_iconst (v := (2 : Int32)) hx hb dL_law_206 (by decide) ?_
        refine lv_iadd hx hb dL_law_207 ?_
        obtain ⟨c5, hf⟩ := chk_some hf
        refine va_sld hx hb C.1 C.2.1 C.2.2.1 h.2 (inb_in c5) dL_law_208 ?_
        refine lv_aload_n hx hb dL_law_209 rfl (lv_at hl 0 rfl) ?_
        refine lv_iload hx hb dL_law_210 (lv_at hl 5 rfl) ?_
        refine lv_iconst (v := (3 : Int32)) hx hb dL_law_212 (by decide) ?_
        refine lv_iadd hx hb dL_law_213 ?_
        obtain ⟨c6, hf⟩ := chk_some hf
        refine va_sld hx hb C.1 C.2.1 C.2.2.1 h.2 (inb_in c6) dL_law_214 ?_
        refine lv_aload_n hx hb dL_law_215 rfl (lv_at hl 3 rfl) ?_
        obtain ⟨vr7, σ7, X7, hq7, hf⟩ := lthn_some hf
        refine sRetC (g_runH B h (ok_L_put B.2.2.2.2.2.2.2.2 B.2.2.2.2.2.2.1 _ _ (xs ((v5 + (1 : Int32))).toNatClampNeg) (xs ((v5 + (2 : Int32))).toNatClampNeg) (xs ((v5 + (3 : Int32))).toNatClampNeg) hq7) cw_L_133 ⟨Nat.le_of_ble_eq_true rfl, Nat.le_of_ble_eq_true rfl⟩ rfl hl.1.symm rfl (Nat.le_of_ble_eq_true rfl) dL_law_216 ⟨lw_c1 hc1, lw_s1 hc2⟩) h (fun H locs h => ?_)
        replace hc1 := lw_c2 hc1
        replace hc2 := lw_s2 hc2
        refine lv_istore (lv' := [(6, .int vr7), (0, .ref b), (1, .ref (ad 0)), (2, .ref (ad 44)), (3, .ref (ad 61)), (4, .ref (ad 62)), (5, .int v5)]) hx hb dL_law_219 hl (by decide) rfl (fun ls hl => ?_)
        refine lv_aload_n hx hb dL_law_221 rfl (lv_at hl 3 rfl) ?_
        refine lv_aload_n hx hb dL_law_222 rfl (lv_at hl 1 rfl) ?_
        refine lv_iload hx hb dL_law_223 (lv_at hl 6 rfl) ?_
        refine lv_iconst (v := (1 : Int32)) hx hb dL_law_225 (by decide) ?_
        refine lv_iadd hx hb dL_law_226 ?_
        obtain ⟨c8, hf⟩ := chk_some hf
        refine va_sld hx hb C.1 C.2.1 C.2.2.1 h.2 (inb_in c8) dL_law_227 ?_
        refine lv_aload_n hx hb dL_law_228 rfl (lv_at hl 1 rfl) ?_
        refine lv_iload hx hb dL_law_229 (lv_at hl 6 rfl) ?_
        refine lv_iconst (v := (2 : Int32)) hx hb dL_law_231 (by decide) ?_
        refine lv_iadd hx hb dL_law_232 ?_
        obtain ⟨c9, hf⟩ := chk_some hf
        refine va_sld hx hb C.1 C.2.1 C.2.2.1 h.2 (inb_in c9) dL_law_233 ?_
        refine lv_aload_n hx hb dL_law_234 rfl (lv_at hl 1 rfl) ?_
        refine lv_iload hx hb dL_law_235 (lv_at hl 6 rfl) ?_
        refine lv_iconst (v := (3 : Int32)) hx hb dL_law_237 (by decide) ?_
        refine lv_iadd hx hb dL_law_238 ?_
        obtain ⟨c10, hf⟩ := chk_some hf
        refine va_sld hx hb C.1 C.2.1 C.2.2.1 h.2 (inb_in c10) dL_law_239 ?_
        obtain ⟨vr11, σ11, hq11, hf⟩ := wthn_some hf
        refine sRetC1 (g_runV (k := 44) (T := TX5) (N := 21) B h (ok_X5_put B.2.2.2.2.2.2.2.2 B.2.2.2.2.2.2.1 _ _ (xs ((v5 + (1 : Int32))).toNatClampNeg) (xs ((v5 + (2 : Int32))).toNatClampNeg) (xs ((v5 + (3 : Int32))).toNatClampNeg) hq11) cw_L_138 ⟨Nat.le_of_ble_eq_true rfl, Nat.le_of_ble_eq_true rfl⟩ (by decide) (M_row _) rfl rfl hl.1.symm rfl (Nat.le_of_ble_eq_true rfl) dL_law_240 ⟨lw_c0 hc1, lw_s0 hc2⟩) h (fun H locs h => ?_)
        refine lv_istore (lv' := [(7, .int vr11), (6, .int vr7), (0, .ref b), (1, .ref (ad 0)), (2, .ref (ad 44)), (3, .ref (ad 61)), (4, .ref (ad 62)), (5, .int v5)]) hx hb dL_law_243 hl (by decide) rfl (fun ls hl => ?_)
        refine lv_aload_n hx hb dL_law_245 rfl (lv_at hl 4 rfl) ?_
        obtain ⟨vr12, hq12, hf⟩ := rthn_some hf
        refine sRetC1 (g_runV (k := 44) (T := TX5) (N := 21) B h (ok_X5_thrown B.2.2.2.2.2.2.2.2 B.2.2.2.2.2.2.1 _ _  hq12) cw_L_139 ⟨Nat.le_of_ble_eq_true rfl, Nat.le_of_ble_eq_true rfl⟩ (by decide) (M_row _) rfl rfl hl.1.symm rfl (Nat.le_of_ble_eq_true rfl) dL_law_246 ⟨lw_c0 hc1, lw_s0 hc2⟩) h (fun H locs h => ?_)
        refine lv_iload hx hb dL_law_249 (lv_at hl 1 rfl) ?_
        refine lv_icmp_eq (tgt := 256) hx hb dL_law_251 (by decide) (fun c13 => ?_) (fun c13 => ?_)
        · rw [if_pos c13] at hf
          refine lv_iload hx hb dL_law_256 (lv_at hl 1 rfl) ?_
          refine lv_if_ne (tgt := 273) hx hb dL_law_258 (by decide) (fun c14 => ?_) (fun c14 => ?_)
          · rw [if_neg c14] at hf
            refine lv_goto (tgt := 2729) hx hb dL_law_273 (by decide) ?_
            refine lv_iinc (v := (v5 + 7)) (lv' := [(5, .int (v5 + 7)), (7, .int vr11), (6, .int vr7), (0, .ref b), (1, .ref (ad 0)), (2, .ref (ad 44)), (3, .ref (ad 61)), (4, .ref (ad 62))]) hx hb dL_law_2729 hl (k := 7) rfl rfl (by decide) rfl (fun ls hl => ?_)
            refine lv_goto (tgt := 28) hx hb dL_law_2732 (by decide) ?_
            exact ih _ _ _ hf _ _ _ _ _ h (lv_sub hl [3, 4, 5, 6, 7, 0] rfl) hc1 hc2
          · rw [if_pos c14] at hf
            refine lv_aload_n hx hb dL_law_261 rfl (lv_at hl 5 rfl) ?_
            refine lv_iconst (v := (0 : Int32)) hx hb dL_law_262 (by decide) ?_
            refine g_lald B h (i := (0 : Int32)) (inb_in (n := 1) (by decide)) dL_law_263 ?_
            refine lv_iload hx hb dL_law_264 (lv_at hl 0 rfl) ?_
            refine lv_i2l (v := (vr11.toInt64)) hx hb dL_law_266 rfl ?_
            refine W.lcmp hx hb dL_law_267 ?_
            refine lv_if_eq (tgt := 273) hx hb dL_law_268 (by decide) (fun c15 => ?_) (fun c15 => ?_)
            · rw [if_pos c15] at hf
              refine lv_goto (tgt := 2729) hx hb dL_law_273 (by decide) ?_
              refine lv_iinc (v := (v5 + 7)) (lv' := [(5, .int (v5 + 7)), (7, .int vr11), (6, .int vr7), (0, .ref b), (1, .ref (ad 0)), (2, .ref (ad 44)), (3, .ref (ad 61)), (4, .ref (ad 62))]) hx hb dL_law_2729 hl (k := 7) rfl rfl (by decide) rfl (fun ls hl => ?_)
              refine lv_goto (tgt := 28) hx hb dL_law_2732 (by decide) ?_
              exact ih _ _ _ hf _ _ _ _ _ h (lv_sub hl [3, 4, 5, 6, 7, 0] rfl) hc1 hc2
            · rw [if_neg c15] at hf
              refine lv_iconst (v := (0 : Int32)) hx hb dL_law_271 (by decide) ?_
              exact absurd hf (by decide)
        · rw [if_neg c13] at hf
          refine lv_iconst (v := (0 : Int32)) hx hb dL_law_254 (by decide) ?_
          exact absurd hf (by decide)
      rw [if_neg e0] at hf
      by_cases e1 : vx3 = (1 : Int32)
      · rw [if_pos e1] at hf
        refine lv_tableIn (off := 231) (tgt := 276) hx hb dL_law_45 (by rw [e1]; decide) (by rw [e1]; decide) (by rw [e1]; rfl) (by decide) ?_
        refine lv_aload_n hx hb dL_law_276 rfl (lv_at hl 1 rfl) ?_
        refine lv_aload_n hx hb dL_law_277 rfl (lv_at hl 0 rfl) ?_
        refine lv_iload hx hb dL_law_278 (lv_at hl 5 rfl) ?_
        refine lv_iconst (v := (1 : Int32)) hx hb dL_law_280 (by decide) ?_
        refine lv_iadd hx hb dL_law_281 ?_
        obtain ⟨c16, hf⟩ := chk_some hf
        refine va_sld hx hb C.1 C.2.1 C.2.2.1 h.2 (inb_in c16) dL_law_282 ?_
        refine lv_aload_n hx hb dL_law_283 rfl (lv_at hl 0 rfl) ?_
        refine lv_iload hx hb dL_law_284 (lv_at hl 5 rfl) ?_
        refine lv_iconst (v := (2 : Int32)) hx hb dL_law_286 (by decide) ?_
        refine lv_iadd hx hb dL_law_287 ?_
        obtain ⟨c17, hf⟩ := chk_some hf
        refine va_sld hx hb C.1 C.2.1 C.2.2.1 h.2 (inb_in c17) dL_law_288 ?_
        refine lv_aload_n hx hb dL_law_289 rfl (lv_at hl 3 rfl) ?_
        obtain ⟨vr18, σ18, X18, hq18, hf⟩ := lthn_some hf
        refine sRetC (g_runH B h (ok_L_value B.2.2.2.2.2.2.2.2 B.2.2.2.2.2.2.1 _ _ (xs ((v5 + (1 : Int32))).toNatClampNeg) (xs ((v5 + (2 : Int32))).toNatClampNeg) hq18) cw_L_142 ⟨Nat.le_of_ble_eq_true rfl, Nat.le_of_ble_eq_true rfl⟩ rfl hl.1.symm rfl (Nat.le_of_ble_eq_true rfl) dL_law_290 ⟨lw_c1 hc1, lw_s1 hc2⟩) h (fun H locs h => ?_)
        replace hc1 := lw_c2 hc1
        replace hc2 := lw_s2 hc2
        refine lv_istore (lv' := [(6, .int vr18), (0, .ref b), (1, .ref (ad 0)), (2, .ref (ad 44)), (3, .ref (ad 61)), (4, .ref (ad 62)), (5, .int v5)]) hx hb dL_law_293 hl (by decide) rfl (fun ls hl => ?_)
        refine lv_aload_n hx hb dL_law_295 rfl (lv_at hl 3 rfl) ?_
        refine lv_aload_n hx hb dL_law_296 rfl (lv_at hl 1 rfl) ?_
        refine lv_iload hx hb dL_law_297 (lv_at hl 6 rfl) ?_
        refine lv_iconst (v := (1 : Int32)) hx hb dL_law_299 (by decide) ?_
        refine lv_iadd hx hb dL_law_300 ?_
        obtain ⟨c19, hf⟩ := chk_some hf
        refine va_sld hx hb C.1 C.2.1 C.2.2.1 h.2 (inb_in c19) dL_law_301 ?_
        refine lv_aload_n hx hb dL_law_302 rfl (lv_at hl 1 rfl) ?_
        refine lv_iload hx hb dL_law_303 (lv_at hl 6 rfl) ?_
        refine lv_iconst (v := (2 : Int32)) hx hb dL_law_305 (by decide) ?_
        refine lv_iadd hx hb dL_law_306 ?_
        obtain ⟨c20, hf⟩ := chk_some hf
        refine va_sld hx hb C.1 C.2.1 C.2.2.1 h.2 (inb_in c20) dL_law_307 ?_
        obtain ⟨vr21, σ21, hq21, hf⟩ := wthn_some hf
        refine sRetC1 (g_runV (k := 44) (T := TX5) (N := 21) B h (ok_X5_value B.2.2.2.2.2.2.2.2 B.2.2.2.2.2.2.1 _ _ (xs ((v5 + (1 : Int32))).toNatClampNeg) (xs ((v5 + (2 : Int32))).toNatClampNeg) hq21) cw_L_145 ⟨Nat.le_of_ble_eq_true rfl, Nat.le_of_ble_eq_true rfl⟩ (by decide) (M_row _) rfl rfl hl.1.symm rfl (Nat.le_of_ble_eq_true rfl) dL_law_308 ⟨lw_c0 hc1, lw_s0 hc2⟩) h (fun H locs h => ?_)
        refine lv_istore (lv' := [(7, .int vr21), (6, .int vr18), (0, .ref b), (1, .ref (ad 0)), (2, .ref (ad 44)), (3, .ref (ad 61)), (4, .ref (ad 62)), (5, .int v5)]) hx hb dL_law_311 hl (by decide) rfl (fun ls hl => ?_)
        refine lv_aload_n hx hb dL_law_313 rfl (lv_at hl 4 rfl) ?_
        obtain ⟨vr22, hq22, hf⟩ := rthn_some hf
        refine sRetC1 (g_runV (k := 44) (T := TX5) (N := 21) B h (ok_X5_thrown B.2.2.2.2.2.2.2.2 B.2.2.2.2.2.2.1 _ _  hq22) cw_L_139 ⟨Nat.le_of_ble_eq_true rfl, Nat.le_of_ble_eq_true rfl⟩ (by decide) (M_row _) rfl rfl hl.1.symm rfl (Nat.le_of_ble_eq_true rfl) dL_law_314 ⟨lw_c0 hc1, lw_s0 hc2⟩) h (fun H locs h => ?_)
        refine lv_iload hx hb dL_law_317 (lv_at hl 1 rfl) ?_
        refine lv_icmp_eq (tgt := 324) hx hb dL_law_319 (by decide) (fun c23 => ?_) (fun c23 => ?_)
        · rw [if_pos c23] at hf
          refine lv_iload hx hb dL_law_324 (lv_at hl 1 rfl) ?_
          refine lv_if_ne (tgt := 341) hx hb dL_law_326 (by decide) (fun c24 => ?_) (fun c24 => ?_)
          · rw [if_neg c24] at hf
            refine lv_goto (tgt := 2729) hx hb dL_law_341 (by decide) ?_
            refine lv_iinc (v := (v5 + 7)) (lv' := [(5, .int (v5 + 7)), (7, .int vr21), (6, .int vr18), (0, .ref b), (1, .ref (ad 0)), (2, .ref (ad 44)), (3, .ref (ad 61)), (4, .ref (ad 62))]) hx hb dL_law_2729 hl (k := 7) rfl rfl (by decide) rfl (fun ls hl => ?_)
            refine lv_goto (tgt := 28) hx hb dL_law_2732 (by decide) ?_
            exact ih _ _ _ hf _ _ _ _ _ h (lv_sub hl [3, 4, 5, 6, 7, 0] rfl) hc1 hc2
          · rw [if_pos c24] at hf
            refine lv_aload_n hx hb dL_law_329 rfl (lv_at hl 5 rfl) ?_
            refine lv_iconst (v := (0 : Int32)) hx hb dL_law_330 (by decide) ?_
            refine g_lald B h (i := (0 : Int32)) (inb_in (n := 1) (by decide)) dL_law_331 ?_
            refine lv_iload hx hb dL_law_332 (lv_at hl 0 rfl) ?_
            refine lv_i2l (v := (vr21.toInt64)) hx hb dL_law_334 rfl ?_
            refine W.lcmp hx hb dL_law_335 ?_
            refine lv_if_eq (tgt := 341) hx hb dL_law_336 (by decide) (fun c25 => ?_) (fun c25 => ?_)
            · rw [if_pos c25] at hf
              refine lv_goto (tgt := 2729) hx hb dL_law_341 (by decide) ?_
              refine lv_iinc (v := (v5 + 7)) (lv' := [(5, .int (v5 + 7)), (7, .int vr21), (6, .int vr18), (0, .ref b), (1, .ref (ad 0)), (2, .ref (ad 44)), (3, .ref (ad 61)), (4, .ref (ad 62))]) hx hb dL_law_2729 hl (k := 7) rfl rfl (by decide) rfl (fun ls hl => ?_)
              refine lv_goto (tgt := 28) hx hb dL_law_2732 (by decide) ?_
              exact ih _ _ _ hf _ _ _ _ _ h (lv_sub hl [3, 4, 5, 6, 7, 0] rfl) hc1 hc2
            · rw [if_neg c25] at hf
              refine lv_iconst (v := (0 : Int32)) hx hb dL_law_339 (by decide) ?_
              exact absurd hf (by decide)
        · rw [if_neg c23] at hf
          refine lv_iconst (v := (0 : Int32)) hx hb dL_law_322 (by decide) ?_
          exact absurd hf (by decide)
      rw [if_neg e1] at hf
      by_cases e2 : vx3 = (2 : Int32)
      · rw [if_pos e2] at hf
        refine lv_tableIn (off := 299) (tgt := 344) hx hb dL_law_45 (by rw [e2]; decide) (by rw [e2]; decide) (by rw [e2]; rfl) (by decide) ?_
        refine lv_aload_n hx hb dL_law_344 rfl (lv_at hl 1 rfl) ?_
        refine lv_aload_n hx hb dL_law_345 rfl (lv_at hl 0 rfl) ?_
        refine lv_iload hx hb dL_law_346 (lv_at hl 5 rfl) ?_
        refine lv_iconst (v := (1 : Int32)) hx hb dL_law_348 (by decide) ?_
        refine lv_iadd hx hb dL_law_349 ?_
        obtain ⟨c26, hf⟩ := chk_some hf
        refine va_sld hx hb C.1 C.2.1 C.2.2.1 h.2 (inb_in c26) dL_law_350 ?_
        refine lv_aload_n hx hb dL_law_351 rfl (lv_at hl 0 rfl) ?_
        refine lv_iload hx hb dL_law_352 (lv_at hl 5 rfl) ?_
        refine lv_iconst (v := (2 : Int32)) hx hb dL_law_354 (by decide) ?_
        refine lv_iadd hx hb dL_law_355 ?_
        obtain ⟨c27, hf⟩ := chk_some hf
        refine va_sld hx hb C.1 C.2.1 C.2.2.1 h.2 (inb_in c27) dL_law_356 ?_
        refine lv_aload_n hx hb dL_law_357 rfl (lv_at hl 3 rfl) ?_
        obtain ⟨vr28, σ28, X28, hq28, hf⟩ := lthn_some hf
        refine sRetC (g_runH B h (ok_L_remove B.2.2.2.2.2.2.2.2 B.2.2.2.2.2.2.1 _ _ (xs ((v5 + (1 : Int32))).toNatClampNeg) (xs ((v5 + (2 : Int32))).toNatClampNeg) hq28) cw_L_146 ⟨Nat.le_of_ble_eq_true rfl, Nat.le_of_ble_eq_true rfl⟩ rfl hl.1.symm rfl (Nat.le_of_ble_eq_true rfl) dL_law_358 ⟨lw_c1 hc1, lw_s1 hc2⟩) h (fun H locs h => ?_)
        replace hc1 := lw_c2 hc1
        replace hc2 := lw_s2 hc2
        refine lv_istore (lv' := [(6, .int vr28), (0, .ref b), (1, .ref (ad 0)), (2, .ref (ad 44)), (3, .ref (ad 61)), (4, .ref (ad 62)), (5, .int v5)]) hx hb dL_law_361 hl (by decide) rfl (fun ls hl => ?_)
        refine lv_aload_n hx hb dL_law_363 rfl (lv_at hl 3 rfl) ?_
        refine lv_aload_n hx hb dL_law_364 rfl (lv_at hl 1 rfl) ?_
        refine lv_iload hx hb dL_law_365 (lv_at hl 6 rfl) ?_
        refine lv_iconst (v := (1 : Int32)) hx hb dL_law_367 (by decide) ?_
        refine lv_iadd hx hb dL_law_368 ?_
        obtain ⟨c29, hf⟩ := chk_some hf
        refine va_sld hx hb C.1 C.2.1 C.2.2.1 h.2 (inb_in c29) dL_law_369 ?_
        refine lv_aload_n hx hb dL_law_370 rfl (lv_at hl 1 rfl) ?_
        refine lv_iload hx hb dL_law_371 (lv_at hl 6 rfl) ?_
        refine lv_iconst (v := (2 : Int32)) hx hb dL_law_373 (by decide) ?_
        refine lv_iadd hx hb dL_law_374 ?_
        obtain ⟨c30, hf⟩ := chk_some hf
        refine va_sld hx hb C.1 C.2.1 C.2.2.1 h.2 (inb_in c30) dL_law_375 ?_
        obtain ⟨vr31, σ31, hq31, hf⟩ := wthn_some hf
        refine sRetC1 (g_runV (k := 44) (T := TX5) (N := 21) B h (ok_X5_remove B.2.2.2.2.2.2.2.2 B.2.2.2.2.2.2.1 _ _ (xs ((v5 + (1 : Int32))).toNatClampNeg) (xs ((v5 + (2 : Int32))).toNatClampNeg) hq31) cw_L_148 ⟨Nat.le_of_ble_eq_true rfl, Nat.le_of_ble_eq_true rfl⟩ (by decide) (M_row _) rfl rfl hl.1.symm rfl (Nat.le_of_ble_eq_true rfl) dL_law_376 ⟨lw_c0 hc1, lw_s0 hc2⟩) h (fun H locs h => ?_)
        refine lv_istore (lv' := [(7, .int vr31), (6, .int vr28), (0, .ref b), (1, .ref (ad 0)), (2, .ref (ad 44)), (3, .ref (ad 61)), (4, .ref (ad 62)), (5, .int v5)]) hx hb dL_law_379 hl (by decide) rfl (fun ls hl => ?_)
        refine lv_aload_n hx hb dL_law_381 rfl (lv_at hl 4 rfl) ?_
        obtain ⟨vr32, hq32, hf⟩ := rthn_some hf
        refine sRetC1 (g_runV (k := 44) (T := TX5) (N := 21) B h (ok_X5_thrown B.2.2.2.2.2.2.2.2 B.2.2.2.2.2.2.1 _ _  hq32) cw_L_139 ⟨Nat.le_of_ble_eq_true rfl, Nat.le_of_ble_eq_true rfl⟩ (by decide) (M_row _) rfl rfl hl.1.symm rfl (Nat.le_of_ble_eq_true rfl) dL_law_382 ⟨lw_c0 hc1, lw_s0 hc2⟩) h (fun H locs h => ?_)
        refine lv_iload hx hb dL_law_385 (lv_at hl 1 rfl) ?_
        refine lv_icmp_eq (tgt := 392) hx hb dL_law_387 (by decide) (fun c33 => ?_) (fun c33 => ?_)
        · rw [if_pos c33] at hf
          refine lv_iload hx hb dL_law_392 (lv_at hl 1 rfl) ?_
          refine lv_if_ne (tgt := 409) hx hb dL_law_394 (by decide) (fun c34 => ?_) (fun c34 => ?_)
          · rw [if_neg c34] at hf
            refine lv_goto (tgt := 2729) hx hb dL_law_409 (by decide) ?_
            refine lv_iinc (v := (v5 + 7)) (lv' := [(5, .int (v5 + 7)), (7, .int vr31), (6, .int vr28), (0, .ref b), (1, .ref (ad 0)), (2, .ref (ad 44)), (3, .ref (ad 61)), (4, .ref (ad 62))]) hx hb dL_law_2729 hl (k := 7) rfl rfl (by decide) rfl (fun ls hl => ?_)
            refine lv_goto (tgt := 28) hx hb dL_law_2732 (by decide) ?_
            exact ih _ _ _ hf _ _ _ _ _ h (lv_sub hl [3, 4, 5, 6, 7, 0] rfl) hc1 hc2
          · rw [if_pos c34] at hf
            refine lv_aload_n hx hb dL_law_397 rfl (lv_at hl 5 rfl) ?_
            refine lv_iconst (v := (0 : Int32)) hx hb dL_law_398 (by decide) ?_
            refine g_lald B h (i := (0 : Int32)) (inb_in (n := 1) (by decide)) dL_law_399 ?_
            refine lv_iload hx hb dL_law_400 (lv_at hl 0 rfl) ?_
            refine lv_i2l (v := (vr31.toInt64)) hx hb dL_law_402 rfl ?_
            refine W.lcmp hx hb dL_law_403 ?_
            refine lv_if_eq (tgt := 409) hx hb dL_law_404 (by decide) (fun c35 => ?_) (fun c35 => ?_)
            · rw [if_pos c35] at hf
              refine lv_goto (tgt := 2729) hx hb dL_law_409 (by decide) ?_
              refine lv_iinc (v := (v5 + 7)) (lv' := [(5, .int (v5 + 7)), (7, .int vr31), (6, .int vr28), (0, .ref b), (1, .ref (ad 0)), (2, .ref (ad 44)), (3, .ref (ad 61)), (4, .ref (ad 62))]) hx hb dL_law_2729 hl (k := 7) rfl rfl (by decide) rfl (fun ls hl => ?_)
              refine lv_goto (tgt := 28) hx hb dL_law_2732 (by decide) ?_
              exact ih _ _ _ hf _ _ _ _ _ h (lv_sub hl [3, 4, 5, 6, 7, 0] rfl) hc1 hc2
            · rw [if_neg c35] at hf
              refine lv_iconst (v := (0 : Int32)) hx hb dL_law_407 (by decide) ?_
              exact absurd hf (by decide)
        · rw [if_neg c33] at hf
          refine lv_iconst (v := (0 : Int32)) hx hb dL_law_390 (by decide) ?_
          exact absurd hf (by decide)
      rw [if_neg e2] at hf
      by_cases e3 : vx3 = (3 : Int32)
      · rw [if_pos e3] at hf
        refine lv_tableIn (off := 367) (tgt := 412) hx hb dL_law_45 (by rw [e3]; decide) (by rw [e3]; decide) (by rw [e3]; rfl) (by decide) ?_
        refine lv_aload_n hx hb dL_law_412 rfl (lv_at hl 1 rfl) ?_
        refine lv_aload_n hx hb dL_law_413 rfl (lv_at hl 0 rfl) ?_
        refine lv_iload hx hb dL_law_414 (lv_at hl 5 rfl) ?_
        refine lv_iconst (v := (1 : Int32)) hx hb dL_law_416 (by decide) ?_
        refine lv_iadd hx hb dL_law_417 ?_
        obtain ⟨c36, hf⟩ := chk_some hf
        refine va_sld hx hb C.1 C.2.1 C.2.2.1 h.2 (inb_in c36) dL_law_418 ?_
        refine lv_aload_n hx hb dL_law_419 rfl (lv_at hl 0 rfl) ?_
        refine lv_iload hx hb dL_law_420 (lv_at hl 5 rfl) ?_
        refine lv_iconst (v := (2 : Int32)) hx hb dL_law_422 (by decide) ?_
        refine lv_iadd hx hb dL_law_423 ?_
        obtain ⟨c37, hf⟩ := chk_some hf
        refine va_sld hx hb C.1 C.2.1 C.2.2.1 h.2 (inb_in c37) dL_law_424 ?_
        refine lv_aload_n hx hb dL_law_425 rfl (lv_at hl 0 rfl) ?_
        refine lv_iload hx hb dL_law_426 (lv_at hl 5 rfl) ?_
        refine lv_iconst (v := (3 : Int32)) hx hb dL_law_428 (by decide) ?_
        refine lv_iadd hx hb dL_law_429 ?_
        obtain ⟨c38, hf⟩ := chk_some hf
        refine va_sld hx hb C.1 C.2.1 C.2.2.1 h.2 (inb_in c38) dL_law_430 ?_
        refine lv_i2c (v := (((xs ((v5 + (3 : Int32))).toNatClampNeg).toUInt32 % 65536).toInt32)) hx hb dL_law_431 rfl ?_
        refine lv_aload_n hx hb dL_law_432 rfl (lv_at hl 3 rfl) ?_
        obtain ⟨vr39, σ39, X39, hq39, hf⟩ := lthn_some hf
        refine sRetC (g_runH B h (ok_L_near B.2.2.2.2.2.2.2.2 B.2.2.2.2.2.2.1 _ _ (xs ((v5 + (1 : Int32))).toNatClampNeg) (xs ((v5 + (2 : Int32))).toNatClampNeg) (((xs ((v5 + (3 : Int32))).toNatClampNeg).toUInt32 % 65536).toInt32) hq39) cw_L_149 ⟨Nat.le_of_ble_eq_true rfl, Nat.le_of_ble_eq_true rfl⟩ rfl hl.1.symm rfl (Nat.le_of_ble_eq_true rfl) dL_law_433 ⟨lw_c1 hc1, lw_s1 hc2⟩) h (fun H locs h => ?_)
        replace hc1 := lw_c2 hc1
        replace hc2 := lw_s2 hc2
        refine lv_istore (lv' := [(6, .int vr39), (0, .ref b), (1, .ref (ad 0)), (2, .ref (ad 44)), (3, .ref (ad 61)), (4, .ref (ad 62)), (5, .int v5)]) hx hb dL_law_436 hl (by decide) rfl (fun ls hl => ?_)
        refine lv_aload_n hx hb dL_law_438 rfl (lv_at hl 3 rfl) ?_
        refine lv_aload_n hx hb dL_law_439 rfl (lv_at hl 1 rfl) ?_
        refine lv_iload hx hb dL_law_440 (lv_at hl 6 rfl) ?_
        refine lv_iconst (v := (1 : Int32)) hx hb dL_law_442 (by decide) ?_
        refine lv_iadd hx hb dL_law_443 ?_
        obtain ⟨c40, hf⟩ := chk_some hf
        refine va_sld hx hb C.1 C.2.1 C.2.2.1 h.2 (inb_in c40) dL_law_444 ?_
        refine lv_aload_n hx hb dL_law_445 rfl (lv_at hl 1 rfl) ?_
        refine lv_iload hx hb dL_law_446 (lv_at hl 6 rfl) ?_
        refine lv_iconst (v := (2 : Int32)) hx hb dL_law_448 (by decide) ?_
        refine lv_iadd hx hb dL_law_449 ?_
        obtain ⟨c41, hf⟩ := chk_some hf
        refine va_sld hx hb C.1 C.2.1 C.2.2.1 h.2 (inb_in c41) dL_law_450 ?_
        refine lv_aload_n hx hb dL_law_451 rfl (lv_at hl 1 rfl) ?_
        refine lv_iload hx hb dL_law_452 (lv_at hl 6 rfl) ?_
        refine lv_iconst (v := (3 : Int32)) hx hb dL_law_454 (by decide) ?_
        refine lv_iadd hx hb dL_law_455 ?_
        obtain ⟨c42, hf⟩ := chk_some hf
        refine va_sld hx hb C.1 C.2.1 C.2.2.1 h.2 (inb_in c42) dL_law_456 ?_
        refine lv_i2c (v := (((xs ((v5 + (3 : Int32))).toNatClampNeg).toUInt32 % 65536).toInt32)) hx hb dL_law_457 rfl ?_
        obtain ⟨vr43, σ43, hq43, hf⟩ := wthn_some hf
        refine sRetC1 (g_runV (k := 44) (T := TX5) (N := 21) B h (ok_X5_near B.2.2.2.2.2.2.2.2 B.2.2.2.2.2.2.1 _ _ (xs ((v5 + (1 : Int32))).toNatClampNeg) (xs ((v5 + (2 : Int32))).toNatClampNeg) (((xs ((v5 + (3 : Int32))).toNatClampNeg).toUInt32 % 65536).toInt32) hq43) cw_L_152 ⟨Nat.le_of_ble_eq_true rfl, Nat.le_of_ble_eq_true rfl⟩ (by decide) (M_row _) rfl rfl hl.1.symm rfl (Nat.le_of_ble_eq_true rfl) dL_law_458 ⟨lw_c0 hc1, lw_s0 hc2⟩) h (fun H locs h => ?_)
        refine lv_istore (lv' := [(7, .int vr43), (6, .int vr39), (0, .ref b), (1, .ref (ad 0)), (2, .ref (ad 44)), (3, .ref (ad 61)), (4, .ref (ad 62)), (5, .int v5)]) hx hb dL_law_461 hl (by decide) rfl (fun ls hl => ?_)
        refine lv_aload_n hx hb dL_law_463 rfl (lv_at hl 4 rfl) ?_
        obtain ⟨vr44, hq44, hf⟩ := rthn_some hf
        refine sRetC1 (g_runV (k := 44) (T := TX5) (N := 21) B h (ok_X5_thrown B.2.2.2.2.2.2.2.2 B.2.2.2.2.2.2.1 _ _  hq44) cw_L_139 ⟨Nat.le_of_ble_eq_true rfl, Nat.le_of_ble_eq_true rfl⟩ (by decide) (M_row _) rfl rfl hl.1.symm rfl (Nat.le_of_ble_eq_true rfl) dL_law_464 ⟨lw_c0 hc1, lw_s0 hc2⟩) h (fun H locs h => ?_)
        refine lv_iload hx hb dL_law_467 (lv_at hl 1 rfl) ?_
        refine lv_icmp_eq (tgt := 474) hx hb dL_law_469 (by decide) (fun c45 => ?_) (fun c45 => ?_)
        · rw [if_pos c45] at hf
          refine lv_iload hx hb dL_law_474 (lv_at hl 1 rfl) ?_
          refine lv_if_ne (tgt := 491) hx hb dL_law_476 (by decide) (fun c46 => ?_) (fun c46 => ?_)
          · rw [if_neg c46] at hf
            refine lv_goto (tgt := 2729) hx hb dL_law_491 (by decide) ?_
            refine lv_iinc (v := (v5 + 7)) (lv' := [(5, .int (v5 + 7)), (7, .int vr43), (6, .int vr39), (0, .ref b), (1, .ref (ad 0)), (2, .ref (ad 44)), (3, .ref (ad 61)), (4, .ref (ad 62))]) hx hb dL_law_2729 hl (k := 7) rfl rfl (by decide) rfl (fun ls hl => ?_)
            refine lv_goto (tgt := 28) hx hb dL_law_2732 (by decide) ?_
            exact ih _ _ _ hf _ _ _ _ _ h (lv_sub hl [3, 4, 5, 6, 7, 0] rfl) hc1 hc2
          · rw [if_pos c46] at hf
            refine lv_aload_n hx hb dL_law_479 rfl (lv_at hl 5 rfl) ?_
            refine lv_iconst (v := (0 : Int32)) hx hb dL_law_480 (by decide) ?_
            refine g_lald B h (i := (0 : Int32)) (inb_in (n := 1) (by decide)) dL_law_481 ?_
            refine lv_iload hx hb dL_law_482 (lv_at hl 0 rfl) ?_
            refine lv_i2l (v := (vr43.toInt64)) hx hb dL_law_484 rfl ?_
            refine W.lcmp hx hb dL_law_485 ?_
            refine lv_if_eq (tgt := 491) hx hb dL_law_486 (by decide) (fun c47 => ?_) (fun c47 => ?_)
            · rw [if_pos c47] at hf
              refine lv_goto (tgt := 2729) hx hb dL_law_491 (by decide) ?_
              refine lv_iinc (v := (v5 + 7)) (lv' := [(5, .int (v5 + 7)), (7, .int vr43), (6, .int vr39), (0, .ref b), (1, .ref (ad 0)), (2, .ref (ad 44)), (3, .ref (ad 61)), (4, .ref (ad 62))]) hx hb dL_law_2729 hl (k := 7) rfl rfl (by decide) rfl (fun ls hl => ?_)
              refine lv_goto (tgt := 28) hx hb dL_law_2732 (by decide) ?_
              exact ih _ _ _ hf _ _ _ _ _ h (lv_sub hl [3, 4, 5, 6, 7, 0] rfl) hc1 hc2
            · rw [if_neg c47] at hf
              refine lv_iconst (v := (0 : Int32)) hx hb dL_law_489 (by decide) ?_
              exact absurd hf (by decide)
        · rw [if_neg c45] at hf
          refine lv_iconst (v := (0 : Int32)) hx hb dL_law_472 (by decide) ?_
          exact absurd hf (by decide)
      rw [if_neg e3] at hf
      by_cases e4 : vx3 = (4 : Int32)
      · rw [if_pos e4] at hf
        refine lv_tableIn (off := 449) (tgt := 494) hx hb dL_law_45 (by rw [e4]; decide) (by rw [e4]; decide) (by rw [e4]; rfl) (by decide) ?_
        refine lv_aload_n hx hb dL_law_494 rfl (lv_at hl 1 rfl) ?_
        refine lv_aload_n hx hb dL_law_495 rfl (lv_at hl 0 rfl) ?_
        refine lv_iload hx hb dL_law_496 (lv_at hl 5 rfl) ?_
        refine lv_iconst (v := (1 : Int32)) hx hb dL_law_498 (by decide) ?_
        refine lv_iadd hx hb dL_law_499 ?_
        obtain ⟨c48, hf⟩ := chk_some hf
        refine va_sld hx hb C.1 C.2.1 C.2.2.1 h.2 (inb_in c48) dL_law_500 ?_
        refine lv_aload_n hx hb dL_law_501 rfl (lv_at hl 0 rfl) ?_
        refine lv_iload hx hb dL_law_502 (lv_at hl 5 rfl) ?_
        refine lv_iconst (v := (2 : Int32)) hx hb dL_law_504 (by decide) ?_
        refine lv_iadd hx hb dL_law_505 ?_
        obtain ⟨c49, hf⟩ := chk_some hf
        refine va_sld hx hb C.1 C.2.1 C.2.2.1 h.2 (inb_in c49) dL_law_506 ?_
        refine lv_if_eq (tgt := 514) hx hb dL_law_507 (by decide) (fun c50 => ?_) (fun c50 => ?_)
        · rw [if_pos c50] at hf
          refine lv_iconst (v := (0 : Int32)) hx hb dL_law_514 (by decide) ?_
          exact k_L_law_515 C B hr ih _ _ _ _ _ hf _ _ _ _ _ h (lv_sub hl [0, 1, 2, 3, 4, 5] rfl) hc1 hc2
        · rw [if_neg c50] at hf
          refine lv_iconst (v := (1 : Int32)) hx hb dL_law_510 (by decide) ?_
          refine lv_goto (tgt := 515) hx hb dL_law_511 (by decide) ?_
          exact k_L_law_515 C B hr ih _ _ _ _ _ hf _ _ _ _ _ h (lv_sub hl [0, 1, 2, 3, 4, 5] rfl) hc1 hc2
      rw [if_neg e4] at hf
      by_cases e5 : vx3 = (5 : Int32)
      · rw [if_pos e5] at hf
        refine lv_tableIn (off := 533) (tgt := 578) hx hb dL_law_45 (by rw [e5]; decide) (by rw [e5]; decide) (by rw [e5]; rfl) (by decide) ?_
        refine lv_aload_n hx hb dL_law_578 rfl (lv_at hl 1 rfl) ?_
        refine lv_aload_n hx hb dL_law_579 rfl (lv_at hl 0 rfl) ?_
        refine lv_iload hx hb dL_law_580 (lv_at hl 5 rfl) ?_
        refine lv_iconst (v := (1 : Int32)) hx hb dL_law_582 (by decide) ?_
        refine lv_iadd hx hb dL_law_583 ?_
        obtain ⟨c51, hf⟩ := chk_some hf
        refine va_sld hx hb C.1 C.2.1 C.2.2.1 h.2 (inb_in c51) dL_law_584 ?_
        refine lv_aload_n hx hb dL_law_585 rfl (lv_at hl 0 rfl) ?_
        refine lv_iload hx hb dL_law_586 (lv_at hl 5 rfl) ?_
        refine lv_iconst (v := (2 : Int32)) hx hb dL_law_588 (by decide) ?_
        refine lv_iadd hx hb dL_law_589 ?_
        obtain ⟨c52, hf⟩ := chk_some hf
        refine va_sld hx hb C.1 C.2.1 C.2.2.1 h.2 (inb_in c52) dL_law_590 ?_
        refine lv_if_eq (tgt := 598) hx hb dL_law_591 (by decide) (fun c53 => ?_) (fun c53 => ?_)
        · rw [if_pos c53] at hf
          refine lv_iconst (v := (0 : Int32)) hx hb dL_law_598 (by decide) ?_
          exact k_L_law_599 C B hr ih _ _ _ _ _ hf _ _ _ _ _ h (lv_sub hl [0, 1, 2, 3, 4, 5] rfl) hc1 hc2
        · rw [if_neg c53] at hf
          refine lv_iconst (v := (1 : Int32)) hx hb dL_law_594 (by decide) ?_
          refine lv_goto (tgt := 599) hx hb dL_law_595 (by decide) ?_
          exact k_L_law_599 C B hr ih _ _ _ _ _ hf _ _ _ _ _ h (lv_sub hl [0, 1, 2, 3, 4, 5] rfl) hc1 hc2
      rw [if_neg e5] at hf
      by_cases e6 : vx3 = (6 : Int32)
      · rw [if_pos e6] at hf
        refine lv_tableIn (off := 617) (tgt := 662) hx hb dL_law_45 (by rw [e6]; decide) (by rw [e6]; decide) (by rw [e6]; rfl) (by decide) ?_
        refine lv_aload_n hx hb dL_law_662 rfl (lv_at hl 1 rfl) ?_
        refine lv_aload_n hx hb dL_law_663 rfl (lv_at hl 3 rfl) ?_
        obtain ⟨vr54, σ54, X54, hq54, hf⟩ := lthn_some hf
        refine sRetC (g_runH B h (ok_L_polled B.2.2.2.2.2.2.2.2 B.2.2.2.2.2.2.1 _ _  hq54) cw_L_160 ⟨Nat.le_of_ble_eq_true rfl, Nat.le_of_ble_eq_true rfl⟩ rfl hl.1.symm rfl (Nat.le_of_ble_eq_true rfl) dL_law_664 ⟨lw_c1 hc1, lw_s1 hc2⟩) h (fun H locs h => ?_)
        replace hc1 := lw_c2 hc1
        replace hc2 := lw_s2 hc2
        refine lv_istore (lv' := [(6, .int vr54), (0, .ref b), (1, .ref (ad 0)), (2, .ref (ad 44)), (3, .ref (ad 61)), (4, .ref (ad 62)), (5, .int v5)]) hx hb dL_law_667 hl (by decide) rfl (fun ls hl => ?_)
        refine lv_aload_n hx hb dL_law_669 rfl (lv_at hl 3 rfl) ?_
        obtain ⟨vr55, σ55, hq55, hf⟩ := wthn_some hf
        refine sRetC1 (g_runV (k := 44) (T := TX5) (N := 21) B h (ok_X5_polled B.2.2.2.2.2.2.2.2 B.2.2.2.2.2.2.1 _ _  hq55) cw_L_163 ⟨Nat.le_of_ble_eq_true rfl, Nat.le_of_ble_eq_true rfl⟩ (by decide) (M_row _) rfl rfl hl.1.symm rfl (Nat.le_of_ble_eq_true rfl) dL_law_670 ⟨lw_c0 hc1, lw_s0 hc2⟩) h (fun H locs h => ?_)
        refine lv_istore (lv' := [(7, .int vr55), (6, .int vr54), (0, .ref b), (1, .ref (ad 0)), (2, .ref (ad 44)), (3, .ref (ad 61)), (4, .ref (ad 62)), (5, .int v5)]) hx hb dL_law_673 hl (by decide) rfl (fun ls hl => ?_)
        refine lv_aload_n hx hb dL_law_675 rfl (lv_at hl 4 rfl) ?_
        obtain ⟨vr56, hq56, hf⟩ := rthn_some hf
        refine sRetC1 (g_runV (k := 44) (T := TX5) (N := 21) B h (ok_X5_thrown B.2.2.2.2.2.2.2.2 B.2.2.2.2.2.2.1 _ _  hq56) cw_L_139 ⟨Nat.le_of_ble_eq_true rfl, Nat.le_of_ble_eq_true rfl⟩ (by decide) (M_row _) rfl rfl hl.1.symm rfl (Nat.le_of_ble_eq_true rfl) dL_law_676 ⟨lw_c0 hc1, lw_s0 hc2⟩) h (fun H locs h => ?_)
        refine lv_iload hx hb dL_law_679 (lv_at hl 1 rfl) ?_
        refine lv_icmp_eq (tgt := 686) hx hb dL_law_681 (by decide) (fun c57 => ?_) (fun c57 => ?_)
        · rw [if_pos c57] at hf
          refine lv_iload hx hb dL_law_686 (lv_at hl 1 rfl) ?_
          refine lv_if_ne (tgt := 703) hx hb dL_law_688 (by decide) (fun c58 => ?_) (fun c58 => ?_)
          · rw [if_neg c58] at hf
            refine lv_goto (tgt := 2729) hx hb dL_law_703 (by decide) ?_
            refine lv_iinc (v := (v5 + 7)) (lv' := [(5, .int (v5 + 7)), (7, .int vr55), (6, .int vr54), (0, .ref b), (1, .ref (ad 0)), (2, .ref (ad 44)), (3, .ref (ad 61)), (4, .ref (ad 62))]) hx hb dL_law_2729 hl (k := 7) rfl rfl (by decide) rfl (fun ls hl => ?_)
            refine lv_goto (tgt := 28) hx hb dL_law_2732 (by decide) ?_
            exact ih _ _ _ hf _ _ _ _ _ h (lv_sub hl [3, 4, 5, 6, 7, 0] rfl) hc1 hc2
          · rw [if_pos c58] at hf
            refine lv_aload_n hx hb dL_law_691 rfl (lv_at hl 5 rfl) ?_
            refine lv_iconst (v := (0 : Int32)) hx hb dL_law_692 (by decide) ?_
            refine g_lald B h (i := (0 : Int32)) (inb_in (n := 1) (by decide)) dL_law_693 ?_
            refine lv_iload hx hb dL_law_694 (lv_at hl 0 rfl) ?_
            refine lv_i2l (v := (vr55.toInt64)) hx hb dL_law_696 rfl ?_
            refine W.lcmp hx hb dL_law_697 ?_
            refine lv_if_eq (tgt := 703) hx hb dL_law_698 (by decide) (fun c59 => ?_) (fun c59 => ?_)
            · rw [if_pos c59] at hf
              refine lv_goto (tgt := 2729) hx hb dL_law_703 (by decide) ?_
              refine lv_iinc (v := (v5 + 7)) (lv' := [(5, .int (v5 + 7)), (7, .int vr55), (6, .int vr54), (0, .ref b), (1, .ref (ad 0)), (2, .ref (ad 44)), (3, .ref (ad 61)), (4, .ref (ad 62))]) hx hb dL_law_2729 hl (k := 7) rfl rfl (by decide) rfl (fun ls hl => ?_)
              refine lv_goto (tgt := 28) hx hb dL_law_2732 (by decide) ?_
              exact ih _ _ _ hf _ _ _ _ _ h (lv_sub hl [3, 4, 5, 6, 7, 0] rfl) hc1 hc2
            · rw [if_neg c59] at hf
              refine lv_iconst (v := (0 : Int32)) hx hb dL_law_701 (by decide) ?_
              exact absurd hf (by decide)
        · rw [if_neg c57] at hf
          refine lv_iconst (v := (0 : Int32)) hx hb dL_law_684 (by decide) ?_
          exact absurd hf (by decide)
      rw [if_neg e6] at hf
      by_cases e7 : vx3 = (7 : Int32)
      · rw [if_pos e7] at hf
        refine lv_tableIn (off := 661) (tgt := 706) hx hb dL_law_45 (by rw [e7]; decide) (by rw [e7]; decide) (by rw [e7]; rfl) (by decide) ?_
        refine lv_aload_n hx hb dL_law_706 rfl (lv_at hl 1 rfl) ?_
        refine lv_aload_n hx hb dL_law_707 rfl (lv_at hl 0 rfl) ?_
        refine lv_iload hx hb dL_law_708 (lv_at hl 5 rfl) ?_
        refine lv_iconst (v := (1 : Int32)) hx hb dL_law_710 (by decide) ?_
        refine lv_iadd hx hb dL_law_711 ?_
        obtain ⟨c60, hf⟩ := chk_some hf
        refine va_sld hx hb C.1 C.2.1 C.2.2.1 h.2 (inb_in c60) dL_law_712 ?_
        refine lv_aload_n hx hb dL_law_713 rfl (lv_at hl 0 rfl) ?_
        refine lv_iload hx hb dL_law_714 (lv_at hl 5 rfl) ?_
        refine lv_iconst (v := (2 : Int32)) hx hb dL_law_716 (by decide) ?_
        refine lv_iadd hx hb dL_law_717 ?_
        obtain ⟨c61, hf⟩ := chk_some hf
        refine va_sld hx hb C.1 C.2.1 C.2.2.1 h.2 (inb_in c61) dL_law_718 ?_
        refine lv_if_eq (tgt := 726) hx hb dL_law_719 (by decide) (fun c62 => ?_) (fun c62 => ?_)
        · rw [if_pos c62] at hf
          refine lv_iconst (v := (0 : Int32)) hx hb dL_law_726 (by decide) ?_
          exact k_L_law_727 C B hr ih _ _ _ _ _ hf _ _ _ _ _ h (lv_sub hl [0, 1, 2, 3, 4, 5] rfl) hc1 hc2
        · rw [if_neg c62] at hf
          refine lv_iconst (v := (1 : Int32)) hx hb dL_law_722 (by decide) ?_
          refine lv_goto (tgt := 727) hx hb dL_law_723 (by decide) ?_
          exact k_L_law_727 C B hr ih _ _ _ _ _ hf _ _ _ _ _ h (lv_sub hl [0, 1, 2, 3, 4, 5] rfl) hc1 hc2
      rw [if_neg e7] at hf
      by_cases e8 : vx3 = (8 : Int32)
      · rw [if_pos e8] at hf
        refine lv_tableIn (off := 745) (tgt := 790) hx hb dL_law_45 (by rw [e8]; decide) (by rw [e8]; decide) (by rw [e8]; rfl) (by decide) ?_
        refine lv_aload_n hx hb dL_law_790 rfl (lv_at hl 1 rfl) ?_
        refine lv_aload_n hx hb dL_law_791 rfl (lv_at hl 0 rfl) ?_
        refine lv_iload hx hb dL_law_792 (lv_at hl 5 rfl) ?_
        refine lv_iconst (v := (1 : Int32)) hx hb dL_law_794 (by decide) ?_
        refine lv_iadd hx hb dL_law_795 ?_
        obtain ⟨c63, hf⟩ := chk_some hf
        refine va_sld hx hb C.1 C.2.1 C.2.2.1 h.2 (inb_in c63) dL_law_796 ?_
        refine lv_aload_n hx hb dL_law_797 rfl (lv_at hl 3 rfl) ?_
        obtain ⟨vr64, σ64, X64, hq64, hf⟩ := lthn_some hf
        refine sRetC (g_runH B h (ok_L_drained B.2.2.2.2.2.2.2.2 B.2.2.2.2.2.2.1 _ _ (xs ((v5 + (1 : Int32))).toNatClampNeg) hq64) cw_L_167 ⟨Nat.le_of_ble_eq_true rfl, Nat.le_of_ble_eq_true rfl⟩ rfl hl.1.symm rfl (Nat.le_of_ble_eq_true rfl) dL_law_798 ⟨lw_c1 hc1, lw_s1 hc2⟩) h (fun H locs h => ?_)
        replace hc1 := lw_c2 hc1
        replace hc2 := lw_s2 hc2
        refine lv_istore (lv' := [(6, .int vr64), (0, .ref b), (1, .ref (ad 0)), (2, .ref (ad 44)), (3, .ref (ad 61)), (4, .ref (ad 62)), (5, .int v5)]) hx hb dL_law_801 hl (by decide) rfl (fun ls hl => ?_)
        refine lv_aload_n hx hb dL_law_803 rfl (lv_at hl 3 rfl) ?_
        refine lv_aload_n hx hb dL_law_804 rfl (lv_at hl 1 rfl) ?_
        refine lv_iload hx hb dL_law_805 (lv_at hl 6 rfl) ?_
        refine lv_iconst (v := (1 : Int32)) hx hb dL_law_807 (by decide) ?_
        refine lv_iadd hx hb dL_law_808 ?_
        obtain ⟨c65, hf⟩ := chk_some hf
        refine va_sld hx hb C.1 C.2.1 C.2.2.1 h.2 (inb_in c65) dL_law_809 ?_
        obtain ⟨vr66, σ66, hq66, hf⟩ := wthn_some hf
        refine sRetC1 (g_runV (k := 44) (T := TX5) (N := 21) B h (ok_X5_drained B.2.2.2.2.2.2.2.2 B.2.2.2.2.2.2.1 _ _ (xs ((v5 + (1 : Int32))).toNatClampNeg) hq66) cw_L_170 ⟨Nat.le_of_ble_eq_true rfl, Nat.le_of_ble_eq_true rfl⟩ (by decide) (M_row _) rfl rfl hl.1.symm rfl (Nat.le_of_ble_eq_true rfl) dL_law_810 ⟨lw_c0 hc1, lw_s0 hc2⟩) h (fun H locs h => ?_)
        refine lv_istore (lv' := [(7, .int vr66), (6, .int vr64), (0, .ref b), (1, .ref (ad 0)), (2, .ref (ad 44)), (3, .ref (ad 61)), (4, .ref (ad 62)), (5, .int v5)]) hx hb dL_law_813 hl (by decide) rfl (fun ls hl => ?_)
        refine lv_aload_n hx hb dL_law_815 rfl (lv_at hl 4 rfl) ?_
        obtain ⟨vr67, hq67, hf⟩ := rthn_some hf
        refine sRetC1 (g_runV (k := 44) (T := TX5) (N := 21) B h (ok_X5_thrown B.2.2.2.2.2.2.2.2 B.2.2.2.2.2.2.1 _ _  hq67) cw_L_139 ⟨Nat.le_of_ble_eq_true rfl, Nat.le_of_ble_eq_true rfl⟩ (by decide) (M_row _) rfl rfl hl.1.symm rfl (Nat.le_of_ble_eq_true rfl) dL_law_816 ⟨lw_c0 hc1, lw_s0 hc2⟩) h (fun H locs h => ?_)
        refine lv_iload hx hb dL_law_819 (lv_at hl 1 rfl) ?_
        refine lv_icmp_eq (tgt := 826) hx hb dL_law_821 (by decide) (fun c68 => ?_) (fun c68 => ?_)
        · rw [if_pos c68] at hf
          refine lv_iload hx hb dL_law_826 (lv_at hl 1 rfl) ?_
          refine lv_if_ne (tgt := 843) hx hb dL_law_828 (by decide) (fun c69 => ?_) (fun c69 => ?_)
          · rw [if_neg c69] at hf
            refine lv_goto (tgt := 2729) hx hb dL_law_843 (by decide) ?_
            refine lv_iinc (v := (v5 + 7)) (lv' := [(5, .int (v5 + 7)), (7, .int vr66), (6, .int vr64), (0, .ref b), (1, .ref (ad 0)), (2, .ref (ad 44)), (3, .ref (ad 61)), (4, .ref (ad 62))]) hx hb dL_law_2729 hl (k := 7) rfl rfl (by decide) rfl (fun ls hl => ?_)
            refine lv_goto (tgt := 28) hx hb dL_law_2732 (by decide) ?_
            exact ih _ _ _ hf _ _ _ _ _ h (lv_sub hl [3, 4, 5, 6, 7, 0] rfl) hc1 hc2
          · rw [if_pos c69] at hf
            refine lv_aload_n hx hb dL_law_831 rfl (lv_at hl 5 rfl) ?_
            refine lv_iconst (v := (0 : Int32)) hx hb dL_law_832 (by decide) ?_
            refine g_lald B h (i := (0 : Int32)) (inb_in (n := 1) (by decide)) dL_law_833 ?_
            refine lv_iload hx hb dL_law_834 (lv_at hl 0 rfl) ?_
            refine lv_i2l (v := (vr66.toInt64)) hx hb dL_law_836 rfl ?_
            refine W.lcmp hx hb dL_law_837 ?_
            refine lv_if_eq (tgt := 843) hx hb dL_law_838 (by decide) (fun c70 => ?_) (fun c70 => ?_)
            · rw [if_pos c70] at hf
              refine lv_goto (tgt := 2729) hx hb dL_law_843 (by decide) ?_
              refine lv_iinc (v := (v5 + 7)) (lv' := [(5, .int (v5 + 7)), (7, .int vr66), (6, .int vr64), (0, .ref b), (1, .ref (ad 0)), (2, .ref (ad 44)), (3, .ref (ad 61)), (4, .ref (ad 62))]) hx hb dL_law_2729 hl (k := 7) rfl rfl (by decide) rfl (fun ls hl => ?_)
              refine lv_goto (tgt := 28) hx hb dL_law_2732 (by decide) ?_
              exact ih _ _ _ hf _ _ _ _ _ h (lv_sub hl [3, 4, 5, 6, 7, 0] rfl) hc1 hc2
            · rw [if_neg c70] at hf
              refine lv_iconst (v := (0 : Int32)) hx hb dL_law_841 (by decide) ?_
              exact absurd hf (by decide)
        · rw [if_neg c68] at hf
          refine lv_iconst (v := (0 : Int32)) hx hb dL_law_824 (by decide) ?_
          exact absurd hf (by decide)
      rw [if_neg e8] at hf
      by_cases e9 : vx3 = (9 : Int32)
      · rw [if_pos e9] at hf
        refine lv_tableIn (off := 801) (tgt := 846) hx hb dL_law_45 (by rw [e9]; decide) (by rw [e9]; decide) (by rw [e9]; rfl) (by decide) ?_
        refine lv_aload_n hx hb dL_law_846 rfl (lv_at hl 1 rfl) ?_
        refine lv_aload_n hx hb dL_law_847 rfl (lv_at hl 0 rfl) ?_
        refine lv_iload hx hb dL_law_848 (lv_at hl 5 rfl) ?_
        refine lv_iconst (v := (1 : Int32)) hx hb dL_law_850 (by decide) ?_
        refine lv_iadd hx hb dL_law_851 ?_
        obtain ⟨c71, hf⟩ := chk_some hf
        refine va_sld hx hb C.1 C.2.1 C.2.2.1 h.2 (inb_in c71) dL_law_852 ?_
        refine lv_aload_n hx hb dL_law_853 rfl (lv_at hl 3 rfl) ?_
        obtain ⟨vr72, σ72, X72, hq72, hf⟩ := lthn_some hf
        refine sRetC (g_runH B h (ok_L_size B.2.2.2.2.2.2.2.2 B.2.2.2.2.2.2.1 _ _ (xs ((v5 + (1 : Int32))).toNatClampNeg) hq72) cw_L_171 ⟨Nat.le_of_ble_eq_true rfl, Nat.le_of_ble_eq_true rfl⟩ rfl hl.1.symm rfl (Nat.le_of_ble_eq_true rfl) dL_law_854 ⟨lw_c1 hc1, lw_s1 hc2⟩) h (fun H locs h => ?_)
        replace hc1 := lw_c2 hc1
        replace hc2 := lw_s2 hc2
        refine lv_istore (lv' := [(6, .int vr72), (0, .ref b), (1, .ref (ad 0)), (2, .ref (ad 44)), (3, .ref (ad 61)), (4, .ref (ad 62)), (5, .int v5)]) hx hb dL_law_857 hl (by decide) rfl (fun ls hl => ?_)
        refine lv_aload_n hx hb dL_law_859 rfl (lv_at hl 3 rfl) ?_
        refine lv_aload_n hx hb dL_law_860 rfl (lv_at hl 1 rfl) ?_
        refine lv_iload hx hb dL_law_861 (lv_at hl 6 rfl) ?_
        refine lv_iconst (v := (1 : Int32)) hx hb dL_law_863 (by decide) ?_
        refine lv_iadd hx hb dL_law_864 ?_
        obtain ⟨c73, hf⟩ := chk_some hf
        refine va_sld hx hb C.1 C.2.1 C.2.2.1 h.2 (inb_in c73) dL_law_865 ?_
        obtain ⟨vr74, σ74, hq74, hf⟩ := wthn_some hf
        refine sRetC1 (g_runV (k := 44) (T := TX5) (N := 21) B h (ok_X5_size B.2.2.2.2.2.2.2.2 B.2.2.2.2.2.2.1 _ _ (xs ((v5 + (1 : Int32))).toNatClampNeg) hq74) cw_L_173 ⟨Nat.le_of_ble_eq_true rfl, Nat.le_of_ble_eq_true rfl⟩ (by decide) (M_row _) rfl rfl hl.1.symm rfl (Nat.le_of_ble_eq_true rfl) dL_law_866 ⟨lw_c0 hc1, lw_s0 hc2⟩) h (fun H locs h => ?_)
        refine lv_istore (lv' := [(7, .int vr74), (6, .int vr72), (0, .ref b), (1, .ref (ad 0)), (2, .ref (ad 44)), (3, .ref (ad 61)), (4, .ref (ad 62)), (5, .int v5)]) hx hb dL_law_869 hl (by decide) rfl (fun ls hl => ?_)
        refine lv_aload_n hx hb dL_law_871 rfl (lv_at hl 4 rfl) ?_
        obtain ⟨vr75, hq75, hf⟩ := rthn_some hf
        refine sRetC1 (g_runV (k := 44) (T := TX5) (N := 21) B h (ok_X5_thrown B.2.2.2.2.2.2.2.2 B.2.2.2.2.2.2.1 _ _  hq75) cw_L_139 ⟨Nat.le_of_ble_eq_true rfl, Nat.le_of_ble_eq_true rfl⟩ (by decide) (M_row _) rfl rfl hl.1.symm rfl (Nat.le_of_ble_eq_true rfl) dL_law_872 ⟨lw_c0 hc1, lw_s0 hc2⟩) h (fun H locs h => ?_)
        refine lv_iload hx hb dL_law_875 (lv_at hl 1 rfl) ?_
        refine lv_icmp_eq (tgt := 882) hx hb dL_law_877 (by decide) (fun c76 => ?_) (fun c76 => ?_)
        · rw [if_pos c76] at hf
          refine lv_iload hx hb dL_law_882 (lv_at hl 1 rfl) ?_
          refine lv_if_ne (tgt := 899) hx hb dL_law_884 (by decide) (fun c77 => ?_) (fun c77 => ?_)
          · rw [if_neg c77] at hf
            refine lv_goto (tgt := 2729) hx hb dL_law_899 (by decide) ?_
            refine lv_iinc (v := (v5 + 7)) (lv' := [(5, .int (v5 + 7)), (7, .int vr74), (6, .int vr72), (0, .ref b), (1, .ref (ad 0)), (2, .ref (ad 44)), (3, .ref (ad 61)), (4, .ref (ad 62))]) hx hb dL_law_2729 hl (k := 7) rfl rfl (by decide) rfl (fun ls hl => ?_)
            refine lv_goto (tgt := 28) hx hb dL_law_2732 (by decide) ?_
            exact ih _ _ _ hf _ _ _ _ _ h (lv_sub hl [3, 4, 5, 6, 7, 0] rfl) hc1 hc2
          · rw [if_pos c77] at hf
            refine lv_aload_n hx hb dL_law_887 rfl (lv_at hl 5 rfl) ?_
            refine lv_iconst (v := (0 : Int32)) hx hb dL_law_888 (by decide) ?_
            refine g_lald B h (i := (0 : Int32)) (inb_in (n := 1) (by decide)) dL_law_889 ?_
            refine lv_iload hx hb dL_law_890 (lv_at hl 0 rfl) ?_
            refine lv_i2l (v := (vr74.toInt64)) hx hb dL_law_892 rfl ?_
            refine W.lcmp hx hb dL_law_893 ?_
            refine lv_if_eq (tgt := 899) hx hb dL_law_894 (by decide) (fun c78 => ?_) (fun c78 => ?_)
            · rw [if_pos c78] at hf
              refine lv_goto (tgt := 2729) hx hb dL_law_899 (by decide) ?_
              refine lv_iinc (v := (v5 + 7)) (lv' := [(5, .int (v5 + 7)), (7, .int vr74), (6, .int vr72), (0, .ref b), (1, .ref (ad 0)), (2, .ref (ad 44)), (3, .ref (ad 61)), (4, .ref (ad 62))]) hx hb dL_law_2729 hl (k := 7) rfl rfl (by decide) rfl (fun ls hl => ?_)
              refine lv_goto (tgt := 28) hx hb dL_law_2732 (by decide) ?_
              exact ih _ _ _ hf _ _ _ _ _ h (lv_sub hl [3, 4, 5, 6, 7, 0] rfl) hc1 hc2
            · rw [if_neg c78] at hf
              refine lv_iconst (v := (0 : Int32)) hx hb dL_law_897 (by decide) ?_
              exact absurd hf (by decide)
        · rw [if_neg c76] at hf
          refine lv_iconst (v := (0 : Int32)) hx hb dL_law_880 (by decide) ?_
          exact absurd hf (by decide)
      rw [if_neg e9] at hf
      by_cases e10 : vx3 = (10 : Int32)
      · rw [if_pos e10] at hf
        refine lv_tableIn (off := 857) (tgt := 902) hx hb dL_law_45 (by rw [e10]; decide) (by rw [e10]; decide) (by rw [e10]; rfl) (by decide) ?_
        refine lv_aload_n hx hb dL_law_902 rfl (lv_at hl 1 rfl) ?_
        refine lv_aload_n hx hb dL_law_903 rfl (lv_at hl 0 rfl) ?_
        refine lv_iload hx hb dL_law_904 (lv_at hl 5 rfl) ?_
        refine lv_iconst (v := (1 : Int32)) hx hb dL_law_906 (by decide) ?_
        refine lv_iadd hx hb dL_law_907 ?_
        obtain ⟨c79, hf⟩ := chk_some hf
        refine va_sld hx hb C.1 C.2.1 C.2.2.1 h.2 (inb_in c79) dL_law_908 ?_
        refine lv_aload_n hx hb dL_law_909 rfl (lv_at hl 0 rfl) ?_
        refine lv_iload hx hb dL_law_910 (lv_at hl 5 rfl) ?_
        refine lv_iconst (v := (2 : Int32)) hx hb dL_law_912 (by decide) ?_
        refine lv_iadd hx hb dL_law_913 ?_
        obtain ⟨c80, hf⟩ := chk_some hf
        refine va_sld hx hb C.1 C.2.1 C.2.2.1 h.2 (inb_in c80) dL_law_914 ?_
        refine lv_aload_n hx hb dL_law_915 rfl (lv_at hl 0 rfl) ?_
        refine lv_iload hx hb dL_law_916 (lv_at hl 5 rfl) ?_
        refine lv_iconst (v := (3 : Int32)) hx hb dL_law_918 (by decide) ?_
        refine lv_iadd hx hb dL_law_919 ?_
        obtain ⟨c81, hf⟩ := chk_some hf
        refine va_sld hx hb C.1 C.2.1 C.2.2.1 h.2 (inb_in c81) dL_law_920 ?_
        refine lv_if_eq (tgt := 928) hx hb dL_law_921 (by decide) (fun c82 => ?_) (fun c82 => ?_)
        · rw [if_pos c82] at hf
          refine lv_iconst (v := (0 : Int32)) hx hb dL_law_928 (by decide) ?_
          exact k_L_law_929 C B hr ih _ _ _ _ _ _ hf _ _ _ _ _ h (lv_sub hl [0, 1, 2, 3, 4, 5] rfl) hc1 hc2
        · rw [if_neg c82] at hf
          refine lv_iconst (v := (1 : Int32)) hx hb dL_law_924 (by decide) ?_
          refine lv_goto (tgt := 929) hx hb dL_law_925 (by decide) ?_
          exact k_L_law_929 C B hr ih _ _ _ _ _ _ hf _ _ _ _ _ h (lv_sub hl [0, 1, 2, 3, 4, 5] rfl) hc1 hc2
      rw [if_neg e10] at hf
      by_cases e11 : vx3 = (11 : Int32)
      · rw [if_pos e11] at hf
        refine lv_tableIn (off := 953) (tgt := 998) hx hb dL_law_45 (by rw [e11]; decide) (by rw [e11]; decide) (by rw [e11]; rfl) (by decide) ?_
        refine lv_aload_n hx hb dL_law_998 rfl (lv_at hl 1 rfl) ?_
        refine lv_aload_n hx hb dL_law_999 rfl (lv_at hl 0 rfl) ?_
        refine lv_iload hx hb dL_law_1000 (lv_at hl 5 rfl) ?_
        refine lv_iconst (v := (1 : Int32)) hx hb dL_law_1002 (by decide) ?_
        refine lv_iadd hx hb dL_law_1003 ?_
        obtain ⟨c83, hf⟩ := chk_some hf
        refine va_sld hx hb C.1 C.2.1 C.2.2.1 h.2 (inb_in c83) dL_law_1004 ?_
        refine lv_aload_n hx hb dL_law_1005 rfl (lv_at hl 3 rfl) ?_
        obtain ⟨vr84, σ84, X84, hq84, hf⟩ := lthn_some hf
        refine sRetC (g_runH B h (ok_L_mark B.2.2.2.2.2.2.2.2 B.2.2.2.2.2.2.1 _ _ (xs ((v5 + (1 : Int32))).toNatClampNeg) hq84) cw_L_178 ⟨Nat.le_of_ble_eq_true rfl, Nat.le_of_ble_eq_true rfl⟩ rfl hl.1.symm rfl (Nat.le_of_ble_eq_true rfl) dL_law_1006 ⟨lw_c1 hc1, lw_s1 hc2⟩) h (fun H locs h => ?_)
        replace hc1 := lw_c2 hc1
        replace hc2 := lw_s2 hc2
        refine lv_istore (lv' := [(6, .int vr84), (0, .ref b), (1, .ref (ad 0)), (2, .ref (ad 44)), (3, .ref (ad 61)), (4, .ref (ad 62)), (5, .int v5)]) hx hb dL_law_1009 hl (by decide) rfl (fun ls hl => ?_)
        refine lv_aload_n hx hb dL_law_1011 rfl (lv_at hl 3 rfl) ?_
        refine lv_aload_n hx hb dL_law_1012 rfl (lv_at hl 1 rfl) ?_
        refine lv_iload hx hb dL_law_1013 (lv_at hl 6 rfl) ?_
        refine lv_iconst (v := (1 : Int32)) hx hb dL_law_1015 (by decide) ?_
        refine lv_iadd hx hb dL_law_1016 ?_
        obtain ⟨c85, hf⟩ := chk_some hf
        refine va_sld hx hb C.1 C.2.1 C.2.2.1 h.2 (inb_in c85) dL_law_1017 ?_
        obtain ⟨vr86, σ86, hq86, hf⟩ := wthn_some hf
        refine sRetC1 (g_runV (k := 44) (T := TX5) (N := 21) B h (ok_X5_mark B.2.2.2.2.2.2.2.2 B.2.2.2.2.2.2.1 _ _ (xs ((v5 + (1 : Int32))).toNatClampNeg) hq86) cw_L_180 ⟨Nat.le_of_ble_eq_true rfl, Nat.le_of_ble_eq_true rfl⟩ (by decide) (M_row _) rfl rfl hl.1.symm rfl (Nat.le_of_ble_eq_true rfl) dL_law_1018 ⟨lw_c0 hc1, lw_s0 hc2⟩) h (fun H locs h => ?_)
        refine lv_istore (lv' := [(7, .int vr86), (6, .int vr84), (0, .ref b), (1, .ref (ad 0)), (2, .ref (ad 44)), (3, .ref (ad 61)), (4, .ref (ad 62)), (5, .int v5)]) hx hb dL_law_1021 hl (by decide) rfl (fun ls hl => ?_)
        refine lv_aload_n hx hb dL_law_1023 rfl (lv_at hl 4 rfl) ?_
        obtain ⟨vr87, hq87, hf⟩ := rthn_some hf
        refine sRetC1 (g_runV (k := 44) (T := TX5) (N := 21) B h (ok_X5_thrown B.2.2.2.2.2.2.2.2 B.2.2.2.2.2.2.1 _ _  hq87) cw_L_139 ⟨Nat.le_of_ble_eq_true rfl, Nat.le_of_ble_eq_true rfl⟩ (by decide) (M_row _) rfl rfl hl.1.symm rfl (Nat.le_of_ble_eq_true rfl) dL_law_1024 ⟨lw_c0 hc1, lw_s0 hc2⟩) h (fun H locs h => ?_)
        refine lv_iload hx hb dL_law_1027 (lv_at hl 1 rfl) ?_
        refine lv_icmp_eq (tgt := 1034) hx hb dL_law_1029 (by decide) (fun c88 => ?_) (fun c88 => ?_)
        · rw [if_pos c88] at hf
          refine lv_iload hx hb dL_law_1034 (lv_at hl 1 rfl) ?_
          refine lv_if_ne (tgt := 1051) hx hb dL_law_1036 (by decide) (fun c89 => ?_) (fun c89 => ?_)
          · rw [if_neg c89] at hf
            refine lv_goto (tgt := 2729) hx hb dL_law_1051 (by decide) ?_
            refine lv_iinc (v := (v5 + 7)) (lv' := [(5, .int (v5 + 7)), (7, .int vr86), (6, .int vr84), (0, .ref b), (1, .ref (ad 0)), (2, .ref (ad 44)), (3, .ref (ad 61)), (4, .ref (ad 62))]) hx hb dL_law_2729 hl (k := 7) rfl rfl (by decide) rfl (fun ls hl => ?_)
            refine lv_goto (tgt := 28) hx hb dL_law_2732 (by decide) ?_
            exact ih _ _ _ hf _ _ _ _ _ h (lv_sub hl [3, 4, 5, 6, 7, 0] rfl) hc1 hc2
          · rw [if_pos c89] at hf
            refine lv_aload_n hx hb dL_law_1039 rfl (lv_at hl 5 rfl) ?_
            refine lv_iconst (v := (0 : Int32)) hx hb dL_law_1040 (by decide) ?_
            refine g_lald B h (i := (0 : Int32)) (inb_in (n := 1) (by decide)) dL_law_1041 ?_
            refine lv_iload hx hb dL_law_1042 (lv_at hl 0 rfl) ?_
            refine lv_i2l (v := (vr86.toInt64)) hx hb dL_law_1044 rfl ?_
            refine W.lcmp hx hb dL_law_1045 ?_
            refine lv_if_eq (tgt := 1051) hx hb dL_law_1046 (by decide) (fun c90 => ?_) (fun c90 => ?_)
            · rw [if_pos c90] at hf
              refine lv_goto (tgt := 2729) hx hb dL_law_1051 (by decide) ?_
              refine lv_iinc (v := (v5 + 7)) (lv' := [(5, .int (v5 + 7)), (7, .int vr86), (6, .int vr84), (0, .ref b), (1, .ref (ad 0)), (2, .ref (ad 44)), (3, .ref (ad 61)), (4, .ref (ad 62))]) hx hb dL_law_2729 hl (k := 7) rfl rfl (by decide) rfl (fun ls hl => ?_)
              refine lv_goto (tgt := 28) hx hb dL_law_2732 (by decide) ?_
              exact ih _ _ _ hf _ _ _ _ _ h (lv_sub hl [3, 4, 5, 6, 7, 0] rfl) hc1 hc2
            · rw [if_neg c90] at hf
              refine lv_iconst (v := (0 : Int32)) hx hb dL_law_1049 (by decide) ?_
              exact absurd hf (by decide)
        · rw [if_neg c88] at hf
          refine lv_iconst (v := (0 : Int32)) hx hb dL_law_1032 (by decide) ?_
          exact absurd hf (by decide)
      rw [if_neg e11] at hf
      by_cases e12 : vx3 = (12 : Int32)
      · rw [if_pos e12] at hf
        refine lv_tableIn (off := 1009) (tgt := 1054) hx hb dL_law_45 (by rw [e12]; decide) (by rw [e12]; decide) (by rw [e12]; rfl) (by decide) ?_
        refine lv_aload_n hx hb dL_law_1054 rfl (lv_at hl 1 rfl) ?_
        refine lv_aload_n hx hb dL_law_1055 rfl (lv_at hl 0 rfl) ?_
        refine lv_iload hx hb dL_law_1056 (lv_at hl 5 rfl) ?_
        refine lv_iconst (v := (1 : Int32)) hx hb dL_law_1058 (by decide) ?_
        refine lv_iadd hx hb dL_law_1059 ?_
        obtain ⟨c91, hf⟩ := chk_some hf
        refine va_sld hx hb C.1 C.2.1 C.2.2.1 h.2 (inb_in c91) dL_law_1060 ?_
        refine lv_aload_n hx hb dL_law_1061 rfl (lv_at hl 0 rfl) ?_
        refine lv_iload hx hb dL_law_1062 (lv_at hl 5 rfl) ?_
        refine lv_iconst (v := (2 : Int32)) hx hb dL_law_1064 (by decide) ?_
        refine lv_iadd hx hb dL_law_1065 ?_
        obtain ⟨c92, hf⟩ := chk_some hf
        refine va_sld hx hb C.1 C.2.1 C.2.2.1 h.2 (inb_in c92) dL_law_1066 ?_
        refine lv_aload_n hx hb dL_law_1067 rfl (lv_at hl 3 rfl) ?_
        obtain ⟨vr93, σ93, X93, hq93, hf⟩ := lthn_some hf
        refine sRetC (g_runH B h (ok_L_isLike B.2.2.2.2.2.2.2.2 B.2.2.2.2.2.2.1 _ _ (xs ((v5 + (1 : Int32))).toNatClampNeg) (xs ((v5 + (2 : Int32))).toNatClampNeg) hq93) cw_L_181 ⟨Nat.le_of_ble_eq_true rfl, Nat.le_of_ble_eq_true rfl⟩ rfl hl.1.symm rfl (Nat.le_of_ble_eq_true rfl) dL_law_1068 ⟨lw_c1 hc1, lw_s1 hc2⟩) h (fun H locs h => ?_)
        replace hc1 := lw_c2 hc1
        replace hc2 := lw_s2 hc2
        refine lv_istore (lv' := [(6, .int vr93), (0, .ref b), (1, .ref (ad 0)), (2, .ref (ad 44)), (3, .ref (ad 61)), (4, .ref (ad 62)), (5, .int v5)]) hx hb dL_law_1071 hl (by decide) rfl (fun ls hl => ?_)
        refine lv_aload_n hx hb dL_law_1073 rfl (lv_at hl 3 rfl) ?_
        refine lv_aload_n hx hb dL_law_1074 rfl (lv_at hl 1 rfl) ?_
        refine lv_iload hx hb dL_law_1075 (lv_at hl 6 rfl) ?_
        refine lv_iconst (v := (1 : Int32)) hx hb dL_law_1077 (by decide) ?_
        refine lv_iadd hx hb dL_law_1078 ?_
        obtain ⟨c94, hf⟩ := chk_some hf
        refine va_sld hx hb C.1 C.2.1 C.2.2.1 h.2 (inb_in c94) dL_law_1079 ?_
        refine lv_aload_n hx hb dL_law_1080 rfl (lv_at hl 1 rfl) ?_
        refine lv_iload hx hb dL_law_1081 (lv_at hl 6 rfl) ?_
        refine lv_iconst (v := (2 : Int32)) hx hb dL_law_1083 (by decide) ?_
        refine lv_iadd hx hb dL_law_1084 ?_
        obtain ⟨c95, hf⟩ := chk_some hf
        refine va_sld hx hb C.1 C.2.1 C.2.2.1 h.2 (inb_in c95) dL_law_1085 ?_
        obtain ⟨vr96, σ96, hq96, hf⟩ := wthn_some hf
        refine sRetC1 (g_runV (k := 44) (T := TX5) (N := 21) B h (ok_X5_isLike B.2.2.2.2.2.2.2.2 B.2.2.2.2.2.2.1 _ _ (xs ((v5 + (1 : Int32))).toNatClampNeg) (xs ((v5 + (2 : Int32))).toNatClampNeg) hq96) cw_L_183 ⟨Nat.le_of_ble_eq_true rfl, Nat.le_of_ble_eq_true rfl⟩ (by decide) (M_row _) rfl rfl hl.1.symm rfl (Nat.le_of_ble_eq_true rfl) dL_law_1086 ⟨lw_c0 hc1, lw_s0 hc2⟩) h (fun H locs h => ?_)
        refine lv_istore (lv' := [(7, .int vr96), (6, .int vr93), (0, .ref b), (1, .ref (ad 0)), (2, .ref (ad 44)), (3, .ref (ad 61)), (4, .ref (ad 62)), (5, .int v5)]) hx hb dL_law_1089 hl (by decide) rfl (fun ls hl => ?_)
        refine lv_aload_n hx hb dL_law_1091 rfl (lv_at hl 4 rfl) ?_
        obtain ⟨vr97, hq97, hf⟩ := rthn_some hf
        refine sRetC1 (g_runV (k := 44) (T := TX5) (N := 21) B h (ok_X5_thrown B.2.2.2.2.2.2.2.2 B.2.2.2.2.2.2.1 _ _  hq97) cw_L_139 ⟨Nat.le_of_ble_eq_true rfl, Nat.le_of_ble_eq_true rfl⟩ (by decide) (M_row _) rfl rfl hl.1.symm rfl (Nat.le_of_ble_eq_true rfl) dL_law_1092 ⟨lw_c0 hc1, lw_s0 hc2⟩) h (fun H locs h => ?_)
        refine lv_iload hx hb dL_law_1095 (lv_at hl 1 rfl) ?_
        refine lv_icmp_eq (tgt := 1102) hx hb dL_law_1097 (by decide) (fun c98 => ?_) (fun c98 => ?_)
        · rw [if_pos c98] at hf
          refine lv_iload hx hb dL_law_1102 (lv_at hl 1 rfl) ?_
          refine lv_if_ne (tgt := 1126) hx hb dL_law_1104 (by decide) (fun c99 => ?_) (fun c99 => ?_)
          · rw [if_neg c99] at hf
            refine lv_goto (tgt := 2729) hx hb dL_law_1126 (by decide) ?_
            refine lv_iinc (v := (v5 + 7)) (lv' := [(5, .int (v5 + 7)), (7, .int vr96), (6, .int vr93), (0, .ref b), (1, .ref (ad 0)), (2, .ref (ad 44)), (3, .ref (ad 61)), (4, .ref (ad 62))]) hx hb dL_law_2729 hl (k := 7) rfl rfl (by decide) rfl (fun ls hl => ?_)
            refine lv_goto (tgt := 28) hx hb dL_law_2732 (by decide) ?_
            exact ih _ _ _ hf _ _ _ _ _ h (lv_sub hl [3, 4, 5, 6, 7, 0] rfl) hc1 hc2
          · rw [if_pos c99] at hf
            refine lv_aload_n hx hb dL_law_1107 rfl (lv_at hl 5 rfl) ?_
            refine lv_iconst (v := (0 : Int32)) hx hb dL_law_1108 (by decide) ?_
            refine g_lald B h (i := (0 : Int32)) (inb_in (n := 1) (by decide)) dL_law_1109 ?_
            refine lv_iload hx hb dL_law_1110 (lv_at hl 0 rfl) ?_
            refine lv_if_eq (tgt := 1119) hx hb dL_law_1112 (by decide) (fun c100 => ?_) (fun c100 => ?_)
            · rw [if_pos c100] at hf
              refine lv_lconst (v := (0 : Int64)) hx hb dL_law_1119 (by decide) ?_
              refine W.lcmp hx hb dL_law_1120 ?_
              refine lv_if_eq (tgt := 1126) hx hb dL_law_1121 (by decide) (fun c101 => ?_) (fun c101 => ?_)
              · rw [if_pos c101] at hf
                refine lv_goto (tgt := 2729) hx hb dL_law_1126 (by decide) ?_
                refine lv_iinc (v := (v5 + 7)) (lv' := [(5, .int (v5 + 7)), (7, .int vr96), (6, .int vr93), (0, .ref b), (1, .ref (ad 0)), (2, .ref (ad 44)), (3, .ref (ad 61)), (4, .ref (ad 62))]) hx hb dL_law_2729 hl (k := 7) rfl rfl (by decide) rfl (fun ls hl => ?_)
                refine lv_goto (tgt := 28) hx hb dL_law_2732 (by decide) ?_
                exact ih _ _ _ hf _ _ _ _ _ h (lv_sub hl [3, 4, 5, 6, 7, 0] rfl) hc1 hc2
              · rw [if_neg c101] at hf
                refine lv_iconst (v := (0 : Int32)) hx hb dL_law_1124 (by decide) ?_
                exact absurd hf (by decide)
            · rw [if_neg c100] at hf
              refine lv_lconst (v := (1 : Int64)) hx hb dL_law_1115 (by decide) ?_
              refine lv_goto (tgt := 1120) hx hb dL_law_1116 (by decide) ?_
              refine W.lcmp hx hb dL_law_1120 ?_
              refine lv_if_eq (tgt := 1126) hx hb dL_law_1121 (by decide) (fun c102 => ?_) (fun c102 => ?_)
              · rw [if_pos c102] at hf
                refine lv_goto (tgt := 2729) hx hb dL_law_1126 (by decide) ?_
                refine lv_iinc (v := (v5 + 7)) (lv' := [(5, .int (v5 + 7)), (7, .int vr96), (6, .int vr93), (0, .ref b), (1, .ref (ad 0)), (2, .ref (ad 44)), (3, .ref (ad 61)), (4, .ref (ad 62))]) hx hb dL_law_2729 hl (k := 7) rfl rfl (by decide) rfl (fun ls hl => ?_)
                refine lv_goto (tgt := 28) hx hb dL_law_2732 (by decide) ?_
                exact ih _ _ _ hf _ _ _ _ _ h (lv_sub hl [3, 4, 5, 6, 7, 0] rfl) hc1 hc2
              · rw [if_neg c102] at hf
                refine lv_iconst (v := (0 : Int32)) hx hb dL_law_1124 (by decide) ?_
                exact absurd hf (by decide)
        · rw [if_neg c98] at hf
          refine lv_iconst (v := (0 : Int32)) hx hb dL_law_1100 (by decide) ?_
          exact absurd hf (by decide)
      rw [if_neg e12] at hf
      by_cases e13 : vx3 = (13 : Int32)
      · rw [if_pos e13] at hf
        refine lv_tableIn (off := 1084) (tgt := 1129) hx hb dL_law_45 (by rw [e13]; decide) (by rw [e13]; decide) (by rw [e13]; rfl) (by decide) ?_
        refine lv_aload_n hx hb dL_law_1129 rfl (lv_at hl 1 rfl) ?_
        refine lv_aload_n hx hb dL_law_1130 rfl (lv_at hl 0 rfl) ?_
        refine lv_iload hx hb dL_law_1131 (lv_at hl 5 rfl) ?_
        refine lv_iconst (v := (1 : Int32)) hx hb dL_law_1133 (by decide) ?_
        refine lv_iadd hx hb dL_law_1134 ?_
        obtain ⟨c103, hf⟩ := chk_some hf
        refine va_sld hx hb C.1 C.2.1 C.2.2.1 h.2 (inb_in c103) dL_law_1135 ?_
        refine lv_aload_n hx hb dL_law_1136 rfl (lv_at hl 0 rfl) ?_
        refine lv_iload hx hb dL_law_1137 (lv_at hl 5 rfl) ?_
        refine lv_iconst (v := (2 : Int32)) hx hb dL_law_1139 (by decide) ?_
        refine lv_iadd hx hb dL_law_1140 ?_
        obtain ⟨c104, hf⟩ := chk_some hf
        refine va_sld hx hb C.1 C.2.1 C.2.2.1 h.2 (inb_in c104) dL_law_1141 ?_
        refine lv_aload_n hx hb dL_law_1142 rfl (lv_at hl 0 rfl) ?_
        refine lv_iload hx hb dL_law_1143 (lv_at hl 5 rfl) ?_
        refine lv_iconst (v := (3 : Int32)) hx hb dL_law_1145 (by decide) ?_
        refine lv_iadd hx hb dL_law_1146 ?_
        obtain ⟨c105, hf⟩ := chk_some hf
        refine va_sld hx hb C.1 C.2.1 C.2.2.1 h.2 (inb_in c105) dL_law_1147 ?_
        refine lv_aload_n hx hb dL_law_1148 rfl (lv_at hl 0 rfl) ?_
        refine lv_iload hx hb dL_law_1149 (lv_at hl 5 rfl) ?_
        refine lv_iconst (v := (4 : Int32)) hx hb dL_law_1151 (by decide) ?_
        refine lv_iadd hx hb dL_law_1152 ?_
        obtain ⟨c106, hf⟩ := chk_some hf
        refine va_sld hx hb C.1 C.2.1 C.2.2.1 h.2 (inb_in c106) dL_law_1153 ?_
        refine lv_if_eq (tgt := 1161) hx hb dL_law_1154 (by decide) (fun c107 => ?_) (fun c107 => ?_)
        · rw [if_pos c107] at hf
          refine lv_iconst (v := (0 : Int32)) hx hb dL_law_1161 (by decide) ?_
          exact k_L_law_1162 C B hr ih _ _ _ _ _ _ _ hf _ _ _ _ _ h (lv_sub hl [0, 1, 2, 3, 4, 5] rfl) hc1 hc2
        · rw [if_neg c107] at hf
          refine lv_iconst (v := (1 : Int32)) hx hb dL_law_1157 (by decide) ?_
          refine lv_goto (tgt := 1162) hx hb dL_law_1158 (by decide) ?_
          exact k_L_law_1162 C B hr ih _ _ _ _ _ _ _ hf _ _ _ _ _ h (lv_sub hl [0, 1, 2, 3, 4, 5] rfl) hc1 hc2
      rw [if_neg e13] at hf
      by_cases e14 : vx3 = (14 : Int32)
      · rw [if_pos e14] at hf
        refine lv_tableIn (off := 1234) (tgt := 1279) hx hb dL_law_45 (by rw [e14]; decide) (by rw [e14]; decide) (by rw [e14]; rfl) (by decide) ?_
        refine lv_aload_n hx hb dL_law_1279 rfl (lv_at hl 1 rfl) ?_
        refine lv_aload_n hx hb dL_law_1280 rfl (lv_at hl 0 rfl) ?_
        refine lv_iload hx hb dL_law_1281 (lv_at hl 5 rfl) ?_
        refine lv_iconst (v := (1 : Int32)) hx hb dL_law_1283 (by decide) ?_
        refine lv_iadd hx hb dL_law_1284 ?_
        obtain ⟨c108, hf⟩ := chk_some hf
        refine va_sld hx hb C.1 C.2.1 C.2.2.1 h.2 (inb_in c108) dL_law_1285 ?_
        refine lv_aload_n hx hb dL_law_1286 rfl (lv_at hl 0 rfl) ?_
        refine lv_iload hx hb dL_law_1287 (lv_at hl 5 rfl) ?_
        refine lv_iconst (v := (2 : Int32)) hx hb dL_law_1289 (by decide) ?_
        refine lv_iadd hx hb dL_law_1290 ?_
        obtain ⟨c109, hf⟩ := chk_some hf
        refine va_sld hx hb C.1 C.2.1 C.2.2.1 h.2 (inb_in c109) dL_law_1291 ?_
        refine lv_aload_n hx hb dL_law_1292 rfl (lv_at hl 0 rfl) ?_
        refine lv_iload hx hb dL_law_1293 (lv_at hl 5 rfl) ?_
        refine lv_iconst (v := (3 : Int32)) hx hb dL_law_1295 (by decide) ?_
        refine lv_iadd hx hb dL_law_1296 ?_
        obtain ⟨c110, hf⟩ := chk_some hf
        refine va_sld hx hb C.1 C.2.1 C.2.2.1 h.2 (inb_in c110) dL_law_1297 ?_
        refine lv_if_eq (tgt := 1305) hx hb dL_law_1298 (by decide) (fun c111 => ?_) (fun c111 => ?_)
        · rw [if_pos c111] at hf
          refine lv_iconst (v := (0 : Int32)) hx hb dL_law_1305 (by decide) ?_
          exact k_L_law_1306 C B hr ih _ _ _ _ _ _ hf _ _ _ _ _ h (lv_sub hl [0, 1, 2, 3, 4, 5] rfl) hc1 hc2
        · rw [if_neg c111] at hf
          refine lv_iconst (v := (1 : Int32)) hx hb dL_law_1301 (by decide) ?_
          refine lv_goto (tgt := 1306) hx hb dL_law_1302 (by decide) ?_
          exact k_L_law_1306 C B hr ih _ _ _ _ _ _ hf _ _ _ _ _ h (lv_sub hl [0, 1, 2, 3, 4, 5] rfl) hc1 hc2
      rw [if_neg e14] at hf
      by_cases e15 : vx3 = (15 : Int32)
      · rw [if_pos e15] at hf
        refine lv_tableIn (off := 1370) (tgt := 1415) hx hb dL_law_45 (by rw [e15]; decide) (by rw [e15]; decide) (by rw [e15]; rfl) (by decide) ?_
        refine lv_aload_n hx hb dL_law_1415 rfl (lv_at hl 1 rfl) ?_
        refine lv_aload_n hx hb dL_law_1416 rfl (lv_at hl 0 rfl) ?_
        refine lv_iload hx hb dL_law_1417 (lv_at hl 5 rfl) ?_
        refine lv_iconst (v := (1 : Int32)) hx hb dL_law_1419 (by decide) ?_
        refine lv_iadd hx hb dL_law_1420 ?_
        obtain ⟨c112, hf⟩ := chk_some hf
        refine va_sld hx hb C.1 C.2.1 C.2.2.1 h.2 (inb_in c112) dL_law_1421 ?_
        refine lv_aload_n hx hb dL_law_1422 rfl (lv_at hl 0 rfl) ?_
        refine lv_iload hx hb dL_law_1423 (lv_at hl 5 rfl) ?_
        refine lv_iconst (v := (2 : Int32)) hx hb dL_law_1425 (by decide) ?_
        refine lv_iadd hx hb dL_law_1426 ?_
        obtain ⟨c113, hf⟩ := chk_some hf
        refine va_sld hx hb C.1 C.2.1 C.2.2.1 h.2 (inb_in c113) dL_law_1427 ?_
        refine lv_aload_n hx hb dL_law_1428 rfl (lv_at hl 0 rfl) ?_
        refine lv_iload hx hb dL_law_1429 (lv_at hl 5 rfl) ?_
        refine lv_iconst (v := (3 : Int32)) hx hb dL_law_1431 (by decide) ?_
        refine lv_iadd hx hb dL_law_1432 ?_
        obtain ⟨c114, hf⟩ := chk_some hf
        refine va_sld hx hb C.1 C.2.1 C.2.2.1 h.2 (inb_in c114) dL_law_1433 ?_
        refine lv_aload_n hx hb dL_law_1434 rfl (lv_at hl 3 rfl) ?_
        obtain ⟨vr115, σ115, X115, hq115, hf⟩ := lthn_some hf
        refine sRetC (g_runH B h (ok_L_viewPut B.2.2.2.2.2.2.2.2 B.2.2.2.2.2.2.1 _ _ (xs ((v5 + (1 : Int32))).toNatClampNeg) (xs ((v5 + (2 : Int32))).toNatClampNeg) (xs ((v5 + (3 : Int32))).toNatClampNeg) hq115) cw_L_192 ⟨Nat.le_of_ble_eq_true rfl, Nat.le_of_ble_eq_true rfl⟩ rfl hl.1.symm rfl (Nat.le_of_ble_eq_true rfl) dL_law_1435 ⟨lw_c1 hc1, lw_s1 hc2⟩) h (fun H locs h => ?_)
        replace hc1 := lw_c2 hc1
        replace hc2 := lw_s2 hc2
        refine lv_istore (lv' := [(6, .int vr115), (0, .ref b), (1, .ref (ad 0)), (2, .ref (ad 44)), (3, .ref (ad 61)), (4, .ref (ad 62)), (5, .int v5)]) hx hb dL_law_1438 hl (by decide) rfl (fun ls hl => ?_)
        refine lv_aload_n hx hb dL_law_1440 rfl (lv_at hl 3 rfl) ?_
        refine lv_aload_n hx hb dL_law_1441 rfl (lv_at hl 1 rfl) ?_
        refine lv_iload hx hb dL_law_1442 (lv_at hl 6 rfl) ?_
        refine lv_iconst (v := (1 : Int32)) hx hb dL_law_1444 (by decide) ?_
        refine lv_iadd hx hb dL_law_1445 ?_
        obtain ⟨c116, hf⟩ := chk_some hf
        refine va_sld hx hb C.1 C.2.1 C.2.2.1 h.2 (inb_in c116) dL_law_1446 ?_
        refine lv_aload_n hx hb dL_law_1447 rfl (lv_at hl 1 rfl) ?_
        refine lv_iload hx hb dL_law_1448 (lv_at hl 6 rfl) ?_
        refine lv_iconst (v := (2 : Int32)) hx hb dL_law_1450 (by decide) ?_
        refine lv_iadd hx hb dL_law_1451 ?_
        obtain ⟨c117, hf⟩ := chk_some hf
        refine va_sld hx hb C.1 C.2.1 C.2.2.1 h.2 (inb_in c117) dL_law_1452 ?_
        refine lv_aload_n hx hb dL_law_1453 rfl (lv_at hl 1 rfl) ?_
        refine lv_iload hx hb dL_law_1454 (lv_at hl 6 rfl) ?_
        refine lv_iconst (v := (3 : Int32)) hx hb dL_law_1456 (by decide) ?_
        refine lv_iadd hx hb dL_law_1457 ?_
        obtain ⟨c118, hf⟩ := chk_some hf
        refine va_sld hx hb C.1 C.2.1 C.2.2.1 h.2 (inb_in c118) dL_law_1458 ?_
        obtain ⟨vr119, σ119, hq119, hf⟩ := wthn_some hf
        refine sRetC1 (g_runV (k := 44) (T := TX5) (N := 21) B h (ok_X5_viewPut B.2.2.2.2.2.2.2.2 B.2.2.2.2.2.2.1 _ _ (xs ((v5 + (1 : Int32))).toNatClampNeg) (xs ((v5 + (2 : Int32))).toNatClampNeg) (xs ((v5 + (3 : Int32))).toNatClampNeg) hq119) cw_L_194 ⟨Nat.le_of_ble_eq_true rfl, Nat.le_of_ble_eq_true rfl⟩ (by decide) (M_row _) rfl rfl hl.1.symm rfl (Nat.le_of_ble_eq_true rfl) dL_law_1459 ⟨lw_c0 hc1, lw_s0 hc2⟩) h (fun H locs h => ?_)
        refine lv_istore (lv' := [(7, .int vr119), (6, .int vr115), (0, .ref b), (1, .ref (ad 0)), (2, .ref (ad 44)), (3, .ref (ad 61)), (4, .ref (ad 62)), (5, .int v5)]) hx hb dL_law_1462 hl (by decide) rfl (fun ls hl => ?_)
        refine lv_aload_n hx hb dL_law_1464 rfl (lv_at hl 4 rfl) ?_
        obtain ⟨vr120, hq120, hf⟩ := rthn_some hf
        refine sRetC1 (g_runV (k := 44) (T := TX5) (N := 21) B h (ok_X5_thrown B.2.2.2.2.2.2.2.2 B.2.2.2.2.2.2.1 _ _  hq120) cw_L_139 ⟨Nat.le_of_ble_eq_true rfl, Nat.le_of_ble_eq_true rfl⟩ (by decide) (M_row _) rfl rfl hl.1.symm rfl (Nat.le_of_ble_eq_true rfl) dL_law_1465 ⟨lw_c0 hc1, lw_s0 hc2⟩) h (fun H locs h => ?_)
        refine lv_iload hx hb dL_law_1468 (lv_at hl 1 rfl) ?_
        refine lv_icmp_eq (tgt := 1475) hx hb dL_law_1470 (by decide) (fun c121 => ?_) (fun c121 => ?_)
        · rw [if_pos c121] at hf
          refine lv_iload hx hb dL_law_1475 (lv_at hl 1 rfl) ?_
          refine lv_if_ne (tgt := 1492) hx hb dL_law_1477 (by decide) (fun c122 => ?_) (fun c122 => ?_)
          · rw [if_neg c122] at hf
            refine lv_goto (tgt := 2729) hx hb dL_law_1492 (by decide) ?_
            refine lv_iinc (v := (v5 + 7)) (lv' := [(5, .int (v5 + 7)), (7, .int vr119), (6, .int vr115), (0, .ref b), (1, .ref (ad 0)), (2, .ref (ad 44)), (3, .ref (ad 61)), (4, .ref (ad 62))]) hx hb dL_law_2729 hl (k := 7) rfl rfl (by decide) rfl (fun ls hl => ?_)
            refine lv_goto (tgt := 28) hx hb dL_law_2732 (by decide) ?_
            exact ih _ _ _ hf _ _ _ _ _ h (lv_sub hl [3, 4, 5, 6, 7, 0] rfl) hc1 hc2
          · rw [if_pos c122] at hf
            refine lv_aload_n hx hb dL_law_1480 rfl (lv_at hl 5 rfl) ?_
            refine lv_iconst (v := (0 : Int32)) hx hb dL_law_1481 (by decide) ?_
            refine g_lald B h (i := (0 : Int32)) (inb_in (n := 1) (by decide)) dL_law_1482 ?_
            refine lv_iload hx hb dL_law_1483 (lv_at hl 0 rfl) ?_
            refine lv_i2l (v := (vr119.toInt64)) hx hb dL_law_1485 rfl ?_
            refine W.lcmp hx hb dL_law_1486 ?_
            refine lv_if_eq (tgt := 1492) hx hb dL_law_1487 (by decide) (fun c123 => ?_) (fun c123 => ?_)
            · rw [if_pos c123] at hf
              refine lv_goto (tgt := 2729) hx hb dL_law_1492 (by decide) ?_
              refine lv_iinc (v := (v5 + 7)) (lv' := [(5, .int (v5 + 7)), (7, .int vr119), (6, .int vr115), (0, .ref b), (1, .ref (ad 0)), (2, .ref (ad 44)), (3, .ref (ad 61)), (4, .ref (ad 62))]) hx hb dL_law_2729 hl (k := 7) rfl rfl (by decide) rfl (fun ls hl => ?_)
              refine lv_goto (tgt := 28) hx hb dL_law_2732 (by decide) ?_
              exact ih _ _ _ hf _ _ _ _ _ h (lv_sub hl [3, 4, 5, 6, 7, 0] rfl) hc1 hc2
            · rw [if_neg c123] at hf
              refine lv_iconst (v := (0 : Int32)) hx hb dL_law_1490 (by decide) ?_
              exact absurd hf (by decide)
        · rw [if_neg c121] at hf
          refine lv_iconst (v := (0 : Int32)) hx hb dL_law_1473 (by decide) ?_
          exact absurd hf (by decide)
      rw [if_neg e15] at hf
      by_cases e16 : vx3 = (16 : Int32)
      · rw [if_pos e16] at hf
        refine lv_tableIn (off := 1450) (tgt := 1495) hx hb dL_law_45 (by rw [e16]; decide) (by rw [e16]; decide) (by rw [e16]; rfl) (by decide) ?_
        refine lv_aload_n hx hb dL_law_1495 rfl (lv_at hl 1 rfl) ?_
        refine lv_aload_n hx hb dL_law_1496 rfl (lv_at hl 0 rfl) ?_
        refine lv_iload hx hb dL_law_1497 (lv_at hl 5 rfl) ?_
        refine lv_iconst (v := (1 : Int32)) hx hb dL_law_1499 (by decide) ?_
        refine lv_iadd hx hb dL_law_1500 ?_
        obtain ⟨c124, hf⟩ := chk_some hf
        refine va_sld hx hb C.1 C.2.1 C.2.2.1 h.2 (inb_in c124) dL_law_1501 ?_
        refine lv_aload_n hx hb dL_law_1502 rfl (lv_at hl 0 rfl) ?_
        refine lv_iload hx hb dL_law_1503 (lv_at hl 5 rfl) ?_
        refine lv_iconst (v := (2 : Int32)) hx hb dL_law_1505 (by decide) ?_
        refine lv_iadd hx hb dL_law_1506 ?_
        obtain ⟨c125, hf⟩ := chk_some hf
        refine va_sld hx hb C.1 C.2.1 C.2.2.1 h.2 (inb_in c125) dL_law_1507 ?_
        refine lv_aload_n hx hb dL_law_1508 rfl (lv_at hl 3 rfl) ?_
        obtain ⟨vr126, σ126, X126, hq126, hf⟩ := lthn_some hf
        refine sRetC (g_runH B h (ok_L_viewRemove B.2.2.2.2.2.2.2.2 B.2.2.2.2.2.2.1 _ _ (xs ((v5 + (1 : Int32))).toNatClampNeg) (xs ((v5 + (2 : Int32))).toNatClampNeg) hq126) cw_L_195 ⟨Nat.le_of_ble_eq_true rfl, Nat.le_of_ble_eq_true rfl⟩ rfl hl.1.symm rfl (Nat.le_of_ble_eq_true rfl) dL_law_1509 ⟨lw_c1 hc1, lw_s1 hc2⟩) h (fun H locs h => ?_)
        replace hc1 := lw_c2 hc1
        replace hc2 := lw_s2 hc2
        refine lv_istore (lv' := [(6, .int vr126), (0, .ref b), (1, .ref (ad 0)), (2, .ref (ad 44)), (3, .ref (ad 61)), (4, .ref (ad 62)), (5, .int v5)]) hx hb dL_law_1512 hl (by decide) rfl (fun ls hl => ?_)
        refine lv_aload_n hx hb dL_law_1514 rfl (lv_at hl 3 rfl) ?_
        refine lv_aload_n hx hb dL_law_1515 rfl (lv_at hl 1 rfl) ?_
        refine lv_iload hx hb dL_law_1516 (lv_at hl 6 rfl) ?_
        refine lv_iconst (v := (1 : Int32)) hx hb dL_law_1518 (by decide) ?_
        refine lv_iadd hx hb dL_law_1519 ?_
        obtain ⟨c127, hf⟩ := chk_some hf
        refine va_sld hx hb C.1 C.2.1 C.2.2.1 h.2 (inb_in c127) dL_law_1520 ?_
        refine lv_aload_n hx hb dL_law_1521 rfl (lv_at hl 1 rfl) ?_
        refine lv_iload hx hb dL_law_1522 (lv_at hl 6 rfl) ?_
        refine lv_iconst (v := (2 : Int32)) hx hb dL_law_1524 (by decide) ?_
        refine lv_iadd hx hb dL_law_1525 ?_
        obtain ⟨c128, hf⟩ := chk_some hf
        refine va_sld hx hb C.1 C.2.1 C.2.2.1 h.2 (inb_in c128) dL_law_1526 ?_
        obtain ⟨vr129, σ129, hq129, hf⟩ := wthn_some hf
        refine sRetC1 (g_runV (k := 44) (T := TX5) (N := 21) B h (ok_X5_viewRemove B.2.2.2.2.2.2.2.2 B.2.2.2.2.2.2.1 _ _ (xs ((v5 + (1 : Int32))).toNatClampNeg) (xs ((v5 + (2 : Int32))).toNatClampNeg) hq129) cw_L_197 ⟨Nat.le_of_ble_eq_true rfl, Nat.le_of_ble_eq_true rfl⟩ (by decide) (M_row _) rfl rfl hl.1.symm rfl (Nat.le_of_ble_eq_true rfl) dL_law_1527 ⟨lw_c0 hc1, lw_s0 hc2⟩) h (fun H locs h => ?_)
        refine lv_istore (lv' := [(7, .int vr129), (6, .int vr126), (0, .ref b), (1, .ref (ad 0)), (2, .ref (ad 44)), (3, .ref (ad 61)), (4, .ref (ad 62)), (5, .int v5)]) hx hb dL_law_1530 hl (by decide) rfl (fun ls hl => ?_)
        refine lv_aload_n hx hb dL_law_1532 rfl (lv_at hl 4 rfl) ?_
        obtain ⟨vr130, hq130, hf⟩ := rthn_some hf
        refine sRetC1 (g_runV (k := 44) (T := TX5) (N := 21) B h (ok_X5_thrown B.2.2.2.2.2.2.2.2 B.2.2.2.2.2.2.1 _ _  hq130) cw_L_139 ⟨Nat.le_of_ble_eq_true rfl, Nat.le_of_ble_eq_true rfl⟩ (by decide) (M_row _) rfl rfl hl.1.symm rfl (Nat.le_of_ble_eq_true rfl) dL_law_1533 ⟨lw_c0 hc1, lw_s0 hc2⟩) h (fun H locs h => ?_)
        refine lv_iload hx hb dL_law_1536 (lv_at hl 1 rfl) ?_
        refine lv_icmp_eq (tgt := 1543) hx hb dL_law_1538 (by decide) (fun c131 => ?_) (fun c131 => ?_)
        · rw [if_pos c131] at hf
          refine lv_iload hx hb dL_law_1543 (lv_at hl 1 rfl) ?_
          refine lv_if_ne (tgt := 1567) hx hb dL_law_1545 (by decide) (fun c132 => ?_) (fun c132 => ?_)
          · rw [if_neg c132] at hf
            refine lv_goto (tgt := 2729) hx hb dL_law_1567 (by decide) ?_
            refine lv_iinc (v := (v5 + 7)) (lv' := [(5, .int (v5 + 7)), (7, .int vr129), (6, .int vr126), (0, .ref b), (1, .ref (ad 0)), (2, .ref (ad 44)), (3, .ref (ad 61)), (4, .ref (ad 62))]) hx hb dL_law_2729 hl (k := 7) rfl rfl (by decide) rfl (fun ls hl => ?_)
            refine lv_goto (tgt := 28) hx hb dL_law_2732 (by decide) ?_
            exact ih _ _ _ hf _ _ _ _ _ h (lv_sub hl [3, 4, 5, 6, 7, 0] rfl) hc1 hc2
          · rw [if_pos c132] at hf
            refine lv_aload_n hx hb dL_law_1548 rfl (lv_at hl 5 rfl) ?_
            refine lv_iconst (v := (0 : Int32)) hx hb dL_law_1549 (by decide) ?_
            refine g_lald B h (i := (0 : Int32)) (inb_in (n := 1) (by decide)) dL_law_1550 ?_
            refine lv_iload hx hb dL_law_1551 (lv_at hl 0 rfl) ?_
            refine lv_if_eq (tgt := 1560) hx hb dL_law_1553 (by decide) (fun c133 => ?_) (fun c133 => ?_)
            · rw [if_pos c133] at hf
              refine lv_lconst (v := (0 : Int64)) hx hb dL_law_1560 (by decide) ?_
              refine W.lcmp hx hb dL_law_1561 ?_
              refine lv_if_eq (tgt := 1567) hx hb dL_law_1562 (by decide) (fun c134 => ?_) (fun c134 => ?_)
              · rw [if_pos c134] at hf
                refine lv_goto (tgt := 2729) hx hb dL_law_1567 (by decide) ?_
                refine lv_iinc (v := (v5 + 7)) (lv' := [(5, .int (v5 + 7)), (7, .int vr129), (6, .int vr126), (0, .ref b), (1, .ref (ad 0)), (2, .ref (ad 44)), (3, .ref (ad 61)), (4, .ref (ad 62))]) hx hb dL_law_2729 hl (k := 7) rfl rfl (by decide) rfl (fun ls hl => ?_)
                refine lv_goto (tgt := 28) hx hb dL_law_2732 (by decide) ?_
                exact ih _ _ _ hf _ _ _ _ _ h (lv_sub hl [3, 4, 5, 6, 7, 0] rfl) hc1 hc2
              · rw [if_neg c134] at hf
                refine lv_iconst (v := (0 : Int32)) hx hb dL_law_1565 (by decide) ?_
                exact absurd hf (by decide)
            · rw [if_neg c133] at hf
              refine lv_lconst (v := (1 : Int64)) hx hb dL_law_1556 (by decide) ?_
              refine lv_goto (tgt := 1561) hx hb dL_law_1557 (by decide) ?_
              refine W.lcmp hx hb dL_law_1561 ?_
              refine lv_if_eq (tgt := 1567) hx hb dL_law_1562 (by decide) (fun c135 => ?_) (fun c135 => ?_)
              · rw [if_pos c135] at hf
                refine lv_goto (tgt := 2729) hx hb dL_law_1567 (by decide) ?_
                refine lv_iinc (v := (v5 + 7)) (lv' := [(5, .int (v5 + 7)), (7, .int vr129), (6, .int vr126), (0, .ref b), (1, .ref (ad 0)), (2, .ref (ad 44)), (3, .ref (ad 61)), (4, .ref (ad 62))]) hx hb dL_law_2729 hl (k := 7) rfl rfl (by decide) rfl (fun ls hl => ?_)
                refine lv_goto (tgt := 28) hx hb dL_law_2732 (by decide) ?_
                exact ih _ _ _ hf _ _ _ _ _ h (lv_sub hl [3, 4, 5, 6, 7, 0] rfl) hc1 hc2
              · rw [if_neg c135] at hf
                refine lv_iconst (v := (0 : Int32)) hx hb dL_law_1565 (by decide) ?_
                exact absurd hf (by decide)
        · rw [if_neg c131] at hf
          refine lv_iconst (v := (0 : Int32)) hx hb dL_law_1541 (by decide) ?_
          exact absurd hf (by decide)
      rw [if_neg e16] at hf
      by_cases e17 : vx3 = (17 : Int32)
      · rw [if_pos e17] at hf
        refine lv_tableIn (off := 1525) (tgt := 1570) hx hb dL_law_45 (by rw [e17]; decide) (by rw [e17]; decide) (by rw [e17]; rfl) (by decide) ?_
        refine lv_aload_n hx hb dL_law_1570 rfl (lv_at hl 1 rfl) ?_
        refine lv_aload_n hx hb dL_law_1571 rfl (lv_at hl 0 rfl) ?_
        refine lv_iload hx hb dL_law_1572 (lv_at hl 5 rfl) ?_
        refine lv_iconst (v := (1 : Int32)) hx hb dL_law_1574 (by decide) ?_
        refine lv_iadd hx hb dL_law_1575 ?_
        obtain ⟨c136, hf⟩ := chk_some hf
        refine va_sld hx hb C.1 C.2.1 C.2.2.1 h.2 (inb_in c136) dL_law_1576 ?_
        refine lv_aload_n hx hb dL_law_1577 rfl (lv_at hl 0 rfl) ?_
        refine lv_iload hx hb dL_law_1578 (lv_at hl 5 rfl) ?_
        refine lv_iconst (v := (2 : Int32)) hx hb dL_law_1580 (by decide) ?_
        refine lv_iadd hx hb dL_law_1581 ?_
        obtain ⟨c137, hf⟩ := chk_some hf
        refine va_sld hx hb C.1 C.2.1 C.2.2.1 h.2 (inb_in c137) dL_law_1582 ?_
        refine lv_aload_n hx hb dL_law_1583 rfl (lv_at hl 0 rfl) ?_
        refine lv_iload hx hb dL_law_1584 (lv_at hl 5 rfl) ?_
        refine lv_iconst (v := (3 : Int32)) hx hb dL_law_1586 (by decide) ?_
        refine lv_iadd hx hb dL_law_1587 ?_
        obtain ⟨c138, hf⟩ := chk_some hf
        refine va_sld hx hb C.1 C.2.1 C.2.2.1 h.2 (inb_in c138) dL_law_1588 ?_
        refine lv_i2c (v := (((xs ((v5 + (3 : Int32))).toNatClampNeg).toUInt32 % 65536).toInt32)) hx hb dL_law_1589 rfl ?_
        refine lv_aload_n hx hb dL_law_1590 rfl (lv_at hl 3 rfl) ?_
        obtain ⟨vr139, σ139, X139, hq139, hf⟩ := lthn_some hf
        refine sRetC (g_runH B h (ok_L_viewNear B.2.2.2.2.2.2.2.2 B.2.2.2.2.2.2.1 _ _ (xs ((v5 + (1 : Int32))).toNatClampNeg) (xs ((v5 + (2 : Int32))).toNatClampNeg) (((xs ((v5 + (3 : Int32))).toNatClampNeg).toUInt32 % 65536).toInt32) hq139) cw_L_198 ⟨Nat.le_of_ble_eq_true rfl, Nat.le_of_ble_eq_true rfl⟩ rfl hl.1.symm rfl (Nat.le_of_ble_eq_true rfl) dL_law_1591 ⟨lw_c1 hc1, lw_s1 hc2⟩) h (fun H locs h => ?_)
        replace hc1 := lw_c2 hc1
        replace hc2 := lw_s2 hc2
        refine lv_istore (lv' := [(6, .int vr139), (0, .ref b), (1, .ref (ad 0)), (2, .ref (ad 44)), (3, .ref (ad 61)), (4, .ref (ad 62)), (5, .int v5)]) hx hb dL_law_1594 hl (by decide) rfl (fun ls hl => ?_)
        refine lv_aload_n hx hb dL_law_1596 rfl (lv_at hl 3 rfl) ?_
        refine lv_aload_n hx hb dL_law_1597 rfl (lv_at hl 1 rfl) ?_
        refine lv_iload hx hb dL_law_1598 (lv_at hl 6 rfl) ?_
        refine lv_iconst (v := (1 : Int32)) hx hb dL_law_1600 (by decide) ?_
        refine lv_iadd hx hb dL_law_1601 ?_
        obtain ⟨c140, hf⟩ := chk_some hf
        refine va_sld hx hb C.1 C.2.1 C.2.2.1 h.2 (inb_in c140) dL_law_1602 ?_
        refine lv_aload_n hx hb dL_law_1603 rfl (lv_at hl 1 rfl) ?_
        refine lv_iload hx hb dL_law_1604 (lv_at hl 6 rfl) ?_
        refine lv_iconst (v := (2 : Int32)) hx hb dL_law_1606 (by decide) ?_
        refine lv_iadd hx hb dL_law_1607 ?_
        obtain ⟨c141, hf⟩ := chk_some hf
        refine va_sld hx hb C.1 C.2.1 C.2.2.1 h.2 (inb_in c141) dL_law_1608 ?_
        refine lv_aload_n hx hb dL_law_1609 rfl (lv_at hl 1 rfl) ?_
        refine lv_iload hx hb dL_law_1610 (lv_at hl 6 rfl) ?_
        refine lv_iconst (v := (3 : Int32)) hx hb dL_law_1612 (by decide) ?_
        refine lv_iadd hx hb dL_law_1613 ?_
        obtain ⟨c142, hf⟩ := chk_some hf
        refine va_sld hx hb C.1 C.2.1 C.2.2.1 h.2 (inb_in c142) dL_law_1614 ?_
        refine lv_i2c (v := (((xs ((v5 + (3 : Int32))).toNatClampNeg).toUInt32 % 65536).toInt32)) hx hb dL_law_1615 rfl ?_
        obtain ⟨vr143, σ143, hq143, hf⟩ := wthn_some hf
        refine sRetC1 (g_runV (k := 44) (T := TX5) (N := 21) B h (ok_X5_viewNear B.2.2.2.2.2.2.2.2 B.2.2.2.2.2.2.1 _ _ (xs ((v5 + (1 : Int32))).toNatClampNeg) (xs ((v5 + (2 : Int32))).toNatClampNeg) (((xs ((v5 + (3 : Int32))).toNatClampNeg).toUInt32 % 65536).toInt32) hq143) cw_L_200 ⟨Nat.le_of_ble_eq_true rfl, Nat.le_of_ble_eq_true rfl⟩ (by decide) (M_row _) rfl rfl hl.1.symm rfl (Nat.le_of_ble_eq_true rfl) dL_law_1616 ⟨lw_c0 hc1, lw_s0 hc2⟩) h (fun H locs h => ?_)
        refine lv_istore (lv' := [(7, .int vr143), (6, .int vr139), (0, .ref b), (1, .ref (ad 0)), (2, .ref (ad 44)), (3, .ref (ad 61)), (4, .ref (ad 62)), (5, .int v5)]) hx hb dL_law_1619 hl (by decide) rfl (fun ls hl => ?_)
        refine lv_aload_n hx hb dL_law_1621 rfl (lv_at hl 4 rfl) ?_
        obtain ⟨vr144, hq144, hf⟩ := rthn_some hf
        refine sRetC1 (g_runV (k := 44) (T := TX5) (N := 21) B h (ok_X5_thrown B.2.2.2.2.2.2.2.2 B.2.2.2.2.2.2.1 _ _  hq144) cw_L_139 ⟨Nat.le_of_ble_eq_true rfl, Nat.le_of_ble_eq_true rfl⟩ (by decide) (M_row _) rfl rfl hl.1.symm rfl (Nat.le_of_ble_eq_true rfl) dL_law_1622 ⟨lw_c0 hc1, lw_s0 hc2⟩) h (fun H locs h => ?_)
        refine lv_iload hx hb dL_law_1625 (lv_at hl 1 rfl) ?_
        refine lv_icmp_eq (tgt := 1632) hx hb dL_law_1627 (by decide) (fun c145 => ?_) (fun c145 => ?_)
        · rw [if_pos c145] at hf
          refine lv_iload hx hb dL_law_1632 (lv_at hl 1 rfl) ?_
          refine lv_if_ne (tgt := 1649) hx hb dL_law_1634 (by decide) (fun c146 => ?_) (fun c146 => ?_)
          · rw [if_neg c146] at hf
            refine lv_goto (tgt := 2729) hx hb dL_law_1649 (by decide) ?_
            refine lv_iinc (v := (v5 + 7)) (lv' := [(5, .int (v5 + 7)), (7, .int vr143), (6, .int vr139), (0, .ref b), (1, .ref (ad 0)), (2, .ref (ad 44)), (3, .ref (ad 61)), (4, .ref (ad 62))]) hx hb dL_law_2729 hl (k := 7) rfl rfl (by decide) rfl (fun ls hl => ?_)
            refine lv_goto (tgt := 28) hx hb dL_law_2732 (by decide) ?_
            exact ih _ _ _ hf _ _ _ _ _ h (lv_sub hl [3, 4, 5, 6, 7, 0] rfl) hc1 hc2
          · rw [if_pos c146] at hf
            refine lv_aload_n hx hb dL_law_1637 rfl (lv_at hl 5 rfl) ?_
            refine lv_iconst (v := (0 : Int32)) hx hb dL_law_1638 (by decide) ?_
            refine g_lald B h (i := (0 : Int32)) (inb_in (n := 1) (by decide)) dL_law_1639 ?_
            refine lv_iload hx hb dL_law_1640 (lv_at hl 0 rfl) ?_
            refine lv_i2l (v := (vr143.toInt64)) hx hb dL_law_1642 rfl ?_
            refine W.lcmp hx hb dL_law_1643 ?_
            refine lv_if_eq (tgt := 1649) hx hb dL_law_1644 (by decide) (fun c147 => ?_) (fun c147 => ?_)
            · rw [if_pos c147] at hf
              refine lv_goto (tgt := 2729) hx hb dL_law_1649 (by decide) ?_
              refine lv_iinc (v := (v5 + 7)) (lv' := [(5, .int (v5 + 7)), (7, .int vr143), (6, .int vr139), (0, .ref b), (1, .ref (ad 0)), (2, .ref (ad 44)), (3, .ref (ad 61)), (4, .ref (ad 62))]) hx hb dL_law_2729 hl (k := 7) rfl rfl (by decide) rfl (fun ls hl => ?_)
              refine lv_goto (tgt := 28) hx hb dL_law_2732 (by decide) ?_
              exact ih _ _ _ hf _ _ _ _ _ h (lv_sub hl [3, 4, 5, 6, 7, 0] rfl) hc1 hc2
            · rw [if_neg c147] at hf
              refine lv_iconst (v := (0 : Int32)) hx hb dL_law_1647 (by decide) ?_
              exact absurd hf (by decide)
        · rw [if_neg c145] at hf
          refine lv_iconst (v := (0 : Int32)) hx hb dL_law_1630 (by decide) ?_
          exact absurd hf (by decide)
      rw [if_neg e17] at hf
      by_cases e18 : vx3 = (18 : Int32)
      · rw [if_pos e18] at hf
        refine lv_tableIn (off := 1607) (tgt := 1652) hx hb dL_law_45 (by rw [e18]; decide) (by rw [e18]; decide) (by rw [e18]; rfl) (by decide) ?_
        refine lv_aload_n hx hb dL_law_1652 rfl (lv_at hl 1 rfl) ?_
        refine lv_aload_n hx hb dL_law_1653 rfl (lv_at hl 0 rfl) ?_
        refine lv_iload hx hb dL_law_1654 (lv_at hl 5 rfl) ?_
        refine lv_iconst (v := (1 : Int32)) hx hb dL_law_1656 (by decide) ?_
        refine lv_iadd hx hb dL_law_1657 ?_
        obtain ⟨c148, hf⟩ := chk_some hf
        refine va_sld hx hb C.1 C.2.1 C.2.2.1 h.2 (inb_in c148) dL_law_1658 ?_
        refine lv_aload_n hx hb dL_law_1659 rfl (lv_at hl 0 rfl) ?_
        refine lv_iload hx hb dL_law_1660 (lv_at hl 5 rfl) ?_
        refine lv_iconst (v := (2 : Int32)) hx hb dL_law_1662 (by decide) ?_
        refine lv_iadd hx hb dL_law_1663 ?_
        obtain ⟨c149, hf⟩ := chk_some hf
        refine va_sld hx hb C.1 C.2.1 C.2.2.1 h.2 (inb_in c149) dL_law_1664 ?_
        refine lv_if_eq (tgt := 1672) hx hb dL_law_1665 (by decide) (fun c150 => ?_) (fun c150 => ?_)
        · rw [if_pos c150] at hf
          refine lv_iconst (v := (0 : Int32)) hx hb dL_law_1672 (by decide) ?_
          exact k_L_law_1673 C B hr ih _ _ _ _ _ hf _ _ _ _ _ h (lv_sub hl [0, 1, 2, 3, 4, 5] rfl) hc1 hc2
        · rw [if_neg c150] at hf
          refine lv_iconst (v := (1 : Int32)) hx hb dL_law_1668 (by decide) ?_
          refine lv_goto (tgt := 1673) hx hb dL_law_1669 (by decide) ?_
          exact k_L_law_1673 C B hr ih _ _ _ _ _ hf _ _ _ _ _ h (lv_sub hl [0, 1, 2, 3, 4, 5] rfl) hc1 hc2
      rw [if_neg e18] at hf
      by_cases e19 : vx3 = (19 : Int32)
      · rw [if_pos e19] at hf
        refine lv_tableIn (off := 1691) (tgt := 1736) hx hb dL_law_45 (by rw [e19]; decide) (by rw [e19]; decide) (by rw [e19]; rfl) (by decide) ?_
        refine lv_aload_n hx hb dL_law_1736 rfl (lv_at hl 1 rfl) ?_
        refine lv_aload_n hx hb dL_law_1737 rfl (lv_at hl 0 rfl) ?_
        refine lv_iload hx hb dL_law_1738 (lv_at hl 5 rfl) ?_
        refine lv_iconst (v := (1 : Int32)) hx hb dL_law_1740 (by decide) ?_
        refine lv_iadd hx hb dL_law_1741 ?_
        obtain ⟨c151, hf⟩ := chk_some hf
        refine va_sld hx hb C.1 C.2.1 C.2.2.1 h.2 (inb_in c151) dL_law_1742 ?_
        refine lv_aload_n hx hb dL_law_1743 rfl (lv_at hl 0 rfl) ?_
        refine lv_iload hx hb dL_law_1744 (lv_at hl 5 rfl) ?_
        refine lv_iconst (v := (2 : Int32)) hx hb dL_law_1746 (by decide) ?_
        refine lv_iadd hx hb dL_law_1747 ?_
        obtain ⟨c152, hf⟩ := chk_some hf
        refine va_sld hx hb C.1 C.2.1 C.2.2.1 h.2 (inb_in c152) dL_law_1748 ?_
        refine lv_if_eq (tgt := 1756) hx hb dL_law_1749 (by decide) (fun c153 => ?_) (fun c153 => ?_)
        · rw [if_pos c153] at hf
          refine lv_iconst (v := (0 : Int32)) hx hb dL_law_1756 (by decide) ?_
          exact k_L_law_1757 C B hr ih _ _ _ _ _ hf _ _ _ _ _ h (lv_sub hl [0, 1, 2, 3, 4, 5] rfl) hc1 hc2
        · rw [if_neg c153] at hf
          refine lv_iconst (v := (1 : Int32)) hx hb dL_law_1752 (by decide) ?_
          refine lv_goto (tgt := 1757) hx hb dL_law_1753 (by decide) ?_
          exact k_L_law_1757 C B hr ih _ _ _ _ _ hf _ _ _ _ _ h (lv_sub hl [0, 1, 2, 3, 4, 5] rfl) hc1 hc2
      rw [if_neg e19] at hf
      by_cases e20 : vx3 = (20 : Int32)
      · rw [if_pos e20] at hf
        refine lv_tableIn (off := 1775) (tgt := 1820) hx hb dL_law_45 (by rw [e20]; decide) (by rw [e20]; decide) (by rw [e20]; rfl) (by decide) ?_
        refine lv_aload_n hx hb dL_law_1820 rfl (lv_at hl 1 rfl) ?_
        refine lv_aload_n hx hb dL_law_1821 rfl (lv_at hl 0 rfl) ?_
        refine lv_iload hx hb dL_law_1822 (lv_at hl 5 rfl) ?_
        refine lv_iconst (v := (1 : Int32)) hx hb dL_law_1824 (by decide) ?_
        refine lv_iadd hx hb dL_law_1825 ?_
        obtain ⟨c154, hf⟩ := chk_some hf
        refine va_sld hx hb C.1 C.2.1 C.2.2.1 h.2 (inb_in c154) dL_law_1826 ?_
        refine lv_aload_n hx hb dL_law_1827 rfl (lv_at hl 3 rfl) ?_
        obtain ⟨vr155, σ155, X155, hq155, hf⟩ := lthn_some hf
        refine sRetC (g_runH B h (ok_L_viewClear B.2.2.2.2.2.2.2.2 B.2.2.2.2.2.2.1 _ _ (xs ((v5 + (1 : Int32))).toNatClampNeg) hq155) cw_L_207 ⟨Nat.le_of_ble_eq_true rfl, Nat.le_of_ble_eq_true rfl⟩ rfl hl.1.symm rfl (Nat.le_of_ble_eq_true rfl) dL_law_1828 ⟨lw_c1 hc1, lw_s1 hc2⟩) h (fun H locs h => ?_)
        replace hc1 := lw_c2 hc1
        replace hc2 := lw_s2 hc2
        refine lv_istore (lv' := [(6, .int vr155), (0, .ref b), (1, .ref (ad 0)), (2, .ref (ad 44)), (3, .ref (ad 61)), (4, .ref (ad 62)), (5, .int v5)]) hx hb dL_law_1831 hl (by decide) rfl (fun ls hl => ?_)
        refine lv_aload_n hx hb dL_law_1833 rfl (lv_at hl 3 rfl) ?_
        refine lv_aload_n hx hb dL_law_1834 rfl (lv_at hl 1 rfl) ?_
        refine lv_iload hx hb dL_law_1835 (lv_at hl 6 rfl) ?_
        refine lv_iconst (v := (1 : Int32)) hx hb dL_law_1837 (by decide) ?_
        refine lv_iadd hx hb dL_law_1838 ?_
        obtain ⟨c156, hf⟩ := chk_some hf
        refine va_sld hx hb C.1 C.2.1 C.2.2.1 h.2 (inb_in c156) dL_law_1839 ?_
        obtain ⟨vr157, σ157, hq157, hf⟩ := wthn_some hf
        refine sRetC1 (g_runV (k := 44) (T := TX5) (N := 21) B h (ok_X5_viewClear B.2.2.2.2.2.2.2.2 B.2.2.2.2.2.2.1 _ _ (xs ((v5 + (1 : Int32))).toNatClampNeg) hq157) cw_L_209 ⟨Nat.le_of_ble_eq_true rfl, Nat.le_of_ble_eq_true rfl⟩ (by decide) (M_row _) rfl rfl hl.1.symm rfl (Nat.le_of_ble_eq_true rfl) dL_law_1840 ⟨lw_c0 hc1, lw_s0 hc2⟩) h (fun H locs h => ?_)
        refine lv_istore (lv' := [(7, .int vr157), (6, .int vr155), (0, .ref b), (1, .ref (ad 0)), (2, .ref (ad 44)), (3, .ref (ad 61)), (4, .ref (ad 62)), (5, .int v5)]) hx hb dL_law_1843 hl (by decide) rfl (fun ls hl => ?_)
        refine lv_aload_n hx hb dL_law_1845 rfl (lv_at hl 4 rfl) ?_
        obtain ⟨vr158, hq158, hf⟩ := rthn_some hf
        refine sRetC1 (g_runV (k := 44) (T := TX5) (N := 21) B h (ok_X5_thrown B.2.2.2.2.2.2.2.2 B.2.2.2.2.2.2.1 _ _  hq158) cw_L_139 ⟨Nat.le_of_ble_eq_true rfl, Nat.le_of_ble_eq_true rfl⟩ (by decide) (M_row _) rfl rfl hl.1.symm rfl (Nat.le_of_ble_eq_true rfl) dL_law_1846 ⟨lw_c0 hc1, lw_s0 hc2⟩) h (fun H locs h => ?_)
        refine lv_iload hx hb dL_law_1849 (lv_at hl 1 rfl) ?_
        refine lv_icmp_eq (tgt := 1856) hx hb dL_law_1851 (by decide) (fun c159 => ?_) (fun c159 => ?_)
        · rw [if_pos c159] at hf
          refine lv_iload hx hb dL_law_1856 (lv_at hl 1 rfl) ?_
          refine lv_if_ne (tgt := 1873) hx hb dL_law_1858 (by decide) (fun c160 => ?_) (fun c160 => ?_)
          · rw [if_neg c160] at hf
            refine lv_goto (tgt := 2729) hx hb dL_law_1873 (by decide) ?_
            refine lv_iinc (v := (v5 + 7)) (lv' := [(5, .int (v5 + 7)), (7, .int vr157), (6, .int vr155), (0, .ref b), (1, .ref (ad 0)), (2, .ref (ad 44)), (3, .ref (ad 61)), (4, .ref (ad 62))]) hx hb dL_law_2729 hl (k := 7) rfl rfl (by decide) rfl (fun ls hl => ?_)
            refine lv_goto (tgt := 28) hx hb dL_law_2732 (by decide) ?_
            exact ih _ _ _ hf _ _ _ _ _ h (lv_sub hl [3, 4, 5, 6, 7, 0] rfl) hc1 hc2
          · rw [if_pos c160] at hf
            refine lv_aload_n hx hb dL_law_1861 rfl (lv_at hl 5 rfl) ?_
            refine lv_iconst (v := (0 : Int32)) hx hb dL_law_1862 (by decide) ?_
            refine g_lald B h (i := (0 : Int32)) (inb_in (n := 1) (by decide)) dL_law_1863 ?_
            refine lv_iload hx hb dL_law_1864 (lv_at hl 0 rfl) ?_
            refine lv_i2l (v := (vr157.toInt64)) hx hb dL_law_1866 rfl ?_
            refine W.lcmp hx hb dL_law_1867 ?_
            refine lv_if_eq (tgt := 1873) hx hb dL_law_1868 (by decide) (fun c161 => ?_) (fun c161 => ?_)
            · rw [if_pos c161] at hf
              refine lv_goto (tgt := 2729) hx hb dL_law_1873 (by decide) ?_
              refine lv_iinc (v := (v5 + 7)) (lv' := [(5, .int (v5 + 7)), (7, .int vr157), (6, .int vr155), (0, .ref b), (1, .ref (ad 0)), (2, .ref (ad 44)), (3, .ref (ad 61)), (4, .ref (ad 62))]) hx hb dL_law_2729 hl (k := 7) rfl rfl (by decide) rfl (fun ls hl => ?_)
              refine lv_goto (tgt := 28) hx hb dL_law_2732 (by decide) ?_
              exact ih _ _ _ hf _ _ _ _ _ h (lv_sub hl [3, 4, 5, 6, 7, 0] rfl) hc1 hc2
            · rw [if_neg c161] at hf
              refine lv_iconst (v := (0 : Int32)) hx hb dL_law_1871 (by decide) ?_
              exact absurd hf (by decide)
        · rw [if_neg c159] at hf
          refine lv_iconst (v := (0 : Int32)) hx hb dL_law_1854 (by decide) ?_
          exact absurd hf (by decide)
      rw [if_neg e20] at hf
      by_cases e21 : vx3 = (21 : Int32)
      · rw [if_pos e21] at hf
        refine lv_tableIn (off := 1831) (tgt := 1876) hx hb dL_law_45 (by rw [e21]; decide) (by rw [e21]; decide) (by rw [e21]; rfl) (by decide) ?_
        refine lv_aload_n hx hb dL_law_1876 rfl (lv_at hl 1 rfl) ?_
        refine lv_aload_n hx hb dL_law_1877 rfl (lv_at hl 0 rfl) ?_
        refine lv_iload hx hb dL_law_1878 (lv_at hl 5 rfl) ?_
        refine lv_iconst (v := (1 : Int32)) hx hb dL_law_1880 (by decide) ?_
        refine lv_iadd hx hb dL_law_1881 ?_
        obtain ⟨c162, hf⟩ := chk_some hf
        refine va_sld hx hb C.1 C.2.1 C.2.2.1 h.2 (inb_in c162) dL_law_1882 ?_
        refine lv_aload_n hx hb dL_law_1883 rfl (lv_at hl 3 rfl) ?_
        obtain ⟨vr163, σ163, X163, hq163, hf⟩ := lthn_some hf
        refine sRetC (g_runH B h (ok_L_viewSize B.2.2.2.2.2.2.2.2 B.2.2.2.2.2.2.1 _ _ (xs ((v5 + (1 : Int32))).toNatClampNeg) hq163) cw_L_210 ⟨Nat.le_of_ble_eq_true rfl, Nat.le_of_ble_eq_true rfl⟩ rfl hl.1.symm rfl (Nat.le_of_ble_eq_true rfl) dL_law_1884 ⟨lw_c1 hc1, lw_s1 hc2⟩) h (fun H locs h => ?_)
        replace hc1 := lw_c2 hc1
        replace hc2 := lw_s2 hc2
        refine lv_istore (lv' := [(6, .int vr163), (0, .ref b), (1, .ref (ad 0)), (2, .ref (ad 44)), (3, .ref (ad 61)), (4, .ref (ad 62)), (5, .int v5)]) hx hb dL_law_1887 hl (by decide) rfl (fun ls hl => ?_)
        refine lv_aload_n hx hb dL_law_1889 rfl (lv_at hl 3 rfl) ?_
        refine lv_aload_n hx hb dL_law_1890 rfl (lv_at hl 1 rfl) ?_
        refine lv_iload hx hb dL_law_1891 (lv_at hl 6 rfl) ?_
        refine lv_iconst (v := (1 : Int32)) hx hb dL_law_1893 (by decide) ?_
        refine lv_iadd hx hb dL_law_1894 ?_
        obtain ⟨c164, hf⟩ := chk_some hf
        refine va_sld hx hb C.1 C.2.1 C.2.2.1 h.2 (inb_in c164) dL_law_1895 ?_
        obtain ⟨vr165, σ165, hq165, hf⟩ := wthn_some hf
        refine sRetC1 (g_runV (k := 44) (T := TX5) (N := 21) B h (ok_X5_viewSize B.2.2.2.2.2.2.2.2 B.2.2.2.2.2.2.1 _ _ (xs ((v5 + (1 : Int32))).toNatClampNeg) hq165) cw_L_212 ⟨Nat.le_of_ble_eq_true rfl, Nat.le_of_ble_eq_true rfl⟩ (by decide) (M_row _) rfl rfl hl.1.symm rfl (Nat.le_of_ble_eq_true rfl) dL_law_1896 ⟨lw_c0 hc1, lw_s0 hc2⟩) h (fun H locs h => ?_)
        refine lv_istore (lv' := [(7, .int vr165), (6, .int vr163), (0, .ref b), (1, .ref (ad 0)), (2, .ref (ad 44)), (3, .ref (ad 61)), (4, .ref (ad 62)), (5, .int v5)]) hx hb dL_law_1899 hl (by decide) rfl (fun ls hl => ?_)
        refine lv_aload_n hx hb dL_law_1901 rfl (lv_at hl 4 rfl) ?_
        obtain ⟨vr166, hq166, hf⟩ := rthn_some hf
        refine sRetC1 (g_runV (k := 44) (T := TX5) (N := 21) B h (ok_X5_thrown B.2.2.2.2.2.2.2.2 B.2.2.2.2.2.2.1 _ _  hq166) cw_L_139 ⟨Nat.le_of_ble_eq_true rfl, Nat.le_of_ble_eq_true rfl⟩ (by decide) (M_row _) rfl rfl hl.1.symm rfl (Nat.le_of_ble_eq_true rfl) dL_law_1902 ⟨lw_c0 hc1, lw_s0 hc2⟩) h (fun H locs h => ?_)
        refine lv_iload hx hb dL_law_1905 (lv_at hl 1 rfl) ?_
        refine lv_icmp_eq (tgt := 1912) hx hb dL_law_1907 (by decide) (fun c167 => ?_) (fun c167 => ?_)
        · rw [if_pos c167] at hf
          refine lv_iload hx hb dL_law_1912 (lv_at hl 1 rfl) ?_
          refine lv_if_ne (tgt := 1929) hx hb dL_law_1914 (by decide) (fun c168 => ?_) (fun c168 => ?_)
          · rw [if_neg c168] at hf
            refine lv_goto (tgt := 2729) hx hb dL_law_1929 (by decide) ?_
            refine lv_iinc (v := (v5 + 7)) (lv' := [(5, .int (v5 + 7)), (7, .int vr165), (6, .int vr163), (0, .ref b), (1, .ref (ad 0)), (2, .ref (ad 44)), (3, .ref (ad 61)), (4, .ref (ad 62))]) hx hb dL_law_2729 hl (k := 7) rfl rfl (by decide) rfl (fun ls hl => ?_)
            refine lv_goto (tgt := 28) hx hb dL_law_2732 (by decide) ?_
            exact ih _ _ _ hf _ _ _ _ _ h (lv_sub hl [3, 4, 5, 6, 7, 0] rfl) hc1 hc2
          · rw [if_pos c168] at hf
            refine lv_aload_n hx hb dL_law_1917 rfl (lv_at hl 5 rfl) ?_
            refine lv_iconst (v := (0 : Int32)) hx hb dL_law_1918 (by decide) ?_
            refine g_lald B h (i := (0 : Int32)) (inb_in (n := 1) (by decide)) dL_law_1919 ?_
            refine lv_iload hx hb dL_law_1920 (lv_at hl 0 rfl) ?_
            refine lv_i2l (v := (vr165.toInt64)) hx hb dL_law_1922 rfl ?_
            refine W.lcmp hx hb dL_law_1923 ?_
            refine lv_if_eq (tgt := 1929) hx hb dL_law_1924 (by decide) (fun c169 => ?_) (fun c169 => ?_)
            · rw [if_pos c169] at hf
              refine lv_goto (tgt := 2729) hx hb dL_law_1929 (by decide) ?_
              refine lv_iinc (v := (v5 + 7)) (lv' := [(5, .int (v5 + 7)), (7, .int vr165), (6, .int vr163), (0, .ref b), (1, .ref (ad 0)), (2, .ref (ad 44)), (3, .ref (ad 61)), (4, .ref (ad 62))]) hx hb dL_law_2729 hl (k := 7) rfl rfl (by decide) rfl (fun ls hl => ?_)
              refine lv_goto (tgt := 28) hx hb dL_law_2732 (by decide) ?_
              exact ih _ _ _ hf _ _ _ _ _ h (lv_sub hl [3, 4, 5, 6, 7, 0] rfl) hc1 hc2
            · rw [if_neg c169] at hf
              refine lv_iconst (v := (0 : Int32)) hx hb dL_law_1927 (by decide) ?_
              exact absurd hf (by decide)
        · rw [if_neg c167] at hf
          refine lv_iconst (v := (0 : Int32)) hx hb dL_law_1910 (by decide) ?_
          exact absurd hf (by decide)
      rw [if_neg e21] at hf
      by_cases e22 : vx3 = (22 : Int32)
      · rw [if_pos e22] at hf
        refine lv_tableIn (off := 1887) (tgt := 1932) hx hb dL_law_45 (by rw [e22]; decide) (by rw [e22]; decide) (by rw [e22]; rfl) (by decide) ?_
        refine lv_aload_n hx hb dL_law_1932 rfl (lv_at hl 1 rfl) ?_
        refine lv_aload_n hx hb dL_law_1933 rfl (lv_at hl 0 rfl) ?_
        refine lv_iload hx hb dL_law_1934 (lv_at hl 5 rfl) ?_
        refine lv_iconst (v := (1 : Int32)) hx hb dL_law_1936 (by decide) ?_
        refine lv_iadd hx hb dL_law_1937 ?_
        obtain ⟨c170, hf⟩ := chk_some hf
        refine va_sld hx hb C.1 C.2.1 C.2.2.1 h.2 (inb_in c170) dL_law_1938 ?_
        refine lv_aload_n hx hb dL_law_1939 rfl (lv_at hl 0 rfl) ?_
        refine lv_iload hx hb dL_law_1940 (lv_at hl 5 rfl) ?_
        refine lv_iconst (v := (2 : Int32)) hx hb dL_law_1942 (by decide) ?_
        refine lv_iadd hx hb dL_law_1943 ?_
        obtain ⟨c171, hf⟩ := chk_some hf
        refine va_sld hx hb C.1 C.2.1 C.2.2.1 h.2 (inb_in c171) dL_law_1944 ?_
        refine lv_aload_n hx hb dL_law_1945 rfl (lv_at hl 3 rfl) ?_
        obtain ⟨vr172, σ172, X172, hq172, hf⟩ := lthn_some hf
        refine sRetC (g_runH B h (ok_L_lies B.2.2.2.2.2.2.2.2 B.2.2.2.2.2.2.1 _ _ (xs ((v5 + (1 : Int32))).toNatClampNeg) (xs ((v5 + (2 : Int32))).toNatClampNeg) hq172) cw_L_213 ⟨Nat.le_of_ble_eq_true rfl, Nat.le_of_ble_eq_true rfl⟩ rfl hl.1.symm rfl (Nat.le_of_ble_eq_true rfl) dL_law_1946 ⟨lw_c1 hc1, lw_s1 hc2⟩) h (fun H locs h => ?_)
        replace hc1 := lw_c2 hc1
        replace hc2 := lw_s2 hc2
        refine lv_istore (lv' := [(6, .int vr172), (0, .ref b), (1, .ref (ad 0)), (2, .ref (ad 44)), (3, .ref (ad 61)), (4, .ref (ad 62)), (5, .int v5)]) hx hb dL_law_1949 hl (by decide) rfl (fun ls hl => ?_)
        refine lv_aload_n hx hb dL_law_1951 rfl (lv_at hl 3 rfl) ?_
        refine lv_aload_n hx hb dL_law_1952 rfl (lv_at hl 1 rfl) ?_
        refine lv_iload hx hb dL_law_1953 (lv_at hl 6 rfl) ?_
        refine lv_iconst (v := (1 : Int32)) hx hb dL_law_1955 (by decide) ?_
        refine lv_iadd hx hb dL_law_1956 ?_
        obtain ⟨c173, hf⟩ := chk_some hf
        refine va_sld hx hb C.1 C.2.1 C.2.2.1 h.2 (inb_in c173) dL_law_1957 ?_
        refine lv_aload_n hx hb dL_law_1958 rfl (lv_at hl 1 rfl) ?_
        refine lv_iload hx hb dL_law_1959 (lv_at hl 6 rfl) ?_
        refine lv_iconst (v := (2 : Int32)) hx hb dL_law_1961 (by decide) ?_
        refine lv_iadd hx hb dL_law_1962 ?_
        obtain ⟨c174, hf⟩ := chk_some hf
        refine va_sld hx hb C.1 C.2.1 C.2.2.1 h.2 (inb_in c174) dL_law_1963 ?_
        obtain ⟨vr175, σ175, hq175, hf⟩ := wthn_some hf
        refine sRetC1 (g_runV (k := 44) (T := TX5) (N := 21) B h (ok_X5_lies B.2.2.2.2.2.2.2.2 B.2.2.2.2.2.2.1 _ _ (xs ((v5 + (1 : Int32))).toNatClampNeg) (xs ((v5 + (2 : Int32))).toNatClampNeg) hq175) cw_L_215 ⟨Nat.le_of_ble_eq_true rfl, Nat.le_of_ble_eq_true rfl⟩ (by decide) (M_row _) rfl rfl hl.1.symm rfl (Nat.le_of_ble_eq_true rfl) dL_law_1964 ⟨lw_c0 hc1, lw_s0 hc2⟩) h (fun H locs h => ?_)
        refine lv_istore (lv' := [(7, .int vr175), (6, .int vr172), (0, .ref b), (1, .ref (ad 0)), (2, .ref (ad 44)), (3, .ref (ad 61)), (4, .ref (ad 62)), (5, .int v5)]) hx hb dL_law_1967 hl (by decide) rfl (fun ls hl => ?_)
        refine lv_aload_n hx hb dL_law_1969 rfl (lv_at hl 4 rfl) ?_
        obtain ⟨vr176, hq176, hf⟩ := rthn_some hf
        refine sRetC1 (g_runV (k := 44) (T := TX5) (N := 21) B h (ok_X5_thrown B.2.2.2.2.2.2.2.2 B.2.2.2.2.2.2.1 _ _  hq176) cw_L_139 ⟨Nat.le_of_ble_eq_true rfl, Nat.le_of_ble_eq_true rfl⟩ (by decide) (M_row _) rfl rfl hl.1.symm rfl (Nat.le_of_ble_eq_true rfl) dL_law_1970 ⟨lw_c0 hc1, lw_s0 hc2⟩) h (fun H locs h => ?_)
        refine lv_iload hx hb dL_law_1973 (lv_at hl 1 rfl) ?_
        refine lv_icmp_eq (tgt := 1980) hx hb dL_law_1975 (by decide) (fun c177 => ?_) (fun c177 => ?_)
        · rw [if_pos c177] at hf
          refine lv_iload hx hb dL_law_1980 (lv_at hl 1 rfl) ?_
          refine lv_if_ne (tgt := 2004) hx hb dL_law_1982 (by decide) (fun c178 => ?_) (fun c178 => ?_)
          · rw [if_neg c178] at hf
            refine lv_goto (tgt := 2729) hx hb dL_law_2004 (by decide) ?_
            refine lv_iinc (v := (v5 + 7)) (lv' := [(5, .int (v5 + 7)), (7, .int vr175), (6, .int vr172), (0, .ref b), (1, .ref (ad 0)), (2, .ref (ad 44)), (3, .ref (ad 61)), (4, .ref (ad 62))]) hx hb dL_law_2729 hl (k := 7) rfl rfl (by decide) rfl (fun ls hl => ?_)
            refine lv_goto (tgt := 28) hx hb dL_law_2732 (by decide) ?_
            exact ih _ _ _ hf _ _ _ _ _ h (lv_sub hl [3, 4, 5, 6, 7, 0] rfl) hc1 hc2
          · rw [if_pos c178] at hf
            refine lv_aload_n hx hb dL_law_1985 rfl (lv_at hl 5 rfl) ?_
            refine lv_iconst (v := (0 : Int32)) hx hb dL_law_1986 (by decide) ?_
            refine g_lald B h (i := (0 : Int32)) (inb_in (n := 1) (by decide)) dL_law_1987 ?_
            refine lv_iload hx hb dL_law_1988 (lv_at hl 0 rfl) ?_
            refine lv_if_eq (tgt := 1997) hx hb dL_law_1990 (by decide) (fun c179 => ?_) (fun c179 => ?_)
            · rw [if_pos c179] at hf
              refine lv_lconst (v := (0 : Int64)) hx hb dL_law_1997 (by decide) ?_
              refine W.lcmp hx hb dL_law_1998 ?_
              refine lv_if_eq (tgt := 2004) hx hb dL_law_1999 (by decide) (fun c180 => ?_) (fun c180 => ?_)
              · rw [if_pos c180] at hf
                refine lv_goto (tgt := 2729) hx hb dL_law_2004 (by decide) ?_
                refine lv_iinc (v := (v5 + 7)) (lv' := [(5, .int (v5 + 7)), (7, .int vr175), (6, .int vr172), (0, .ref b), (1, .ref (ad 0)), (2, .ref (ad 44)), (3, .ref (ad 61)), (4, .ref (ad 62))]) hx hb dL_law_2729 hl (k := 7) rfl rfl (by decide) rfl (fun ls hl => ?_)
                refine lv_goto (tgt := 28) hx hb dL_law_2732 (by decide) ?_
                exact ih _ _ _ hf _ _ _ _ _ h (lv_sub hl [3, 4, 5, 6, 7, 0] rfl) hc1 hc2
              · rw [if_neg c180] at hf
                refine lv_iconst (v := (0 : Int32)) hx hb dL_law_2002 (by decide) ?_
                exact absurd hf (by decide)
            · rw [if_neg c179] at hf
              refine lv_lconst (v := (1 : Int64)) hx hb dL_law_1993 (by decide) ?_
              refine lv_goto (tgt := 1998) hx hb dL_law_1994 (by decide) ?_
              refine W.lcmp hx hb dL_law_1998 ?_
              refine lv_if_eq (tgt := 2004) hx hb dL_law_1999 (by decide) (fun c181 => ?_) (fun c181 => ?_)
              · rw [if_pos c181] at hf
                refine lv_goto (tgt := 2729) hx hb dL_law_2004 (by decide) ?_
                refine lv_iinc (v := (v5 + 7)) (lv' := [(5, .int (v5 + 7)), (7, .int vr175), (6, .int vr172), (0, .ref b), (1, .ref (ad 0)), (2, .ref (ad 44)), (3, .ref (ad 61)), (4, .ref (ad 62))]) hx hb dL_law_2729 hl (k := 7) rfl rfl (by decide) rfl (fun ls hl => ?_)
                refine lv_goto (tgt := 28) hx hb dL_law_2732 (by decide) ?_
                exact ih _ _ _ hf _ _ _ _ _ h (lv_sub hl [3, 4, 5, 6, 7, 0] rfl) hc1 hc2
              · rw [if_neg c181] at hf
                refine lv_iconst (v := (0 : Int32)) hx hb dL_law_2002 (by decide) ?_
                exact absurd hf (by decide)
        · rw [if_neg c177] at hf
          refine lv_iconst (v := (0 : Int32)) hx hb dL_law_1978 (by decide) ?_
          exact absurd hf (by decide)
      rw [if_neg e22] at hf
      by_cases e23 : vx3 = (23 : Int32)
      · rw [if_pos e23] at hf
        refine lv_tableIn (off := 1962) (tgt := 2007) hx hb dL_law_45 (by rw [e23]; decide) (by rw [e23]; decide) (by rw [e23]; rfl) (by decide) ?_
        refine lv_aload_n hx hb dL_law_2007 rfl (lv_at hl 1 rfl) ?_
        refine lv_aload_n hx hb dL_law_2008 rfl (lv_at hl 0 rfl) ?_
        refine lv_iload hx hb dL_law_2009 (lv_at hl 5 rfl) ?_
        refine lv_iconst (v := (1 : Int32)) hx hb dL_law_2011 (by decide) ?_
        refine lv_iadd hx hb dL_law_2012 ?_
        obtain ⟨c182, hf⟩ := chk_some hf
        refine va_sld hx hb C.1 C.2.1 C.2.2.1 h.2 (inb_in c182) dL_law_2013 ?_
        refine lv_aload_n hx hb dL_law_2014 rfl (lv_at hl 0 rfl) ?_
        refine lv_iload hx hb dL_law_2015 (lv_at hl 5 rfl) ?_
        refine lv_iconst (v := (2 : Int32)) hx hb dL_law_2017 (by decide) ?_
        refine lv_iadd hx hb dL_law_2018 ?_
        obtain ⟨c183, hf⟩ := chk_some hf
        refine va_sld hx hb C.1 C.2.1 C.2.2.1 h.2 (inb_in c183) dL_law_2019 ?_
        refine lv_i2c (v := (((xs ((v5 + (2 : Int32))).toNatClampNeg).toUInt32 % 65536).toInt32)) hx hb dL_law_2020 rfl ?_
        refine lv_aload_n hx hb dL_law_2021 rfl (lv_at hl 0 rfl) ?_
        refine lv_iload hx hb dL_law_2022 (lv_at hl 5 rfl) ?_
        refine lv_iconst (v := (3 : Int32)) hx hb dL_law_2024 (by decide) ?_
        refine lv_iadd hx hb dL_law_2025 ?_
        obtain ⟨c184, hf⟩ := chk_some hf
        refine va_sld hx hb C.1 C.2.1 C.2.2.1 h.2 (inb_in c184) dL_law_2026 ?_
        refine lv_aload_n hx hb dL_law_2027 rfl (lv_at hl 0 rfl) ?_
        refine lv_iload hx hb dL_law_2028 (lv_at hl 5 rfl) ?_
        refine lv_iconst (v := (4 : Int32)) hx hb dL_law_2030 (by decide) ?_
        refine lv_iadd hx hb dL_law_2031 ?_
        obtain ⟨c185, hf⟩ := chk_some hf
        refine va_sld hx hb C.1 C.2.1 C.2.2.1 h.2 (inb_in c185) dL_law_2032 ?_
        refine lv_aload_n hx hb dL_law_2033 rfl (lv_at hl 3 rfl) ?_
        obtain ⟨vr186, σ186, X186, hq186, hf⟩ := lthn_some hf
        refine sRetC (g_runH B h (ok_L_step B.2.2.2.2.2.2.2.2 B.2.2.2.2.2.2.1 _ _ (xs ((v5 + (1 : Int32))).toNatClampNeg) (((xs ((v5 + (2 : Int32))).toNatClampNeg).toUInt32 % 65536).toInt32) (xs ((v5 + (3 : Int32))).toNatClampNeg) (xs ((v5 + (4 : Int32))).toNatClampNeg) hq186) cw_L_216 ⟨Nat.le_of_ble_eq_true rfl, Nat.le_of_ble_eq_true rfl⟩ rfl hl.1.symm rfl (Nat.le_of_ble_eq_true rfl) dL_law_2034 ⟨lw_c1 hc1, lw_s1 hc2⟩) h (fun H locs h => ?_)
        replace hc1 := lw_c2 hc1
        replace hc2 := lw_s2 hc2
        refine lv_istore (lv' := [(6, .int vr186), (0, .ref b), (1, .ref (ad 0)), (2, .ref (ad 44)), (3, .ref (ad 61)), (4, .ref (ad 62)), (5, .int v5)]) hx hb dL_law_2037 hl (by decide) rfl (fun ls hl => ?_)
        refine lv_aload_n hx hb dL_law_2039 rfl (lv_at hl 3 rfl) ?_
        refine lv_aload_n hx hb dL_law_2040 rfl (lv_at hl 1 rfl) ?_
        refine lv_iload hx hb dL_law_2041 (lv_at hl 6 rfl) ?_
        refine lv_iconst (v := (1 : Int32)) hx hb dL_law_2043 (by decide) ?_
        refine lv_iadd hx hb dL_law_2044 ?_
        obtain ⟨c187, hf⟩ := chk_some hf
        refine va_sld hx hb C.1 C.2.1 C.2.2.1 h.2 (inb_in c187) dL_law_2045 ?_
        refine lv_aload_n hx hb dL_law_2046 rfl (lv_at hl 1 rfl) ?_
        refine lv_iload hx hb dL_law_2047 (lv_at hl 6 rfl) ?_
        refine lv_iconst (v := (2 : Int32)) hx hb dL_law_2049 (by decide) ?_
        refine lv_iadd hx hb dL_law_2050 ?_
        obtain ⟨c188, hf⟩ := chk_some hf
        refine va_sld hx hb C.1 C.2.1 C.2.2.1 h.2 (inb_in c188) dL_law_2051 ?_
        refine lv_i2c (v := (((xs ((v5 + (2 : Int32))).toNatClampNeg).toUInt32 % 65536).toInt32)) hx hb dL_law_2052 rfl ?_
        refine lv_aload_n hx hb dL_law_2053 rfl (lv_at hl 1 rfl) ?_
        refine lv_iload hx hb dL_law_2054 (lv_at hl 6 rfl) ?_
        refine lv_iconst (v := (3 : Int32)) hx hb dL_law_2056 (by decide) ?_
        refine lv_iadd hx hb dL_law_2057 ?_
        obtain ⟨c189, hf⟩ := chk_some hf
        refine va_sld hx hb C.1 C.2.1 C.2.2.1 h.2 (inb_in c189) dL_law_2058 ?_
        refine lv_aload_n hx hb dL_law_2059 rfl (lv_at hl 1 rfl) ?_
        refine lv_iload hx hb dL_law_2060 (lv_at hl 6 rfl) ?_
        refine lv_iconst (v := (4 : Int32)) hx hb dL_law_2062 (by decide) ?_
        refine lv_iadd hx hb dL_law_2063 ?_
        obtain ⟨c190, hf⟩ := chk_some hf
        refine va_sld hx hb C.1 C.2.1 C.2.2.1 h.2 (inb_in c190) dL_law_2064 ?_
        obtain ⟨vr191, σ191, hq191, hf⟩ := wthn_some hf
        refine sRetC1 (g_runV (k := 44) (T := TX5) (N := 21) B h (ok_X5_step B.2.2.2.2.2.2.2.2 B.2.2.2.2.2.2.1 _ _ (xs ((v5 + (1 : Int32))).toNatClampNeg) (((xs ((v5 + (2 : Int32))).toNatClampNeg).toUInt32 % 65536).toInt32) (xs ((v5 + (3 : Int32))).toNatClampNeg) (xs ((v5 + (4 : Int32))).toNatClampNeg) hq191) cw_L_219 ⟨Nat.le_of_ble_eq_true rfl, Nat.le_of_ble_eq_true rfl⟩ (by decide) (M_row _) rfl rfl hl.1.symm rfl (Nat.le_of_ble_eq_true rfl) dL_law_2065 ⟨lw_c0 hc1, lw_s0 hc2⟩) h (fun H locs h => ?_)
        refine lv_istore (lv' := [(7, .int vr191), (6, .int vr186), (0, .ref b), (1, .ref (ad 0)), (2, .ref (ad 44)), (3, .ref (ad 61)), (4, .ref (ad 62)), (5, .int v5)]) hx hb dL_law_2068 hl (by decide) rfl (fun ls hl => ?_)
        refine lv_aload_n hx hb dL_law_2070 rfl (lv_at hl 4 rfl) ?_
        obtain ⟨vr192, hq192, hf⟩ := rthn_some hf
        refine sRetC1 (g_runV (k := 44) (T := TX5) (N := 21) B h (ok_X5_thrown B.2.2.2.2.2.2.2.2 B.2.2.2.2.2.2.1 _ _  hq192) cw_L_139 ⟨Nat.le_of_ble_eq_true rfl, Nat.le_of_ble_eq_true rfl⟩ (by decide) (M_row _) rfl rfl hl.1.symm rfl (Nat.le_of_ble_eq_true rfl) dL_law_2071 ⟨lw_c0 hc1, lw_s0 hc2⟩) h (fun H locs h => ?_)
        refine lv_iload hx hb dL_law_2074 (lv_at hl 1 rfl) ?_
        refine lv_icmp_eq (tgt := 2081) hx hb dL_law_2076 (by decide) (fun c193 => ?_) (fun c193 => ?_)
        · rw [if_pos c193] at hf
          refine lv_iload hx hb dL_law_2081 (lv_at hl 1 rfl) ?_
          refine lv_if_ne (tgt := 2098) hx hb dL_law_2083 (by decide) (fun c194 => ?_) (fun c194 => ?_)
          · rw [if_neg c194] at hf
            refine lv_goto (tgt := 2729) hx hb dL_law_2098 (by decide) ?_
            refine lv_iinc (v := (v5 + 7)) (lv' := [(5, .int (v5 + 7)), (7, .int vr191), (6, .int vr186), (0, .ref b), (1, .ref (ad 0)), (2, .ref (ad 44)), (3, .ref (ad 61)), (4, .ref (ad 62))]) hx hb dL_law_2729 hl (k := 7) rfl rfl (by decide) rfl (fun ls hl => ?_)
            refine lv_goto (tgt := 28) hx hb dL_law_2732 (by decide) ?_
            exact ih _ _ _ hf _ _ _ _ _ h (lv_sub hl [3, 4, 5, 6, 7, 0] rfl) hc1 hc2
          · rw [if_pos c194] at hf
            refine lv_aload_n hx hb dL_law_2086 rfl (lv_at hl 5 rfl) ?_
            refine lv_iconst (v := (0 : Int32)) hx hb dL_law_2087 (by decide) ?_
            refine g_lald B h (i := (0 : Int32)) (inb_in (n := 1) (by decide)) dL_law_2088 ?_
            refine lv_iload hx hb dL_law_2089 (lv_at hl 0 rfl) ?_
            refine lv_i2l (v := (vr191.toInt64)) hx hb dL_law_2091 rfl ?_
            refine W.lcmp hx hb dL_law_2092 ?_
            refine lv_if_eq (tgt := 2098) hx hb dL_law_2093 (by decide) (fun c195 => ?_) (fun c195 => ?_)
            · rw [if_pos c195] at hf
              refine lv_goto (tgt := 2729) hx hb dL_law_2098 (by decide) ?_
              refine lv_iinc (v := (v5 + 7)) (lv' := [(5, .int (v5 + 7)), (7, .int vr191), (6, .int vr186), (0, .ref b), (1, .ref (ad 0)), (2, .ref (ad 44)), (3, .ref (ad 61)), (4, .ref (ad 62))]) hx hb dL_law_2729 hl (k := 7) rfl rfl (by decide) rfl (fun ls hl => ?_)
              refine lv_goto (tgt := 28) hx hb dL_law_2732 (by decide) ?_
              exact ih _ _ _ hf _ _ _ _ _ h (lv_sub hl [3, 4, 5, 6, 7, 0] rfl) hc1 hc2
            · rw [if_neg c195] at hf
              refine lv_iconst (v := (0 : Int32)) hx hb dL_law_2096 (by decide) ?_
              exact absurd hf (by decide)
        · rw [if_neg c193] at hf
          refine lv_iconst (v := (0 : Int32)) hx hb dL_law_2079 (by decide) ?_
          exact absurd hf (by decide)
      rw [if_neg e23] at hf
      by_cases e24 : vx3 = (24 : Int32)
      · rw [if_pos e24] at hf
        refine lv_tableIn (off := 2056) (tgt := 2101) hx hb dL_law_45 (by rw [e24]; decide) (by rw [e24]; decide) (by rw [e24]; rfl) (by decide) ?_
        refine lv_aload_n hx hb dL_law_2101 rfl (lv_at hl 1 rfl) ?_
        refine lv_aload_n hx hb dL_law_2102 rfl (lv_at hl 0 rfl) ?_
        refine lv_iload hx hb dL_law_2103 (lv_at hl 5 rfl) ?_
        refine lv_iconst (v := (1 : Int32)) hx hb dL_law_2105 (by decide) ?_
        refine lv_iadd hx hb dL_law_2106 ?_
        obtain ⟨c196, hf⟩ := chk_some hf
        refine va_sld hx hb C.1 C.2.1 C.2.2.1 h.2 (inb_in c196) dL_law_2107 ?_
        refine lv_aload_n hx hb dL_law_2108 rfl (lv_at hl 3 rfl) ?_
        obtain ⟨vr197, σ197, X197, hq197, hf⟩ := lthn_some hf
        refine sRetC (g_runH B h (ok_L_forget B.2.2.2.2.2.2.2.2 B.2.2.2.2.2.2.1 _ _ (xs ((v5 + (1 : Int32))).toNatClampNeg) hq197) cw_L_220 ⟨Nat.le_of_ble_eq_true rfl, Nat.le_of_ble_eq_true rfl⟩ rfl hl.1.symm rfl (Nat.le_of_ble_eq_true rfl) dL_law_2109 ⟨lw_c1 hc1, lw_s1 hc2⟩) h (fun H locs h => ?_)
        replace hc1 := lw_c2 hc1
        replace hc2 := lw_s2 hc2
        refine lv_istore (lv' := [(6, .int vr197), (0, .ref b), (1, .ref (ad 0)), (2, .ref (ad 44)), (3, .ref (ad 61)), (4, .ref (ad 62)), (5, .int v5)]) hx hb dL_law_2112 hl (by decide) rfl (fun ls hl => ?_)
        refine lv_aload_n hx hb dL_law_2114 rfl (lv_at hl 3 rfl) ?_
        refine lv_aload_n hx hb dL_law_2115 rfl (lv_at hl 1 rfl) ?_
        refine lv_iload hx hb dL_law_2116 (lv_at hl 6 rfl) ?_
        refine lv_iconst (v := (1 : Int32)) hx hb dL_law_2118 (by decide) ?_
        refine lv_iadd hx hb dL_law_2119 ?_
        obtain ⟨c198, hf⟩ := chk_some hf
        refine va_sld hx hb C.1 C.2.1 C.2.2.1 h.2 (inb_in c198) dL_law_2120 ?_
        obtain ⟨vr199, σ199, hq199, hf⟩ := wthn_some hf
        refine sRetC1 (g_runV (k := 44) (T := TX5) (N := 21) B h (ok_X5_forget B.2.2.2.2.2.2.2.2 B.2.2.2.2.2.2.1 _ _ (xs ((v5 + (1 : Int32))).toNatClampNeg) hq199) cw_L_222 ⟨Nat.le_of_ble_eq_true rfl, Nat.le_of_ble_eq_true rfl⟩ (by decide) (M_row _) rfl rfl hl.1.symm rfl (Nat.le_of_ble_eq_true rfl) dL_law_2121 ⟨lw_c0 hc1, lw_s0 hc2⟩) h (fun H locs h => ?_)
        refine lv_istore (lv' := [(7, .int vr199), (6, .int vr197), (0, .ref b), (1, .ref (ad 0)), (2, .ref (ad 44)), (3, .ref (ad 61)), (4, .ref (ad 62)), (5, .int v5)]) hx hb dL_law_2124 hl (by decide) rfl (fun ls hl => ?_)
        refine lv_aload_n hx hb dL_law_2126 rfl (lv_at hl 4 rfl) ?_
        obtain ⟨vr200, hq200, hf⟩ := rthn_some hf
        refine sRetC1 (g_runV (k := 44) (T := TX5) (N := 21) B h (ok_X5_thrown B.2.2.2.2.2.2.2.2 B.2.2.2.2.2.2.1 _ _  hq200) cw_L_139 ⟨Nat.le_of_ble_eq_true rfl, Nat.le_of_ble_eq_true rfl⟩ (by decide) (M_row _) rfl rfl hl.1.symm rfl (Nat.le_of_ble_eq_true rfl) dL_law_2127 ⟨lw_c0 hc1, lw_s0 hc2⟩) h (fun H locs h => ?_)
        refine lv_iload hx hb dL_law_2130 (lv_at hl 1 rfl) ?_
        refine lv_icmp_eq (tgt := 2137) hx hb dL_law_2132 (by decide) (fun c201 => ?_) (fun c201 => ?_)
        · rw [if_pos c201] at hf
          refine lv_iload hx hb dL_law_2137 (lv_at hl 1 rfl) ?_
          refine lv_if_ne (tgt := 2154) hx hb dL_law_2139 (by decide) (fun c202 => ?_) (fun c202 => ?_)
          · rw [if_neg c202] at hf
            refine lv_goto (tgt := 2729) hx hb dL_law_2154 (by decide) ?_
            refine lv_iinc (v := (v5 + 7)) (lv' := [(5, .int (v5 + 7)), (7, .int vr199), (6, .int vr197), (0, .ref b), (1, .ref (ad 0)), (2, .ref (ad 44)), (3, .ref (ad 61)), (4, .ref (ad 62))]) hx hb dL_law_2729 hl (k := 7) rfl rfl (by decide) rfl (fun ls hl => ?_)
            refine lv_goto (tgt := 28) hx hb dL_law_2732 (by decide) ?_
            exact ih _ _ _ hf _ _ _ _ _ h (lv_sub hl [3, 4, 5, 6, 7, 0] rfl) hc1 hc2
          · rw [if_pos c202] at hf
            refine lv_aload_n hx hb dL_law_2142 rfl (lv_at hl 5 rfl) ?_
            refine lv_iconst (v := (0 : Int32)) hx hb dL_law_2143 (by decide) ?_
            refine g_lald B h (i := (0 : Int32)) (inb_in (n := 1) (by decide)) dL_law_2144 ?_
            refine lv_iload hx hb dL_law_2145 (lv_at hl 0 rfl) ?_
            refine lv_i2l (v := (vr199.toInt64)) hx hb dL_law_2147 rfl ?_
            refine W.lcmp hx hb dL_law_2148 ?_
            refine lv_if_eq (tgt := 2154) hx hb dL_law_2149 (by decide) (fun c203 => ?_) (fun c203 => ?_)
            · rw [if_pos c203] at hf
              refine lv_goto (tgt := 2729) hx hb dL_law_2154 (by decide) ?_
              refine lv_iinc (v := (v5 + 7)) (lv' := [(5, .int (v5 + 7)), (7, .int vr199), (6, .int vr197), (0, .ref b), (1, .ref (ad 0)), (2, .ref (ad 44)), (3, .ref (ad 61)), (4, .ref (ad 62))]) hx hb dL_law_2729 hl (k := 7) rfl rfl (by decide) rfl (fun ls hl => ?_)
              refine lv_goto (tgt := 28) hx hb dL_law_2732 (by decide) ?_
              exact ih _ _ _ hf _ _ _ _ _ h (lv_sub hl [3, 4, 5, 6, 7, 0] rfl) hc1 hc2
            · rw [if_neg c203] at hf
              refine lv_iconst (v := (0 : Int32)) hx hb dL_law_2152 (by decide) ?_
              exact absurd hf (by decide)
        · rw [if_neg c201] at hf
          refine lv_iconst (v := (0 : Int32)) hx hb dL_law_2135 (by decide) ?_
          exact absurd hf (by decide)
      rw [if_neg e24] at hf
      by_cases e25 : vx3 = (25 : Int32)
      · rw [if_pos e25] at hf
        refine lv_tableIn (off := 2112) (tgt := 2157) hx hb dL_law_45 (by rw [e25]; decide) (by rw [e25]; decide) (by rw [e25]; rfl) (by decide) ?_
        refine lv_aload_n hx hb dL_law_2157 rfl (lv_at hl 1 rfl) ?_
        refine lv_aload_n hx hb dL_law_2158 rfl (lv_at hl 0 rfl) ?_
        refine lv_iload hx hb dL_law_2159 (lv_at hl 5 rfl) ?_
        refine lv_iconst (v := (1 : Int32)) hx hb dL_law_2161 (by decide) ?_
        refine lv_iadd hx hb dL_law_2162 ?_
        obtain ⟨c204, hf⟩ := chk_some hf
        refine va_sld hx hb C.1 C.2.1 C.2.2.1 h.2 (inb_in c204) dL_law_2163 ?_
        refine lv_aload_n hx hb dL_law_2164 rfl (lv_at hl 0 rfl) ?_
        refine lv_iload hx hb dL_law_2165 (lv_at hl 5 rfl) ?_
        refine lv_iconst (v := (2 : Int32)) hx hb dL_law_2167 (by decide) ?_
        refine lv_iadd hx hb dL_law_2168 ?_
        obtain ⟨c205, hf⟩ := chk_some hf
        refine va_sld hx hb C.1 C.2.1 C.2.2.1 h.2 (inb_in c205) dL_law_2169 ?_
        refine lv_aload_n hx hb dL_law_2170 rfl (lv_at hl 3 rfl) ?_
        obtain ⟨vr206, σ206, X206, hq206, hf⟩ := lthn_some hf
        refine sRetC (g_runH B h (ok_L_play B.2.2.2.2.2.2.2.2 B.2.2.2.2.2.2.1 _ _ (xs ((v5 + (1 : Int32))).toNatClampNeg) (xs ((v5 + (2 : Int32))).toNatClampNeg) hq206) cw_L_223 ⟨Nat.le_of_ble_eq_true rfl, Nat.le_of_ble_eq_true rfl⟩ rfl hl.1.symm rfl (Nat.le_of_ble_eq_true rfl) dL_law_2171 ⟨lw_c1 hc1, lw_s1 hc2⟩) h (fun H locs h => ?_)
        replace hc1 := lw_c2 hc1
        replace hc2 := lw_s2 hc2
        refine lv_istore (lv' := [(6, .int vr206), (0, .ref b), (1, .ref (ad 0)), (2, .ref (ad 44)), (3, .ref (ad 61)), (4, .ref (ad 62)), (5, .int v5)]) hx hb dL_law_2174 hl (by decide) rfl (fun ls hl => ?_)
        refine lv_aload_n hx hb dL_law_2176 rfl (lv_at hl 3 rfl) ?_
        refine lv_aload_n hx hb dL_law_2177 rfl (lv_at hl 1 rfl) ?_
        refine lv_iload hx hb dL_law_2178 (lv_at hl 6 rfl) ?_
        refine lv_iconst (v := (1 : Int32)) hx hb dL_law_2180 (by decide) ?_
        refine lv_iadd hx hb dL_law_2181 ?_
        obtain ⟨c207, hf⟩ := chk_some hf
        refine va_sld hx hb C.1 C.2.1 C.2.2.1 h.2 (inb_in c207) dL_law_2182 ?_
        refine lv_aload_n hx hb dL_law_2183 rfl (lv_at hl 1 rfl) ?_
        refine lv_iload hx hb dL_law_2184 (lv_at hl 6 rfl) ?_
        refine lv_iconst (v := (2 : Int32)) hx hb dL_law_2186 (by decide) ?_
        refine lv_iadd hx hb dL_law_2187 ?_
        obtain ⟨c208, hf⟩ := chk_some hf
        refine va_sld hx hb C.1 C.2.1 C.2.2.1 h.2 (inb_in c208) dL_law_2188 ?_
        obtain ⟨vr209, σ209, hq209, hf⟩ := wthn_some hf
        refine sRetC1 (g_runV (k := 44) (T := TX5) (N := 21) B h (ok_X5_play B.2.2.2.2.2.2.2.2 B.2.2.2.2.2.2.1 _ _ (xs ((v5 + (1 : Int32))).toNatClampNeg) (xs ((v5 + (2 : Int32))).toNatClampNeg) hq209) cw_L_225 ⟨Nat.le_of_ble_eq_true rfl, Nat.le_of_ble_eq_true rfl⟩ (by decide) (M_row _) rfl rfl hl.1.symm rfl (Nat.le_of_ble_eq_true rfl) dL_law_2189 ⟨lw_c0 hc1, lw_s0 hc2⟩) h (fun H locs h => ?_)
        refine lv_istore (lv' := [(7, .int vr209), (6, .int vr206), (0, .ref b), (1, .ref (ad 0)), (2, .ref (ad 44)), (3, .ref (ad 61)), (4, .ref (ad 62)), (5, .int v5)]) hx hb dL_law_2192 hl (by decide) rfl (fun ls hl => ?_)
        refine lv_aload_n hx hb dL_law_2194 rfl (lv_at hl 4 rfl) ?_
        obtain ⟨vr210, hq210, hf⟩ := rthn_some hf
        refine sRetC1 (g_runV (k := 44) (T := TX5) (N := 21) B h (ok_X5_thrown B.2.2.2.2.2.2.2.2 B.2.2.2.2.2.2.1 _ _  hq210) cw_L_139 ⟨Nat.le_of_ble_eq_true rfl, Nat.le_of_ble_eq_true rfl⟩ (by decide) (M_row _) rfl rfl hl.1.symm rfl (Nat.le_of_ble_eq_true rfl) dL_law_2195 ⟨lw_c0 hc1, lw_s0 hc2⟩) h (fun H locs h => ?_)
        refine lv_iload hx hb dL_law_2198 (lv_at hl 1 rfl) ?_
        refine lv_icmp_eq (tgt := 2205) hx hb dL_law_2200 (by decide) (fun c211 => ?_) (fun c211 => ?_)
        · rw [if_pos c211] at hf
          refine lv_iload hx hb dL_law_2205 (lv_at hl 1 rfl) ?_
          refine lv_if_ne (tgt := 2222) hx hb dL_law_2207 (by decide) (fun c212 => ?_) (fun c212 => ?_)
          · rw [if_neg c212] at hf
            refine lv_goto (tgt := 2729) hx hb dL_law_2222 (by decide) ?_
            refine lv_iinc (v := (v5 + 7)) (lv' := [(5, .int (v5 + 7)), (7, .int vr209), (6, .int vr206), (0, .ref b), (1, .ref (ad 0)), (2, .ref (ad 44)), (3, .ref (ad 61)), (4, .ref (ad 62))]) hx hb dL_law_2729 hl (k := 7) rfl rfl (by decide) rfl (fun ls hl => ?_)
            refine lv_goto (tgt := 28) hx hb dL_law_2732 (by decide) ?_
            exact ih _ _ _ hf _ _ _ _ _ h (lv_sub hl [3, 4, 5, 6, 7, 0] rfl) hc1 hc2
          · rw [if_pos c212] at hf
            refine lv_aload_n hx hb dL_law_2210 rfl (lv_at hl 5 rfl) ?_
            refine lv_iconst (v := (0 : Int32)) hx hb dL_law_2211 (by decide) ?_
            refine g_lald B h (i := (0 : Int32)) (inb_in (n := 1) (by decide)) dL_law_2212 ?_
            refine lv_iload hx hb dL_law_2213 (lv_at hl 0 rfl) ?_
            refine lv_i2l (v := (vr209.toInt64)) hx hb dL_law_2215 rfl ?_
            refine W.lcmp hx hb dL_law_2216 ?_
            refine lv_if_eq (tgt := 2222) hx hb dL_law_2217 (by decide) (fun c213 => ?_) (fun c213 => ?_)
            · rw [if_pos c213] at hf
              refine lv_goto (tgt := 2729) hx hb dL_law_2222 (by decide) ?_
              refine lv_iinc (v := (v5 + 7)) (lv' := [(5, .int (v5 + 7)), (7, .int vr209), (6, .int vr206), (0, .ref b), (1, .ref (ad 0)), (2, .ref (ad 44)), (3, .ref (ad 61)), (4, .ref (ad 62))]) hx hb dL_law_2729 hl (k := 7) rfl rfl (by decide) rfl (fun ls hl => ?_)
              refine lv_goto (tgt := 28) hx hb dL_law_2732 (by decide) ?_
              exact ih _ _ _ hf _ _ _ _ _ h (lv_sub hl [3, 4, 5, 6, 7, 0] rfl) hc1 hc2
            · rw [if_neg c213] at hf
              refine lv_iconst (v := (0 : Int32)) hx hb dL_law_2220 (by decide) ?_
              exact absurd hf (by decide)
        · rw [if_neg c211] at hf
          refine lv_iconst (v := (0 : Int32)) hx hb dL_law_2203 (by decide) ?_
          exact absurd hf (by decide)
      rw [if_neg e25] at hf
      by_cases e26 : vx3 = (26 : Int32)
      · rw [if_pos e26] at hf
        refine lv_tableIn (off := 2180) (tgt := 2225) hx hb dL_law_45 (by rw [e26]; decide) (by rw [e26]; decide) (by rw [e26]; rfl) (by decide) ?_
        refine lv_aload_n hx hb dL_law_2225 rfl (lv_at hl 1 rfl) ?_
        refine lv_aload_n hx hb dL_law_2226 rfl (lv_at hl 0 rfl) ?_
        refine lv_iload hx hb dL_law_2227 (lv_at hl 5 rfl) ?_
        refine lv_iconst (v := (1 : Int32)) hx hb dL_law_2229 (by decide) ?_
        refine lv_iadd hx hb dL_law_2230 ?_
        obtain ⟨c214, hf⟩ := chk_some hf
        refine va_sld hx hb C.1 C.2.1 C.2.2.1 h.2 (inb_in c214) dL_law_2231 ?_
        refine lv_aload_n hx hb dL_law_2232 rfl (lv_at hl 0 rfl) ?_
        refine lv_iload hx hb dL_law_2233 (lv_at hl 5 rfl) ?_
        refine lv_iconst (v := (2 : Int32)) hx hb dL_law_2235 (by decide) ?_
        refine lv_iadd hx hb dL_law_2236 ?_
        obtain ⟨c215, hf⟩ := chk_some hf
        refine va_sld hx hb C.1 C.2.1 C.2.2.1 h.2 (inb_in c215) dL_law_2237 ?_
        refine lv_aload_n hx hb dL_law_2238 rfl (lv_at hl 0 rfl) ?_
        refine lv_iload hx hb dL_law_2239 (lv_at hl 5 rfl) ?_
        refine lv_iconst (v := (3 : Int32)) hx hb dL_law_2241 (by decide) ?_
        refine lv_iadd hx hb dL_law_2242 ?_
        obtain ⟨c216, hf⟩ := chk_some hf
        refine va_sld hx hb C.1 C.2.1 C.2.2.1 h.2 (inb_in c216) dL_law_2243 ?_
        refine lv_aload_n hx hb dL_law_2244 rfl (lv_at hl 0 rfl) ?_
        refine lv_iload hx hb dL_law_2245 (lv_at hl 5 rfl) ?_
        refine lv_iconst (v := (4 : Int32)) hx hb dL_law_2247 (by decide) ?_
        refine lv_iadd hx hb dL_law_2248 ?_
        obtain ⟨c217, hf⟩ := chk_some hf
        refine va_sld hx hb C.1 C.2.1 C.2.2.1 h.2 (inb_in c217) dL_law_2249 ?_
        refine lv_aload_n hx hb dL_law_2250 rfl (lv_at hl 3 rfl) ?_
        obtain ⟨vr218, σ218, X218, hq218, hf⟩ := lthn_some hf
        refine sRetC (g_runH B h (ok_L_playBoth B.2.2.2.2.2.2.2.2 B.2.2.2.2.2.2.1 _ _ (xs ((v5 + (1 : Int32))).toNatClampNeg) (xs ((v5 + (2 : Int32))).toNatClampNeg) (xs ((v5 + (3 : Int32))).toNatClampNeg) (xs ((v5 + (4 : Int32))).toNatClampNeg) hq218) cw_L_226 ⟨Nat.le_of_ble_eq_true rfl, Nat.le_of_ble_eq_true rfl⟩ rfl hl.1.symm rfl (Nat.le_of_ble_eq_true rfl) dL_law_2251 ⟨lw_c1 hc1, lw_s1 hc2⟩) h (fun H locs h => ?_)
        replace hc1 := lw_c2 hc1
        replace hc2 := lw_s2 hc2
        refine lv_istore (lv' := [(6, .int vr218), (0, .ref b), (1, .ref (ad 0)), (2, .ref (ad 44)), (3, .ref (ad 61)), (4, .ref (ad 62)), (5, .int v5)]) hx hb dL_law_2254 hl (by decide) rfl (fun ls hl => ?_)
        refine lv_aload_n hx hb dL_law_2256 rfl (lv_at hl 3 rfl) ?_
        refine lv_aload_n hx hb dL_law_2257 rfl (lv_at hl 1 rfl) ?_
        refine lv_iload hx hb dL_law_2258 (lv_at hl 6 rfl) ?_
        refine lv_iconst (v := (1 : Int32)) hx hb dL_law_2260 (by decide) ?_
        refine lv_iadd hx hb dL_law_2261 ?_
        obtain ⟨c219, hf⟩ := chk_some hf
        refine va_sld hx hb C.1 C.2.1 C.2.2.1 h.2 (inb_in c219) dL_law_2262 ?_
        refine lv_aload_n hx hb dL_law_2263 rfl (lv_at hl 1 rfl) ?_
        refine lv_iload hx hb dL_law_2264 (lv_at hl 6 rfl) ?_
        refine lv_iconst (v := (2 : Int32)) hx hb dL_law_2266 (by decide) ?_
        refine lv_iadd hx hb dL_law_2267 ?_
        obtain ⟨c220, hf⟩ := chk_some hf
        refine va_sld hx hb C.1 C.2.1 C.2.2.1 h.2 (inb_in c220) dL_law_2268 ?_
        refine lv_aload_n hx hb dL_law_2269 rfl (lv_at hl 1 rfl) ?_
        refine lv_iload hx hb dL_law_2270 (lv_at hl 6 rfl) ?_
        refine lv_iconst (v := (3 : Int32)) hx hb dL_law_2272 (by decide) ?_
        refine lv_iadd hx hb dL_law_2273 ?_
        obtain ⟨c221, hf⟩ := chk_some hf
        refine va_sld hx hb C.1 C.2.1 C.2.2.1 h.2 (inb_in c221) dL_law_2274 ?_
        refine lv_aload_n hx hb dL_law_2275 rfl (lv_at hl 1 rfl) ?_
        refine lv_iload hx hb dL_law_2276 (lv_at hl 6 rfl) ?_
        refine lv_iconst (v := (4 : Int32)) hx hb dL_law_2278 (by decide) ?_
        refine lv_iadd hx hb dL_law_2279 ?_
        obtain ⟨c222, hf⟩ := chk_some hf
        refine va_sld hx hb C.1 C.2.1 C.2.2.1 h.2 (inb_in c222) dL_law_2280 ?_
        obtain ⟨vr223, σ223, hq223, hf⟩ := wthn_some hf
        refine sRetC1 (g_runV (k := 44) (T := TX5) (N := 21) B h (ok_X5_playBoth B.2.2.2.2.2.2.2.2 B.2.2.2.2.2.2.1 _ _ (xs ((v5 + (1 : Int32))).toNatClampNeg) (xs ((v5 + (2 : Int32))).toNatClampNeg) (xs ((v5 + (3 : Int32))).toNatClampNeg) (xs ((v5 + (4 : Int32))).toNatClampNeg) hq223) cw_L_229 ⟨Nat.le_of_ble_eq_true rfl, Nat.le_of_ble_eq_true rfl⟩ (by decide) (M_row _) rfl rfl hl.1.symm rfl (Nat.le_of_ble_eq_true rfl) dL_law_2281 ⟨lw_c0 hc1, lw_s0 hc2⟩) h (fun H locs h => ?_)
        refine lv_istore (lv' := [(7, .int vr223), (6, .int vr218), (0, .ref b), (1, .ref (ad 0)), (2, .ref (ad 44)), (3, .ref (ad 61)), (4, .ref (ad 62)), (5, .int v5)]) hx hb dL_law_2284 hl (by decide) rfl (fun ls hl => ?_)
        refine lv_aload_n hx hb dL_law_2286 rfl (lv_at hl 4 rfl) ?_
        obtain ⟨vr224, hq224, hf⟩ := rthn_some hf
        refine sRetC1 (g_runV (k := 44) (T := TX5) (N := 21) B h (ok_X5_thrown B.2.2.2.2.2.2.2.2 B.2.2.2.2.2.2.1 _ _  hq224) cw_L_139 ⟨Nat.le_of_ble_eq_true rfl, Nat.le_of_ble_eq_true rfl⟩ (by decide) (M_row _) rfl rfl hl.1.symm rfl (Nat.le_of_ble_eq_true rfl) dL_law_2287 ⟨lw_c0 hc1, lw_s0 hc2⟩) h (fun H locs h => ?_)
        refine lv_iload hx hb dL_law_2290 (lv_at hl 1 rfl) ?_
        refine lv_icmp_eq (tgt := 2297) hx hb dL_law_2292 (by decide) (fun c225 => ?_) (fun c225 => ?_)
        · rw [if_pos c225] at hf
          refine lv_iload hx hb dL_law_2297 (lv_at hl 1 rfl) ?_
          refine lv_if_ne (tgt := 2314) hx hb dL_law_2299 (by decide) (fun c226 => ?_) (fun c226 => ?_)
          · rw [if_neg c226] at hf
            refine lv_goto (tgt := 2729) hx hb dL_law_2314 (by decide) ?_
            refine lv_iinc (v := (v5 + 7)) (lv' := [(5, .int (v5 + 7)), (7, .int vr223), (6, .int vr218), (0, .ref b), (1, .ref (ad 0)), (2, .ref (ad 44)), (3, .ref (ad 61)), (4, .ref (ad 62))]) hx hb dL_law_2729 hl (k := 7) rfl rfl (by decide) rfl (fun ls hl => ?_)
            refine lv_goto (tgt := 28) hx hb dL_law_2732 (by decide) ?_
            exact ih _ _ _ hf _ _ _ _ _ h (lv_sub hl [3, 4, 5, 6, 7, 0] rfl) hc1 hc2
          · rw [if_pos c226] at hf
            refine lv_aload_n hx hb dL_law_2302 rfl (lv_at hl 5 rfl) ?_
            refine lv_iconst (v := (0 : Int32)) hx hb dL_law_2303 (by decide) ?_
            refine g_lald B h (i := (0 : Int32)) (inb_in (n := 1) (by decide)) dL_law_2304 ?_
            refine lv_iload hx hb dL_law_2305 (lv_at hl 0 rfl) ?_
            refine lv_i2l (v := (vr223.toInt64)) hx hb dL_law_2307 rfl ?_
            refine W.lcmp hx hb dL_law_2308 ?_
            refine lv_if_eq (tgt := 2314) hx hb dL_law_2309 (by decide) (fun c227 => ?_) (fun c227 => ?_)
            · rw [if_pos c227] at hf
              refine lv_goto (tgt := 2729) hx hb dL_law_2314 (by decide) ?_
              refine lv_iinc (v := (v5 + 7)) (lv' := [(5, .int (v5 + 7)), (7, .int vr223), (6, .int vr218), (0, .ref b), (1, .ref (ad 0)), (2, .ref (ad 44)), (3, .ref (ad 61)), (4, .ref (ad 62))]) hx hb dL_law_2729 hl (k := 7) rfl rfl (by decide) rfl (fun ls hl => ?_)
              refine lv_goto (tgt := 28) hx hb dL_law_2732 (by decide) ?_
              exact ih _ _ _ hf _ _ _ _ _ h (lv_sub hl [3, 4, 5, 6, 7, 0] rfl) hc1 hc2
            · rw [if_neg c227] at hf
              refine lv_iconst (v := (0 : Int32)) hx hb dL_law_2312 (by decide) ?_
              exact absurd hf (by decide)
        · rw [if_neg c225] at hf
          refine lv_iconst (v := (0 : Int32)) hx hb dL_law_2295 (by decide) ?_
          exact absurd hf (by decide)
      rw [if_neg e26] at hf
      by_cases e27 : vx3 = (27 : Int32)
      · rw [if_pos e27] at hf
        refine lv_tableIn (off := 2272) (tgt := 2317) hx hb dL_law_45 (by rw [e27]; decide) (by rw [e27]; decide) (by rw [e27]; rfl) (by decide) ?_
        refine lv_aload_n hx hb dL_law_2317 rfl (lv_at hl 1 rfl) ?_
        refine lv_aload_n hx hb dL_law_2318 rfl (lv_at hl 0 rfl) ?_
        refine lv_iload hx hb dL_law_2319 (lv_at hl 5 rfl) ?_
        refine lv_iconst (v := (1 : Int32)) hx hb dL_law_2321 (by decide) ?_
        refine lv_iadd hx hb dL_law_2322 ?_
        obtain ⟨c228, hf⟩ := chk_some hf
        refine va_sld hx hb C.1 C.2.1 C.2.2.1 h.2 (inb_in c228) dL_law_2323 ?_
        refine lv_aload_n hx hb dL_law_2324 rfl (lv_at hl 0 rfl) ?_
        refine lv_iload hx hb dL_law_2325 (lv_at hl 5 rfl) ?_
        refine lv_iconst (v := (2 : Int32)) hx hb dL_law_2327 (by decide) ?_
        refine lv_iadd hx hb dL_law_2328 ?_
        obtain ⟨c229, hf⟩ := chk_some hf
        refine va_sld hx hb C.1 C.2.1 C.2.2.1 h.2 (inb_in c229) dL_law_2329 ?_
        refine lv_aload_n hx hb dL_law_2330 rfl (lv_at hl 3 rfl) ?_
        obtain ⟨vr230, σ230, X230, hq230, hf⟩ := lthn_some hf
        refine sRetC (g_runH B h (ok_L_meet B.2.2.2.2.2.2.2.2 B.2.2.2.2.2.2.1 _ _ (xs ((v5 + (1 : Int32))).toNatClampNeg) (xs ((v5 + (2 : Int32))).toNatClampNeg) hq230) cw_L_230 ⟨Nat.le_of_ble_eq_true rfl, Nat.le_of_ble_eq_true rfl⟩ rfl hl.1.symm rfl (Nat.le_of_ble_eq_true rfl) dL_law_2331 ⟨lw_c1 hc1, lw_s1 hc2⟩) h (fun H locs h => ?_)
        replace hc1 := lw_c2 hc1
        replace hc2 := lw_s2 hc2
        refine lv_istore (lv' := [(6, .int vr230), (0, .ref b), (1, .ref (ad 0)), (2, .ref (ad 44)), (3, .ref (ad 61)), (4, .ref (ad 62)), (5, .int v5)]) hx hb dL_law_2334 hl (by decide) rfl (fun ls hl => ?_)
        refine lv_aload_n hx hb dL_law_2336 rfl (lv_at hl 3 rfl) ?_
        refine lv_aload_n hx hb dL_law_2337 rfl (lv_at hl 1 rfl) ?_
        refine lv_iload hx hb dL_law_2338 (lv_at hl 6 rfl) ?_
        refine lv_iconst (v := (1 : Int32)) hx hb dL_law_2340 (by decide) ?_
        refine lv_iadd hx hb dL_law_2341 ?_
        obtain ⟨c231, hf⟩ := chk_some hf
        refine va_sld hx hb C.1 C.2.1 C.2.2.1 h.2 (inb_in c231) dL_law_2342 ?_
        refine lv_aload_n hx hb dL_law_2343 rfl (lv_at hl 1 rfl) ?_
        refine lv_iload hx hb dL_law_2344 (lv_at hl 6 rfl) ?_
        refine lv_iconst (v := (2 : Int32)) hx hb dL_law_2346 (by decide) ?_
        refine lv_iadd hx hb dL_law_2347 ?_
        obtain ⟨c232, hf⟩ := chk_some hf
        refine va_sld hx hb C.1 C.2.1 C.2.2.1 h.2 (inb_in c232) dL_law_2348 ?_
        obtain ⟨vr233, σ233, hq233, hf⟩ := wthn_some hf
        refine sRetC1 (g_runV (k := 44) (T := TX5) (N := 21) B h (ok_X5_meet B.2.2.2.2.2.2.2.2 B.2.2.2.2.2.2.1 _ _ (xs ((v5 + (1 : Int32))).toNatClampNeg) (xs ((v5 + (2 : Int32))).toNatClampNeg) hq233) cw_L_232 ⟨Nat.le_of_ble_eq_true rfl, Nat.le_of_ble_eq_true rfl⟩ (by decide) (M_row _) rfl rfl hl.1.symm rfl (Nat.le_of_ble_eq_true rfl) dL_law_2349 ⟨lw_c0 hc1, lw_s0 hc2⟩) h (fun H locs h => ?_)
        refine lv_istore (lv' := [(7, .int vr233), (6, .int vr230), (0, .ref b), (1, .ref (ad 0)), (2, .ref (ad 44)), (3, .ref (ad 61)), (4, .ref (ad 62)), (5, .int v5)]) hx hb dL_law_2352 hl (by decide) rfl (fun ls hl => ?_)
        refine lv_aload_n hx hb dL_law_2354 rfl (lv_at hl 4 rfl) ?_
        obtain ⟨vr234, hq234, hf⟩ := rthn_some hf
        refine sRetC1 (g_runV (k := 44) (T := TX5) (N := 21) B h (ok_X5_thrown B.2.2.2.2.2.2.2.2 B.2.2.2.2.2.2.1 _ _  hq234) cw_L_139 ⟨Nat.le_of_ble_eq_true rfl, Nat.le_of_ble_eq_true rfl⟩ (by decide) (M_row _) rfl rfl hl.1.symm rfl (Nat.le_of_ble_eq_true rfl) dL_law_2355 ⟨lw_c0 hc1, lw_s0 hc2⟩) h (fun H locs h => ?_)
        refine lv_iload hx hb dL_law_2358 (lv_at hl 1 rfl) ?_
        refine lv_icmp_eq (tgt := 2365) hx hb dL_law_2360 (by decide) (fun c235 => ?_) (fun c235 => ?_)
        · rw [if_pos c235] at hf
          refine lv_iload hx hb dL_law_2365 (lv_at hl 1 rfl) ?_
          refine lv_if_ne (tgt := 2382) hx hb dL_law_2367 (by decide) (fun c236 => ?_) (fun c236 => ?_)
          · rw [if_neg c236] at hf
            refine lv_goto (tgt := 2729) hx hb dL_law_2382 (by decide) ?_
            refine lv_iinc (v := (v5 + 7)) (lv' := [(5, .int (v5 + 7)), (7, .int vr233), (6, .int vr230), (0, .ref b), (1, .ref (ad 0)), (2, .ref (ad 44)), (3, .ref (ad 61)), (4, .ref (ad 62))]) hx hb dL_law_2729 hl (k := 7) rfl rfl (by decide) rfl (fun ls hl => ?_)
            refine lv_goto (tgt := 28) hx hb dL_law_2732 (by decide) ?_
            exact ih _ _ _ hf _ _ _ _ _ h (lv_sub hl [3, 4, 5, 6, 7, 0] rfl) hc1 hc2
          · rw [if_pos c236] at hf
            refine lv_aload_n hx hb dL_law_2370 rfl (lv_at hl 5 rfl) ?_
            refine lv_iconst (v := (0 : Int32)) hx hb dL_law_2371 (by decide) ?_
            refine g_lald B h (i := (0 : Int32)) (inb_in (n := 1) (by decide)) dL_law_2372 ?_
            refine lv_iload hx hb dL_law_2373 (lv_at hl 0 rfl) ?_
            refine lv_i2l (v := (vr233.toInt64)) hx hb dL_law_2375 rfl ?_
            refine W.lcmp hx hb dL_law_2376 ?_
            refine lv_if_eq (tgt := 2382) hx hb dL_law_2377 (by decide) (fun c237 => ?_) (fun c237 => ?_)
            · rw [if_pos c237] at hf
              refine lv_goto (tgt := 2729) hx hb dL_law_2382 (by decide) ?_
              refine lv_iinc (v := (v5 + 7)) (lv' := [(5, .int (v5 + 7)), (7, .int vr233), (6, .int vr230), (0, .ref b), (1, .ref (ad 0)), (2, .ref (ad 44)), (3, .ref (ad 61)), (4, .ref (ad 62))]) hx hb dL_law_2729 hl (k := 7) rfl rfl (by decide) rfl (fun ls hl => ?_)
              refine lv_goto (tgt := 28) hx hb dL_law_2732 (by decide) ?_
              exact ih _ _ _ hf _ _ _ _ _ h (lv_sub hl [3, 4, 5, 6, 7, 0] rfl) hc1 hc2
            · rw [if_neg c237] at hf
              refine lv_iconst (v := (0 : Int32)) hx hb dL_law_2380 (by decide) ?_
              exact absurd hf (by decide)
        · rw [if_neg c235] at hf
          refine lv_iconst (v := (0 : Int32)) hx hb dL_law_2363 (by decide) ?_
          exact absurd hf (by decide)
      rw [if_neg e27] at hf
      by_cases e28 : vx3 = (28 : Int32)
      · rw [if_pos e28] at hf
        refine lv_tableIn (off := 2340) (tgt := 2385) hx hb dL_law_45 (by rw [e28]; decide) (by rw [e28]; decide) (by rw [e28]; rfl) (by decide) ?_
        refine lv_aload_n hx hb dL_law_2385 rfl (lv_at hl 1 rfl) ?_
        refine lv_aload_n hx hb dL_law_2386 rfl (lv_at hl 0 rfl) ?_
        refine lv_iload hx hb dL_law_2387 (lv_at hl 5 rfl) ?_
        refine lv_iconst (v := (1 : Int32)) hx hb dL_law_2389 (by decide) ?_
        refine lv_iadd hx hb dL_law_2390 ?_
        obtain ⟨c238, hf⟩ := chk_some hf
        refine va_sld hx hb C.1 C.2.1 C.2.2.1 h.2 (inb_in c238) dL_law_2391 ?_
        refine lv_aload_n hx hb dL_law_2392 rfl (lv_at hl 0 rfl) ?_
        refine lv_iload hx hb dL_law_2393 (lv_at hl 5 rfl) ?_
        refine lv_iconst (v := (2 : Int32)) hx hb dL_law_2395 (by decide) ?_
        refine lv_iadd hx hb dL_law_2396 ?_
        obtain ⟨c239, hf⟩ := chk_some hf
        refine va_sld hx hb C.1 C.2.1 C.2.2.1 h.2 (inb_in c239) dL_law_2397 ?_
        refine lv_aload_n hx hb dL_law_2398 rfl (lv_at hl 0 rfl) ?_
        refine lv_iload hx hb dL_law_2399 (lv_at hl 5 rfl) ?_
        refine lv_iconst (v := (3 : Int32)) hx hb dL_law_2401 (by decide) ?_
        refine lv_iadd hx hb dL_law_2402 ?_
        obtain ⟨c240, hf⟩ := chk_some hf
        refine va_sld hx hb C.1 C.2.1 C.2.2.1 h.2 (inb_in c240) dL_law_2403 ?_
        refine lv_aload_n hx hb dL_law_2404 rfl (lv_at hl 3 rfl) ?_
        obtain ⟨vr241, σ241, X241, hq241, hf⟩ := lthn_some hf
        refine sRetC (g_runH B h (ok_L_opposite B.2.2.2.2.2.2.2.2 B.2.2.2.2.2.2.1 _ _ (xs ((v5 + (1 : Int32))).toNatClampNeg) (xs ((v5 + (2 : Int32))).toNatClampNeg) (xs ((v5 + (3 : Int32))).toNatClampNeg) hq241) cw_L_233 ⟨Nat.le_of_ble_eq_true rfl, Nat.le_of_ble_eq_true rfl⟩ rfl hl.1.symm rfl (Nat.le_of_ble_eq_true rfl) dL_law_2405 ⟨lw_c1 hc1, lw_s1 hc2⟩) h (fun H locs h => ?_)
        replace hc1 := lw_c2 hc1
        replace hc2 := lw_s2 hc2
        refine lv_istore (lv' := [(6, .int vr241), (0, .ref b), (1, .ref (ad 0)), (2, .ref (ad 44)), (3, .ref (ad 61)), (4, .ref (ad 62)), (5, .int v5)]) hx hb dL_law_2408 hl (by decide) rfl (fun ls hl => ?_)
        refine lv_aload_n hx hb dL_law_2410 rfl (lv_at hl 3 rfl) ?_
        refine lv_aload_n hx hb dL_law_2411 rfl (lv_at hl 1 rfl) ?_
        refine lv_iload hx hb dL_law_2412 (lv_at hl 6 rfl) ?_
        refine lv_iconst (v := (1 : Int32)) hx hb dL_law_2414 (by decide) ?_
        refine lv_iadd hx hb dL_law_2415 ?_
        obtain ⟨c242, hf⟩ := chk_some hf
        refine va_sld hx hb C.1 C.2.1 C.2.2.1 h.2 (inb_in c242) dL_law_2416 ?_
        refine lv_aload_n hx hb dL_law_2417 rfl (lv_at hl 1 rfl) ?_
        refine lv_iload hx hb dL_law_2418 (lv_at hl 6 rfl) ?_
        refine lv_iconst (v := (2 : Int32)) hx hb dL_law_2420 (by decide) ?_
        refine lv_iadd hx hb dL_law_2421 ?_
        obtain ⟨c243, hf⟩ := chk_some hf
        refine va_sld hx hb C.1 C.2.1 C.2.2.1 h.2 (inb_in c243) dL_law_2422 ?_
        refine lv_aload_n hx hb dL_law_2423 rfl (lv_at hl 1 rfl) ?_
        refine lv_iload hx hb dL_law_2424 (lv_at hl 6 rfl) ?_
        refine lv_iconst (v := (3 : Int32)) hx hb dL_law_2426 (by decide) ?_
        refine lv_iadd hx hb dL_law_2427 ?_
        obtain ⟨c244, hf⟩ := chk_some hf
        refine va_sld hx hb C.1 C.2.1 C.2.2.1 h.2 (inb_in c244) dL_law_2428 ?_
        obtain ⟨vr245, σ245, hq245, hf⟩ := wthn_some hf
        refine sRetC1 (g_runV (k := 44) (T := TX5) (N := 21) B h (ok_X5_opposite B.2.2.2.2.2.2.2.2 B.2.2.2.2.2.2.1 _ _ (xs ((v5 + (1 : Int32))).toNatClampNeg) (xs ((v5 + (2 : Int32))).toNatClampNeg) (xs ((v5 + (3 : Int32))).toNatClampNeg) hq245) cw_L_235 ⟨Nat.le_of_ble_eq_true rfl, Nat.le_of_ble_eq_true rfl⟩ (by decide) (M_row _) rfl rfl hl.1.symm rfl (Nat.le_of_ble_eq_true rfl) dL_law_2429 ⟨lw_c0 hc1, lw_s0 hc2⟩) h (fun H locs h => ?_)
        refine lv_istore (lv' := [(7, .int vr245), (6, .int vr241), (0, .ref b), (1, .ref (ad 0)), (2, .ref (ad 44)), (3, .ref (ad 61)), (4, .ref (ad 62)), (5, .int v5)]) hx hb dL_law_2432 hl (by decide) rfl (fun ls hl => ?_)
        refine lv_aload_n hx hb dL_law_2434 rfl (lv_at hl 4 rfl) ?_
        obtain ⟨vr246, hq246, hf⟩ := rthn_some hf
        refine sRetC1 (g_runV (k := 44) (T := TX5) (N := 21) B h (ok_X5_thrown B.2.2.2.2.2.2.2.2 B.2.2.2.2.2.2.1 _ _  hq246) cw_L_139 ⟨Nat.le_of_ble_eq_true rfl, Nat.le_of_ble_eq_true rfl⟩ (by decide) (M_row _) rfl rfl hl.1.symm rfl (Nat.le_of_ble_eq_true rfl) dL_law_2435 ⟨lw_c0 hc1, lw_s0 hc2⟩) h (fun H locs h => ?_)
        refine lv_iload hx hb dL_law_2438 (lv_at hl 1 rfl) ?_
        refine lv_icmp_eq (tgt := 2445) hx hb dL_law_2440 (by decide) (fun c247 => ?_) (fun c247 => ?_)
        · rw [if_pos c247] at hf
          refine lv_iload hx hb dL_law_2445 (lv_at hl 1 rfl) ?_
          refine lv_if_ne (tgt := 2462) hx hb dL_law_2447 (by decide) (fun c248 => ?_) (fun c248 => ?_)
          · rw [if_neg c248] at hf
            refine lv_goto (tgt := 2729) hx hb dL_law_2462 (by decide) ?_
            refine lv_iinc (v := (v5 + 7)) (lv' := [(5, .int (v5 + 7)), (7, .int vr245), (6, .int vr241), (0, .ref b), (1, .ref (ad 0)), (2, .ref (ad 44)), (3, .ref (ad 61)), (4, .ref (ad 62))]) hx hb dL_law_2729 hl (k := 7) rfl rfl (by decide) rfl (fun ls hl => ?_)
            refine lv_goto (tgt := 28) hx hb dL_law_2732 (by decide) ?_
            exact ih _ _ _ hf _ _ _ _ _ h (lv_sub hl [3, 4, 5, 6, 7, 0] rfl) hc1 hc2
          · rw [if_pos c248] at hf
            refine lv_aload_n hx hb dL_law_2450 rfl (lv_at hl 5 rfl) ?_
            refine lv_iconst (v := (0 : Int32)) hx hb dL_law_2451 (by decide) ?_
            refine g_lald B h (i := (0 : Int32)) (inb_in (n := 1) (by decide)) dL_law_2452 ?_
            refine lv_iload hx hb dL_law_2453 (lv_at hl 0 rfl) ?_
            refine lv_i2l (v := (vr245.toInt64)) hx hb dL_law_2455 rfl ?_
            refine W.lcmp hx hb dL_law_2456 ?_
            refine lv_if_eq (tgt := 2462) hx hb dL_law_2457 (by decide) (fun c249 => ?_) (fun c249 => ?_)
            · rw [if_pos c249] at hf
              refine lv_goto (tgt := 2729) hx hb dL_law_2462 (by decide) ?_
              refine lv_iinc (v := (v5 + 7)) (lv' := [(5, .int (v5 + 7)), (7, .int vr245), (6, .int vr241), (0, .ref b), (1, .ref (ad 0)), (2, .ref (ad 44)), (3, .ref (ad 61)), (4, .ref (ad 62))]) hx hb dL_law_2729 hl (k := 7) rfl rfl (by decide) rfl (fun ls hl => ?_)
              refine lv_goto (tgt := 28) hx hb dL_law_2732 (by decide) ?_
              exact ih _ _ _ hf _ _ _ _ _ h (lv_sub hl [3, 4, 5, 6, 7, 0] rfl) hc1 hc2
            · rw [if_neg c249] at hf
              refine lv_iconst (v := (0 : Int32)) hx hb dL_law_2460 (by decide) ?_
              exact absurd hf (by decide)
        · rw [if_neg c247] at hf
          refine lv_iconst (v := (0 : Int32)) hx hb dL_law_2443 (by decide) ?_
          exact absurd hf (by decide)
      rw [if_neg e28] at hf
      by_cases e29 : vx3 = (29 : Int32)
      · rw [if_pos e29] at hf
        refine lv_tableIn (off := 2420) (tgt := 2465) hx hb dL_law_45 (by rw [e29]; decide) (by rw [e29]; decide) (by rw [e29]; rfl) (by decide) ?_
        refine lv_aload_n hx hb dL_law_2465 rfl (lv_at hl 1 rfl) ?_
        refine lv_aload_n hx hb dL_law_2466 rfl (lv_at hl 0 rfl) ?_
        refine lv_iload hx hb dL_law_2467 (lv_at hl 5 rfl) ?_
        refine lv_iconst (v := (1 : Int32)) hx hb dL_law_2469 (by decide) ?_
        refine lv_iadd hx hb dL_law_2470 ?_
        obtain ⟨c250, hf⟩ := chk_some hf
        refine va_sld hx hb C.1 C.2.1 C.2.2.1 h.2 (inb_in c250) dL_law_2471 ?_
        refine lv_aload_n hx hb dL_law_2472 rfl (lv_at hl 0 rfl) ?_
        refine lv_iload hx hb dL_law_2473 (lv_at hl 5 rfl) ?_
        refine lv_iconst (v := (2 : Int32)) hx hb dL_law_2475 (by decide) ?_
        refine lv_iadd hx hb dL_law_2476 ?_
        obtain ⟨c251, hf⟩ := chk_some hf
        refine va_sld hx hb C.1 C.2.1 C.2.2.1 h.2 (inb_in c251) dL_law_2477 ?_
        refine lv_aload_n hx hb dL_law_2478 rfl (lv_at hl 0 rfl) ?_
        refine lv_iload hx hb dL_law_2479 (lv_at hl 5 rfl) ?_
        refine lv_iconst (v := (3 : Int32)) hx hb dL_law_2481 (by decide) ?_
        refine lv_iadd hx hb dL_law_2482 ?_
        obtain ⟨c252, hf⟩ := chk_some hf
        refine va_sld hx hb C.1 C.2.1 C.2.2.1 h.2 (inb_in c252) dL_law_2483 ?_
        refine lv_i2c (v := (((xs ((v5 + (3 : Int32))).toNatClampNeg).toUInt32 % 65536).toInt32)) hx hb dL_law_2484 rfl ?_
        refine lv_aload_n hx hb dL_law_2485 rfl (lv_at hl 3 rfl) ?_
        obtain ⟨vr253, σ253, X253, hq253, hf⟩ := lthn_some hf
        refine sRetC (g_runH B h (ok_L_combine B.2.2.2.2.2.2.2.2 B.2.2.2.2.2.2.1 _ _ (xs ((v5 + (1 : Int32))).toNatClampNeg) (xs ((v5 + (2 : Int32))).toNatClampNeg) (((xs ((v5 + (3 : Int32))).toNatClampNeg).toUInt32 % 65536).toInt32) hq253) cw_L_236 ⟨Nat.le_of_ble_eq_true rfl, Nat.le_of_ble_eq_true rfl⟩ rfl hl.1.symm rfl (Nat.le_of_ble_eq_true rfl) dL_law_2486 ⟨lw_c1 hc1, lw_s1 hc2⟩) h (fun H locs h => ?_)
        replace hc1 := lw_c2 hc1
        replace hc2 := lw_s2 hc2
        refine lv_istore (lv' := [(6, .int vr253), (0, .ref b), (1, .ref (ad 0)), (2, .ref (ad 44)), (3, .ref (ad 61)), (4, .ref (ad 62)), (5, .int v5)]) hx hb dL_law_2489 hl (by decide) rfl (fun ls hl => ?_)
        refine lv_aload_n hx hb dL_law_2491 rfl (lv_at hl 3 rfl) ?_
        refine lv_aload_n hx hb dL_law_2492 rfl (lv_at hl 1 rfl) ?_
        refine lv_iload hx hb dL_law_2493 (lv_at hl 6 rfl) ?_
        refine lv_iconst (v := (1 : Int32)) hx hb dL_law_2495 (by decide) ?_
        refine lv_iadd hx hb dL_law_2496 ?_
        obtain ⟨c254, hf⟩ := chk_some hf
        refine va_sld hx hb C.1 C.2.1 C.2.2.1 h.2 (inb_in c254) dL_law_2497 ?_
        refine lv_aload_n hx hb dL_law_2498 rfl (lv_at hl 1 rfl) ?_
        refine lv_iload hx hb dL_law_2499 (lv_at hl 6 rfl) ?_
        refine lv_iconst (v := (2 : Int32)) hx hb dL_law_2501 (by decide) ?_
        refine lv_iadd hx hb dL_law_2502 ?_
        obtain ⟨c255, hf⟩ := chk_some hf
        refine va_sld hx hb C.1 C.2.1 C.2.2.1 h.2 (inb_in c255) dL_law_2503 ?_
        refine lv_aload_n hx hb dL_law_2504 rfl (lv_at hl 1 rfl) ?_
        refine lv_iload hx hb dL_law_2505 (lv_at hl 6 rfl) ?_
        refine lv_iconst (v := (3 : Int32)) hx hb dL_law_2507 (by decide) ?_
        refine lv_iadd hx hb dL_law_2508 ?_
        obtain ⟨c256, hf⟩ := chk_some hf
        refine va_sld hx hb C.1 C.2.1 C.2.2.1 h.2 (inb_in c256) dL_law_2509 ?_
        refine lv_i2c (v := (((xs ((v5 + (3 : Int32))).toNatClampNeg).toUInt32 % 65536).toInt32)) hx hb dL_law_2510 rfl ?_
        obtain ⟨vr257, σ257, hq257, hf⟩ := wthn_some hf
        refine sRetC1 (g_runV (k := 44) (T := TX5) (N := 21) B h (ok_X5_combine B.2.2.2.2.2.2.2.2 B.2.2.2.2.2.2.1 _ _ (xs ((v5 + (1 : Int32))).toNatClampNeg) (xs ((v5 + (2 : Int32))).toNatClampNeg) (((xs ((v5 + (3 : Int32))).toNatClampNeg).toUInt32 % 65536).toInt32) hq257) cw_L_238 ⟨Nat.le_of_ble_eq_true rfl, Nat.le_of_ble_eq_true rfl⟩ (by decide) (M_row _) rfl rfl hl.1.symm rfl (Nat.le_of_ble_eq_true rfl) dL_law_2511 ⟨lw_c0 hc1, lw_s0 hc2⟩) h (fun H locs h => ?_)
        refine lv_istore (lv' := [(7, .int vr257), (6, .int vr253), (0, .ref b), (1, .ref (ad 0)), (2, .ref (ad 44)), (3, .ref (ad 61)), (4, .ref (ad 62)), (5, .int v5)]) hx hb dL_law_2514 hl (by decide) rfl (fun ls hl => ?_)
        refine lv_aload_n hx hb dL_law_2516 rfl (lv_at hl 4 rfl) ?_
        obtain ⟨vr258, hq258, hf⟩ := rthn_some hf
        refine sRetC1 (g_runV (k := 44) (T := TX5) (N := 21) B h (ok_X5_thrown B.2.2.2.2.2.2.2.2 B.2.2.2.2.2.2.1 _ _  hq258) cw_L_139 ⟨Nat.le_of_ble_eq_true rfl, Nat.le_of_ble_eq_true rfl⟩ (by decide) (M_row _) rfl rfl hl.1.symm rfl (Nat.le_of_ble_eq_true rfl) dL_law_2517 ⟨lw_c0 hc1, lw_s0 hc2⟩) h (fun H locs h => ?_)
        refine lv_iload hx hb dL_law_2520 (lv_at hl 1 rfl) ?_
        refine lv_icmp_eq (tgt := 2527) hx hb dL_law_2522 (by decide) (fun c259 => ?_) (fun c259 => ?_)
        · rw [if_pos c259] at hf
          refine lv_iload hx hb dL_law_2527 (lv_at hl 1 rfl) ?_
          refine lv_if_ne (tgt := 2544) hx hb dL_law_2529 (by decide) (fun c260 => ?_) (fun c260 => ?_)
          · rw [if_neg c260] at hf
            refine lv_goto (tgt := 2729) hx hb dL_law_2544 (by decide) ?_
            refine lv_iinc (v := (v5 + 7)) (lv' := [(5, .int (v5 + 7)), (7, .int vr257), (6, .int vr253), (0, .ref b), (1, .ref (ad 0)), (2, .ref (ad 44)), (3, .ref (ad 61)), (4, .ref (ad 62))]) hx hb dL_law_2729 hl (k := 7) rfl rfl (by decide) rfl (fun ls hl => ?_)
            refine lv_goto (tgt := 28) hx hb dL_law_2732 (by decide) ?_
            exact ih _ _ _ hf _ _ _ _ _ h (lv_sub hl [3, 4, 5, 6, 7, 0] rfl) hc1 hc2
          · rw [if_pos c260] at hf
            refine lv_aload_n hx hb dL_law_2532 rfl (lv_at hl 5 rfl) ?_
            refine lv_iconst (v := (0 : Int32)) hx hb dL_law_2533 (by decide) ?_
            refine g_lald B h (i := (0 : Int32)) (inb_in (n := 1) (by decide)) dL_law_2534 ?_
            refine lv_iload hx hb dL_law_2535 (lv_at hl 0 rfl) ?_
            refine lv_i2l (v := (vr257.toInt64)) hx hb dL_law_2537 rfl ?_
            refine W.lcmp hx hb dL_law_2538 ?_
            refine lv_if_eq (tgt := 2544) hx hb dL_law_2539 (by decide) (fun c261 => ?_) (fun c261 => ?_)
            · rw [if_pos c261] at hf
              refine lv_goto (tgt := 2729) hx hb dL_law_2544 (by decide) ?_
              refine lv_iinc (v := (v5 + 7)) (lv' := [(5, .int (v5 + 7)), (7, .int vr257), (6, .int vr253), (0, .ref b), (1, .ref (ad 0)), (2, .ref (ad 44)), (3, .ref (ad 61)), (4, .ref (ad 62))]) hx hb dL_law_2729 hl (k := 7) rfl rfl (by decide) rfl (fun ls hl => ?_)
              refine lv_goto (tgt := 28) hx hb dL_law_2732 (by decide) ?_
              exact ih _ _ _ hf _ _ _ _ _ h (lv_sub hl [3, 4, 5, 6, 7, 0] rfl) hc1 hc2
            · rw [if_neg c261] at hf
              refine lv_iconst (v := (0 : Int32)) hx hb dL_law_2542 (by decide) ?_
              exact absurd hf (by decide)
        · rw [if_neg c259] at hf
          refine lv_iconst (v := (0 : Int32)) hx hb dL_law_2525 (by decide) ?_
          exact absurd hf (by decide)
      rw [if_neg e29] at hf
      by_cases e30 : vx3 = (30 : Int32)
      · rw [if_pos e30] at hf
        refine lv_tableIn (off := 2502) (tgt := 2547) hx hb dL_law_45 (by rw [e30]; decide) (by rw [e30]; decide) (by rw [e30]; rfl) (by decide) ?_
        refine lv_aload_n hx hb dL_law_2547 rfl (lv_at hl 1 rfl) ?_
        refine lv_aload_n hx hb dL_law_2548 rfl (lv_at hl 0 rfl) ?_
        refine lv_iload hx hb dL_law_2549 (lv_at hl 5 rfl) ?_
        refine lv_iconst (v := (1 : Int32)) hx hb dL_law_2551 (by decide) ?_
        refine lv_iadd hx hb dL_law_2552 ?_
        obtain ⟨c262, hf⟩ := chk_some hf
        refine va_sld hx hb C.1 C.2.1 C.2.2.1 h.2 (inb_in c262) dL_law_2553 ?_
        refine lv_aload hx hb dL_law_2554 (lv_at hl 4 rfl) ?_
        obtain ⟨vr263, σ263, X263, hq263, hf⟩ := lthn_some hf
        refine sRetC (g_runH B h (ok_L_fullShare B.2.2.2.2.2.2.2.2 B.2.2.2.2.2.2.1 _ _ (xs ((v5 + (1 : Int32))).toNatClampNeg) hq263) cw_L_239 ⟨Nat.le_of_ble_eq_true rfl, Nat.le_of_ble_eq_true rfl⟩ rfl hl.1.symm rfl (Nat.le_of_ble_eq_true rfl) dL_law_2556 ⟨lw_c1 hc1, lw_s1 hc2⟩) h (fun H locs h => ?_)
        replace hc1 := lw_c2 hc1
        replace hc2 := lw_s2 hc2
        refine lv_istore (lv' := [(6, .int vr263), (0, .ref b), (1, .ref (ad 0)), (2, .ref (ad 44)), (3, .ref (ad 61)), (4, .ref (ad 62)), (5, .int v5)]) hx hb dL_law_2559 hl (by decide) rfl (fun ls hl => ?_)
        refine lv_aload_n hx hb dL_law_2561 rfl (lv_at hl 3 rfl) ?_
        refine lv_aload_n hx hb dL_law_2562 rfl (lv_at hl 1 rfl) ?_
        refine lv_iload hx hb dL_law_2563 (lv_at hl 6 rfl) ?_
        refine lv_iconst (v := (1 : Int32)) hx hb dL_law_2565 (by decide) ?_
        refine lv_iadd hx hb dL_law_2566 ?_
        obtain ⟨c264, hf⟩ := chk_some hf
        refine va_sld hx hb C.1 C.2.1 C.2.2.1 h.2 (inb_in c264) dL_law_2567 ?_
        obtain ⟨vr265, σ265, hq265, hf⟩ := wthn_some hf
        refine sRetC1 (g_runV (k := 44) (T := TX5) (N := 21) B h (ok_X5_fullShare B.2.2.2.2.2.2.2.2 B.2.2.2.2.2.2.1 _ _ (xs ((v5 + (1 : Int32))).toNatClampNeg) hq265) cw_L_242 ⟨Nat.le_of_ble_eq_true rfl, Nat.le_of_ble_eq_true rfl⟩ (by decide) (M_row _) rfl rfl hl.1.symm rfl (Nat.le_of_ble_eq_true rfl) dL_law_2568 ⟨lw_c0 hc1, lw_s0 hc2⟩) h (fun H locs h => ?_)
        refine lv_fstore (lv' := [(7, .float vr265), (6, .int vr263), (0, .ref b), (1, .ref (ad 0)), (2, .ref (ad 44)), (3, .ref (ad 61)), (4, .ref (ad 62)), (5, .int v5)]) hx hb dL_law_2571 hl (by decide) rfl (fun ls hl => ?_)
        refine lv_aload_n hx hb dL_law_2573 rfl (lv_at hl 4 rfl) ?_
        obtain ⟨vr266, hq266, hf⟩ := rthn_some hf
        refine sRetC1 (g_runV (k := 44) (T := TX5) (N := 21) B h (ok_X5_thrown B.2.2.2.2.2.2.2.2 B.2.2.2.2.2.2.1 _ _  hq266) cw_L_139 ⟨Nat.le_of_ble_eq_true rfl, Nat.le_of_ble_eq_true rfl⟩ (by decide) (M_row _) rfl rfl hl.1.symm rfl (Nat.le_of_ble_eq_true rfl) dL_law_2574 ⟨lw_c0 hc1, lw_s0 hc2⟩) h (fun H locs h => ?_)
        refine lv_iload hx hb dL_law_2577 (lv_at hl 1 rfl) ?_
        refine lv_icmp_eq (tgt := 2584) hx hb dL_law_2579 (by decide) (fun c267 => ?_) (fun c267 => ?_)
        · rw [if_pos c267] at hf
          refine lv_iload hx hb dL_law_2584 (lv_at hl 1 rfl) ?_
          refine lv_if_ne (tgt := 2622) hx hb dL_law_2586 (by decide) (fun c268 => ?_) (fun c268 => ?_)
          · rw [if_neg c268] at hf
            refine lv_goto (tgt := 2729) hx hb dL_law_2622 (by decide) ?_
            refine lv_iinc (v := (v5 + 7)) (lv' := [(5, .int (v5 + 7)), (7, .float vr265), (6, .int vr263), (0, .ref b), (1, .ref (ad 0)), (2, .ref (ad 44)), (3, .ref (ad 61)), (4, .ref (ad 62))]) hx hb dL_law_2729 hl (k := 7) rfl rfl (by decide) rfl (fun ls hl => ?_)
            refine lv_goto (tgt := 28) hx hb dL_law_2732 (by decide) ?_
            exact ih _ _ _ hf _ _ _ _ _ h (lv_sub hl [3, 4, 5, 6, 7, 0] rfl) hc1 hc2
          · rw [if_pos c268] at hf
            refine lv_aload hx hb dL_law_2589 (lv_at hl 6 rfl) ?_
            refine lv_iconst (v := (0 : Int32)) hx hb dL_law_2591 (by decide) ?_
            refine g_dald B h (i := (0 : Int32)) (inb_in (n := 1) (by decide)) dL_law_2592 ?_
            refine lv_fload hx hb dL_law_2593 (lv_at hl 0 rfl) ?_
            obtain ⟨c269, hf⟩ := chk_some hf
            refine lv_f2d hx hb dL_law_2595 (nn64_n c269) ?_
            refine lv_dcmp hx hb dL_law_2596 ?_
            refine lv_if_eq (tgt := 2622) hx hb dL_law_2597 (by decide) (fun c270 => ?_) (fun c270 => ?_)
            · rw [if_pos c270] at hf
              refine lv_goto (tgt := 2729) hx hb dL_law_2622 (by decide) ?_
              refine lv_iinc (v := (v5 + 7)) (lv' := [(5, .int (v5 + 7)), (7, .float vr265), (6, .int vr263), (0, .ref b), (1, .ref (ad 0)), (2, .ref (ad 44)), (3, .ref (ad 61)), (4, .ref (ad 62))]) hx hb dL_law_2729 hl (k := 7) rfl rfl (by decide) rfl (fun ls hl => ?_)
              refine lv_goto (tgt := 28) hx hb dL_law_2732 (by decide) ?_
              exact ih _ _ _ hf _ _ _ _ _ h (lv_sub hl [3, 4, 5, 6, 7, 0] rfl) hc1 hc2
            · rw [if_neg c270] at hf
              refine lv_aload hx hb dL_law_2600 (lv_at hl 6 rfl) ?_
              refine lv_iconst (v := (0 : Int32)) hx hb dL_law_2602 (by decide) ?_
              refine g_dald B h (i := (0 : Int32)) (inb_in (n := 1) (by decide)) dL_law_2603 ?_
              refine lv_aload hx hb dL_law_2604 (lv_at hl 6 rfl) ?_
              refine lv_iconst (v := (0 : Int32)) hx hb dL_law_2606 (by decide) ?_
              refine g_dald B h (i := (0 : Int32)) (inb_in (n := 1) (by decide)) dL_law_2607 ?_
              refine lv_dcmp hx hb dL_law_2608 ?_
              refine lv_if_eq (tgt := 2620) hx hb dL_law_2609 (by decide) (fun c271 => ?_) (fun c271 => ?_)
              · rw [if_pos c271] at hf
                refine lv_iconst (v := (0 : Int32)) hx hb dL_law_2620 (by decide) ?_
                exact absurd hf (by decide)
              · rw [if_neg c271] at hf
                refine lv_fload hx hb dL_law_2612 (lv_at hl 0 rfl) ?_
                refine lv_fload hx hb dL_law_2614 (lv_at hl 0 rfl) ?_
                refine lv_fcmp hx hb dL_law_2616 ?_
                refine lv_if_ne (tgt := 2622) hx hb dL_law_2617 (by decide) (fun c272 => ?_) (fun c272 => ?_)
                · rw [if_neg c272] at hf
                  refine lv_goto (tgt := 2729) hx hb dL_law_2622 (by decide) ?_
                  refine lv_iinc (v := (v5 + 7)) (lv' := [(5, .int (v5 + 7)), (7, .float vr265), (6, .int vr263), (0, .ref b), (1, .ref (ad 0)), (2, .ref (ad 44)), (3, .ref (ad 61)), (4, .ref (ad 62))]) hx hb dL_law_2729 hl (k := 7) rfl rfl (by decide) rfl (fun ls hl => ?_)
                  refine lv_goto (tgt := 28) hx hb dL_law_2732 (by decide) ?_
                  exact ih _ _ _ hf _ _ _ _ _ h (lv_sub hl [3, 4, 5, 6, 7, 0] rfl) hc1 hc2
                · rw [if_pos c272] at hf
                  refine lv_iconst (v := (0 : Int32)) hx hb dL_law_2620 (by decide) ?_
                  exact absurd hf (by decide)
        · rw [if_neg c267] at hf
          refine lv_iconst (v := (0 : Int32)) hx hb dL_law_2582 (by decide) ?_
          exact absurd hf (by decide)
      rw [if_neg e30] at hf
      by_cases e31 : vx3 = (31 : Int32)
      · rw [if_pos e31] at hf
        refine lv_tableIn (off := 2580) (tgt := 2625) hx hb dL_law_45 (by rw [e31]; decide) (by rw [e31]; decide) (by rw [e31]; rfl) (by decide) ?_
        refine lv_aload_n hx hb dL_law_2625 rfl (lv_at hl 1 rfl) ?_
        refine lv_aload_n hx hb dL_law_2626 rfl (lv_at hl 0 rfl) ?_
        refine lv_iload hx hb dL_law_2627 (lv_at hl 5 rfl) ?_
        refine lv_iconst (v := (1 : Int32)) hx hb dL_law_2629 (by decide) ?_
        refine lv_iadd hx hb dL_law_2630 ?_
        obtain ⟨c273, hf⟩ := chk_some hf
        refine va_sld hx hb C.1 C.2.1 C.2.2.1 h.2 (inb_in c273) dL_law_2631 ?_
        refine lv_aload hx hb dL_law_2632 (lv_at hl 4 rfl) ?_
        obtain ⟨vr274, σ274, X274, hq274, hf⟩ := lthn_some hf
        refine sRetC (g_runH B h (ok_L_meanKey B.2.2.2.2.2.2.2.2 B.2.2.2.2.2.2.1 _ _ (xs ((v5 + (1 : Int32))).toNatClampNeg) hq274) cw_L_243 ⟨Nat.le_of_ble_eq_true rfl, Nat.le_of_ble_eq_true rfl⟩ rfl hl.1.symm rfl (Nat.le_of_ble_eq_true rfl) dL_law_2634 ⟨lw_c1 hc1, lw_s1 hc2⟩) h (fun H locs h => ?_)
        replace hc1 := lw_c2 hc1
        replace hc2 := lw_s2 hc2
        refine lv_istore (lv' := [(6, .int vr274), (0, .ref b), (1, .ref (ad 0)), (2, .ref (ad 44)), (3, .ref (ad 61)), (4, .ref (ad 62)), (5, .int v5)]) hx hb dL_law_2637 hl (by decide) rfl (fun ls hl => ?_)
        refine lv_aload_n hx hb dL_law_2639 rfl (lv_at hl 3 rfl) ?_
        refine lv_aload_n hx hb dL_law_2640 rfl (lv_at hl 1 rfl) ?_
        refine lv_iload hx hb dL_law_2641 (lv_at hl 6 rfl) ?_
        refine lv_iconst (v := (1 : Int32)) hx hb dL_law_2643 (by decide) ?_
        refine lv_iadd hx hb dL_law_2644 ?_
        obtain ⟨c275, hf⟩ := chk_some hf
        refine va_sld hx hb C.1 C.2.1 C.2.2.1 h.2 (inb_in c275) dL_law_2645 ?_
        obtain ⟨vr276, σ276, hq276, hf⟩ := wthn_some hf
        refine sRetC1 (g_runV (k := 44) (T := TX5) (N := 21) B h (ok_X5_meanKey B.2.2.2.2.2.2.2.2 B.2.2.2.2.2.2.1 _ _ (xs ((v5 + (1 : Int32))).toNatClampNeg) hq276) cw_L_245 ⟨Nat.le_of_ble_eq_true rfl, Nat.le_of_ble_eq_true rfl⟩ (by decide) (M_row _) rfl rfl hl.1.symm rfl (Nat.le_of_ble_eq_true rfl) dL_law_2646 ⟨lw_c0 hc1, lw_s0 hc2⟩) h (fun H locs h => ?_)
        refine lv_dstore (lv' := [(7, .double vr276), (6, .int vr274), (0, .ref b), (1, .ref (ad 0)), (2, .ref (ad 44)), (3, .ref (ad 61)), (4, .ref (ad 62)), (5, .int v5)]) hx hb dL_law_2649 hl (by decide) rfl (fun ls hl => ?_)
        refine lv_aload_n hx hb dL_law_2651 rfl (lv_at hl 4 rfl) ?_
        obtain ⟨vr277, hq277, hf⟩ := rthn_some hf
        refine sRetC1 (g_runV (k := 44) (T := TX5) (N := 21) B h (ok_X5_thrown B.2.2.2.2.2.2.2.2 B.2.2.2.2.2.2.1 _ _  hq277) cw_L_139 ⟨Nat.le_of_ble_eq_true rfl, Nat.le_of_ble_eq_true rfl⟩ (by decide) (M_row _) rfl rfl hl.1.symm rfl (Nat.le_of_ble_eq_true rfl) dL_law_2652 ⟨lw_c0 hc1, lw_s0 hc2⟩) h (fun H locs h => ?_)
        refine lv_iload hx hb dL_law_2655 (lv_at hl 1 rfl) ?_
        refine lv_icmp_eq (tgt := 2662) hx hb dL_law_2657 (by decide) (fun c278 => ?_) (fun c278 => ?_)
        · rw [if_pos c278] at hf
          refine lv_iload hx hb dL_law_2662 (lv_at hl 1 rfl) ?_
          refine lv_if_ne (tgt := 2699) hx hb dL_law_2664 (by decide) (fun c279 => ?_) (fun c279 => ?_)
          · rw [if_neg c279] at hf
            refine lv_goto (tgt := 2729) hx hb dL_law_2699 (by decide) ?_
            refine lv_iinc (v := (v5 + 7)) (lv' := [(5, .int (v5 + 7)), (7, .double vr276), (6, .int vr274), (0, .ref b), (1, .ref (ad 0)), (2, .ref (ad 44)), (3, .ref (ad 61)), (4, .ref (ad 62))]) hx hb dL_law_2729 hl (k := 7) rfl rfl (by decide) rfl (fun ls hl => ?_)
            refine lv_goto (tgt := 28) hx hb dL_law_2732 (by decide) ?_
            exact ih _ _ _ hf _ _ _ _ _ h (lv_sub hl [3, 4, 5, 6, 7, 0] rfl) hc1 hc2
          · rw [if_pos c279] at hf
            refine lv_aload hx hb dL_law_2667 (lv_at hl 6 rfl) ?_
            refine lv_iconst (v := (0 : Int32)) hx hb dL_law_2669 (by decide) ?_
            refine g_dald B h (i := (0 : Int32)) (inb_in (n := 1) (by decide)) dL_law_2670 ?_
            refine lv_dload hx hb dL_law_2671 (lv_at hl 0 rfl) ?_
            refine lv_dcmp hx hb dL_law_2673 ?_
            refine lv_if_eq (tgt := 2699) hx hb dL_law_2674 (by decide) (fun c280 => ?_) (fun c280 => ?_)
            · rw [if_pos c280] at hf
              refine lv_goto (tgt := 2729) hx hb dL_law_2699 (by decide) ?_
              refine lv_iinc (v := (v5 + 7)) (lv' := [(5, .int (v5 + 7)), (7, .double vr276), (6, .int vr274), (0, .ref b), (1, .ref (ad 0)), (2, .ref (ad 44)), (3, .ref (ad 61)), (4, .ref (ad 62))]) hx hb dL_law_2729 hl (k := 7) rfl rfl (by decide) rfl (fun ls hl => ?_)
              refine lv_goto (tgt := 28) hx hb dL_law_2732 (by decide) ?_
              exact ih _ _ _ hf _ _ _ _ _ h (lv_sub hl [3, 4, 5, 6, 7, 0] rfl) hc1 hc2
            · rw [if_neg c280] at hf
              refine lv_aload hx hb dL_law_2677 (lv_at hl 6 rfl) ?_
              refine lv_iconst (v := (0 : Int32)) hx hb dL_law_2679 (by decide) ?_
              refine g_dald B h (i := (0 : Int32)) (inb_in (n := 1) (by decide)) dL_law_2680 ?_
              refine lv_aload hx hb dL_law_2681 (lv_at hl 6 rfl) ?_
              refine lv_iconst (v := (0 : Int32)) hx hb dL_law_2683 (by decide) ?_
              refine g_dald B h (i := (0 : Int32)) (inb_in (n := 1) (by decide)) dL_law_2684 ?_
              refine lv_dcmp hx hb dL_law_2685 ?_
              refine lv_if_eq (tgt := 2697) hx hb dL_law_2686 (by decide) (fun c281 => ?_) (fun c281 => ?_)
              · rw [if_pos c281] at hf
                refine lv_iconst (v := (0 : Int32)) hx hb dL_law_2697 (by decide) ?_
                exact absurd hf (by decide)
              · rw [if_neg c281] at hf
                refine lv_dload hx hb dL_law_2689 (lv_at hl 0 rfl) ?_
                refine lv_dload hx hb dL_law_2691 (lv_at hl 0 rfl) ?_
                refine lv_dcmp hx hb dL_law_2693 ?_
                refine lv_if_ne (tgt := 2699) hx hb dL_law_2694 (by decide) (fun c282 => ?_) (fun c282 => ?_)
                · rw [if_neg c282] at hf
                  refine lv_goto (tgt := 2729) hx hb dL_law_2699 (by decide) ?_
                  refine lv_iinc (v := (v5 + 7)) (lv' := [(5, .int (v5 + 7)), (7, .double vr276), (6, .int vr274), (0, .ref b), (1, .ref (ad 0)), (2, .ref (ad 44)), (3, .ref (ad 61)), (4, .ref (ad 62))]) hx hb dL_law_2729 hl (k := 7) rfl rfl (by decide) rfl (fun ls hl => ?_)
                  refine lv_goto (tgt := 28) hx hb dL_law_2732 (by decide) ?_
                  exact ih _ _ _ hf _ _ _ _ _ h (lv_sub hl [3, 4, 5, 6, 7, 0] rfl) hc1 hc2
                · rw [if_pos c282] at hf
                  refine lv_iconst (v := (0 : Int32)) hx hb dL_law_2697 (by decide) ?_
                  exact absurd hf (by decide)
        · rw [if_neg c278] at hf
          refine lv_iconst (v := (0 : Int32)) hx hb dL_law_2660 (by decide) ?_
          exact absurd hf (by decide)
      rw [if_neg e31] at hf
      by_cases e32 : vx3 = (32 : Int32)
      · rw [if_pos e32] at hf
        refine lv_tableIn (off := 2657) (tgt := 2702) hx hb dL_law_45 (by rw [e32]; decide) (by rw [e32]; decide) (by rw [e32]; rfl) (by decide) ?_
        refine lv_aload_n hx hb dL_law_2702 rfl (lv_at hl 1 rfl) ?_
        obtain ⟨vr283, hq283, hf⟩ := rthn_some hf
        refine sRetC1 (g_runV (k := 0) (T := TX4) (N := 8) B h (ok_X4_checksum B.2.2.2.2.2.2.2.2 B.2.2.2.2.2.2.1 _ _  hq283) cw_L_246 ⟨Nat.le_of_ble_eq_true rfl, Nat.le_of_ble_eq_true rfl⟩ (by decide) (S_row _) rfl rfl hl.1.symm rfl (Nat.le_of_ble_eq_true rfl) dL_law_2703 ⟨lw_c0 hc1, lw_s0 hc2⟩) h (fun H locs h => ?_)
        refine lv_aload_n hx hb dL_law_2706 rfl (lv_at hl 2 rfl) ?_
        obtain ⟨vr284, σ284, hq284, hf⟩ := wthn_some hf
        refine sRetC1 (g_runV (k := 44) (T := TX5) (N := 21) B h (ok_X5_checksum B.2.2.2.2.2.2.2.2 B.2.2.2.2.2.2.1 _ _  hq284) cw_L_250 ⟨Nat.le_of_ble_eq_true rfl, Nat.le_of_ble_eq_true rfl⟩ (by decide) (M_row _) rfl rfl hl.1.symm rfl (Nat.le_of_ble_eq_true rfl) dL_law_2707 ⟨lw_c0 hc1, lw_s0 hc2⟩) h (fun H locs h => ?_)
        refine W.lcmp hx hb dL_law_2710 ?_
        refine lv_if_eq (tgt := 2729) hx hb dL_law_2711 (by decide) (fun c285 => ?_) (fun c285 => ?_)
        · rw [if_pos c285] at hf
          refine lv_iinc (v := (v5 + 7)) (lv' := [(5, .int (v5 + 7)), (0, .ref b), (1, .ref (ad 0)), (2, .ref (ad 44)), (3, .ref (ad 61)), (4, .ref (ad 62))]) hx hb dL_law_2729 hl (k := 5) rfl rfl (by decide) rfl (fun ls hl => ?_)
          refine lv_goto (tgt := 28) hx hb dL_law_2732 (by decide) ?_
          exact ih _ _ _ hf _ _ _ _ _ h (lv_sub hl [1, 2, 3, 4, 5, 0] rfl) (lw_w1 hc1) (lw_w2 hc2)
        · rw [if_neg c285] at hf
          refine lv_iconst (v := (0 : Int32)) hx hb dL_law_2714 (by decide) ?_
          exact absurd hf (by decide)
      rw [if_neg e32] at hf
      by_cases e33 : vx3 = (33 : Int32)
      · rw [if_pos e33] at hf
        refine lv_tableIn (off := 2671) (tgt := 2716) hx hb dL_law_45 (by rw [e33]; decide) (by rw [e33]; decide) (by rw [e33]; rfl) (by decide) ?_
        refine lv_aload_n hx hb dL_law_2716 rfl (lv_at hl 1 rfl) ?_
        obtain ⟨vr286, σ286, hq286, hf⟩ := wthn_some hf
        refine sRetC1 (g_runV (k := 0) (T := TX4) (N := 8) B h (ok_X4_isSound B.2.2.2.2.2.2.2.2 B.2.2.2.2.2.2.1 _ _  hq286) cw_L_251 ⟨Nat.le_of_ble_eq_true rfl, Nat.le_of_ble_eq_true rfl⟩ (by decide) (S_row _) rfl rfl hl.1.symm rfl (Nat.le_of_ble_eq_true rfl) dL_law_2717 ⟨lw_c0 hc1, lw_s0 hc2⟩) h (fun H locs h => ?_)
        refine lv_aload_n hx hb dL_law_2720 rfl (lv_at hl 2 rfl) ?_
        obtain ⟨vr287, σ287, hq287, hf⟩ := wthn_some hf
        refine sRetC1 (g_runV (k := 44) (T := TX5) (N := 21) B h (ok_X5_isSound B.2.2.2.2.2.2.2.2 B.2.2.2.2.2.2.1 _ _  hq287) cw_L_255 ⟨Nat.le_of_ble_eq_true rfl, Nat.le_of_ble_eq_true rfl⟩ (by decide) (M_row _) rfl rfl hl.1.symm rfl (Nat.le_of_ble_eq_true rfl) dL_law_2721 ⟨lw_c0 hc1, lw_s0 hc2⟩) h (fun H locs h => ?_)
        refine lv_icmp_eq (tgt := 2729) hx hb dL_law_2724 (by decide) (fun c288 => ?_) (fun c288 => ?_)
        · rw [if_pos c288] at hf
          refine lv_iinc (v := (v5 + 7)) (lv' := [(5, .int (v5 + 7)), (0, .ref b), (1, .ref (ad 0)), (2, .ref (ad 44)), (3, .ref (ad 61)), (4, .ref (ad 62))]) hx hb dL_law_2729 hl (k := 5) rfl rfl (by decide) rfl (fun ls hl => ?_)
          refine lv_goto (tgt := 28) hx hb dL_law_2732 (by decide) ?_
          exact ih _ _ _ hf _ _ _ _ _ h (lv_sub hl [1, 2, 3, 4, 5, 0] rfl) (lw_w1 hc1) (lw_w2 hc2)
        · rw [if_neg c288] at hf
          refine lv_iconst (v := (0 : Int32)) hx hb dL_law_2727 (by decide) ?_
          exact absurd hf (by decide)
      rw [if_neg e33] at hf
      refine lv_tableOut (tgt := 2729) hx hb dL_law_45 (sw_out (j := 34) (sw_step (j := 33) (sw_step (j := 32) (sw_step (j := 31) (sw_step (j := 30) (sw_step (j := 29) (sw_step (j := 28) (sw_step (j := 27) (sw_step (j := 26) (sw_step (j := 25) (sw_step (j := 24) (sw_step (j := 23) (sw_step (j := 22) (sw_step (j := 21) (sw_step (j := 20) (sw_step (j := 19) (sw_step (j := 18) (sw_step (j := 17) (sw_step (j := 16) (sw_step (j := 15) (sw_step (j := 14) (sw_step (j := 13) (sw_step (j := 12) (sw_step (j := 11) (sw_step (j := 10) (sw_step (j := 9) (sw_step (j := 8) (sw_step (j := 7) (sw_step (j := 6) (sw_step (j := 5) (sw_step (j := 4) (sw_step (j := 3) (sw_step (j := 2) (sw_step (j := 1) (sw_step (j := 0) sw_0 e0) e1) e2) e3) e4) e5) e6) e7) e8) e9) e10) e11) e12) e13) e14) e15) e16) e17) e18) e19) e20) e21) e22) e23) e24) e25) e26) e27) e28) e29) e30) e31) e32) e33)) (by decide) ?_
      refine lv_iinc (v := (v5 + 7)) (lv' := [(5, .int (v5 + 7)), (0, .ref b), (1, .ref (ad 0)), (2, .ref (ad 44)), (3, .ref (ad 61)), (4, .ref (ad 62))]) hx hb dL_law_2729 hl (k := 5) rfl rfl (by decide) rfl (fun ls hl => ?_)
      refine lv_goto (tgt := 28) hx hb dL_law_2732 (by decide) ?_
      exact ih _ _ _ hf _ _ _ _ _ h (lv_sub hl [1, 2, 3, 4, 5, 0] rfl) (lw_w1 hc1) (lw_w2 hc2)
