set_option maxHeartbeats 4000000 in
set_option maxRecDepth 100000 in
theorem k_X5_playBoth_178 {p : Program} {l : Launch} {e : Env} {s : State} {m : MethodId} {args : Array Value} {below : List Frame} {meth : Method} {c : Code} {D : va_G} {cy : Nat → ClassId} {ad : Nat → Nat} {X : sX} {r : Int32} {σ' : sM} (B : sB p l s m meth c args cX5_playBoth 10 RX5 D cy ad) (hr : meth.sig.returnType = (some .int)) {K60 : Int32 → Int32 → Int32 → Int32 → Int32 → Int32 → Int32 → sM → Option (Int32 × sM)} (hK60 : ∀ (v1 : Int32) (v2 : Int32) (v3 : Int32) (v4 : Int32) (v5 : Int32) (v6 : Int32) (v7 : Int32) (σ : sM), K60 v1 v2 v3 v4 v5 v6 v7 σ = some (r, σ') → sGo p l e { frames := 4, cells := 0, slots := 0, locals := 95 } s m args below meth c D cy ad X 10 (sQ below args s 0 0 D cy ad (.inr (some (.int r))) X σ') σ 60 [(0, .ref (ad 44)), (1, .int v1), (2, .int v2), (3, .int v3), (4, .int v4), (5, .int v5), (6, .int v6), (7, .int v7)] []) (v1 : Int32) (v2 : Int32) (v3 : Int32) (v4 : Int32) (v6 : Int32) (v7 : Int32) (v8 : Int32) (vs0 : Int32) (vs1 : Int32) (σ : sM) (hf : b_X5_playBoth_178 K60 v1 v2 v3 v4 v6 v7 v8 vs0 vs1 σ = some (r, σ')) : sGo p l e { frames := 4, cells := 0, slots := 0, locals := 95 } s m args below meth c D cy ad X 10 (sQ below args s 0 0 D cy ad (.inr (some (.int r))) X σ') σ 178 [(0, .ref (ad 44)), (1, .int v1), (2, .int v2), (3, .int v3), (4, .int v4), (6, .int v6), (7, .int v7), (8, .int v8)] [.int vs1, .int vs0] := by
  replace hf : (if v8 = 0 then (K60 v1 v2 v3 v4 (vs0 + vs1) (v6 + (0 : Int32)) (v7 + 1) σ) else (K60 v1 v2 v3 v4 (vs0 + vs1) (v6 + (1 : Int32)) (v7 + 1) σ)) = some (r, σ') := hf
  intro H locs ls h hl
  have hx := B.1
  have hb := B.2.1
  refine lv_iadd hx hb dX5_playBoth_178 ?_
  refine lv_istore (lv' := [(5, .int (vs0 + vs1)), (0, .ref (ad 44)), (1, .int v1), (2, .int v2), (3, .int v3), (4, .int v4), (6, .int v6), (7, .int v7), (8, .int v8)]) hx hb dX5_playBoth_179 hl (by decide) rfl (fun ls hl => ?_)
  refine lv_iload hx hb dX5_playBoth_181 (lv_at hl 6 rfl) ?_
  refine lv_iload hx hb dX5_playBoth_183 (lv_at hl 8 rfl) ?_
  refine lv_if_eq (tgt := 192) hx hb dX5_playBoth_185 (by decide) (fun c36 => ?_) (fun c36 => ?_)
  · rw [if_pos c36] at hf
    refine lv_iconst (v := (0 : Int32)) hx hb dX5_playBoth_192 (by decide) ?_
    refine lv_iadd hx hb dX5_playBoth_193 ?_
    refine lv_istore (lv' := [(6, .int (v6 + (0 : Int32))), (5, .int (vs0 + vs1)), (0, .ref (ad 44)), (1, .int v1), (2, .int v2), (3, .int v3), (4, .int v4), (7, .int v7), (8, .int v8)]) hx hb dX5_playBoth_194 hl (by decide) rfl (fun ls hl => ?_)
    refine lv_iinc (v := (v7 + 1)) (lv' := [(7, .int (v7 + 1)), (6, .int (v6 + (0 : Int32))), (5, .int (vs0 + vs1)), (0, .ref (ad 44)), (1, .int v1), (2, .int v2), (3, .int v3), (4, .int v4), (8, .int v8)]) hx hb dX5_playBoth_196 hl (k := 7) rfl rfl (by decide) rfl (fun ls hl => ?_)
    refine lv_goto (tgt := 60) hx hb dX5_playBoth_199 (by decide) ?_
    exact hK60 _ _ _ _ _ _ _ _ hf _ _ _ h (lv_sub hl [3, 4, 5, 6, 7, 2, 1, 0] rfl)
  · rw [if_neg c36] at hf
    refine lv_iconst (v := (1 : Int32)) hx hb dX5_playBoth_188 (by decide) ?_
    refine lv_goto (tgt := 193) hx hb dX5_playBoth_189 (by decide) ?_
    refine lv_iadd hx hb dX5_playBoth_193 ?_
    refine lv_istore (lv' := [(6, .int (v6 + (1 : Int32))), (5, .int (vs0 + vs1)), (0, .ref (ad 44)), (1, .int v1), (2, .int v2), (3, .int v3), (4, .int v4), (7, .int v7), (8, .int v8)]) hx hb dX5_playBoth_194 hl (by decide) rfl (fun ls hl => ?_)
    refine lv_iinc (v := (v7 + 1)) (lv' := [(7, .int (v7 + 1)), (6, .int (v6 + (1 : Int32))), (5, .int (vs0 + vs1)), (0, .ref (ad 44)), (1, .int v1), (2, .int v2), (3, .int v3), (4, .int v4), (8, .int v8)]) hx hb dX5_playBoth_196 hl (k := 7) rfl rfl (by decide) rfl (fun ls hl => ?_)
    refine lv_goto (tgt := 60) hx hb dX5_playBoth_199 (by decide) ?_
    exact hK60 _ _ _ _ _ _ _ _ hf _ _ _ h (lv_sub hl [3, 4, 5, 6, 7, 2, 1, 0] rfl)
set_option maxHeartbeats 4000000 in
set_option maxRecDepth 100000 in
theorem k_X5_playBoth_134 {p : Program} {l : Launch} {e : Env} {s : State} {m : MethodId} {args : Array Value} {below : List Frame} {meth : Method} {c : Code} {D : va_G} {cy : Nat → ClassId} {ad : Nat → Nat} {X : sX} {r : Int32} {σ' : sM} (B : sB p l s m meth c args cX5_playBoth 10 RX5 D cy ad) (hr : meth.sig.returnType = (some .int)) {K60 : Int32 → Int32 → Int32 → Int32 → Int32 → Int32 → Int32 → sM → Option (Int32 × sM)} (hK60 : ∀ (v1 : Int32) (v2 : Int32) (v3 : Int32) (v4 : Int32) (v5 : Int32) (v6 : Int32) (v7 : Int32) (σ : sM), K60 v1 v2 v3 v4 v5 v6 v7 σ = some (r, σ') → sGo p l e { frames := 4, cells := 0, slots := 0, locals := 95 } s m args below meth c D cy ad X 10 (sQ below args s 0 0 D cy ad (.inr (some (.int r))) X σ') σ 60 [(0, .ref (ad 44)), (1, .int v1), (2, .int v2), (3, .int v3), (4, .int v4), (5, .int v5), (6, .int v6), (7, .int v7)] []) (v1 : Int32) (v2 : Int32) (v3 : Int32) (v4 : Int32) (v5 : Int32) (v6 : Int32) (v7 : Int32) (vs0 : Int32) (σ : sM) (hf : b_X5_playBoth_134 K60 v1 v2 v3 v4 v5 v6 v7 vs0 σ = some (r, σ')) : sGo p l e { frames := 4, cells := 0, slots := 0, locals := 95 } s m args below meth c D cy ad X 10 (sQ below args s 0 0 D cy ad (.inr (some (.int r))) X σ') σ 134 [(0, .ref (ad 44)), (1, .int v1), (2, .int v2), (3, .int v3), (4, .int v4), (5, .int v5), (6, .int v6), (7, .int v7)] [.int vs0] := by
  replace hf : (if vs0 = 0 then (wthn (f_X5_does v4 (((30 : Int32) * v1) + v5) σ) (fun vr32 σ32 => if vs0 = 0 then (b_X5_playBoth_178 K60 v1 v2 v3 v4 v6 v7 vs0 v5 (1 : Int32) σ32) else (b_X5_playBoth_178 K60 v1 v2 v3 v4 v6 v7 vs0 v5 (0 : Int32) σ32))) else (wthn (f_X5_does v4 (((30 : Int32) * v2) + v6) σ) (fun vr34 σ34 => if vs0 = 0 then (b_X5_playBoth_178 K60 v1 v2 v3 v4 v6 v7 vs0 v5 (1 : Int32) σ34) else (b_X5_playBoth_178 K60 v1 v2 v3 v4 v6 v7 vs0 v5 (0 : Int32) σ34)))) = some (r, σ') := hf
  intro H locs ls h hl
  have hx := B.1
  have hb := B.2.1
  refine lv_istore (lv' := [(8, .int vs0), (0, .ref (ad 44)), (1, .int v1), (2, .int v2), (3, .int v3), (4, .int v4), (5, .int v5), (6, .int v6), (7, .int v7)]) hx hb dX5_playBoth_134 hl (by decide) rfl (fun ls hl => ?_)
  refine lv_aload_n hx hb dX5_playBoth_136 rfl (lv_at hl 1 rfl) ?_
  refine lv_iload hx hb dX5_playBoth_137 (lv_at hl 5 rfl) ?_
  refine lv_iload hx hb dX5_playBoth_139 (lv_at hl 0 rfl) ?_
  refine lv_if_eq (tgt := 154) hx hb dX5_playBoth_141 (by decide) (fun c31 => ?_) (fun c31 => ?_)
  · rw [if_pos c31] at hf
    refine lv_bipush (v := (30 : Int32)) hx hb dX5_playBoth_154 (by decide) ?_
    refine lv_iload_n hx hb dX5_playBoth_156 rfl (lv_at hl 2 rfl) ?_
    refine lv_imul hx hb dX5_playBoth_157 ?_
    refine lv_iload hx hb dX5_playBoth_158 (lv_at hl 6 rfl) ?_
    refine lv_iadd hx hb dX5_playBoth_160 ?_
    obtain ⟨vr32, σ32, hq32, hf⟩ := wthn_some hf
    refine sRetC1 (g_runV (k := 44) (T := TX5) (N := 21) B h (ok_X5_does B.2.2.2.2.2.2.2.2 B.2.2.2.2.2.2.1 _ _ v4 (((30 : Int32) * v1) + v5) hq32) cw_X5_152 ⟨Nat.le_of_ble_eq_true rfl, Nat.le_of_ble_eq_true rfl⟩ (by decide) (M_row _) rfl rfl hl.1.symm rfl (Nat.le_of_ble_eq_true rfl) dX5_playBoth_161 ⟨Nat.zero_le _, Nat.zero_le _⟩) h (fun H locs h => ?_)
    refine lv_istore (lv' := [(9, .int vr32), (8, .int vs0), (0, .ref (ad 44)), (1, .int v1), (2, .int v2), (3, .int v3), (4, .int v4), (5, .int v5), (6, .int v6), (7, .int v7)]) hx hb dX5_playBoth_164 hl (by decide) rfl (fun ls hl => ?_)
    refine lv_iload hx hb dX5_playBoth_166 (lv_at hl 7 rfl) ?_
    refine lv_iload hx hb dX5_playBoth_168 (lv_at hl 1 rfl) ?_
    refine lv_if_eq (tgt := 177) hx hb dX5_playBoth_170 (by decide) (fun c33 => ?_) (fun c33 => ?_)
    · rw [if_pos c33] at hf
      refine lv_iconst (v := (1 : Int32)) hx hb dX5_playBoth_177 (by decide) ?_
      exact k_X5_playBoth_178 B hr hK60 _ _ _ _ _ _ _ _ _ _ hf _ _ _ h (lv_sub hl [2, 3, 4, 5, 6, 8, 9, 1] rfl)
    · rw [if_neg c33] at hf
      refine lv_iconst (v := (0 : Int32)) hx hb dX5_playBoth_173 (by decide) ?_
      refine lv_goto (tgt := 178) hx hb dX5_playBoth_174 (by decide) ?_
      exact k_X5_playBoth_178 B hr hK60 _ _ _ _ _ _ _ _ _ _ hf _ _ _ h (lv_sub hl [2, 3, 4, 5, 6, 8, 9, 1] rfl)
  · rw [if_neg c31] at hf
    refine lv_bipush (v := (30 : Int32)) hx hb dX5_playBoth_144 (by decide) ?_
    refine lv_iload_n hx hb dX5_playBoth_146 rfl (lv_at hl 3 rfl) ?_
    refine lv_imul hx hb dX5_playBoth_147 ?_
    refine lv_iload hx hb dX5_playBoth_148 (lv_at hl 7 rfl) ?_
    refine lv_iadd hx hb dX5_playBoth_150 ?_
    refine lv_goto (tgt := 161) hx hb dX5_playBoth_151 (by decide) ?_
    obtain ⟨vr34, σ34, hq34, hf⟩ := wthn_some hf
    refine sRetC1 (g_runV (k := 44) (T := TX5) (N := 21) B h (ok_X5_does B.2.2.2.2.2.2.2.2 B.2.2.2.2.2.2.1 _ _ v4 (((30 : Int32) * v2) + v6) hq34) cw_X5_152 ⟨Nat.le_of_ble_eq_true rfl, Nat.le_of_ble_eq_true rfl⟩ (by decide) (M_row _) rfl rfl hl.1.symm rfl (Nat.le_of_ble_eq_true rfl) dX5_playBoth_161 ⟨Nat.zero_le _, Nat.zero_le _⟩) h (fun H locs h => ?_)
    refine lv_istore (lv' := [(9, .int vr34), (8, .int vs0), (0, .ref (ad 44)), (1, .int v1), (2, .int v2), (3, .int v3), (4, .int v4), (5, .int v5), (6, .int v6), (7, .int v7)]) hx hb dX5_playBoth_164 hl (by decide) rfl (fun ls hl => ?_)
    refine lv_iload hx hb dX5_playBoth_166 (lv_at hl 7 rfl) ?_
    refine lv_iload hx hb dX5_playBoth_168 (lv_at hl 1 rfl) ?_
    refine lv_if_eq (tgt := 177) hx hb dX5_playBoth_170 (by decide) (fun c35 => ?_) (fun c35 => ?_)
    · rw [if_pos c35] at hf
      refine lv_iconst (v := (1 : Int32)) hx hb dX5_playBoth_177 (by decide) ?_
      exact k_X5_playBoth_178 B hr hK60 _ _ _ _ _ _ _ _ _ _ hf _ _ _ h (lv_sub hl [2, 3, 4, 5, 6, 8, 9, 1] rfl)
    · rw [if_neg c35] at hf
      refine lv_iconst (v := (0 : Int32)) hx hb dX5_playBoth_173 (by decide) ?_
      refine lv_goto (tgt := 178) hx hb dX5_playBoth_174 (by decide) ?_
      exact k_X5_playBoth_178 B hr hK60 _ _ _ _ _ _ _ _ _ _ hf _ _ _ h (lv_sub hl [2, 3, 4, 5, 6, 8, 9, 1] rfl)
set_option maxHeartbeats 4000000 in
set_option maxRecDepth 100000 in
theorem k_X5_playBoth_100 {p : Program} {l : Launch} {e : Env} {s : State} {m : MethodId} {args : Array Value} {below : List Frame} {meth : Method} {c : Code} {D : va_G} {cy : Nat → ClassId} {ad : Nat → Nat} {X : sX} {r : Int32} {σ' : sM} (B : sB p l s m meth c args cX5_playBoth 10 RX5 D cy ad) (hr : meth.sig.returnType = (some .int)) {K60 : Int32 → Int32 → Int32 → Int32 → Int32 → Int32 → Int32 → sM → Option (Int32 × sM)} (hK60 : ∀ (v1 : Int32) (v2 : Int32) (v3 : Int32) (v4 : Int32) (v5 : Int32) (v6 : Int32) (v7 : Int32) (σ : sM), K60 v1 v2 v3 v4 v5 v6 v7 σ = some (r, σ') → sGo p l e { frames := 4, cells := 0, slots := 0, locals := 95 } s m args below meth c D cy ad X 10 (sQ below args s 0 0 D cy ad (.inr (some (.int r))) X σ') σ 60 [(0, .ref (ad 44)), (1, .int v1), (2, .int v2), (3, .int v3), (4, .int v4), (5, .int v5), (6, .int v6), (7, .int v7)] []) (v1 : Int32) (v2 : Int32) (v3 : Int32) (v4 : Int32) (v5 : Int32) (v6 : Int32) (v7 : Int32) (vs0 : Int32) (σ : sM) (hf : b_X5_playBoth_100 K60 v1 v2 v3 v4 v5 v6 v7 vs0 σ = some (r, σ')) : sGo p l e { frames := 4, cells := 0, slots := 0, locals := 95 } s m args below meth c D cy ad X 10 (sQ below args s 0 0 D cy ad (.inr (some (.int r))) X σ') σ 100 [(0, .ref (ad 44)), (1, .int v1), (2, .int v2), (3, .int v3), (4, .int v4), (5, .int v5), (6, .int v6), (7, .int v7)] [.int vs0] := by
  replace hf : (chk (inb v1 3) (if v5 = (σ 58 (v1).toNatClampNeg) then (b_X5_playBoth_134 K60 v1 v2 v3 v4 v5 v6 v7 (1 : Int32) σ) else (if vs0 = 0 then (b_X5_playBoth_134 K60 v1 v2 v3 v4 v5 v6 v7 (0 : Int32) σ) else (chk (inb v2 3) (if (σ 58 (v2).toNatClampNeg) ≤ v6 then (b_X5_playBoth_134 K60 v1 v2 v3 v4 v5 v6 v7 (0 : Int32) σ) else (b_X5_playBoth_134 K60 v1 v2 v3 v4 v5 v6 v7 (1 : Int32) σ)))))) = some (r, σ') := hf
  intro H locs ls h hl
  have hx := B.1
  have hb := B.2.1
  refine lv_istore (lv' := [(8, .int vs0), (0, .ref (ad 44)), (1, .int v1), (2, .int v2), (3, .int v3), (4, .int v4), (5, .int v5), (6, .int v6), (7, .int v7)]) hx hb dX5_playBoth_100 hl (by decide) rfl (fun ls hl => ?_)
  refine lv_iload hx hb dX5_playBoth_102 (lv_at hl 6 rfl) ?_
  refine lv_aload_n hx hb dX5_playBoth_104 rfl (lv_at hl 1 rfl) ?_
  refine g_get B h 44 (by decide) (C := RX5) (T := TX5) (N := 21) (M_row _) rfl hin_X5 13 (by decide) hw839 rfl rfl dX5_playBoth_105 ?_
  refine lv_iload_n hx hb dX5_playBoth_108 rfl (lv_at hl 2 rfl) ?_
  obtain ⟨c26, hf⟩ := chk_some hf
  refine g_iald B h 58 (by decide) (n := 3) (fun _ => rfl) (inb_in c26) dX5_playBoth_109 ?_
  refine lv_icmp_eq (tgt := 129) hx hb dX5_playBoth_110 (by decide) (fun c27 => ?_) (fun c27 => ?_)
  · rw [if_pos c27] at hf
    refine lv_iconst (v := (1 : Int32)) hx hb dX5_playBoth_129 (by decide) ?_
    refine lv_goto (tgt := 134) hx hb dX5_playBoth_130 (by decide) ?_
    exact k_X5_playBoth_134 B hr hK60 _ _ _ _ _ _ _ _ _ hf _ _ _ h (lv_sub hl [1, 2, 3, 4, 5, 6, 7, 8] rfl)
  · rw [if_neg c27] at hf
    refine lv_iload hx hb dX5_playBoth_113 (lv_at hl 0 rfl) ?_
    refine lv_if_eq (tgt := 133) hx hb dX5_playBoth_115 (by decide) (fun c28 => ?_) (fun c28 => ?_)
    · rw [if_pos c28] at hf
      refine lv_iconst (v := (0 : Int32)) hx hb dX5_playBoth_133 (by decide) ?_
      exact k_X5_playBoth_134 B hr hK60 _ _ _ _ _ _ _ _ _ hf _ _ _ h (lv_sub hl [1, 2, 3, 4, 5, 6, 7, 8] rfl)
    · rw [if_neg c28] at hf
      refine lv_iload hx hb dX5_playBoth_118 (lv_at hl 7 rfl) ?_
      refine lv_aload_n hx hb dX5_playBoth_120 rfl (lv_at hl 1 rfl) ?_
      refine g_get B h 44 (by decide) (C := RX5) (T := TX5) (N := 21) (M_row _) rfl hin_X5 13 (by decide) hw839 rfl rfl dX5_playBoth_121 ?_
      refine lv_iload_n hx hb dX5_playBoth_124 rfl (lv_at hl 3 rfl) ?_
      obtain ⟨c29, hf⟩ := chk_some hf
      refine g_iald B h 58 (by decide) (n := 3) (fun _ => rfl) (inb_in c29) dX5_playBoth_125 ?_
      refine lv_icmp_ge (tgt := 133) hx hb dX5_playBoth_126 (by decide) (fun c30 => ?_) (fun c30 => ?_)
      · rw [if_pos c30] at hf
        refine lv_iconst (v := (0 : Int32)) hx hb dX5_playBoth_133 (by decide) ?_
        exact k_X5_playBoth_134 B hr hK60 _ _ _ _ _ _ _ _ _ hf _ _ _ h (lv_sub hl [1, 2, 3, 4, 5, 6, 7, 8] rfl)
      · rw [if_neg c30] at hf
        refine lv_iconst (v := (1 : Int32)) hx hb dX5_playBoth_129 (by decide) ?_
        refine lv_goto (tgt := 134) hx hb dX5_playBoth_130 (by decide) ?_
        exact k_X5_playBoth_134 B hr hK60 _ _ _ _ _ _ _ _ _ hf _ _ _ h (lv_sub hl [1, 2, 3, 4, 5, 6, 7, 8] rfl)
set_option maxHeartbeats 4000000 in
set_option maxRecDepth 100000 in
theorem k_X5_playBoth_60 {p : Program} {l : Launch} {e : Env} {s : State} {m : MethodId} {args : Array Value} {below : List Frame} {meth : Method} {c : Code} {D : va_G} {cy : Nat → ClassId} {ad : Nat → Nat} {X : sX} {r : Int32} {σ' : sM} (B : sB p l s m meth c args cX5_playBoth 10 RX5 D cy ad) (hr : meth.sig.returnType = (some .int)) : ∀ (n : Nat) (v1 : Int32) (v2 : Int32) (v3 : Int32) (v4 : Int32) (v5 : Int32) (v6 : Int32) (v7 : Int32) (σ : sM), b_X5_playBoth_60 n v1 v2 v3 v4 v5 v6 v7 σ = some (r, σ') → sGo p l e { frames := 4, cells := 0, slots := 0, locals := 95 } s m args below meth c D cy ad X 10 (sQ below args s 0 0 D cy ad (.inr (some (.int r))) X σ') σ 60 [(0, .ref (ad 44)), (1, .int v1), (2, .int v2), (3, .int v3), (4, .int v4), (5, .int v5), (6, .int v6), (7, .int v7)] [] := by
  intro n
  induction n with
  | zero =>
    intro v1 v2 v3 v4 v5 v6 v7 σ hf
    exact nomatch (show none = some (r, σ') from hf)
  | succ n ih =>
    intro v1 v2 v3 v4 v5 v6 v7 σ hf
    replace hf : (chk (inb v1 3) (if v5 < (σ 58 (v1).toNatClampNeg) then (if (((v3.toUInt32 >>> ((v7 - v7 / (32 : Int32) * (32 : Int32)).toUInt32 &&& Int32.toUInt32 31)).toInt32) &&& (1 : Int32)) = (1 : Int32) then (b_X5_playBoth_100 (b_X5_playBoth_60 n) v1 v2 v3 v4 v5 v6 v7 (1 : Int32) σ) else (b_X5_playBoth_100 (b_X5_playBoth_60 n) v1 v2 v3 v4 v5 v6 v7 (0 : Int32) σ)) else (chk (inb v2 3) (if (σ 58 (v2).toNatClampNeg) ≤ v6 then (chk (inb v4 3) (some ((σ 47 (v4).toNatClampNeg), σ))) else (if (((v3.toUInt32 >>> ((v7 - v7 / (32 : Int32) * (32 : Int32)).toUInt32 &&& Int32.toUInt32 31)).toInt32) &&& (1 : Int32)) = (1 : Int32) then (b_X5_playBoth_100 (b_X5_playBoth_60 n) v1 v2 v3 v4 v5 v6 v7 (1 : Int32) σ) else (b_X5_playBoth_100 (b_X5_playBoth_60 n) v1 v2 v3 v4 v5 v6 v7 (0 : Int32) σ)))))) = some (r, σ') := hf
    intro H locs ls h hl
    have hx := B.1
    have hb := B.2.1
    refine lv_iload hx hb dX5_playBoth_60 (lv_at hl 5 rfl) ?_
    refine lv_aload_n hx hb dX5_playBoth_62 rfl (lv_at hl 0 rfl) ?_
    refine g_get B h 44 (by decide) (C := RX5) (T := TX5) (N := 21) (M_row _) rfl hin_X5 13 (by decide) hw839 rfl rfl dX5_playBoth_63 ?_
    refine lv_iload_n hx hb dX5_playBoth_66 rfl (lv_at hl 1 rfl) ?_
    obtain ⟨c19, hf⟩ := chk_some hf
    refine g_iald B h 58 (by decide) (n := 3) (fun _ => rfl) (inb_in c19) dX5_playBoth_67 ?_
    refine lv_icmp_lt (tgt := 82) hx hb dX5_playBoth_68 (by decide) (fun c20 => ?_) (fun c20 => ?_)
    · rw [if_pos c20] at hf
      refine lv_iload_n hx hb dX5_playBoth_82 rfl (lv_at hl 3 rfl) ?_
      refine lv_iload hx hb dX5_playBoth_83 (lv_at hl 7 rfl) ?_
      refine lv_bipush (v := (32 : Int32)) hx hb dX5_playBoth_85 (by decide) ?_
      refine lv_irem hx hb dX5_playBoth_87 (by decide) ?_
      refine lv_iushr (v := ((v3.toUInt32 >>> ((v7 - v7 / (32 : Int32) * (32 : Int32)).toUInt32 &&& Int32.toUInt32 31)).toInt32)) hx hb dX5_playBoth_88 rfl ?_
      refine lv_iconst (v := (1 : Int32)) hx hb dX5_playBoth_89 (by decide) ?_
      refine lv_iand hx hb dX5_playBoth_90 ?_
      refine lv_iconst (v := (1 : Int32)) hx hb dX5_playBoth_91 (by decide) ?_
      refine lv_icmp_ne (tgt := 99) hx hb dX5_playBoth_92 (by decide) (fun c21 => ?_) (fun c21 => ?_)
      · rw [if_neg c21] at hf
        refine lv_iconst (v := (0 : Int32)) hx hb dX5_playBoth_99 (by decide) ?_
        exact k_X5_playBoth_100 B hr ih _ _ _ _ _ _ _ _ _ hf _ _ _ h (lv_sub hl [0, 1, 2, 3, 4, 5, 6, 7] rfl)
      · rw [if_pos c21] at hf
        refine lv_iconst (v := (1 : Int32)) hx hb dX5_playBoth_95 (by decide) ?_
        refine lv_goto (tgt := 100) hx hb dX5_playBoth_96 (by decide) ?_
        exact k_X5_playBoth_100 B hr ih _ _ _ _ _ _ _ _ _ hf _ _ _ h (lv_sub hl [0, 1, 2, 3, 4, 5, 6, 7] rfl)
    · rw [if_neg c20] at hf
      refine lv_iload hx hb dX5_playBoth_71 (lv_at hl 6 rfl) ?_
      refine lv_aload_n hx hb dX5_playBoth_73 rfl (lv_at hl 0 rfl) ?_
      refine g_get B h 44 (by decide) (C := RX5) (T := TX5) (N := 21) (M_row _) rfl hin_X5 13 (by decide) hw839 rfl rfl dX5_playBoth_74 ?_
      refine lv_iload_n hx hb dX5_playBoth_77 rfl (lv_at hl 2 rfl) ?_
      obtain ⟨c22, hf⟩ := chk_some hf
      refine g_iald B h 58 (by decide) (n := 3) (fun _ => rfl) (inb_in c22) dX5_playBoth_78 ?_
      refine lv_icmp_ge (tgt := 202) hx hb dX5_playBoth_79 (by decide) (fun c23 => ?_) (fun c23 => ?_)
      · rw [if_pos c23] at hf
        refine lv_aload_n hx hb dX5_playBoth_202 rfl (lv_at hl 0 rfl) ?_
        refine g_get B h 44 (by decide) (C := RX5) (T := TX5) (N := 21) (M_row _) rfl hin_X5 2 (by decide) hw828 rfl rfl dX5_playBoth_203 ?_
        refine lv_iload hx hb dX5_playBoth_206 (lv_at hl 4 rfl) ?_
        obtain ⟨c24, hf⟩ := chk_some hf
        refine g_iald B h 47 (by decide) (n := 3) (fun _ => rfl) (inb_in c24) dX5_playBoth_208 ?_
        obtain ⟨rfl, rfl⟩ := Prod.mk.inj (Option.some.inj hf)
        exact sE_i B hr h dX5_playBoth_209
      · rw [if_neg c23] at hf
        refine lv_iload_n hx hb dX5_playBoth_82 rfl (lv_at hl 3 rfl) ?_
        refine lv_iload hx hb dX5_playBoth_83 (lv_at hl 7 rfl) ?_
        refine lv_bipush (v := (32 : Int32)) hx hb dX5_playBoth_85 (by decide) ?_
        refine lv_irem hx hb dX5_playBoth_87 (by decide) ?_
        refine lv_iushr (v := ((v3.toUInt32 >>> ((v7 - v7 / (32 : Int32) * (32 : Int32)).toUInt32 &&& Int32.toUInt32 31)).toInt32)) hx hb dX5_playBoth_88 rfl ?_
        refine lv_iconst (v := (1 : Int32)) hx hb dX5_playBoth_89 (by decide) ?_
        refine lv_iand hx hb dX5_playBoth_90 ?_
        refine lv_iconst (v := (1 : Int32)) hx hb dX5_playBoth_91 (by decide) ?_
        refine lv_icmp_ne (tgt := 99) hx hb dX5_playBoth_92 (by decide) (fun c25 => ?_) (fun c25 => ?_)
        · rw [if_neg c25] at hf
          refine lv_iconst (v := (0 : Int32)) hx hb dX5_playBoth_99 (by decide) ?_
          exact k_X5_playBoth_100 B hr ih _ _ _ _ _ _ _ _ _ hf _ _ _ h (lv_sub hl [0, 1, 2, 3, 4, 5, 6, 7] rfl)
        · rw [if_pos c25] at hf
          refine lv_iconst (v := (1 : Int32)) hx hb dX5_playBoth_95 (by decide) ?_
          refine lv_goto (tgt := 100) hx hb dX5_playBoth_96 (by decide) ?_
          exact k_X5_playBoth_100 B hr ih _ _ _ _ _ _ _ _ _ hf _ _ _ h (lv_sub hl [0, 1, 2, 3, 4, 5, 6, 7] rfl)
set_option maxHeartbeats 4000000 in
set_option maxRecDepth 100000 in
theorem k_X5_playBoth_0 {p : Program} {l : Launch} {e : Env} {s : State} {m : MethodId} {args : Array Value} {below : List Frame} {meth : Method} {c : Code} {D : va_G} {cy : Nat → ClassId} {ad : Nat → Nat} {X : sX} {r : Int32} {σ' : sM} (B : sB p l s m meth c args cX5_playBoth 10 RX5 D cy ad) (hr : meth.sig.returnType = (some .int)) (v1 : Int32) (v2 : Int32) (v3 : Int32) (v4 : Int32) (σ : sM) (hf : f_X5_playBoth v1 v2 v3 v4 σ = some (r, σ')) : sGo p l e { frames := 4, cells := 0, slots := 0, locals := 95 } s m args below meth c D cy ad X 10 (sQ below args s 0 0 D cy ad (.inr (some (.int r))) X σ') σ 0 [(0, .ref (ad 44)), (1, .int v1), (2, .int v2), (3, .int v3), (4, .int v4)] [] := by
  replace hf : (rthn (f_X5_isHistory v1 σ) (fun vr1 => if vr1 = 0 then (wthn (f_X5_refused (1 : Int32) σ) (fun vr3 σ3 => if vr3 = 0 then (b_X5_playBoth_60 FU v1 v2 v3 v4 (0 : Int32) (0 : Int32) (0 : Int32) σ3) else (some ((0 : Int32), σ3)))) else (rthn (f_X5_isHistory v2 σ) (fun vr5 => if vr5 = 0 then (wthn (f_X5_refused (1 : Int32) σ) (fun vr7 σ7 => if vr7 = 0 then (b_X5_playBoth_60 FU v1 v2 v3 v4 (0 : Int32) (0 : Int32) (0 : Int32) σ7) else (some ((0 : Int32), σ7)))) else (rthn (f_X5_isMap v4 σ) (fun vr9 => if vr9 = 0 then (wthn (f_X5_refused (1 : Int32) σ) (fun vr17 σ17 => if vr17 = 0 then (b_X5_playBoth_60 FU v1 v2 v3 v4 (0 : Int32) (0 : Int32) (0 : Int32) σ17) else (some ((0 : Int32), σ17)))) else (wthn (f_X5_isTooMuch v1 v2 v4 σ) (fun vr11 σ11 => if vr11 = 0 then (wthn (f_X5_refused (0 : Int32) σ11) (fun vr13 σ13 => if vr13 = 0 then (b_X5_playBoth_60 FU v1 v2 v3 v4 (0 : Int32) (0 : Int32) (0 : Int32) σ13) else (some ((0 : Int32), σ13)))) else (wthn (f_X5_refused (2 : Int32) σ11) (fun vr15 σ15 => if vr15 = 0 then (b_X5_playBoth_60 FU v1 v2 v3 v4 (0 : Int32) (0 : Int32) (0 : Int32) σ15) else (some ((0 : Int32), σ15)))))))))))) = some (r, σ') := hf
  intro H locs ls h hl
  have hx := B.1
  have hb := B.2.1
  refine lv_aload_n hx hb dX5_playBoth_0 rfl (lv_at hl 0 rfl) ?_
  refine lv_iload_n hx hb dX5_playBoth_1 rfl (lv_at hl 1 rfl) ?_
  obtain ⟨vr1, hq1, hf⟩ := rthn_some hf
  refine sRetC1 (g_runS B h (ok_X5_isHistory B.2.2.2.2.2.2.2.2 B.2.2.2.2.2.2.1 _ _ v1 hq1) cw_X5_136 ⟨Nat.le_of_ble_eq_true rfl, Nat.le_of_ble_eq_true rfl⟩ rfl hl.1.symm rfl (Nat.le_of_ble_eq_true rfl) dX5_playBoth_2 ⟨Nat.zero_le _, Nat.zero_le _⟩) h (fun H locs h => ?_)
  refine lv_if_eq (tgt := 23) hx hb dX5_playBoth_5 (by decide) (fun c2 => ?_) (fun c2 => ?_)
  · rw [if_pos c2] at hf
    refine lv_iconst (v := (1 : Int32)) hx hb dX5_playBoth_23 (by decide) ?_
    refine lv_goto (tgt := 43) hx hb dX5_playBoth_24 (by decide) ?_
    obtain ⟨vr3, σ3, hq3, hf⟩ := wthn_some hf
    refine sRetC1 (g_runV (k := 44) (T := TX5) (N := 21) B h (ok_X5_refused B.2.2.2.2.2.2.2.2 B.2.2.2.2.2.2.1 _ _ (1 : Int32) hq3) cw_X5_95 ⟨Nat.le_of_ble_eq_true rfl, Nat.le_of_ble_eq_true rfl⟩ (by decide) (M_row _) rfl rfl hl.1.symm rfl (Nat.le_of_ble_eq_true rfl) dX5_playBoth_43 ⟨Nat.zero_le _, Nat.zero_le _⟩) h (fun H locs h => ?_)
    refine lv_if_eq (tgt := 51) hx hb dX5_playBoth_46 (by decide) (fun c4 => ?_) (fun c4 => ?_)
    · rw [if_pos c4] at hf
      refine lv_iconst (v := (0 : Int32)) hx hb dX5_playBoth_51 (by decide) ?_
      refine lv_istore (lv' := [(5, .int (0 : Int32)), (0, .ref (ad 44)), (1, .int v1), (2, .int v2), (3, .int v3), (4, .int v4)]) hx hb dX5_playBoth_52 hl (by decide) rfl (fun ls hl => ?_)
      refine lv_iconst (v := (0 : Int32)) hx hb dX5_playBoth_54 (by decide) ?_
      refine lv_istore (lv' := [(6, .int (0 : Int32)), (5, .int (0 : Int32)), (0, .ref (ad 44)), (1, .int v1), (2, .int v2), (3, .int v3), (4, .int v4)]) hx hb dX5_playBoth_55 hl (by decide) rfl (fun ls hl => ?_)
      refine lv_iconst (v := (0 : Int32)) hx hb dX5_playBoth_57 (by decide) ?_
      refine lv_istore (lv' := [(7, .int (0 : Int32)), (6, .int (0 : Int32)), (5, .int (0 : Int32)), (0, .ref (ad 44)), (1, .int v1), (2, .int v2), (3, .int v3), (4, .int v4)]) hx hb dX5_playBoth_58 hl (by decide) rfl (fun ls hl => ?_)
      exact k_X5_playBoth_60 B hr  _ _ _ _ _ _ _ _ _ hf _ _ _ h (lv_sub hl [3, 4, 5, 6, 7, 2, 1, 0] rfl)
    · rw [if_neg c4] at hf
      refine lv_iconst (v := (0 : Int32)) hx hb dX5_playBoth_49 (by decide) ?_
      obtain ⟨rfl, rfl⟩ := Prod.mk.inj (Option.some.inj hf)
      exact sE_i B hr h dX5_playBoth_50
  · rw [if_neg c2] at hf
    refine lv_iload_n hx hb dX5_playBoth_8 rfl (lv_at hl 2 rfl) ?_
    obtain ⟨vr5, hq5, hf⟩ := rthn_some hf
    refine sRetC1 (g_runS B h (ok_X5_isHistory B.2.2.2.2.2.2.2.2 B.2.2.2.2.2.2.1 _ _ v2 hq5) cw_X5_136 ⟨Nat.le_of_ble_eq_true rfl, Nat.le_of_ble_eq_true rfl⟩ rfl hl.1.symm rfl (Nat.le_of_ble_eq_true rfl) dX5_playBoth_9 ⟨Nat.zero_le _, Nat.zero_le _⟩) h (fun H locs h => ?_)
    refine lv_if_eq (tgt := 23) hx hb dX5_playBoth_12 (by decide) (fun c6 => ?_) (fun c6 => ?_)
    · rw [if_pos c6] at hf
      refine lv_iconst (v := (1 : Int32)) hx hb dX5_playBoth_23 (by decide) ?_
      refine lv_goto (tgt := 43) hx hb dX5_playBoth_24 (by decide) ?_
      obtain ⟨vr7, σ7, hq7, hf⟩ := wthn_some hf
      refine sRetC1 (g_runV (k := 44) (T := TX5) (N := 21) B h (ok_X5_refused B.2.2.2.2.2.2.2.2 B.2.2.2.2.2.2.1 _ _ (1 : Int32) hq7) cw_X5_95 ⟨Nat.le_of_ble_eq_true rfl, Nat.le_of_ble_eq_true rfl⟩ (by decide) (M_row _) rfl rfl hl.1.symm rfl (Nat.le_of_ble_eq_true rfl) dX5_playBoth_43 ⟨Nat.zero_le _, Nat.zero_le _⟩) h (fun H locs h => ?_)
      refine lv_if_eq (tgt := 51) hx hb dX5_playBoth_46 (by decide) (fun c8 => ?_) (fun c8 => ?_)
      · rw [if_pos c8] at hf
        refine lv_iconst (v := (0 : Int32)) hx hb dX5_playBoth_51 (by decide) ?_
        refine lv_istore (lv' := [(5, .int (0 : Int32)), (0, .ref (ad 44)), (1, .int v1), (2, .int v2), (3, .int v3), (4, .int v4)]) hx hb dX5_playBoth_52 hl (by decide) rfl (fun ls hl => ?_)
        refine lv_iconst (v := (0 : Int32)) hx hb dX5_playBoth_54 (by decide) ?_
        refine lv_istore (lv' := [(6, .int (0 : Int32)), (5, .int (0 : Int32)), (0, .ref (ad 44)), (1, .int v1), (2, .int v2), (3, .int v3), (4, .int v4)]) hx hb dX5_playBoth_55 hl (by decide) rfl (fun ls hl => ?_)
        refine lv_iconst (v := (0 : Int32)) hx hb dX5_playBoth_57 (by decide) ?_
        refine lv_istore (lv' := [(7, .int (0 : Int32)), (6, .int (0 : Int32)), (5, .int (0 : Int32)), (0, .ref (ad 44)), (1, .int v1), (2, .int v2), (3, .int v3), (4, .int v4)]) hx hb dX5_playBoth_58 hl (by decide) rfl (fun ls hl => ?_)
        exact k_X5_playBoth_60 B hr  _ _ _ _ _ _ _ _ _ hf _ _ _ h (lv_sub hl [3, 4, 5, 6, 7, 2, 1, 0] rfl)
      · rw [if_neg c8] at hf
        refine lv_iconst (v := (0 : Int32)) hx hb dX5_playBoth_49 (by decide) ?_
        obtain ⟨rfl, rfl⟩ := Prod.mk.inj (Option.some.inj hf)
        exact sE_i B hr h dX5_playBoth_50
    · rw [if_neg c6] at hf
      refine lv_iload hx hb dX5_playBoth_15 (lv_at hl 4 rfl) ?_
      obtain ⟨vr9, hq9, hf⟩ := rthn_some hf
      refine sRetC1 (g_runS B h (ok_X5_isMap B.2.2.2.2.2.2.2.2 B.2.2.2.2.2.2.1 _ _ v4 hq9) cw_X5_87 ⟨Nat.le_of_ble_eq_true rfl, Nat.le_of_ble_eq_true rfl⟩ rfl hl.1.symm rfl (Nat.le_of_ble_eq_true rfl) dX5_playBoth_17 ⟨Nat.zero_le _, Nat.zero_le _⟩) h (fun H locs h => ?_)
      refine lv_if_ne (tgt := 27) hx hb dX5_playBoth_20 (by decide) (fun c10 => ?_) (fun c10 => ?_)
      · rw [if_neg c10] at hf
        refine lv_aload_n hx hb dX5_playBoth_27 rfl (lv_at hl 0 rfl) ?_
        refine lv_iload_n hx hb dX5_playBoth_28 rfl (lv_at hl 1 rfl) ?_
        refine lv_iload_n hx hb dX5_playBoth_29 rfl (lv_at hl 2 rfl) ?_
        refine lv_iload hx hb dX5_playBoth_30 (lv_at hl 4 rfl) ?_
        obtain ⟨vr11, σ11, hq11, hf⟩ := wthn_some hf
        refine sRetC1 (g_runV (k := 44) (T := TX5) (N := 21) B h (ok_X5_isTooMuch B.2.2.2.2.2.2.2.2 B.2.2.2.2.2.2.1 _ _ v1 v2 v4 hq11) cw_X5_149 ⟨Nat.le_of_ble_eq_true rfl, Nat.le_of_ble_eq_true rfl⟩ (by decide) (M_row _) rfl rfl hl.1.symm rfl (Nat.le_of_ble_eq_true rfl) dX5_playBoth_32 ⟨Nat.zero_le _, Nat.zero_le _⟩) h (fun H locs h => ?_)
        refine lv_if_eq (tgt := 42) hx hb dX5_playBoth_35 (by decide) (fun c12 => ?_) (fun c12 => ?_)
        · rw [if_pos c12] at hf
          refine lv_iconst (v := (0 : Int32)) hx hb dX5_playBoth_42 (by decide) ?_
          obtain ⟨vr13, σ13, hq13, hf⟩ := wthn_some hf
          refine sRetC1 (g_runV (k := 44) (T := TX5) (N := 21) B h (ok_X5_refused B.2.2.2.2.2.2.2.2 B.2.2.2.2.2.2.1 _ _ (0 : Int32) hq13) cw_X5_95 ⟨Nat.le_of_ble_eq_true rfl, Nat.le_of_ble_eq_true rfl⟩ (by decide) (M_row _) rfl rfl hl.1.symm rfl (Nat.le_of_ble_eq_true rfl) dX5_playBoth_43 ⟨Nat.zero_le _, Nat.zero_le _⟩) h (fun H locs h => ?_)
          refine lv_if_eq (tgt := 51) hx hb dX5_playBoth_46 (by decide) (fun c14 => ?_) (fun c14 => ?_)
          · rw [if_pos c14] at hf
            refine lv_iconst (v := (0 : Int32)) hx hb dX5_playBoth_51 (by decide) ?_
            refine lv_istore (lv' := [(5, .int (0 : Int32)), (0, .ref (ad 44)), (1, .int v1), (2, .int v2), (3, .int v3), (4, .int v4)]) hx hb dX5_playBoth_52 hl (by decide) rfl (fun ls hl => ?_)
            refine lv_iconst (v := (0 : Int32)) hx hb dX5_playBoth_54 (by decide) ?_
            refine lv_istore (lv' := [(6, .int (0 : Int32)), (5, .int (0 : Int32)), (0, .ref (ad 44)), (1, .int v1), (2, .int v2), (3, .int v3), (4, .int v4)]) hx hb dX5_playBoth_55 hl (by decide) rfl (fun ls hl => ?_)
            refine lv_iconst (v := (0 : Int32)) hx hb dX5_playBoth_57 (by decide) ?_
            refine lv_istore (lv' := [(7, .int (0 : Int32)), (6, .int (0 : Int32)), (5, .int (0 : Int32)), (0, .ref (ad 44)), (1, .int v1), (2, .int v2), (3, .int v3), (4, .int v4)]) hx hb dX5_playBoth_58 hl (by decide) rfl (fun ls hl => ?_)
            exact k_X5_playBoth_60 B hr  _ _ _ _ _ _ _ _ _ hf _ _ _ h (lv_sub hl [3, 4, 5, 6, 7, 2, 1, 0] rfl)
          · rw [if_neg c14] at hf
            refine lv_iconst (v := (0 : Int32)) hx hb dX5_playBoth_49 (by decide) ?_
            obtain ⟨rfl, rfl⟩ := Prod.mk.inj (Option.some.inj hf)
            exact sE_i B hr h dX5_playBoth_50
        · rw [if_neg c12] at hf
          refine lv_iconst (v := (2 : Int32)) hx hb dX5_playBoth_38 (by decide) ?_
          refine lv_goto (tgt := 43) hx hb dX5_playBoth_39 (by decide) ?_
          obtain ⟨vr15, σ15, hq15, hf⟩ := wthn_some hf
          refine sRetC1 (g_runV (k := 44) (T := TX5) (N := 21) B h (ok_X5_refused B.2.2.2.2.2.2.2.2 B.2.2.2.2.2.2.1 _ _ (2 : Int32) hq15) cw_X5_95 ⟨Nat.le_of_ble_eq_true rfl, Nat.le_of_ble_eq_true rfl⟩ (by decide) (M_row _) rfl rfl hl.1.symm rfl (Nat.le_of_ble_eq_true rfl) dX5_playBoth_43 ⟨Nat.zero_le _, Nat.zero_le _⟩) h (fun H locs h => ?_)
          refine lv_if_eq (tgt := 51) hx hb dX5_playBoth_46 (by decide) (fun c16 => ?_) (fun c16 => ?_)
          · rw [if_pos c16] at hf
            refine lv_iconst (v := (0 : Int32)) hx hb dX5_playBoth_51 (by decide) ?_
            refine lv_istore (lv' := [(5, .int (0 : Int32)), (0, .ref (ad 44)), (1, .int v1), (2, .int v2), (3, .int v3), (4, .int v4)]) hx hb dX5_playBoth_52 hl (by decide) rfl (fun ls hl => ?_)
            refine lv_iconst (v := (0 : Int32)) hx hb dX5_playBoth_54 (by decide) ?_
            refine lv_istore (lv' := [(6, .int (0 : Int32)), (5, .int (0 : Int32)), (0, .ref (ad 44)), (1, .int v1), (2, .int v2), (3, .int v3), (4, .int v4)]) hx hb dX5_playBoth_55 hl (by decide) rfl (fun ls hl => ?_)
            refine lv_iconst (v := (0 : Int32)) hx hb dX5_playBoth_57 (by decide) ?_
            refine lv_istore (lv' := [(7, .int (0 : Int32)), (6, .int (0 : Int32)), (5, .int (0 : Int32)), (0, .ref (ad 44)), (1, .int v1), (2, .int v2), (3, .int v3), (4, .int v4)]) hx hb dX5_playBoth_58 hl (by decide) rfl (fun ls hl => ?_)
            exact k_X5_playBoth_60 B hr  _ _ _ _ _ _ _ _ _ hf _ _ _ h (lv_sub hl [3, 4, 5, 6, 7, 2, 1, 0] rfl)
          · rw [if_neg c16] at hf
            refine lv_iconst (v := (0 : Int32)) hx hb dX5_playBoth_49 (by decide) ?_
            obtain ⟨rfl, rfl⟩ := Prod.mk.inj (Option.some.inj hf)
            exact sE_i B hr h dX5_playBoth_50
      · rw [if_pos c10] at hf
        refine lv_iconst (v := (1 : Int32)) hx hb dX5_playBoth_23 (by decide) ?_
        refine lv_goto (tgt := 43) hx hb dX5_playBoth_24 (by decide) ?_
        obtain ⟨vr17, σ17, hq17, hf⟩ := wthn_some hf
        refine sRetC1 (g_runV (k := 44) (T := TX5) (N := 21) B h (ok_X5_refused B.2.2.2.2.2.2.2.2 B.2.2.2.2.2.2.1 _ _ (1 : Int32) hq17) cw_X5_95 ⟨Nat.le_of_ble_eq_true rfl, Nat.le_of_ble_eq_true rfl⟩ (by decide) (M_row _) rfl rfl hl.1.symm rfl (Nat.le_of_ble_eq_true rfl) dX5_playBoth_43 ⟨Nat.zero_le _, Nat.zero_le _⟩) h (fun H locs h => ?_)
        refine lv_if_eq (tgt := 51) hx hb dX5_playBoth_46 (by decide) (fun c18 => ?_) (fun c18 => ?_)
        · rw [if_pos c18] at hf
          refine lv_iconst (v := (0 : Int32)) hx hb dX5_playBoth_51 (by decide) ?_
          refine lv_istore (lv' := [(5, .int (0 : Int32)), (0, .ref (ad 44)), (1, .int v1), (2, .int v2), (3, .int v3), (4, .int v4)]) hx hb dX5_playBoth_52 hl (by decide) rfl (fun ls hl => ?_)
          refine lv_iconst (v := (0 : Int32)) hx hb dX5_playBoth_54 (by decide) ?_
          refine lv_istore (lv' := [(6, .int (0 : Int32)), (5, .int (0 : Int32)), (0, .ref (ad 44)), (1, .int v1), (2, .int v2), (3, .int v3), (4, .int v4)]) hx hb dX5_playBoth_55 hl (by decide) rfl (fun ls hl => ?_)
          refine lv_iconst (v := (0 : Int32)) hx hb dX5_playBoth_57 (by decide) ?_
          refine lv_istore (lv' := [(7, .int (0 : Int32)), (6, .int (0 : Int32)), (5, .int (0 : Int32)), (0, .ref (ad 44)), (1, .int v1), (2, .int v2), (3, .int v3), (4, .int v4)]) hx hb dX5_playBoth_58 hl (by decide) rfl (fun ls hl => ?_)
          exact k_X5_playBoth_60 B hr  _ _ _ _ _ _ _ _ _ hf _ _ _ h (lv_sub hl [3, 4, 5, 6, 7, 2, 1, 0] rfl)
        · rw [if_neg c18] at hf
          refine lv_iconst (v := (0 : Int32)) hx hb dX5_playBoth_49 (by decide) ?_
          obtain ⟨rfl, rfl⟩ := Prod.mk.inj (Option.some.inj hf)
          exact sE_i B hr h dX5_playBoth_50
set_option maxRecDepth 100000 in
theorem ok_X5_playBoth {l : Launch} (hl0 : l.stackTraces = false) {D : va_G} {cy : Nat → ClassId} {ad : Nat → Nat} (hap : sAp ad) (X : sX) (σ : sM) (v1 : Int32) (v2 : Int32) (v3 : Int32) (v4 : Int32) {r : Int32} {σ' : sM} (hf : f_X5_playBoth v1 v2 v3 v4 σ = some (r, σ')) : sMet l yX5_playBoth (sWs yX5_playBoth cX5_playBoth 10 (some .int)) 4 95 0 0 D cy ad X σ [.ref (ad 44), .int v1, .int v2, .int v3, .int v4] (.inr (some (.int r))) X σ' := by
  refine sMet_of (by decide +kernel) (Nat.le_of_ble_eq_true rfl) hap hl0 ?_
  intro p e s m args below meth c ls B hr htab hl h
  exact k_X5_playBoth_0 B hr _ _ _ _ _  hf _ _ _ h hl
set_option maxHeartbeats 4000000 in
set_option maxRecDepth 100000 in
theorem k_X5_poll_26 {p : Program} {l : Launch} {e : Env} {s : State} {m : MethodId} {args : Array Value} {below : List Frame} {meth : Method} {c : Code} {D : va_G} {cy : Nat → ClassId} {ad : Nat → Nat} {X : sX} {r : Int32} {σ' : sM} (B : sB p l s m meth c args cX5_poll 3 RX5 D cy ad) (hr : meth.sig.returnType = (some .int)) (v1 : Int32) (v2 : Int32) (vs1 : Int32) (σ : sM) (hf : b_X5_poll_26 v1 v2 vs1 σ = some (r, σ')) : sGo p l e { frames := 2, cells := 0, slots := 0, locals := 46 } s m args below meth c D cy ad X 3 (sQ below args s 0 0 D cy ad (.inr (some (.int r))) X σ') σ 26 [(0, .ref (ad 44)), (1, .int v1), (2, .int v2)] [.int vs1, .ref (ad 44)] := by
  replace hf : (wthn (f_X5_refused vs1 σ) (fun vr5 σ5 => if vr5 = 0 then (if v2 = 0 then (wthn (f_X5_pollsAt v1 (0 : Int32) σ5) (fun vr8 σ8 => some (vr8, σ8))) else (chk (inb v1 3) (wthn (f_X5_pollsAt v1 ((σ5 47 (v1).toNatClampNeg) - (1 : Int32)) σ5) (fun vr10 σ10 => some (vr10, σ10))))) else (some ((0 : Int32), σ5)))) = some (r, σ') := hf
  intro H locs ls h hl
  have hx := B.1
  have hb := B.2.1
  obtain ⟨vr5, σ5, hq5, hf⟩ := wthn_some hf
  refine sRetC1 (g_runV (k := 44) (T := TX5) (N := 21) B h (ok_X5_refused B.2.2.2.2.2.2.2.2 B.2.2.2.2.2.2.1 _ _ vs1 hq5) cw_X5_95 ⟨Nat.le_of_ble_eq_true rfl, Nat.le_of_ble_eq_true rfl⟩ (by decide) (M_row _) rfl rfl hl.1.symm rfl (Nat.le_of_ble_eq_true rfl) dX5_poll_26 ⟨Nat.zero_le _, Nat.zero_le _⟩) h (fun H locs h => ?_)
  refine lv_if_eq (tgt := 34) hx hb dX5_poll_29 (by decide) (fun c6 => ?_) (fun c6 => ?_)
  · rw [if_pos c6] at hf
    refine lv_aload_n hx hb dX5_poll_34 rfl (lv_at hl 0 rfl) ?_
    refine lv_iload_n hx hb dX5_poll_35 rfl (lv_at hl 1 rfl) ?_
    refine lv_iload_n hx hb dX5_poll_36 rfl (lv_at hl 2 rfl) ?_
    refine lv_if_eq (tgt := 51) hx hb dX5_poll_37 (by decide) (fun c7 => ?_) (fun c7 => ?_)
    · rw [if_pos c7] at hf
      refine lv_iconst (v := (0 : Int32)) hx hb dX5_poll_51 (by decide) ?_
      obtain ⟨vr8, σ8, hq8, hf⟩ := wthn_some hf
      refine sRetC1 (g_runV (k := 44) (T := TX5) (N := 21) B h (ok_X5_pollsAt B.2.2.2.2.2.2.2.2 B.2.2.2.2.2.2.1 _ _ v1 (0 : Int32) hq8) cw_X5_110 ⟨Nat.le_of_ble_eq_true rfl, Nat.le_of_ble_eq_true rfl⟩ (by decide) (M_row _) rfl rfl hl.1.symm rfl (Nat.le_of_ble_eq_true rfl) dX5_poll_52 ⟨Nat.zero_le _, Nat.zero_le _⟩) h (fun H locs h => ?_)
      obtain ⟨rfl, rfl⟩ := Prod.mk.inj (Option.some.inj hf)
      exact sE_i B hr h dX5_poll_55
    · rw [if_neg c7] at hf
      refine lv_aload_n hx hb dX5_poll_40 rfl (lv_at hl 0 rfl) ?_
      refine g_get B h 44 (by decide) (C := RX5) (T := TX5) (N := 21) (M_row _) rfl hin_X5 2 (by decide) hw828 rfl rfl dX5_poll_41 ?_
      refine lv_iload_n hx hb dX5_poll_44 rfl (lv_at hl 1 rfl) ?_
      obtain ⟨c9, hf⟩ := chk_some hf
      refine g_iald B h 47 (by decide) (n := 3) (fun _ => rfl) (inb_in c9) dX5_poll_45 ?_
      refine lv_iconst (v := (1 : Int32)) hx hb dX5_poll_46 (by decide) ?_
      refine lv_isub hx hb dX5_poll_47 ?_
      refine lv_goto (tgt := 52) hx hb dX5_poll_48 (by decide) ?_
      obtain ⟨vr10, σ10, hq10, hf⟩ := wthn_some hf
      refine sRetC1 (g_runV (k := 44) (T := TX5) (N := 21) B h (ok_X5_pollsAt B.2.2.2.2.2.2.2.2 B.2.2.2.2.2.2.1 _ _ v1 ((σ5 47 (v1).toNatClampNeg) - (1 : Int32)) hq10) cw_X5_110 ⟨Nat.le_of_ble_eq_true rfl, Nat.le_of_ble_eq_true rfl⟩ (by decide) (M_row _) rfl rfl hl.1.symm rfl (Nat.le_of_ble_eq_true rfl) dX5_poll_52 ⟨Nat.zero_le _, Nat.zero_le _⟩) h (fun H locs h => ?_)
      obtain ⟨rfl, rfl⟩ := Prod.mk.inj (Option.some.inj hf)
      exact sE_i B hr h dX5_poll_55
  · rw [if_neg c6] at hf
    refine lv_iconst (v := (0 : Int32)) hx hb dX5_poll_32 (by decide) ?_
    obtain ⟨rfl, rfl⟩ := Prod.mk.inj (Option.some.inj hf)
    exact sE_i B hr h dX5_poll_33
set_option maxHeartbeats 4000000 in
set_option maxRecDepth 100000 in
theorem k_X5_poll_0 {p : Program} {l : Launch} {e : Env} {s : State} {m : MethodId} {args : Array Value} {below : List Frame} {meth : Method} {c : Code} {D : va_G} {cy : Nat → ClassId} {ad : Nat → Nat} {X : sX} {r : Int32} {σ' : sM} (B : sB p l s m meth c args cX5_poll 3 RX5 D cy ad) (hr : meth.sig.returnType = (some .int)) (v1 : Int32) (v2 : Int32) (σ : sM) (hf : f_X5_poll v1 v2 σ = some (r, σ')) : sGo p l e { frames := 2, cells := 0, slots := 0, locals := 46 } s m args below meth c D cy ad X 3 (sQ below args s 0 0 D cy ad (.inr (some (.int r))) X σ') σ 0 [(0, .ref (ad 44)), (1, .int v1), (2, .int v2)] [] := by
  replace hf : (rthn (f_X5_isMap v1 σ) (fun vr1 => if vr1 = 0 then (b_X5_poll_26 v1 v2 (1 : Int32) σ) else (chk (inb v1 3) (if (σ 47 (v1).toNatClampNeg) = 0 then (b_X5_poll_26 v1 v2 (2 : Int32) σ) else (b_X5_poll_26 v1 v2 (0 : Int32) σ))))) = some (r, σ') := hf
  intro H locs ls h hl
  have hx := B.1
  have hb := B.2.1
  refine lv_aload_n hx hb dX5_poll_0 rfl (lv_at hl 0 rfl) ?_
  refine lv_iload_n hx hb dX5_poll_1 rfl (lv_at hl 1 rfl) ?_
  obtain ⟨vr1, hq1, hf⟩ := rthn_some hf
  refine sRetC1 (g_runS B h (ok_X5_isMap B.2.2.2.2.2.2.2.2 B.2.2.2.2.2.2.1 _ _ v1 hq1) cw_X5_87 ⟨Nat.le_of_ble_eq_true rfl, Nat.le_of_ble_eq_true rfl⟩ rfl hl.1.symm rfl (Nat.le_of_ble_eq_true rfl) dX5_poll_2 ⟨Nat.zero_le _, Nat.zero_le _⟩) h (fun H locs h => ?_)
  refine lv_if_ne (tgt := 12) hx hb dX5_poll_5 (by decide) (fun c2 => ?_) (fun c2 => ?_)
  · rw [if_neg c2] at hf
    refine lv_aload_n hx hb dX5_poll_12 rfl (lv_at hl 0 rfl) ?_
    refine g_get B h 44 (by decide) (C := RX5) (T := TX5) (N := 21) (M_row _) rfl hin_X5 2 (by decide) hw828 rfl rfl dX5_poll_13 ?_
    refine lv_iload_n hx hb dX5_poll_16 rfl (lv_at hl 1 rfl) ?_
    obtain ⟨c3, hf⟩ := chk_some hf
    refine g_iald B h 47 (by decide) (n := 3) (fun _ => rfl) (inb_in c3) dX5_poll_17 ?_
    refine lv_if_ne (tgt := 25) hx hb dX5_poll_18 (by decide) (fun c4 => ?_) (fun c4 => ?_)
    · rw [if_neg c4] at hf
      refine lv_iconst (v := (0 : Int32)) hx hb dX5_poll_25 (by decide) ?_
      exact k_X5_poll_26 B hr  _ _ _ _ hf _ _ _ h (lv_sub hl [0, 1, 2] rfl)
    · rw [if_pos c4] at hf
      refine lv_iconst (v := (2 : Int32)) hx hb dX5_poll_21 (by decide) ?_
      refine lv_goto (tgt := 26) hx hb dX5_poll_22 (by decide) ?_
      exact k_X5_poll_26 B hr  _ _ _ _ hf _ _ _ h (lv_sub hl [0, 1, 2] rfl)
  · rw [if_pos c2] at hf
    refine lv_iconst (v := (1 : Int32)) hx hb dX5_poll_8 (by decide) ?_
    refine lv_goto (tgt := 26) hx hb dX5_poll_9 (by decide) ?_
    exact k_X5_poll_26 B hr  _ _ _ _ hf _ _ _ h (lv_sub hl [0, 1, 2] rfl)
set_option maxRecDepth 100000 in
theorem ok_X5_poll {l : Launch} (hl0 : l.stackTraces = false) {D : va_G} {cy : Nat → ClassId} {ad : Nat → Nat} (hap : sAp ad) (X : sX) (σ : sM) (v1 : Int32) (v2 : Int32) {r : Int32} {σ' : sM} (hf : f_X5_poll v1 v2 σ = some (r, σ')) : sMet l yX5_poll (sWs yX5_poll cX5_poll 3 (some .int)) 2 46 0 0 D cy ad X σ [.ref (ad 44), .int v1, .int v2] (.inr (some (.int r))) X σ' := by
  refine sMet_of (by decide +kernel) (Nat.le_of_ble_eq_true rfl) hap hl0 ?_
  intro p e s m args below meth c ls B hr htab hl h
  exact k_X5_poll_0 B hr _ _ _  hf _ _ _ h hl
set_option maxHeartbeats 4000000 in
set_option maxRecDepth 100000 in
theorem k_X5_polled_0 {p : Program} {l : Launch} {e : Env} {s : State} {m : MethodId} {args : Array Value} {below : List Frame} {meth : Method} {c : Code} {D : va_G} {cy : Nat → ClassId} {ad : Nat → Nat} {X : sX} {r : Int32} {σ' : sM} (B : sB p l s m meth c args cX5_polled 1 RX5 D cy ad) (hr : meth.sig.returnType = (some .int)) (σ : sM) (hf : f_X5_polled σ = some (r, σ')) : sGo p l e { frames := 1, cells := 0, slots := 0, locals := 21 } s m args below meth c D cy ad X 1 (sQ below args s 0 0 D cy ad (.inr (some (.int r))) X σ') σ 0 [(0, .ref (ad 44))] [] := by
  replace hf : (if (σ 44 18) = 0 then (wthn (f_X5_refused (1 : Int32) σ) (fun vr4 σ4 => if vr4 = 0 then (some ((σ4 44 19), σ4)) else (some ((0 : Int32), σ4)))) else (wthn (f_X5_refused (0 : Int32) σ) (fun vr2 σ2 => if vr2 = 0 then (some ((σ2 44 19), σ2)) else (some ((0 : Int32), σ2))))) = some (r, σ') := hf
  intro H locs ls h hl
  have hx := B.1
  have hb := B.2.1
  refine lv_aload_n hx hb dX5_polled_0 rfl (lv_at hl 0 rfl) ?_
  refine lv_aload_n hx hb dX5_polled_1 rfl (lv_at hl 0 rfl) ?_
  refine g_get B h 44 (by decide) (C := RX5) (T := TX5) (N := 21) (M_row _) rfl hin_X5 18 (by decide) hw844 rfl rfl dX5_polled_2 ?_
  refine lv_if_ne (tgt := 12) hx hb dX5_polled_5 (by decide) (fun c1 => ?_) (fun c1 => ?_)
  · rw [if_neg c1] at hf
    refine lv_iconst (v := (0 : Int32)) hx hb dX5_polled_12 (by decide) ?_
    obtain ⟨vr2, σ2, hq2, hf⟩ := wthn_some hf
    refine sRetC1 (g_runV (k := 44) (T := TX5) (N := 21) B h (ok_X5_refused B.2.2.2.2.2.2.2.2 B.2.2.2.2.2.2.1 _ _ (0 : Int32) hq2) cw_X5_95 ⟨Nat.le_of_ble_eq_true rfl, Nat.le_of_ble_eq_true rfl⟩ (by decide) (M_row _) rfl rfl hl.1.symm rfl (Nat.le_of_ble_eq_true rfl) dX5_polled_13 ⟨Nat.zero_le _, Nat.zero_le _⟩) h (fun H locs h => ?_)
    refine lv_if_eq (tgt := 23) hx hb dX5_polled_16 (by decide) (fun c3 => ?_) (fun c3 => ?_)
    · rw [if_pos c3] at hf
      refine lv_aload_n hx hb dX5_polled_23 rfl (lv_at hl 0 rfl) ?_
      refine g_get B h 44 (by decide) (C := RX5) (T := TX5) (N := 21) (M_row _) rfl hin_X5 19 (by decide) hw845 rfl rfl dX5_polled_24 ?_
      obtain ⟨rfl, rfl⟩ := Prod.mk.inj (Option.some.inj hf)
      exact sE_i B hr h dX5_polled_27
    · rw [if_neg c3] at hf
      refine lv_iconst (v := (0 : Int32)) hx hb dX5_polled_19 (by decide) ?_
      refine lv_goto (tgt := 27) hx hb dX5_polled_20 (by decide) ?_
      obtain ⟨rfl, rfl⟩ := Prod.mk.inj (Option.some.inj hf)
      exact sE_i B hr h dX5_polled_27
  · rw [if_pos c1] at hf
    refine lv_iconst (v := (1 : Int32)) hx hb dX5_polled_8 (by decide) ?_
    refine lv_goto (tgt := 13) hx hb dX5_polled_9 (by decide) ?_
    obtain ⟨vr4, σ4, hq4, hf⟩ := wthn_some hf
    refine sRetC1 (g_runV (k := 44) (T := TX5) (N := 21) B h (ok_X5_refused B.2.2.2.2.2.2.2.2 B.2.2.2.2.2.2.1 _ _ (1 : Int32) hq4) cw_X5_95 ⟨Nat.le_of_ble_eq_true rfl, Nat.le_of_ble_eq_true rfl⟩ (by decide) (M_row _) rfl rfl hl.1.symm rfl (Nat.le_of_ble_eq_true rfl) dX5_polled_13 ⟨Nat.zero_le _, Nat.zero_le _⟩) h (fun H locs h => ?_)
    refine lv_if_eq (tgt := 23) hx hb dX5_polled_16 (by decide) (fun c5 => ?_) (fun c5 => ?_)
    · rw [if_pos c5] at hf
      refine lv_aload_n hx hb dX5_polled_23 rfl (lv_at hl 0 rfl) ?_
      refine g_get B h 44 (by decide) (C := RX5) (T := TX5) (N := 21) (M_row _) rfl hin_X5 19 (by decide) hw845 rfl rfl dX5_polled_24 ?_
      obtain ⟨rfl, rfl⟩ := Prod.mk.inj (Option.some.inj hf)
      exact sE_i B hr h dX5_polled_27
    · rw [if_neg c5] at hf
      refine lv_iconst (v := (0 : Int32)) hx hb dX5_polled_19 (by decide) ?_
      refine lv_goto (tgt := 27) hx hb dX5_polled_20 (by decide) ?_
      obtain ⟨rfl, rfl⟩ := Prod.mk.inj (Option.some.inj hf)
      exact sE_i B hr h dX5_polled_27
set_option maxRecDepth 100000 in
theorem ok_X5_polled {l : Launch} (hl0 : l.stackTraces = false) {D : va_G} {cy : Nat → ClassId} {ad : Nat → Nat} (hap : sAp ad) (X : sX) (σ : sM) {r : Int32} {σ' : sM} (hf : f_X5_polled σ = some (r, σ')) : sMet l yX5_polled (sWs yX5_polled cX5_polled 1 (some .int)) 1 21 0 0 D cy ad X σ [.ref (ad 44)] (.inr (some (.int r))) X σ' := by
  refine sMet_of (by decide +kernel) (Nat.le_of_ble_eq_true rfl) hap hl0 ?_
  intro p e s m args below meth c ls B hr htab hl h
  exact k_X5_polled_0 B hr  _  hf _ _ _ h hl
set_option maxHeartbeats 4000000 in
set_option maxRecDepth 100000 in
theorem k_X5_put_36 {p : Program} {l : Launch} {e : Env} {s : State} {m : MethodId} {args : Array Value} {below : List Frame} {meth : Method} {c : Code} {D : va_G} {cy : Nat → ClassId} {ad : Nat → Nat} {X : sX} {r : Int32} {σ' : sM} (B : sB p l s m meth c args cX5_put 4 RX5 D cy ad) (hr : meth.sig.returnType = (some .int)) (v1 : Int32) (v2 : Int32) (v3 : Int32) (σ : sM) (hf : b_X5_put_36 v1 v2 v3 σ = some (r, σ')) : sGo p l e { frames := 2, cells := 0, slots := 0, locals := 48 } s m args below meth c D cy ad X 4 (sQ below args s 0 0 D cy ad (.inr (some (.int r))) X σ') σ 36 [(0, .ref (ad 44)), (1, .int v1), (2, .int v2), (3, .int v3)] [.ref (ad 44)] := by
  replace hf : (wthn (f_X5_refused (0 : Int32) σ) (fun vr15 σ15 => if vr15 = 0 then (wthn (f_X5_puts v1 v2 v3 σ15) (fun _ σ17 => chk (inb v1 3) (some ((σ17 47 (v1).toNatClampNeg), σ17)))) else (some ((0 : Int32), σ15)))) = some (r, σ') := hf
  intro H locs ls h hl
  have hx := B.1
  have hb := B.2.1
  refine lv_iconst (v := (0 : Int32)) hx hb dX5_put_36 (by decide) ?_
  obtain ⟨vr15, σ15, hq15, hf⟩ := wthn_some hf
  refine sRetC1 (g_runV (k := 44) (T := TX5) (N := 21) B h (ok_X5_refused B.2.2.2.2.2.2.2.2 B.2.2.2.2.2.2.1 _ _ (0 : Int32) hq15) cw_X5_95 ⟨Nat.le_of_ble_eq_true rfl, Nat.le_of_ble_eq_true rfl⟩ (by decide) (M_row _) rfl rfl hl.1.symm rfl (Nat.le_of_ble_eq_true rfl) dX5_put_37 ⟨Nat.zero_le _, Nat.zero_le _⟩) h (fun H locs h => ?_)
  refine lv_if_eq (tgt := 45) hx hb dX5_put_40 (by decide) (fun c16 => ?_) (fun c16 => ?_)
  · rw [if_pos c16] at hf
    refine lv_aload_n hx hb dX5_put_45 rfl (lv_at hl 0 rfl) ?_
    refine lv_iload_n hx hb dX5_put_46 rfl (lv_at hl 1 rfl) ?_
    refine lv_iload_n hx hb dX5_put_47 rfl (lv_at hl 2 rfl) ?_
    refine lv_iload_n hx hb dX5_put_48 rfl (lv_at hl 3 rfl) ?_
    obtain ⟨vr17, σ17, hq17, hf⟩ := wthn_some hf
    refine sRetC0 (g_runV (k := 44) (T := TX5) (N := 21) B h (ok_X5_puts B.2.2.2.2.2.2.2.2 B.2.2.2.2.2.2.1 _ _ v1 v2 v3 hq17) cw_X5_98 ⟨Nat.le_of_ble_eq_true rfl, Nat.le_of_ble_eq_true rfl⟩ (by decide) (M_row _) rfl rfl hl.1.symm rfl (Nat.le_of_ble_eq_true rfl) dX5_put_49 ⟨Nat.zero_le _, Nat.zero_le _⟩) h (fun H locs h => ?_)
    refine lv_aload_n hx hb dX5_put_52 rfl (lv_at hl 0 rfl) ?_
    refine g_get B h 44 (by decide) (C := RX5) (T := TX5) (N := 21) (M_row _) rfl hin_X5 2 (by decide) hw828 rfl rfl dX5_put_53 ?_
    refine lv_iload_n hx hb dX5_put_56 rfl (lv_at hl 1 rfl) ?_
    obtain ⟨c18, hf⟩ := chk_some hf
    refine g_iald B h 47 (by decide) (n := 3) (fun _ => rfl) (inb_in c18) dX5_put_57 ?_
    obtain ⟨rfl, rfl⟩ := Prod.mk.inj (Option.some.inj hf)
    exact sE_i B hr h dX5_put_58
  · rw [if_neg c16] at hf
    refine lv_iconst (v := (0 : Int32)) hx hb dX5_put_43 (by decide) ?_
    obtain ⟨rfl, rfl⟩ := Prod.mk.inj (Option.some.inj hf)
    exact sE_i B hr h dX5_put_44
set_option maxHeartbeats 4000000 in
set_option maxRecDepth 100000 in
theorem k_X5_put_0 {p : Program} {l : Launch} {e : Env} {s : State} {m : MethodId} {args : Array Value} {below : List Frame} {meth : Method} {c : Code} {D : va_G} {cy : Nat → ClassId} {ad : Nat → Nat} {X : sX} {r : Int32} {σ' : sM} (B : sB p l s m meth c args cX5_put 4 RX5 D cy ad) (hr : meth.sig.returnType = (some .int)) (v1 : Int32) (v2 : Int32) (v3 : Int32) (σ : sM) (hf : f_X5_put v1 v2 v3 σ = some (r, σ')) : sGo p l e { frames := 2, cells := 0, slots := 0, locals := 48 } s m args below meth c D cy ad X 4 (sQ below args s 0 0 D cy ad (.inr (some (.int r))) X σ') σ 0 [(0, .ref (ad 44)), (1, .int v1), (2, .int v2), (3, .int v3)] [] := by
  replace hf : (rthn (f_X5_isMap v1 σ) (fun vr1 => if vr1 = 0 then (wthn (f_X5_refused (1 : Int32) σ) (fun vr11 σ11 => if vr11 = 0 then (wthn (f_X5_puts v1 v2 v3 σ11) (fun _ σ13 => chk (inb v1 3) (some ((σ13 47 (v1).toNatClampNeg), σ13)))) else (some ((0 : Int32), σ11)))) else (chk (inb v1 3) (if (σ 47 (v1).toNatClampNeg) = (60 : Int32) then (rthn (f_X5_has v1 v2 σ) (fun vr5 => if vr5 = 0 then (wthn (f_X5_refused (2 : Int32) σ) (fun vr7 σ7 => if vr7 = 0 then (wthn (f_X5_puts v1 v2 v3 σ7) (fun _ σ9 => chk (inb v1 3) (some ((σ9 47 (v1).toNatClampNeg), σ9)))) else (some ((0 : Int32), σ7)))) else (b_X5_put_36 v1 v2 v3 σ))) else (b_X5_put_36 v1 v2 v3 σ))))) = some (r, σ') := hf
  intro H locs ls h hl
  have hx := B.1
  have hb := B.2.1
  refine lv_aload_n hx hb dX5_put_0 rfl (lv_at hl 0 rfl) ?_
  refine lv_iload_n hx hb dX5_put_1 rfl (lv_at hl 1 rfl) ?_
  obtain ⟨vr1, hq1, hf⟩ := rthn_some hf
  refine sRetC1 (g_runS B h (ok_X5_isMap B.2.2.2.2.2.2.2.2 B.2.2.2.2.2.2.1 _ _ v1 hq1) cw_X5_87 ⟨Nat.le_of_ble_eq_true rfl, Nat.le_of_ble_eq_true rfl⟩ rfl hl.1.symm rfl (Nat.le_of_ble_eq_true rfl) dX5_put_2 ⟨Nat.zero_le _, Nat.zero_le _⟩) h (fun H locs h => ?_)
  refine lv_if_ne (tgt := 12) hx hb dX5_put_5 (by decide) (fun c2 => ?_) (fun c2 => ?_)
  · rw [if_neg c2] at hf
    refine lv_aload_n hx hb dX5_put_12 rfl (lv_at hl 0 rfl) ?_
    refine g_get B h 44 (by decide) (C := RX5) (T := TX5) (N := 21) (M_row _) rfl hin_X5 2 (by decide) hw828 rfl rfl dX5_put_13 ?_
    refine lv_iload_n hx hb dX5_put_16 rfl (lv_at hl 1 rfl) ?_
    obtain ⟨c3, hf⟩ := chk_some hf
    refine g_iald B h 47 (by decide) (n := 3) (fun _ => rfl) (inb_in c3) dX5_put_17 ?_
    refine lv_bipush (v := (60 : Int32)) hx hb dX5_put_18 (by decide) ?_
    refine lv_icmp_ne (tgt := 36) hx hb dX5_put_20 (by decide) (fun c4 => ?_) (fun c4 => ?_)
    · rw [if_neg c4] at hf
      exact k_X5_put_36 B hr  _ _ _ _ hf _ _ _ h (lv_sub hl [0, 1, 2, 3] rfl)
    · rw [if_pos c4] at hf
      refine lv_aload_n hx hb dX5_put_23 rfl (lv_at hl 0 rfl) ?_
      refine lv_iload_n hx hb dX5_put_24 rfl (lv_at hl 1 rfl) ?_
      refine lv_iload_n hx hb dX5_put_25 rfl (lv_at hl 2 rfl) ?_
      obtain ⟨vr5, hq5, hf⟩ := rthn_some hf
      refine sRetC1 (g_runV (k := 44) (T := TX5) (N := 21) B h (ok_X5_has B.2.2.2.2.2.2.2.2 B.2.2.2.2.2.2.1 _ _ v1 v2 hq5) cw_X5_91 ⟨Nat.le_of_ble_eq_true rfl, Nat.le_of_ble_eq_true rfl⟩ (by decide) (M_row _) rfl rfl hl.1.symm rfl (Nat.le_of_ble_eq_true rfl) dX5_put_26 ⟨Nat.zero_le _, Nat.zero_le _⟩) h (fun H locs h => ?_)
      refine lv_if_ne (tgt := 36) hx hb dX5_put_29 (by decide) (fun c6 => ?_) (fun c6 => ?_)
      · rw [if_neg c6] at hf
        exact k_X5_put_36 B hr  _ _ _ _ hf _ _ _ h (lv_sub hl [0, 1, 2, 3] rfl)
      · rw [if_pos c6] at hf
        refine lv_iconst (v := (2 : Int32)) hx hb dX5_put_32 (by decide) ?_
        refine lv_goto (tgt := 37) hx hb dX5_put_33 (by decide) ?_
        obtain ⟨vr7, σ7, hq7, hf⟩ := wthn_some hf
        refine sRetC1 (g_runV (k := 44) (T := TX5) (N := 21) B h (ok_X5_refused B.2.2.2.2.2.2.2.2 B.2.2.2.2.2.2.1 _ _ (2 : Int32) hq7) cw_X5_95 ⟨Nat.le_of_ble_eq_true rfl, Nat.le_of_ble_eq_true rfl⟩ (by decide) (M_row _) rfl rfl hl.1.symm rfl (Nat.le_of_ble_eq_true rfl) dX5_put_37 ⟨Nat.zero_le _, Nat.zero_le _⟩) h (fun H locs h => ?_)
        refine lv_if_eq (tgt := 45) hx hb dX5_put_40 (by decide) (fun c8 => ?_) (fun c8 => ?_)
        · rw [if_pos c8] at hf
          refine lv_aload_n hx hb dX5_put_45 rfl (lv_at hl 0 rfl) ?_
          refine lv_iload_n hx hb dX5_put_46 rfl (lv_at hl 1 rfl) ?_
          refine lv_iload_n hx hb dX5_put_47 rfl (lv_at hl 2 rfl) ?_
          refine lv_iload_n hx hb dX5_put_48 rfl (lv_at hl 3 rfl) ?_
          obtain ⟨vr9, σ9, hq9, hf⟩ := wthn_some hf
          refine sRetC0 (g_runV (k := 44) (T := TX5) (N := 21) B h (ok_X5_puts B.2.2.2.2.2.2.2.2 B.2.2.2.2.2.2.1 _ _ v1 v2 v3 hq9) cw_X5_98 ⟨Nat.le_of_ble_eq_true rfl, Nat.le_of_ble_eq_true rfl⟩ (by decide) (M_row _) rfl rfl hl.1.symm rfl (Nat.le_of_ble_eq_true rfl) dX5_put_49 ⟨Nat.zero_le _, Nat.zero_le _⟩) h (fun H locs h => ?_)
          refine lv_aload_n hx hb dX5_put_52 rfl (lv_at hl 0 rfl) ?_
          refine g_get B h 44 (by decide) (C := RX5) (T := TX5) (N := 21) (M_row _) rfl hin_X5 2 (by decide) hw828 rfl rfl dX5_put_53 ?_
          refine lv_iload_n hx hb dX5_put_56 rfl (lv_at hl 1 rfl) ?_
          obtain ⟨c10, hf⟩ := chk_some hf
          refine g_iald B h 47 (by decide) (n := 3) (fun _ => rfl) (inb_in c10) dX5_put_57 ?_
          obtain ⟨rfl, rfl⟩ := Prod.mk.inj (Option.some.inj hf)
          exact sE_i B hr h dX5_put_58
        · rw [if_neg c8] at hf
          refine lv_iconst (v := (0 : Int32)) hx hb dX5_put_43 (by decide) ?_
          obtain ⟨rfl, rfl⟩ := Prod.mk.inj (Option.some.inj hf)
          exact sE_i B hr h dX5_put_44
  · rw [if_pos c2] at hf
    refine lv_iconst (v := (1 : Int32)) hx hb dX5_put_8 (by decide) ?_
    refine lv_goto (tgt := 37) hx hb dX5_put_9 (by decide) ?_
    obtain ⟨vr11, σ11, hq11, hf⟩ := wthn_some hf
    refine sRetC1 (g_runV (k := 44) (T := TX5) (N := 21) B h (ok_X5_refused B.2.2.2.2.2.2.2.2 B.2.2.2.2.2.2.1 _ _ (1 : Int32) hq11) cw_X5_95 ⟨Nat.le_of_ble_eq_true rfl, Nat.le_of_ble_eq_true rfl⟩ (by decide) (M_row _) rfl rfl hl.1.symm rfl (Nat.le_of_ble_eq_true rfl) dX5_put_37 ⟨Nat.zero_le _, Nat.zero_le _⟩) h (fun H locs h => ?_)
    refine lv_if_eq (tgt := 45) hx hb dX5_put_40 (by decide) (fun c12 => ?_) (fun c12 => ?_)
    · rw [if_pos c12] at hf
      refine lv_aload_n hx hb dX5_put_45 rfl (lv_at hl 0 rfl) ?_
      refine lv_iload_n hx hb dX5_put_46 rfl (lv_at hl 1 rfl) ?_
      refine lv_iload_n hx hb dX5_put_47 rfl (lv_at hl 2 rfl) ?_
      refine lv_iload_n hx hb dX5_put_48 rfl (lv_at hl 3 rfl) ?_
      obtain ⟨vr13, σ13, hq13, hf⟩ := wthn_some hf
      refine sRetC0 (g_runV (k := 44) (T := TX5) (N := 21) B h (ok_X5_puts B.2.2.2.2.2.2.2.2 B.2.2.2.2.2.2.1 _ _ v1 v2 v3 hq13) cw_X5_98 ⟨Nat.le_of_ble_eq_true rfl, Nat.le_of_ble_eq_true rfl⟩ (by decide) (M_row _) rfl rfl hl.1.symm rfl (Nat.le_of_ble_eq_true rfl) dX5_put_49 ⟨Nat.zero_le _, Nat.zero_le _⟩) h (fun H locs h => ?_)
      refine lv_aload_n hx hb dX5_put_52 rfl (lv_at hl 0 rfl) ?_
      refine g_get B h 44 (by decide) (C := RX5) (T := TX5) (N := 21) (M_row _) rfl hin_X5 2 (by decide) hw828 rfl rfl dX5_put_53 ?_
      refine lv_iload_n hx hb dX5_put_56 rfl (lv_at hl 1 rfl) ?_
      obtain ⟨c14, hf⟩ := chk_some hf
      refine g_iald B h 47 (by decide) (n := 3) (fun _ => rfl) (inb_in c14) dX5_put_57 ?_
      obtain ⟨rfl, rfl⟩ := Prod.mk.inj (Option.some.inj hf)
      exact sE_i B hr h dX5_put_58
    · rw [if_neg c12] at hf
      refine lv_iconst (v := (0 : Int32)) hx hb dX5_put_43 (by decide) ?_
      obtain ⟨rfl, rfl⟩ := Prod.mk.inj (Option.some.inj hf)
      exact sE_i B hr h dX5_put_44
set_option maxRecDepth 100000 in
theorem ok_X5_put {l : Launch} (hl0 : l.stackTraces = false) {D : va_G} {cy : Nat → ClassId} {ad : Nat → Nat} (hap : sAp ad) (X : sX) (σ : sM) (v1 : Int32) (v2 : Int32) (v3 : Int32) {r : Int32} {σ' : sM} (hf : f_X5_put v1 v2 v3 σ = some (r, σ')) : sMet l yX5_put (sWs yX5_put cX5_put 4 (some .int)) 2 48 0 0 D cy ad X σ [.ref (ad 44), .int v1, .int v2, .int v3] (.inr (some (.int r))) X σ' := by
  refine sMet_of (by decide +kernel) (Nat.le_of_ble_eq_true rfl) hap hl0 ?_
  intro p e s m args below meth c ls B hr htab hl h
  exact k_X5_put_0 B hr _ _ _ _  hf _ _ _ h hl
set_option maxHeartbeats 4000000 in
set_option maxRecDepth 100000 in
theorem k_X5_remove_13 {p : Program} {l : Launch} {e : Env} {s : State} {m : MethodId} {args : Array Value} {below : List Frame} {meth : Method} {c : Code} {D : va_G} {cy : Nat → ClassId} {ad : Nat → Nat} {X : sX} {r : Int32} {σ' : sM} (B : sB p l s m meth c args cX5_remove 3 RX5 D cy ad) (hr : meth.sig.returnType = (some .int)) (v1 : Int32) (v2 : Int32) (vs1 : Int32) (σ : sM) (hf : b_X5_remove_13 v1 v2 vs1 σ = some (r, σ')) : sGo p l e { frames := 2, cells := 0, slots := 0, locals := 45 } s m args below meth c D cy ad X 3 (sQ below args s 0 0 D cy ad (.inr (some (.int r))) X σ') σ 13 [(0, .ref (ad 44)), (1, .int v1), (2, .int v2)] [.int vs1, .ref (ad 44)] := by
  replace hf : (wthn (f_X5_refused vs1 σ) (fun vr3 σ3 => if vr3 = 0 then (rthn (f_X5_has v1 v2 σ3) (fun vr5 => if vr5 = 0 then (chk (inb v1 3) (some ((σ3 47 (v1).toNatClampNeg), σ3))) else (rthn (f_X5_placeOf v1 v2 σ3) (fun vr8 => wthn (f_X5_takes v1 vr8 σ3) (fun _ σ9 => chk (inb v1 3) (some ((σ9 47 (v1).toNatClampNeg), σ9))))))) else (some ((0 : Int32), σ3)))) = some (r, σ') := hf
  intro H locs ls h hl
  have hx := B.1
  have hb := B.2.1
  obtain ⟨vr3, σ3, hq3, hf⟩ := wthn_some hf
  refine sRetC1 (g_runV (k := 44) (T := TX5) (N := 21) B h (ok_X5_refused B.2.2.2.2.2.2.2.2 B.2.2.2.2.2.2.1 _ _ vs1 hq3) cw_X5_95 ⟨Nat.le_of_ble_eq_true rfl, Nat.le_of_ble_eq_true rfl⟩ (by decide) (M_row _) rfl rfl hl.1.symm rfl (Nat.le_of_ble_eq_true rfl) dX5_remove_13 ⟨Nat.zero_le _, Nat.zero_le _⟩) h (fun H locs h => ?_)
  refine lv_if_eq (tgt := 21) hx hb dX5_remove_16 (by decide) (fun c4 => ?_) (fun c4 => ?_)
  · rw [if_pos c4] at hf
    refine lv_aload_n hx hb dX5_remove_21 rfl (lv_at hl 0 rfl) ?_
    refine lv_iload_n hx hb dX5_remove_22 rfl (lv_at hl 1 rfl) ?_
    refine lv_iload_n hx hb dX5_remove_23 rfl (lv_at hl 2 rfl) ?_
    obtain ⟨vr5, hq5, hf⟩ := rthn_some hf
    refine sRetC1 (g_runV (k := 44) (T := TX5) (N := 21) B h (ok_X5_has B.2.2.2.2.2.2.2.2 B.2.2.2.2.2.2.1 _ _ v1 v2 hq5) cw_X5_91 ⟨Nat.le_of_ble_eq_true rfl, Nat.le_of_ble_eq_true rfl⟩ (by decide) (M_row _) rfl rfl hl.1.symm rfl (Nat.le_of_ble_eq_true rfl) dX5_remove_24 ⟨Nat.zero_le _, Nat.zero_le _⟩) h (fun H locs h => ?_)
    refine lv_if_eq (tgt := 41) hx hb dX5_remove_27 (by decide) (fun c6 => ?_) (fun c6 => ?_)
    · rw [if_pos c6] at hf
      refine lv_aload_n hx hb dX5_remove_41 rfl (lv_at hl 0 rfl) ?_
      refine g_get B h 44 (by decide) (C := RX5) (T := TX5) (N := 21) (M_row _) rfl hin_X5 2 (by decide) hw828 rfl rfl dX5_remove_42 ?_
      refine lv_iload_n hx hb dX5_remove_45 rfl (lv_at hl 1 rfl) ?_
      obtain ⟨c7, hf⟩ := chk_some hf
      refine g_iald B h 47 (by decide) (n := 3) (fun _ => rfl) (inb_in c7) dX5_remove_46 ?_
      obtain ⟨rfl, rfl⟩ := Prod.mk.inj (Option.some.inj hf)
      exact sE_i B hr h dX5_remove_47
    · rw [if_neg c6] at hf
      refine lv_aload_n hx hb dX5_remove_30 rfl (lv_at hl 0 rfl) ?_
      refine lv_iload_n hx hb dX5_remove_31 rfl (lv_at hl 1 rfl) ?_
      refine lv_aload_n hx hb dX5_remove_32 rfl (lv_at hl 0 rfl) ?_
      refine lv_iload_n hx hb dX5_remove_33 rfl (lv_at hl 1 rfl) ?_
      refine lv_iload_n hx hb dX5_remove_34 rfl (lv_at hl 2 rfl) ?_
      obtain ⟨vr8, hq8, hf⟩ := rthn_some hf
      refine sRetC1 (g_runV (k := 44) (T := TX5) (N := 21) B h (ok_X5_placeOf B.2.2.2.2.2.2.2.2 B.2.2.2.2.2.2.1 _ _ v1 v2 hq8) cw_X5_68 ⟨Nat.le_of_ble_eq_true rfl, Nat.le_of_ble_eq_true rfl⟩ (by decide) (M_row _) rfl rfl hl.1.symm rfl (Nat.le_of_ble_eq_true rfl) dX5_remove_35 ⟨Nat.zero_le _, Nat.zero_le _⟩) h (fun H locs h => ?_)
      obtain ⟨vr9, σ9, hq9, hf⟩ := wthn_some hf
      refine sRetC0 (g_runV (k := 44) (T := TX5) (N := 21) B h (ok_X5_takes B.2.2.2.2.2.2.2.2 B.2.2.2.2.2.2.1 _ _ v1 vr8 hq9) cw_X5_79 ⟨Nat.le_of_ble_eq_true rfl, Nat.le_of_ble_eq_true rfl⟩ (by decide) (M_row _) rfl rfl hl.1.symm rfl (Nat.le_of_ble_eq_true rfl) dX5_remove_38 ⟨Nat.zero_le _, Nat.zero_le _⟩) h (fun H locs h => ?_)
      refine lv_aload_n hx hb dX5_remove_41 rfl (lv_at hl 0 rfl) ?_
      refine g_get B h 44 (by decide) (C := RX5) (T := TX5) (N := 21) (M_row _) rfl hin_X5 2 (by decide) hw828 rfl rfl dX5_remove_42 ?_
      refine lv_iload_n hx hb dX5_remove_45 rfl (lv_at hl 1 rfl) ?_
      obtain ⟨c10, hf⟩ := chk_some hf
      refine g_iald B h 47 (by decide) (n := 3) (fun _ => rfl) (inb_in c10) dX5_remove_46 ?_
      obtain ⟨rfl, rfl⟩ := Prod.mk.inj (Option.some.inj hf)
      exact sE_i B hr h dX5_remove_47
  · rw [if_neg c4] at hf
    refine lv_iconst (v := (0 : Int32)) hx hb dX5_remove_19 (by decide) ?_
    obtain ⟨rfl, rfl⟩ := Prod.mk.inj (Option.some.inj hf)
    exact sE_i B hr h dX5_remove_20
set_option maxHeartbeats 4000000 in
set_option maxRecDepth 100000 in
theorem k_X5_remove_0 {p : Program} {l : Launch} {e : Env} {s : State} {m : MethodId} {args : Array Value} {below : List Frame} {meth : Method} {c : Code} {D : va_G} {cy : Nat → ClassId} {ad : Nat → Nat} {X : sX} {r : Int32} {σ' : sM} (B : sB p l s m meth c args cX5_remove 3 RX5 D cy ad) (hr : meth.sig.returnType = (some .int)) (v1 : Int32) (v2 : Int32) (σ : sM) (hf : f_X5_remove v1 v2 σ = some (r, σ')) : sGo p l e { frames := 2, cells := 0, slots := 0, locals := 45 } s m args below meth c D cy ad X 3 (sQ below args s 0 0 D cy ad (.inr (some (.int r))) X σ') σ 0 [(0, .ref (ad 44)), (1, .int v1), (2, .int v2)] [] := by
  replace hf : (rthn (f_X5_isMap v1 σ) (fun vr1 => if vr1 = 0 then (b_X5_remove_13 v1 v2 (1 : Int32) σ) else (b_X5_remove_13 v1 v2 (0 : Int32) σ))) = some (r, σ') := hf
  intro H locs ls h hl
  have hx := B.1
  have hb := B.2.1
  refine lv_aload_n hx hb dX5_remove_0 rfl (lv_at hl 0 rfl) ?_
  refine lv_iload_n hx hb dX5_remove_1 rfl (lv_at hl 1 rfl) ?_
  obtain ⟨vr1, hq1, hf⟩ := rthn_some hf
  refine sRetC1 (g_runS B h (ok_X5_isMap B.2.2.2.2.2.2.2.2 B.2.2.2.2.2.2.1 _ _ v1 hq1) cw_X5_87 ⟨Nat.le_of_ble_eq_true rfl, Nat.le_of_ble_eq_true rfl⟩ rfl hl.1.symm rfl (Nat.le_of_ble_eq_true rfl) dX5_remove_2 ⟨Nat.zero_le _, Nat.zero_le _⟩) h (fun H locs h => ?_)
  refine lv_if_ne (tgt := 12) hx hb dX5_remove_5 (by decide) (fun c2 => ?_) (fun c2 => ?_)
  · rw [if_neg c2] at hf
    refine lv_iconst (v := (0 : Int32)) hx hb dX5_remove_12 (by decide) ?_
    exact k_X5_remove_13 B hr  _ _ _ _ hf _ _ _ h (lv_sub hl [0, 1, 2] rfl)
  · rw [if_pos c2] at hf
    refine lv_iconst (v := (1 : Int32)) hx hb dX5_remove_8 (by decide) ?_
    refine lv_goto (tgt := 13) hx hb dX5_remove_9 (by decide) ?_
    exact k_X5_remove_13 B hr  _ _ _ _ hf _ _ _ h (lv_sub hl [0, 1, 2] rfl)
set_option maxRecDepth 100000 in
theorem ok_X5_remove {l : Launch} (hl0 : l.stackTraces = false) {D : va_G} {cy : Nat → ClassId} {ad : Nat → Nat} (hap : sAp ad) (X : sX) (σ : sM) (v1 : Int32) (v2 : Int32) {r : Int32} {σ' : sM} (hf : f_X5_remove v1 v2 σ = some (r, σ')) : sMet l yX5_remove (sWs yX5_remove cX5_remove 3 (some .int)) 2 45 0 0 D cy ad X σ [.ref (ad 44), .int v1, .int v2] (.inr (some (.int r))) X σ' := by
  refine sMet_of (by decide +kernel) (Nat.le_of_ble_eq_true rfl) hap hl0 ?_
  intro p e s m args below meth c ls B hr htab hl h
  exact k_X5_remove_0 B hr _ _ _  hf _ _ _ h hl
