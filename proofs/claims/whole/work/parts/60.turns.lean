/-! the reference writes histories; two histories by turns -/
def frA (σ σ' : sM) (h : Nat) : Prop := (∀ k, k ≠ 55 → k ≠ 56 → k ≠ 57 → k ≠ 58 → σ' k = σ k) ∧ (∀ j, j < 30 * h ∨ 30 * h + 30 ≤ j → σ' 55 j = σ 55 j ∧ σ' 56 j = σ 56 j ∧ σ' 57 j = σ 57 j) ∧ ∀ u, u ≠ h → σ' 58 u = σ 58 u
theorem frA.rf {σ : sM} {h : Nat} : frA σ σ h := ⟨fun _ _ _ _ _ => rfl, fun _ _ => ⟨rfl, rfl, rfl⟩, fun _ _ => rfl⟩
theorem frA.tr {σ σ1 σ2 : sM} {h : Nat} (a : frA σ σ1 h) (b : frA σ1 σ2 h) : frA σ σ2 h :=
  ⟨fun k x y z w => (b.1 k x y z w).trans (a.1 k x y z w), fun j hj => ⟨(b.2.1 j hj).1.trans (a.2.1 j hj).1, (b.2.1 j hj).2.1.trans (a.2.1 j hj).2.1, (b.2.1 j hj).2.2.trans (a.2.1 j hj).2.2⟩, fun u hu => (b.2.2 u hu).trans (a.2.2 u hu)⟩
theorem HM.frA {σ σ' : sM} {h u : Nat} {H : LH} (hH : HM σ h H) (hf : frA σ σ' u) (hne : h ≠ u) : HM σ' h H :=
  ⟨by rw [hf.2.2 h hne]; exact hH.1, hH.2.1, fun j hj => by
    have hl := hH.2.1
    obtain ⟨a, b, c⟩ := hf.2.1 (30 * h + j) (by omega)
    rw [a, b, c]; exact hH.2.2 j hj⟩
theorem MB.frA {σ σ' : sM} {i u : Nat} {L : LM} (h : MB σ i L) (hf : frA σ σ' u) : MB σ' i L := h.same (hf.1 _ (by omega) (by omega) (by omega) (by omega)) (hf.1 _ (by omega) (by omega) (by omega) (by omega)) (hf.1 _ (by omega) (by omega) (by omega) (by omega))
theorem SB.frA {σ σ' : sM} {u : Nat} {S : LM} (h : SB σ S) (hf : frA σ σ' u) : SB σ' S := by
  have e1 : σ' 44 = σ 44 := hf.1 _ (by omega) (by omega) (by omega) (by omega)
  have e2 : σ' 59 = σ 59 := hf.1 _ (by omega) (by omega) (by omega) (by omega)
  exact ⟨by rw [e1]; exact h.1, h.2.1, fun j hj => by rw [e2]; exact h.2.2 j hj⟩
theorem m_adds {σ : sM} {h : Nat} {H : LH} (hH : HM σ h H) (hh : h < 3) (hlt : H.length < 30) (a b c : Int32) : ok (f_X5_adds (nI h) a b c σ) (fun q => HM q.2 h (H ++ [(vp_nar .char a, (b, c))]) ∧ frA σ q.2 h) := by
  have hin : inb (nI h) 3 = true := inb_nI hh (by omega)
  have hci : (nI h).toNatClampNeg = h := nI_clamp (by omega)
  have hi2 : inb (nI (30 * h + H.length)) 90 = true := inb_nI (by omega) (by omega)
  unfold f_X5_adds
  rw [hci, hH.1, ix30, nI_clamp (by omega)]
  refine ok_chk hin (ok_chk hi2 (ok_stl (fun σ1 e1 => ?_)))
  have q1 : σ1 58 = σ 58 := by rw [e1, up_n (by omega)]
  refine ok_chk hi2 (ok_stl (fun σ2 e2 => ?_))
  have q2 : σ2 58 = σ 58 := by rw [e2, up_n (by omega), q1]
  refine ok_chk hi2 (ok_stl (fun σ3 e3 => ?_))
  have q3 : σ3 58 = σ 58 := by rw [e3, up_n (by omega), q2]
  rw [q3, hH.1]
  refine ok_chk hin (ok_chk hin (ok_stl (fun σ4 e4 => ok_ret ?_)))
  have r1 : σ4 55 = upd (σ 55) (30 * h + H.length) (vp_nar .char a) := by rw [e4, up_n (by omega), e3, up_n (by omega), e2, up_n (by omega), e1, up_s]
  have r2 : σ4 56 = upd (σ 56) (30 * h + H.length) b := by rw [e4, up_n (by omega), e3, up_n (by omega), e2, up_s, e1, up_n (by omega)]
  have r3 : σ4 57 = upd (σ 57) (30 * h + H.length) c := by rw [e4, up_n (by omega), e3, up_s, e2, up_n (by omega), e1, up_n (by omega)]
  have r4 : σ4 58 = upd (σ 58) h (nI (H.length + 1)) := by rw [e4, up_s, nI_1]
  refine ⟨⟨?_, ?_, fun j hj => ?_⟩, fun k x1 x2 x3 x4 => ?_, fun j hj => ?_, fun u hu => ?_⟩
  · show σ4 58 h = _
    rw [r4, upd_s, List.length_append]; rfl
  · rw [List.length_append]; exact hlt
  · rw [hA_app hj]
    rw [List.length_append] at hj
    simp only [List.length_cons, List.length_nil] at hj
    show σ4 55 _ = _ ∧ σ4 56 _ = _ ∧ σ4 57 _ = _
    rw [r1, r2, r3]
    by_cases e : j = H.length
    · rw [if_pos e, e, upd_s, upd_s, upd_s]; exact ⟨rfl, rfl, rfl⟩
    · rw [if_neg e, upd_n (by omega), upd_n (by omega), upd_n (by omega)]; exact hH.2.2 j (by omega)
  · show σ4 k = σ k
    rw [e4, up_n x4, e3, up_n x3, e2, up_n x2, e1, up_n x1]
  · show σ4 55 j = σ 55 j ∧ σ4 56 j = σ 56 j ∧ σ4 57 j = σ 57 j
    rw [r1, r2, r3, upd_n (by omega), upd_n (by omega), upd_n (by omega)]
    exact ⟨rfl, rfl, rfl⟩
  · show σ4 58 u = σ 58 u
    rw [r4, upd_n hu]
theorem m_opp56 {σ : sM} {h i : Nat} {L S : LM} (hH : HM σ h []) (hh : h < 3) (hM : MB σ i L) (hi : i < 3) (hs : Srt L) (hS : SB σ S) (hlS : S.length ≤ 30) : ok (b_X5_opposite_56 FU (nI i) (nI h) 0 σ) (fun q => q.1 = nI S.length ∧ HM q.2 h (opp L S) ∧ frA σ q.2 h) := by
  have hci : (nI h).toNatClampNeg = h := nI_clamp (by omega)
  have loop : ∀ (R : LM) (j n : Nat) (M : LH) (σ4 : sM), S.drop j = R → j ≤ 30 → R.length + 1 ≤ n → M.length + R.length = S.length → HM σ4 h M → frA σ σ4 h → ok (b_X5_opposite_56 n (nI i) (nI h) (nI j) σ4) (fun q => q.1 = nI S.length ∧ HM q.2 h (M ++ opp L R) ∧ frA σ q.2 h) := by
    intro R
    induction R with
    | nil =>
      intro j n M σ4 hd hj30 hn hl2 hM4 hf
      obtain ⟨n, rfl⟩ : ∃ z, n = z + 1 := ⟨n - 1, by omega⟩
      have hB := hS.frA hf
      simp only [List.length_nil] at hl2
      show ok (if (σ4 44 15) ≤ nI j then _ else _) _
      rw [hB.1]
      refine ok_ip (nI_le (List.drop_eq_nil_iff.mp hd) (by omega)) (ok_chk (inb_nI hh (by omega)) (ok_ret ⟨?_, ?_, hf⟩))
      · show σ4 58 (nI h).toNatClampNeg = _
        rw [hci, hM4.1, show M.length = S.length from by omega]
      · rw [show opp L [] = [] from rfl, List.append_nil]; exact hM4
    | cons s r ih =>
      intro j n M σ4 hd hj30 hn hl2 hM4 hf
      obtain ⟨n, rfl⟩ : ∃ z, n = z + 1 := ⟨n - 1, by omega⟩
      obtain ⟨hj2, k1, _, hd1⟩ := kA_drop hd
      have hc1 : (s :: r : LM).length = r.length + 1 := rfl
      have hB := hS.frA hf
      have hL := hM.frA hf
      have hlL := hL.2.1
      have hcb := cb_le L s.1
      have hin2 : inb (nI j) 60 = true := inb_nI (by omega) (by omega)
      show ok (if (σ4 44 15) ≤ nI j then _ else _) _
      rw [hB.1]
      refine ok_in (nI_ge hj2 (by omega)) ?_
      refine ok_chk hin2 ?_
      rw [nI_clamp (by omega), hB.2.2 j hj2, k1]
      refine ok_r (m_placeOf hL hs hi s.1) ?_
      unfold b_X5_opposite_93
      by_cases p : hasP L s.1
      · rw [if_pos p]
        have hp1 := p.1
        refine ok_ip (nI_ge0 (by omega)) (ok_chk hin2 (ok_ip (nI_ge0 (by omega)) ?_))
        rw [ix]
        refine ok_chk (inb_nI (by omega) (by omega)) ?_
        rw [nI_clamp (n := j) (by omega), nI_clamp (by omega), hB.2.2 j hj2, k1, (hL.2.2 _ p.1).2]
        refine ok_w (m_adds hM4 hh (by omega) 112 s.1 (vA L (cb L s.1))) (fun _ σ5 q5 => ?_)
        rw [nI_1]
        have e : opp L (s :: r) = (112, (s.1, vA L (cb L s.1))) :: opp L r := by show (match lk L s.1 with | some v => _ | none => _) :: opp L r = _; rw [lk_has hs p]
        rw [e, List.append_cons]
        exact ih (j + 1) n (M ++ [(vp_nar .char 112, (s.1, vA L (cb L s.1)))]) σ5 hd1 (by omega) (by omega) (by rw [List.length_append, List.length_singleton]; omega) q5.1 (hf.tr q5.2)
      · rw [if_neg p]
        refine ok_in (neg1_nge (by omega)) (ok_chk hin2 (ok_in (neg1_nge (by omega)) ?_))
        rw [nI_clamp (n := j) (by omega), hB.2.2 j hj2, k1]
        refine ok_w (m_adds hM4 hh (by omega) 114 s.1 0) (fun _ σ5 q5 => ?_)
        rw [nI_1]
        have e : opp L (s :: r) = (114, (s.1, 0)) :: opp L r := by show (match lk L s.1 with | some v => _ | none => _) :: opp L r = _; rw [lk_not hs p]
        rw [e, List.append_cons]
        exact ih (j + 1) n (M ++ [(vp_nar .char 114, (s.1, 0))]) σ5 hd1 (by omega) (by omega) (by rw [List.length_append, List.length_singleton]; omega) q5.1 (hf.tr q5.2)
  have hl0 : 0 + S.length = S.length := Nat.zero_add _
  exact loop S 0 FU [] σ rfl (by omega) (by unfold FU; omega) hl0 hH frA.rf
/-- whose turn it is -/
abbrev bit (v : Int32) (j : Nat) : Prop := (((v.toUInt32 >>> ((nI j &&& (31 : Int32)).toUInt32 &&& Int32.toUInt32 31)).toInt32) &&& (1 : Int32)) = (1 : Int32)
def mrg (v : Int32) : Nat → Nat → LH → LH → LH
  | 0, _, _, _ => []
  | _ + 1, _, [], [] => []
  | n + 1, j, [], b :: B => b :: mrg v n (j + 1) [] B
  | n + 1, j, a :: A, [] => a :: mrg v n (j + 1) A []
  | n + 1, j, a :: A, b :: B => if bit v j then b :: mrg v n (j + 1) (a :: A) B else a :: mrg v n (j + 1) A (b :: B)
theorem mrg_mem {v : Int32} {s : Int32 × (Int32 × Int32)} : ∀ (n j : Nat) (A B : LH), s ∈ mrg v n j A B → s ∈ A ++ B := by
  intro n
  induction n with
  | zero => intro j A B h; cases h
  | succ n ih =>
    intro j A B h
    rw [List.mem_append]
    cases A with
    | nil =>
      cases B with
      | nil => cases h
      | cons b B =>
        rcases List.mem_cons.mp h with q | q
        · exact Or.inr (q ▸ List.mem_cons_self)
        · rcases List.mem_append.mp (ih _ _ _ q) with z | z
          · cases z
          · exact Or.inr (List.mem_cons_of_mem _ z)
    | cons a A =>
      cases B with
      | nil =>
        rcases List.mem_cons.mp h with q | q
        · exact Or.inl (q ▸ List.mem_cons_self)
        · rcases List.mem_append.mp (ih _ _ _ q) with z | z
          · exact Or.inl (List.mem_cons_of_mem _ z)
          · cases z
      | cons b B =>
        have h : s ∈ (if bit v j then b :: mrg v n (j + 1) (a :: A) B else a :: mrg v n (j + 1) A (b :: B)) := h
        by_cases c : bit v j
        · rw [if_pos c] at h
          rcases List.mem_cons.mp h with q | q
          · exact Or.inr (q ▸ List.mem_cons_self)
          · rcases List.mem_append.mp (ih _ _ _ q) with z | z
            · exact Or.inl z
            · exact Or.inr (List.mem_cons_of_mem _ z)
        · rw [if_neg c] at h
          rcases List.mem_cons.mp h with q | q
          · exact Or.inl (q ▸ List.mem_cons_self)
          · rcases List.mem_append.mp (ih _ _ _ q) with z | z
            · exact Or.inl (List.mem_cons_of_mem _ z)
            · exact Or.inr z
theorem c_doStep {σ : sM} {h t j : Nat} {H : LH} {L : LM} (hH : HB σ h H) (hT : TB σ t L) (hs : Srt L) (hj : j < H.length) {s : Int32 × (Int32 × Int32)} (hs1 : hA H j = s) (hr : hasP L s.2.1 ∨ L.length < 120) : ok (f_X1_doStep h (nI j) t σ) (fun q => TB q.2 t (chg L s.1 s.2.1 s.2.2) ∧ frT σ q.2 t) := by
  have hl := hH.2.1
  obtain ⟨k1, k2, k3⟩ := hH.2.2 j hj
  rw [hs1] at k1 k2 k3
  have hin : inb (nI j) 30 = true := inb_nI (by omega) (by omega)
  unfold f_X1_doStep
  refine ok_in (nI_nlt0 (by omega)) ?_
  rw [hH.1]
  refine ok_in (nI_ge hj (by omega)) (ok_chk hin (ok_chk hin (ok_chk hin ?_)))
  rw [nI_clamp (by omega), k1, k2, k3]
  exact ok_w (tb_change hT hs s.1 s.2.1 s.2.2 hr) (fun _ σ2 hx => ok_ret ⟨hx.2.1, hx.2.2⟩)
theorem c_turns {σ : sM} {h1 h2 t : Nat} {HA' HB' : LH} {L : LM} (v : Int32) (hA' : HB σ h1 HA') (i1 : isH h1) (hB' : HB σ h2 HB') (i2 : isH h2) (hT : TB σ t L) (ht : isT t) (hs : Srt L) (hl : L.length ≤ 60) : ok (f_X4_playByTurns h1 h2 v t σ) (fun q => TB q.2 t (ply L (mrg v (HA'.length + HB'.length) 0 HA' HB')) ∧ frT σ q.2 t) := by
  have la := hA'.2.1
  have lb := hB'.2.1
  have loop : ∀ (N : Nat) (A B : LH) (a b j n : Nat) (M : LM) (σ1 : sM), A.length + B.length = N → j + N = HA'.length + HB'.length → HA'.drop a = A → HB'.drop b = B → a ≤ 30 → b ≤ 30 → N + 1 ≤ n → TB σ1 t M → Srt M → M.length + N ≤ 120 → frT σ σ1 t →
      ok (b_X4_playByTurns_20 n h1 h2 v t (nI a) (nI b) (nI (HA'.length + HB'.length)) (nI j) σ1) (fun q => TB q.2 t (ply M (mrg v N j A B)) ∧ frT σ q.2 t) := by
    intro N
    induction N with
    | zero =>
      intro A B a b j n M σ1 hN hj hda hdb ha hb hn hM hsM hlM hf
      obtain ⟨n, rfl⟩ : ∃ z, n = z + 1 := ⟨n - 1, by omega⟩
      show ok (if nI (HA'.length + HB'.length) ≤ nI j then _ else _) _
      exact ok_ip (nI_le (by omega) (by omega)) (ok_ret ⟨hM, hf⟩)
    | succ N ih =>
      intro A B a b j n M σ1 hN hj hda hdb ha hb hn hM hsM hlM hf
      obtain ⟨n, rfl⟩ : ∃ z, n = z + 1 := ⟨n - 1, by omega⟩
      have gA := hA'.frT hf ht i1
      have gB := hB'.frT hf ht i2
      have hsecond : ∀ b0 B0, B = b0 :: B0 → ok (wthn (f_X1_doStep h2 (nI b) t σ1) (fun _ σ5 => b_X4_playByTurns_20 n h1 h2 v t (nI a) (nI b + 1) (nI (HA'.length + HB'.length)) (nI j + 1) σ5)) (fun q : Unit × sM => TB q.2 t (ply M (b0 :: mrg v N (j + 1) A B0)) ∧ frT σ q.2 t) := by
        intro b0 B0 e
        rw [e] at hdb hN
        rw [List.length_cons] at hN
        obtain ⟨z1, z2, z3⟩ := hA_drop hdb
        have zl := chg_len hsM b0.1 b0.2.1 b0.2.2
        refine ok_w (c_doStep gB hM hsM z1 z2 (Or.inr (by omega))) (fun _ σ5 q5 => ?_)
        rw [nI_1, nI_1]
        exact ih A B0 a (b + 1) (j + 1) n _ σ5 (by omega) (by omega) hda z3 ha (by omega) (by omega) q5.1 (chg_srt hsM _ _ _) (by omega) (hf.tr q5.2)
      have hfirst : ∀ a0 A0, A = a0 :: A0 → ok (b_X4_playByTurns_83 (b_X4_playByTurns_20 n) h1 h2 v t (nI a) (nI b) (nI (HA'.length + HB'.length)) (nI j) σ1) (fun q : Unit × sM => TB q.2 t (ply M (a0 :: mrg v N (j + 1) A0 B)) ∧ frT σ q.2 t) := by
        intro a0 A0 e
        rw [e] at hda hN
        rw [List.length_cons] at hN
        obtain ⟨z1, z2, z3⟩ := hA_drop hda
        have zl := chg_len hsM a0.1 a0.2.1 a0.2.2
        unfold b_X4_playByTurns_83
        rw [gA.1]
        refine ok_in (nI_ge z1 (by omega)) ?_
        refine ok_w (c_doStep gA hM hsM z1 z2 (Or.inr (by omega))) (fun _ σ5 q5 => ?_)
        rw [nI_1, nI_1]
        exact ih A0 B (a + 1) b (j + 1) n _ σ5 (by omega) (by omega) z3 hdb (by omega) hb (by omega) q5.1 (chg_srt hsM _ _ _) (by omega) (hf.tr q5.2)
      have h45 : ∀ x : Int32, (x = 0 ↔ ¬ bit v j) → ok (b_X4_playByTurns_45 (b_X4_playByTurns_20 n) h1 h2 v t (nI a) (nI b) (nI (HA'.length + HB'.length)) (nI j) x σ1) (fun q : Unit × sM => TB q.2 t (ply M (mrg v (N + 1) j A B)) ∧ frT σ q.2 t) := by
        intro x hx
        unfold b_X4_playByTurns_45
        rw [gB.1, gA.1]
        cases B with
        | nil =>
          refine ok_ip (nI_le (drop_nil hdb) (by omega)) ?_
          cases A with
          | nil => simp only [List.length_nil] at hN; omega
          | cons a0 A0 => exact hfirst a0 A0 rfl
        | cons b0 B0 =>
          have z1 := (hA_drop hdb).1
          refine ok_in (nI_ge z1 (by omega)) ?_
          cases A with
          | nil =>
            have na : ¬ nI a < nI HA'.length := nI_nlt (drop_nil hda) (by omega)
            exact ok_if (fun _ => ok_in na (hsecond b0 B0 rfl)) (fun _ => hsecond b0 B0 rfl)
          | cons a0 A0 =>
            have z2 := (hA_drop hda).1
            show ok _ (fun q : Unit × sM => TB q.2 t (ply M (if bit v j then b0 :: mrg v N (j + 1) (a0 :: A0) B0 else a0 :: mrg v N (j + 1) A0 (b0 :: B0))) ∧ frT σ q.2 t)
            by_cases c : bit v j
            · rw [if_pos c]
              exact ok_in (fun q => (hx.mp q) c) (hsecond b0 B0 rfl)
            · rw [if_neg c]
              exact ok_ip (hx.mpr c) (ok_ip (nI_lt z2 (by omega)) (hfirst a0 A0 rfl))
      show ok (if nI (HA'.length + HB'.length) ≤ nI j then _ else _) _
      refine ok_in (nI_ge (by omega) (by omega)) ?_
      exact ok_if (fun c => h45 1 ⟨fun q => absurd q (by decide), fun q => absurd c q⟩) (fun c => h45 0 ⟨fun _ => c, fun _ => rfl⟩)
  unfold f_X4_playByTurns
  rw [hA'.1, hB'.1, nI_add]
  exact loop _ HA' HB' 0 0 0 FU L σ rfl (by omega) rfl rfl (by omega) (by omega) (by unfold FU; omega) hT hs (by omega) frT.rf
theorem m31 : ∀ j : Fin 64, nI j.val - nI j.val / (32 : Int32) * (32 : Int32) = nI j.val &&& (31 : Int32) := by decide +kernel
theorem m_turns {σ : sM} {h1 h2 i : Nat} {HA' HB' : LH} {L : LM} (v : Int32) (hA' : HM σ h1 HA') (i1 : h1 < 3) (hB' : HM σ h2 HB') (i2 : h2 < 3) (hM : MB σ i L) (hi : i < 3) (hs : Srt L) (hr : room 60 L (mrg v (HA'.length + HB'.length) 0 HA' HB')) : ok (b_X5_playBoth_60 FU (nI h1) (nI h2) v (nI i) 0 0 0 σ) (fun q => q.1 = nI (ply L (mrg v (HA'.length + HB'.length) 0 HA' HB')).length ∧ MB q.2 i (ply L (mrg v (HA'.length + HB'.length) 0 HA' HB')) ∧ frM σ q.2 i) := by
  have la := hA'.2.1
  have lb := hB'.2.1
  have n1 : inb (nI h1) 3 = true := inb_nI i1 (by omega)
  have n2 : inb (nI h2) 3 = true := inb_nI i2 (by omega)
  have n4 : inb (nI i) 3 = true := inb_nI hi (by omega)
  have c1 : (nI h1).toNatClampNeg = h1 := nI_clamp (by omega)
  have c2 : (nI h2).toNatClampNeg = h2 := nI_clamp (by omega)
  have c4 : (nI i).toNatClampNeg = i := nI_clamp (by omega)
  have loop : ∀ (N : Nat) (A B : LH) (a b j n : Nat) (M : LM) (σ1 : sM), A.length + B.length = N → j + N = HA'.length + HB'.length → HA'.drop a = A → HB'.drop b = B → a ≤ HA'.length → b ≤ 30 → N + 1 ≤ n → MB σ1 i M → Srt M → room 60 M (mrg v N j A B) → frM σ σ1 i →
      ok (b_X5_playBoth_60 n (nI h1) (nI h2) v (nI i) (nI a) (nI b) (nI j) σ1) (fun q => q.1 = nI (ply M (mrg v N j A B)).length ∧ MB q.2 i (ply M (mrg v N j A B)) ∧ frM σ q.2 i) := by
    intro N
    induction N with
    | zero =>
      intro A B a b j n M σ1 hN hj hda hdb ha hb hn hM hsM hrM hf
      obtain ⟨n, rfl⟩ : ∃ z, n = z + 1 := ⟨n - 1, by omega⟩
      have gA := hA'.frM hf
      have gB := hB'.frM hf
      have eA : A = [] := List.eq_nil_of_length_eq_zero (by omega)
      have eB : B = [] := List.eq_nil_of_length_eq_zero (by omega)
      rw [eA] at hda
      rw [eB] at hdb
      show ok (chk (inb (nI h1) 3) (if (nI a) < (σ1 58 (nI h1).toNatClampNeg) then _ else _)) _
      refine ok_chk n1 ?_
      rw [c1, gA.1]
      refine ok_in (nI_nlt (drop_nil hda) (by omega)) (ok_chk n2 ?_)
      rw [c2, gB.1]
      refine ok_ip (nI_le (drop_nil hdb) (by omega)) (ok_chk n4 (ok_ret ⟨?_, hM, hf⟩))
      show σ1 47 (nI i).toNatClampNeg = _
      rw [c4, hM.1]
      rfl
    | succ N ih =>
      intro A B a b j n M σ1 hN hj hda hdb ha hb hn hM hsM hrM hf
      obtain ⟨n, rfl⟩ : ∃ z, n = z + 1 := ⟨n - 1, by omega⟩
      have gA := hA'.frM hf
      have gB := hB'.frM hf
      have e31 := m31 ⟨j, by omega⟩
      have hsecond : ∀ b0 B0, B = b0 :: B0 → room 60 M (b0 :: mrg v N (j + 1) A B0) → ok (b_X5_playBoth_134 (b_X5_playBoth_60 n) (nI h1) (nI h2) v (nI i) (nI a) (nI b) (nI j) 1 σ1) (fun q : Int32 × sM => q.1 = nI (ply M (b0 :: mrg v N (j + 1) A B0)).length ∧ MB q.2 i (ply M (b0 :: mrg v N (j + 1) A B0)) ∧ frM σ q.2 i) := by
        intro b0 B0 e hr0
        rw [e] at hdb hN
        rw [List.length_cons] at hN
        obtain ⟨z1, z2, z3⟩ := hA_drop hdb
        unfold b_X5_playBoth_134 b_X5_playBoth_178
        refine ok_in (by decide) ?_
        rw [ix30]
        refine ok_w (m_does hM hsM hi gB i2 z1 z2 hr0.1) (fun _ σ5 q5 => ?_)
        refine ok_in (by decide) (ok_in (by decide) ?_)
        rw [nI_1, nI_1, Int32.add_zero]
        exact ih A B0 a (b + 1) (j + 1) n _ σ5 (by omega) (by omega) hda z3 ha (by omega) (by omega) q5.2.1 (chg_srt hsM _ _ _) hr0.2 (hf.tr q5.2.2)
      have hfirst : ∀ a0 A0, A = a0 :: A0 → room 60 M (a0 :: mrg v N (j + 1) A0 B) → ok (b_X5_playBoth_134 (b_X5_playBoth_60 n) (nI h1) (nI h2) v (nI i) (nI a) (nI b) (nI j) 0 σ1) (fun q : Int32 × sM => q.1 = nI (ply M (a0 :: mrg v N (j + 1) A0 B)).length ∧ MB q.2 i (ply M (a0 :: mrg v N (j + 1) A0 B)) ∧ frM σ q.2 i) := by
        intro a0 A0 e hr0
        rw [e] at hda hN
        rw [List.length_cons] at hN
        obtain ⟨z1, z2, z3⟩ := hA_drop hda
        unfold b_X5_playBoth_134 b_X5_playBoth_178
        refine ok_ip rfl ?_
        rw [ix30]
        refine ok_w (m_does hM hsM hi gA i1 z1 z2 hr0.1) (fun _ σ5 q5 => ?_)
        refine ok_ip rfl (ok_ip rfl ?_)
        rw [nI_1, nI_1, Int32.add_zero]
        exact ih A0 B (a + 1) b (j + 1) n _ σ5 (by omega) (by omega) z3 hdb (by omega) hb (by omega) q5.2.1 (chg_srt hsM _ _ _) hr0.2 (hf.tr q5.2.2)
      have h100 : ∀ x : Int32, (x = 0 ↔ ¬ bit v j) → ok (b_X5_playBoth_100 (b_X5_playBoth_60 n) (nI h1) (nI h2) v (nI i) (nI a) (nI b) (nI j) x σ1) (fun q : Int32 × sM => q.1 = nI (ply M (mrg v (N + 1) j A B)).length ∧ MB q.2 i (ply M (mrg v (N + 1) j A B)) ∧ frM σ q.2 i) := by
        intro x hx
        unfold b_X5_playBoth_100
        refine ok_chk n1 ?_
        rw [c1, gA.1]
        cases A with
        | nil =>
          have ea : a = HA'.length := by have := drop_nil hda; omega
          refine ok_ip (by rw [ea]) ?_
          cases B with
          | nil => simp only [List.length_nil] at hN; omega
          | cons b0 B0 => exact hsecond b0 B0 rfl hrM
        | cons a0 A0 =>
          have z1 := (hA_drop hda).1
          refine ok_in (fun q => by have := (nI_eq (by omega) (by omega)).mp q; omega) ?_
          cases B with
          | nil =>
            have nb : nI HB'.length ≤ nI b := nI_le (drop_nil hdb) (by omega)
            refine ok_if (fun _ => hfirst a0 A0 rfl hrM) (fun _ => ok_chk n2 ?_)
            rw [c2, gB.1]
            exact ok_ip nb (hfirst a0 A0 rfl hrM)
          | cons b0 B0 =>
            have z2 := (hA_drop hdb).1
            have hrM : room 60 M (if bit v j then b0 :: mrg v N (j + 1) (a0 :: A0) B0 else a0 :: mrg v N (j + 1) A0 (b0 :: B0)) := hrM
            show ok _ (fun q : Int32 × sM => q.1 = nI (ply M (if bit v j then b0 :: mrg v N (j + 1) (a0 :: A0) B0 else a0 :: mrg v N (j + 1) A0 (b0 :: B0))).length ∧ MB q.2 i (ply M (if bit v j then b0 :: mrg v N (j + 1) (a0 :: A0) B0 else a0 :: mrg v N (j + 1) A0 (b0 :: B0))) ∧ frM σ q.2 i)
            by_cases c : bit v j
            · rw [if_pos c] at hrM ⊢
              refine ok_in (fun q => (hx.mp q) c) (ok_chk n2 ?_)
              rw [c2, gB.1]
              exact ok_in (nI_ge z2 (by omega)) (hsecond b0 B0 rfl hrM)
            · rw [if_neg c] at hrM ⊢
              exact ok_ip (hx.mpr c) (hfirst a0 A0 rfl hrM)
      have hbit : ok (if (((v.toUInt32 >>> ((nI j - nI j / (32 : Int32) * (32 : Int32)).toUInt32 &&& Int32.toUInt32 31)).toInt32) &&& (1 : Int32)) = (1 : Int32) then b_X5_playBoth_100 (b_X5_playBoth_60 n) (nI h1) (nI h2) v (nI i) (nI a) (nI b) (nI j) 1 σ1 else b_X5_playBoth_100 (b_X5_playBoth_60 n) (nI h1) (nI h2) v (nI i) (nI a) (nI b) (nI j) 0 σ1) (fun q : Int32 × sM => q.1 = nI (ply M (mrg v (N + 1) j A B)).length ∧ MB q.2 i (ply M (mrg v (N + 1) j A B)) ∧ frM σ q.2 i) := by
        rw [e31]
        exact ok_if (fun c => h100 1 ⟨fun q => absurd q (by decide), fun q => absurd c q⟩) (fun c => h100 0 ⟨fun _ => c, fun _ => rfl⟩)
      show ok (chk (inb (nI h1) 3) (if (nI a) < (σ1 58 (nI h1).toNatClampNeg) then _ else _)) _
      refine ok_chk n1 ?_
      refine ok_if (fun _ => hbit) (fun c => ok_chk n2 ?_)
      refine ok_in (fun q => ?_) hbit
      rw [c1, gA.1] at c
      rw [c2, gB.1] at q
      have e1 : HA'.length ≤ a := Nat.le_of_not_lt (fun z => c (nI_lt z (by omega)))
      have e2 : HB'.length ≤ b := by
        rcases Nat.lt_or_ge b HB'.length with z | z
        · exact absurd q (nI_ge z (by omega))
        · exact z
      have y1 : A = [] := by rw [← hda]; exact List.drop_eq_nil_iff.mpr e1
      have y2 : B = [] := by rw [← hdb]; exact List.drop_eq_nil_iff.mpr e2
      rw [y1, y2] at hN
      simp only [List.length_nil] at hN
      omega
  exact loop _ HA' HB' 0 0 0 FU L σ rfl (by omega) rfl rfl (by omega) (by omega) (by unfold FU; omega) hM hs hr frM.rf
