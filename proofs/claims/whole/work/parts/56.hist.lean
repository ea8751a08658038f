/-! histories: of the class, of the reference; playing them -/
abbrev LH : Type := List (Int32 × (Int32 × Int32))
def hA (H : LH) (j : Nat) : Int32 × (Int32 × Int32) := H.getD j (0, (0, 0))
def HB (σ : sM) (h : Nat) (H : LH) : Prop := σ h 0 = nI H.length ∧ H.length ≤ 30 ∧ ∀ j, j < H.length → σ (h + 1) j = (hA H j).1 ∧ σ (h + 2) j = (hA H j).2.1 ∧ σ (h + 3) j = (hA H j).2.2
def HM (σ : sM) (h : Nat) (H : LH) : Prop := σ 58 h = nI H.length ∧ H.length ≤ 30 ∧ ∀ j, j < H.length → σ 55 (30 * h + j) = (hA H j).1 ∧ σ 56 (30 * h + j) = (hA H j).2.1 ∧ σ 57 (30 * h + j) = (hA H j).2.2
theorem HB.same {σ σ' : sM} {h : Nat} {H : LH} (hH : HB σ h H) (h0 : σ' h = σ h) (h1 : σ' (h + 1) = σ (h + 1)) (h2 : σ' (h + 2) = σ (h + 2)) (h3 : σ' (h + 3) = σ (h + 3)) : HB σ' h H := ⟨by rw [h0]; exact hH.1, hH.2.1, fun j hj => by rw [h1, h2, h3]; exact hH.2.2 j hj⟩
theorem HM.same {σ σ' : sM} {h : Nat} {H : LH} (hH : HM σ h H) (h5 : σ' 55 = σ 55) (h6 : σ' 56 = σ 56) (h7 : σ' 57 = σ 57) (h8 : σ' 58 = σ 58) : HM σ' h H := ⟨by rw [h8]; exact hH.1, hH.2.1, fun j hj => by rw [h5, h6, h7]; exact hH.2.2 j hj⟩
theorem HB.frT {σ σ' : sM} {h t : Nat} {H : LH} (hH : HB σ h H) (hf : frT σ σ' t) (ht : isT t) (hh : isH h) : HB σ' h H := by
  unfold isT at ht
  unfold isH at hh
  refine hH.same (hf _ ?_ ?_ ?_) (hf _ ?_ ?_ ?_) (hf _ ?_ ?_ ?_) (hf _ ?_ ?_ ?_) <;> omega
theorem HM.frM {σ σ' : sM} {h i : Nat} {H : LH} (hH : HM σ h H) (hf : frM σ σ' i) : HM σ' h H :=
  hH.same (hf.1 _ (by omega) (by omega) (by omega)) (hf.1 _ (by omega) (by omega) (by omega)) (hf.1 _ (by omega) (by omega) (by omega)) (hf.1 _ (by omega) (by omega) (by omega))
theorem hA_drop {H : LH} {j : Nat} {s : Int32 × (Int32 × Int32)} {R : LH} (h : H.drop j = s :: R) : j < H.length ∧ hA H j = s ∧ H.drop (j + 1) = R := by
  have hj : j < H.length := by
    rcases Nat.lt_or_ge j H.length with q | q
    · exact q
    · rw [List.drop_of_length_le q] at h; cases h
  rw [List.drop_eq_getElem_cons hj] at h
  obtain ⟨h1, h2⟩ := List.cons.inj h
  refine ⟨hj, ?_, h2⟩
  unfold hA
  rw [List.getD_eq_getElem?_getD, List.getElem?_eq_getElem hj]
  exact h1
theorem drop_nil {H : LH} {j : Nat} (h : H.drop j = []) : H.length ≤ j := List.drop_eq_nil_iff.mp h
/-- what a play makes of a list, and how many of its steps left it unlike -/
def ply : LM → LH → LM
  | L, [] => L
  | L, s :: r => ply (chg L s.1 s.2.1 s.2.2) r
def plyN : LM → LH → Int32 → Int32
  | _, [], n => n
  | L, s :: r, n => plyN (chg L s.1 s.2.1 s.2.2) r (if chgF L s.1 s.2.1 s.2.2 = 0 then n else n + 1)
theorem ply_srt {L : LM} (hs : Srt L) (H : LH) : Srt (ply L H) := by
  induction H generalizing L with
  | nil => exact hs
  | cons s r ih => exact ih (chg_srt hs _ _ _)
/-- room enough for all steps of a play -/
def room (N : Nat) : LM → LH → Prop
  | _, [] => True
  | L, s :: r => (hasP L s.2.1 ∨ L.length < N) ∧ room N (chg L s.1 s.2.1 s.2.2) r
theorem ins_len {L : LM} (hs : Srt L) (k v : Int32) : (ins L k v).length ≤ L.length + 1 := by
  by_cases h : has L k
  · rw [ins_old_len hs h]; omega
  · rw [ins_new_len hs h]; omega
theorem del_len {L : LM} (hs : Srt L) (k : Int32) : (del L k).length ≤ L.length := by
  by_cases h : has L k
  · rw [del_old_len hs h]; omega
  · rw [del_new hs h]; omega
theorem chg_len {L : LM} (hs : Srt L) (kind k n : Int32) : (chg L kind k n).length ≤ L.length + 1 := by
  unfold chg
  split
  · have := del_len hs k; omega
  · split
    · split
      · exact ins_len hs _ _
      · split
        · omega
        · exact ins_len hs _ _
    · split
      · omega
      · exact ins_len hs _ _
theorem ply_len {L : LM} (hs : Srt L) (H : LH) : (ply L H).length ≤ L.length + H.length := by
  induction H generalizing L with
  | nil => exact Nat.le_refl _
  | cons s r ih =>
    have h1 := ih (chg_srt hs s.1 s.2.1 s.2.2)
    have h2 := chg_len hs s.1 s.2.1 s.2.2
    show (ply (chg L s.1 s.2.1 s.2.2) r).length ≤ L.length + (r.length + 1)
    omega
theorem room_big {L : LM} (hs : Srt L) (H : LH) {N : Nat} (h : L.length + H.length ≤ N) : room N L H := by
  induction H generalizing L with
  | nil => trivial
  | cons s r ih =>
    have h2 := chg_len hs s.1 s.2.1 s.2.2
    have h3 : (s :: r : LH).length = r.length + 1 := rfl
    exact ⟨Or.inr (by omega), ih (chg_srt hs _ _ _) (by omega)⟩
theorem room_mono {L : LM} (H : LH) {N M : Nat} (hn : N ≤ M) (h : room N L H) : room M L H := by
  induction H generalizing L with
  | nil => trivial
  | cons s r ih => exact ⟨h.1.elim Or.inl (fun q => Or.inr (by omega)), ih h.2⟩
theorem c_playOn {σ : sM} {h t : Nat} {H : LH} {L : LM} (hH : HB σ h H) (hh : isH h) (hT : TB σ t L) (ht : isT t) (hs : Srt L) (hr : room 120 L H) : ok (f_X1_playOn h t σ) (fun q => q.1 = plyN L H 0 ∧ TB q.2 t (ply L H) ∧ frT σ q.2 t) := by
  have hl := hH.2.1
  have loop : ∀ (R : LH) (j n : Nat) (M : LM) (c : Int32) (σ1 : sM), H.drop j = R → j ≤ 30 → R.length + 1 ≤ n → TB σ1 t M → Srt M → room 120 M R → frT σ σ1 t → ok (b_X1_playOn_4 n h t c (nI j) σ1) (fun q => q.1 = plyN M R c ∧ TB q.2 t (ply M R) ∧ frT σ q.2 t) := by
    intro R
    induction R with
    | nil =>
      intro j n M c σ1 hd hj30 hn hM _ _ hf
      obtain ⟨n, rfl⟩ : ∃ z, n = z + 1 := ⟨n - 1, by omega⟩
      have hB := hH.frT hf ht hh
      show ok (if (σ1 h 0) ≤ nI j then _ else _) _
      rw [hB.1]
      exact ok_ip (nI_le (drop_nil hd) (by omega)) (ok_ret ⟨rfl, hM, hf⟩)
    | cons s r ih =>
      intro j n M c σ1 hd hj30 hn hM hsM hrm hf
      obtain ⟨n, rfl⟩ : ∃ z, n = z + 1 := ⟨n - 1, by omega⟩
      obtain ⟨hj, hs1, hd1⟩ := hA_drop hd
      have hB := hH.frT hf ht hh
      have hn2 : r.length + 1 ≤ n := by have : (s :: r : LH).length = r.length + 1 := rfl; omega
      obtain ⟨k1, k2, k3⟩ := hB.2.2 j hj
      rw [hs1] at k1 k2 k3
      have hin : inb (nI j) 30 = true := inb_nI (by omega) (by omega)
      show ok (if (σ1 h 0) ≤ nI j then _ else _) _
      rw [hB.1]
      refine ok_in (nI_ge hj (by omega)) ?_
      refine ok_chk hin (ok_chk hin (ok_chk hin ?_))
      rw [nI_clamp (by omega), k1, k2, k3]
      refine ok_w (tb_change hM hsM s.1 s.2.1 s.2.2 hrm.1) (fun x σ2 hx => ?_)
      obtain ⟨x1, x2, x3⟩ := hx
      have x1 : x = chgF M s.1 s.2.1 s.2.2 := x1
      rw [x1, nI_1]
      show ok _ (fun q : Int32 × sM => q.1 = plyN (chg M s.1 s.2.1 s.2.2) r (if chgF M s.1 s.2.1 s.2.2 = 0 then c else c + 1) ∧ TB q.2 t (ply (chg M s.1 s.2.1 s.2.2) r) ∧ frT σ q.2 t)
      by_cases q : chgF M s.1 s.2.1 s.2.2 = 0
      · rw [if_pos q, if_pos q]
        exact ih (j + 1) n _ c σ2 hd1 (by omega) hn2 x2 (chg_srt hsM _ _ _) hrm.2 (hf.tr x3)
      · rw [if_neg q, if_neg q]
        exact ih (j + 1) n _ (c + 1) σ2 hd1 (by omega) hn2 x2 (chg_srt hsM _ _ _) hrm.2 (hf.tr x3)
  exact loop H 0 FU L 0 σ rfl (by omega) (by unfold FU; omega) hT hs hr frT.rf
/-! the reference does a step -/
theorem m_does {σ : sM} {i h j : Nat} {L : LM} {H : LH} (hM : MB σ i L) (hs : Srt L) (hi : i < 3) (hH : HM σ h H) (hh : h < 3) (hj : j < H.length) {s : Int32 × (Int32 × Int32)} (hs1 : hA H j = s) (hroom : hasP L s.2.1 ∨ L.length < 60) : ok (f_X5_does (nI i) (nI (30 * h + j)) σ) (fun q => q.1 = chgF L s.1 s.2.1 s.2.2 ∧ MB q.2 i (chg L s.1 s.2.1 s.2.2) ∧ frM σ q.2 i) := by
  have hl := hM.2.1
  have hl2 := hH.2.1
  have hc := cb_le L s.2.1
  obtain ⟨k1, k2, k3⟩ := hH.2.2 j hj
  rw [hs1] at k1 k2 k3
  have hin : inb (nI (30 * h + j)) 90 = true := inb_nI (by omega) (by omega)
  have put : ∀ (n v6 v7 : Int32), chg L s.1 s.2.1 s.2.2 = ins L s.2.1 n → (v6 = 0 ∧ lk L s.2.1 = none ∨ v6 ≠ 0 ∧ lk L s.2.1 = some v7) → ok (b_X5_does_132 (nI i) s.2.1 v6 v7 n σ) (fun q => q.1 = chgF L s.1 s.2.1 s.2.2 ∧ MB q.2 i (chg L s.1 s.2.1 s.2.2) ∧ frM σ q.2 i) := by
    intro n v6 v7 e h67
    unfold b_X5_does_132
    refine ok_w (m_puts hM hs hi s.2.1 n hroom) (fun _ σ2 hx => ?_)
    have hF : chgF L s.1 s.2.1 s.2.2 = if some n = lk L s.2.1 then 0 else 1 := by
      unfold chgF
      rw [e, lk_ins hs, if_pos rfl]
    rw [hF, e]
    rcases h67 with ⟨a, b⟩ | ⟨a, b⟩
    · rw [b]
      refine ok_ip a (ok_ret ⟨?_, hx.1, hx.2⟩)
      rw [if_neg (by intro c; cases c)]
    · rw [b]
      refine ok_in a (ok_if (fun c => ok_ret ⟨?_, hx.1, hx.2⟩) (fun c => ok_ret ⟨?_, hx.1, hx.2⟩))
      · rw [if_pos (by rw [c])]
      · rw [if_neg (fun z => c (Option.some.inj z))]
  have stay : chg L s.1 s.2.1 s.2.2 = L → ok (some ((0 : Int32), σ)) (fun q => q.1 = chgF L s.1 s.2.1 s.2.2 ∧ MB q.2 i (chg L s.1 s.2.1 s.2.2) ∧ frM σ q.2 i) := by
    intro e
    refine ok_ret ⟨?_, by rw [e]; exact hM, frM.rf⟩
    unfold chgF
    rw [e, if_pos rfl]
  unfold f_X5_does
  refine ok_chk hin (ok_chk hin (ok_chk hin ?_))
  rw [nI_clamp (by omega), k1, k2, k3]
  refine ok_r (m_has hM hs hi s.2.1) ?_
  by_cases hp : hasP L s.2.1
  · have hlk := lk_has hs hp
    have hlt := hp.1
    rw [if_pos hp]
    refine ok_in (by decide) ?_
    refine ok_r (m_placeOf hM hs hi s.2.1) ?_
    rw [if_pos hp, ix]
    refine ok_chk (inb_nI (by omega) (by omega)) ?_
    rw [nI_clamp (by omega), (hM.2.2 _ hlt).2]
    unfold b_X5_does_56
    refine ok_if (fun c => ?_) (fun c => ?_)
    · have e : chg L s.1 s.2.1 s.2.2 = del L s.2.1 := by unfold chg; rw [if_pos c]
      refine ok_in (by decide) ?_
      refine ok_r (m_placeOf hM hs hi s.2.1) ?_
      rw [if_pos hp]
      refine ok_w (m_takes hM hi hlt) (fun _ σ2 hx => ?_)
      refine ok_chk (by decide) (ok_ret ⟨?_, ?_, hx.2⟩)
      · show (1 : Int32) = _
        unfold chgF
        rw [e, lk_del hs, if_pos rfl, hlk, if_neg (by intro c; cases c)]
      · show MB σ2 i _
        rw [e, del_old hs hp, erase_td]
        exact hx.1
    · refine ok_if (fun c2 => ok_in (by decide) (stay ?_)) (fun c2 => ?_)
      · unfold chg
        rw [if_neg c, hlk]
        dsimp only
        rw [if_neg (by rw [c2]; decide), if_pos c2]
      · unfold b_X5_does_96
        have rest : ok (if s.1 = (115 : Int32) then (if (1 : Int32) = 0 then b_X5_does_132 (nI i) s.2.1 1 (vA L (cb L s.2.1)) s.2.2 σ else b_X5_does_132 (nI i) s.2.1 1 (vA L (cb L s.2.1)) (vA L (cb L s.2.1) + s.2.2) σ) else b_X5_does_132 (nI i) s.2.1 1 (vA L (cb L s.2.1)) s.2.2 σ) (fun q => q.1 = chgF L s.1 s.2.1 s.2.2 ∧ MB q.2 i (chg L s.1 s.2.1 s.2.2) ∧ frM σ q.2 i) := by
          refine ok_if (fun c3 => ok_in (by decide) (put _ _ _ ?_ (Or.inr ⟨by decide, hlk⟩))) (fun c3 => put _ _ _ ?_ (Or.inr ⟨by decide, hlk⟩))
          · unfold chg
            rw [if_neg c, hlk]
            dsimp only
            rw [if_pos c3]
          · unfold chg
            rw [if_neg c, hlk]
            dsimp only
            rw [if_neg c3, if_neg c2]
        exact ok_if (fun c4 => ok_in (by decide) rest) (fun c4 => rest)
  · have hlk := lk_not hs hp
    rw [if_neg hp]
    refine ok_ip rfl ?_
    unfold b_X5_does_56
    refine ok_if (fun c => ok_ip rfl (ok_chk (by decide) (stay ?_))) (fun c => ?_)
    · unfold chg
      rw [if_pos c, del_new hs hp]
    · have r96 : ok (b_X5_does_96 (nI i) s.2.1 s.2.2 s.1 0 0 σ) (fun q => q.1 = chgF L s.1 s.2.1 s.2.2 ∧ MB q.2 i (chg L s.1 s.2.1 s.2.2) ∧ frM σ q.2 i) := by
        unfold b_X5_does_96
        refine ok_if (fun c4 => ok_ip rfl (stay ?_)) (fun c4 => ?_)
        · unfold chg
          rw [if_neg c, hlk]
          dsimp only
          rw [if_pos c4]
        · have e : chg L s.1 s.2.1 s.2.2 = ins L s.2.1 s.2.2 := by
            unfold chg
            rw [if_neg c, hlk]
            dsimp only
            rw [if_neg c4]
          exact ok_if (fun c3 => ok_ip rfl (put _ _ _ e (Or.inl ⟨rfl, hlk⟩))) (fun c3 => put _ _ _ e (Or.inl ⟨rfl, hlk⟩))
      exact ok_if (fun c2 => ok_ip rfl r96) (fun c2 => r96)
theorem ix30 {i j : Nat} : (30 : Int32) * nI i + nI j = nI (30 * i + j) := by
  rw [show (30 : Int32) = nI 30 from rfl, pk_mul, nI_add]
theorem m_play47 {σ : sM} {h i : Nat} {H : LH} {L : LM} (hH : HM σ h H) (hh : h < 3) (hM : MB σ i L) (hi : i < 3) (hs : Srt L) (hr : room 60 L H) : ok (b_X5_play_47 FU (nI h) (nI i) 0 0 σ) (fun q => q.1 = plyN L H 0 ∧ MB q.2 i (ply L H) ∧ frM σ q.2 i) := by
  have hl := hH.2.1
  have hin : inb (nI h) 3 = true := inb_nI hh (by omega)
  have hci : (nI h).toNatClampNeg = h := nI_clamp (by omega)
  have loop : ∀ (R : LH) (j n : Nat) (M : LM) (c : Int32) (σ1 : sM), H.drop j = R → j ≤ 30 → R.length + 1 ≤ n → MB σ1 i M → Srt M → room 60 M R → frM σ σ1 i → ok (b_X5_play_47 n (nI h) (nI i) c (nI j) σ1) (fun q => q.1 = plyN M R c ∧ MB q.2 i (ply M R) ∧ frM σ q.2 i) := by
    intro R
    induction R with
    | nil =>
      intro j n M c σ1 hd hj30 hn hM _ _ hf
      obtain ⟨n, rfl⟩ : ∃ z, n = z + 1 := ⟨n - 1, by omega⟩
      have hB := hH.frM hf
      show ok (chk (inb (nI h) 3) (if (σ1 58 (nI h).toNatClampNeg) ≤ nI j then _ else _)) _
      refine ok_chk hin ?_
      rw [hci, hB.1]
      exact ok_ip (nI_le (drop_nil hd) (by omega)) (ok_ret ⟨rfl, hM, hf⟩)
    | cons s r ih =>
      intro j n M c σ1 hd hj30 hn hM hsM hrm hf
      obtain ⟨n, rfl⟩ : ∃ z, n = z + 1 := ⟨n - 1, by omega⟩
      obtain ⟨hj, hs1, hd1⟩ := hA_drop hd
      have hB := hH.frM hf
      have hn2 : r.length + 1 ≤ n := by have : (s :: r : LH).length = r.length + 1 := rfl; omega
      show ok (chk (inb (nI h) 3) (if (σ1 58 (nI h).toNatClampNeg) ≤ nI j then _ else _)) _
      refine ok_chk hin ?_
      rw [hci, hB.1]
      refine ok_in (nI_ge hj (by omega)) ?_
      rw [ix30]
      refine ok_w (m_does hM hsM hi hB hh hj hs1 hrm.1) (fun x σ2 hx => ?_)
      obtain ⟨x1, x2, x3⟩ := hx
      have x1 : x = chgF M s.1 s.2.1 s.2.2 := x1
      rw [x1, nI_1, Int32.add_zero]
      show ok _ (fun q : Int32 × sM => q.1 = plyN (chg M s.1 s.2.1 s.2.2) r (if chgF M s.1 s.2.1 s.2.2 = 0 then c else c + 1) ∧ MB q.2 i (ply (chg M s.1 s.2.1 s.2.2) r) ∧ frM σ q.2 i)
      by_cases q : chgF M s.1 s.2.1 s.2.2 = 0
      · rw [if_pos q, if_pos q]
        exact ih (j + 1) n _ c σ2 hd1 (by omega) hn2 x2 (chg_srt hsM _ _ _) hrm.2 (hf.tr x3)
      · rw [if_neg q, if_neg q]
        exact ih (j + 1) n _ (c + 1) σ2 hd1 (by omega) hn2 x2 (chg_srt hsM _ _ _) hrm.2 (hf.tr x3)
  exact loop H 0 FU L 0 σ rfl (by omega) (by unfold FU; omega) hM hs hr frM.rf
