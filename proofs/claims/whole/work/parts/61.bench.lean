/-! what the class's self-test finds -/
def frB (σ σ' : sM) : Prop := ∀ k, (k < 15 ∨ (24 ≤ k ∧ k < 40) ∨ 44 ≤ k) → σ' k = σ k
theorem frB.rf {σ : sM} : frB σ σ := fun _ _ => rfl
theorem frB.tr {σ σ1 σ2 : sM} (a : frB σ σ1) (b : frB σ1 σ2) : frB σ σ2 := fun k h => (b k h).trans (a k h)
theorem frT.B {σ σ' : sM} {t : Nat} (h : frT σ σ' t) (ht : t = 15 ∨ t = 18 ∨ t = 21) : frB σ σ' := fun k hk => h k (by omega) (by omega) (by omega)
theorem TB.frB {σ σ' : sM} {t : Nat} {L : LM} (h : TB σ t L) (hf : frB σ σ') (ht : t = 6 ∨ t = 9 ∨ t = 12) : TB σ' t L := by
  have e0 : σ' t = σ t := hf t (by omega)
  have e1 : σ' (t + 1) = σ (t + 1) := hf (t + 1) (by omega)
  have e2 : σ' (t + 2) = σ (t + 2) := hf (t + 2) (by omega)
  exact ⟨by rw [e0]; exact h.1, h.2.1, fun j hj => by rw [e1, e2]; exact h.2.2 j hj⟩
theorem HB.frB {σ σ' : sM} {h : Nat} {H : LH} (hH : HB σ h H) (hf : frB σ σ') (hh : h = 28 ∨ h = 32 ∨ h = 36) : HB σ' h H :=
  hH.same (hf _ (by omega)) (hf _ (by omega)) (hf _ (by omega)) (hf _ (by omega))
theorem isT_m {t : Nat} (h : t = 6 ∨ t = 9 ∨ t = 12) : isT t := by unfold isT; omega
theorem isH_m {h : Nat} (hh : h = 28 ∨ h = 32 ∨ h = 36) : isH h := by unfold isH; omega
theorem isT15 : isT 15 := by unfold isT; omega
theorem isT18 : isT 18 := by unfold isT; omega
theorem isT21 : isT 21 := by unfold isT; omega
theorem isH40 : isH 40 := by unfold isH; omega
/-- what the steps of a play do to the entry of one key -/
def fS (q : Int32) : LH → Option Int32 → Option Int32
  | [], o => o
  | s :: r, o => fS q r (if s.2.1 = q then stepV s.1 s.2.2 o else o)
theorem lk_ply {L : LM} (hs : Srt L) (H : LH) (q : Int32) : lk (ply L H) q = fS q H (lk L q) := by
  induction H generalizing L with
  | nil => rfl
  | cons s r ih =>
    show lk (ply (chg L s.1 s.2.1 s.2.2) r) q = fS q r (if s.2.1 = q then stepV s.1 s.2.2 (lk L q) else lk L q)
    rw [ih (chg_srt hs _ _ _), lk_chg hs]
    by_cases e : s.2.1 = q
    · rw [if_pos e, if_pos e, e]
    · rw [if_neg e, if_neg e]
theorem fS_id {q : Int32} {H : LH} (h : ∀ s, s ∈ H → s.2.1 ≠ q) (o : Option Int32) : fS q H o = o := by
  induction H generalizing o with
  | nil => rfl
  | cons s r ih =>
    show fS q r (if s.2.1 = q then stepV s.1 s.2.2 o else o) = o
    rw [if_neg (h s List.mem_cons_self)]
    exact ih (fun x hx => h x (List.mem_cons_of_mem _ hx)) o
theorem com_0 {A B : LH} (h : com A B = 0) (q : Int32) : (∀ s, s ∈ A → s.2.1 ≠ q) ∨ (∀ s, s ∈ B → s.2.1 ≠ q) := by
  have e : cmn (adk [] A) (adk [] B) = [] := List.eq_nil_of_length_eq_zero h
  have h2 := lk_cmn (adk_srt srt_nil A) (adk [] B) q
  rw [e] at h2
  by_cases c : lk (adk [] B) q = none
  · exact Or.inr ((lk_adk srt_nil z_nil B q).mp c).2
  · rw [if_neg c] at h2
    exact Or.inl ((lk_adk srt_nil z_nil A q).mp h2.symm).2
theorem ply_comm {L : LM} (hs : Srt L) {A B : LH} (h : com A B = 0) : ply (ply L A) B = ply (ply L B) A := by
  refine srt_ext (ply_srt (ply_srt hs _) _) (ply_srt (ply_srt hs _) _) (fun q => ?_)
  rw [lk_ply (ply_srt hs _), lk_ply (ply_srt hs _), lk_ply hs, lk_ply hs]
  rcases com_0 h q with z | z
  · rw [fS_id z, fS_id z]
  · rw [fS_id z, fS_id z]
theorem opp_mem {L K : LM} {s : Int32 × (Int32 × Int32)} (h : s ∈ opp L K) : ∃ a, a ∈ K ∧ s.2.1 = a.1 := by
  induction K with
  | nil => cases h
  | cons a r ih =>
    rcases List.mem_cons.mp h with q | q
    · refine ⟨a, List.mem_cons_self, ?_⟩
      rw [q]
      cases lk L a.1 <;> rfl
    · obtain ⟨b, b1, b2⟩ := ih q
      exact ⟨b, List.mem_cons_of_mem _ b1, b2⟩
theorem fS_opp (L : LM) (q : Int32) : ∀ (K : LM), Srt K → ∀ o, fS q (opp L K) o = if lk K q = none then o else lk L q := by
  intro K
  induction K with
  | nil => intro _ o; rfl
  | cons a r ih =>
    intro hs o
    by_cases e : a.1 = q
    · have hk : ¬ lk (a :: r) q = none := by
        show ¬ (if a.1 = q then some a.2 else lk r q) = none
        rw [if_pos e]; intro c; cases c
      rw [if_neg hk]
      have nr : ∀ x, fS q (opp L r) x = x := fun x => fS_id (fun s hs2 => by
        obtain ⟨b, b1, b2⟩ := opp_mem hs2
        intro c
        have := hs.hd b b1
        rw [← b2, c, e] at this
        exact i_irr _ this) x
      show fS q (opp L r) (if (match lk L a.1 with | some v => ((112 : Int32), (a.1, v)) | none => (114, (a.1, 0))).2.1 = q then stepV _ _ o else o) = lk L q
      rw [nr, e]
      cases lk L q with
      | none =>
        show (if q = q then stepV 114 0 o else o) = none
        rw [if_pos rfl]; rfl
      | some v =>
        show (if q = q then stepV 112 v o else o) = some v
        rw [if_pos rfl]
        cases o <;> rfl
    · have hk : lk (a :: r) q = lk r q := by
        show (if a.1 = q then some a.2 else lk r q) = lk r q
        rw [if_neg e]
      rw [hk, ← ih hs.tl o]
      show fS q (opp L r) (if (match lk L a.1 with | some v => ((112 : Int32), (a.1, v)) | none => (114, (a.1, 0))).2.1 = q then stepV _ _ o else o) = fS q (opp L r) o
      cases lk L a.1 with
      | none =>
        show fS q (opp L r) (if a.1 = q then stepV 114 0 o else o) = _
        rw [if_neg e]
      | some v =>
        show fS q (opp L r) (if a.1 = q then stepV 112 v o else o) = _
        rw [if_neg e]
theorem ply_opp {L : LM} (hs : Srt L) (A : LH) : ply (ply L A) (opp L (adk [] A)) = L := by
  refine srt_ext (ply_srt (ply_srt hs _) _) hs (fun q => ?_)
  rw [lk_ply (ply_srt hs _), fS_opp L q _ (adk_srt srt_nil A)]
  by_cases c : lk (adk [] A) q = none
  · rw [if_pos c, lk_ply hs, fS_id ((lk_adk srt_nil z_nil A q).mp c).2]
  · rw [if_neg c]
theorem c_orderFree {σ : sM} {h1 h2 t : Nat} {A B : LH} {L : LM} (hA : HB σ h1 A) (i1 : h1 = 28 ∨ h1 = 32 ∨ h1 = 36) (hB : HB σ h2 B) (i2 : h2 = 28 ∨ h2 = 32 ∨ h2 = 36) (hT : TB σ t L) (it : t = 6 ∨ t = 9 ∨ t = 12) (hs : Srt L) (hl : L.length ≤ 60) : ok (f_X0_isOrderFree h1 h2 t σ) (fun q => q.1 = 1 ∧ frB σ q.2) := by
  have lA := hA.2.1
  have lB := hB.2.1
  have pA := ply_len hs A
  have pB := ply_len hs B
  have hcl : com A B ≤ 30 := by
    have := flt_cmn (adk [] A) (adk [] B)
    have := adk_len srt_nil A
    simp only [List.length_nil] at *
    unfold com
    omega
  unfold f_X0_isOrderFree
  refine ok_w (c_common hA (isH_m i1) hB (isH_m i2)) (fun x σ0 q0 => ?_)
  have xe : x = nI (com A B) := q0.1
  have f0 : frB σ σ0 := q0.2.B (by omega)
  rw [xe]
  refine ok_if (fun c => ?_) (fun c => ok_ret ⟨rfl, f0⟩)
  have hc : com A B = 0 := Nat.eq_zero_of_not_pos (fun hp => nI_nle hp (by omega) c)
  replace hA := hA.frB f0 i1
  replace hB := hB.frB f0 i2
  replace hT := hT.frB f0 it
  refine ok_mono (P := fun q => q.1 = 1 ∧ frB σ0 q.2) ?_ (fun q hq => ⟨hq.1, f0.tr hq.2⟩)
  clear xe q0
  refine ok_w (tb_copy hT isT18 (isT_m it) (by omega)) (fun _ σ1 q1 => ?_)
  have f1 : frB σ0 σ1 := q1.2.B (by omega)
  refine ok_w (c_playOn (hA.frB f1 i1) (isH_m i1) q1.1 isT18 hs (room_big hs A (by omega))) (fun _ σ2 q2 => ?_)
  have f2 : frB σ0 σ2 := f1.tr (q2.2.2.B (by omega))
  refine ok_w (c_playOn (hB.frB f2 i2) (isH_m i2) q2.2.1 isT18 (ply_srt hs A) (room_big (ply_srt hs A) B (by omega))) (fun _ σ3 q3 => ?_)
  have f3 : frB σ0 σ3 := f2.tr (q3.2.2.B (by omega))
  refine ok_w (tb_copy (hT.frB f3 it) isT21 (isT_m it) (by omega)) (fun _ σ4 q4 => ?_)
  have f4 : frB σ0 σ4 := f3.tr (q4.2.B (by omega))
  have k4 : TB σ4 18 (ply (ply L A) B) := q3.2.1.fr q4.2 isT21 isT18 (by omega)
  refine ok_w (c_playOn (hB.frB f4 i2) (isH_m i2) q4.1 isT21 hs (room_big hs B (by omega))) (fun _ σ5 q5 => ?_)
  have f5 : frB σ0 σ5 := f4.tr (q5.2.2.B (by omega))
  have k5 : TB σ5 18 (ply (ply L A) B) := k4.fr q5.2.2 isT21 isT18 (by omega)
  refine ok_w (c_playOn (hA.frB f5 i1) (isH_m i1) q5.2.1 isT21 (ply_srt hs B) (room_big (ply_srt hs B) A (by omega))) (fun _ σ6 q6 => ?_)
  have f6 : frB σ0 σ6 := f5.tr (q6.2.2.B (by omega))
  have k6 : TB σ6 18 (ply (ply L A) B) := k5.fr q6.2.2 isT21 isT18 (by omega)
  refine ok_rb (tb_same k6 q6.2.1) (fun v hv => ?_)
  rw [if_pos (ply_comm hs hc)] at hv
  rw [hv]
  exact ok_chk (by decide) (ok_ret ⟨rfl, f6⟩)
theorem c_undone {σ : sM} {h t : Nat} {A : LH} {L : LM} (hA : HB σ h A) (i1 : h = 28 ∨ h = 32 ∨ h = 36) (hT : TB σ t L) (it : t = 6 ∨ t = 9 ∨ t = 12) (hs : Srt L) (hl : L.length ≤ 60) : ok (f_X0_isUndone h t σ) (fun q => q.1 = 1 ∧ frB σ q.2) := by
  have lA := hA.2.1
  have pA := ply_len hs A
  have lK := adk_len srt_nil A
  simp only [List.length_nil] at lK
  have lO := opp_len L (adk [] A)
  unfold f_X0_isUndone
  refine ok_w (c_turn hA (isH_m i1) isH40 hT (isT_m it) (by omega) hs) (fun _ σ1 q1 => ?_)
  have f1 : frB σ σ1 := fun k hk => q1.2 k (by omega) (by omega) (by omega) (by omega) (by omega) (by omega) (by omega)
  refine ok_w (tb_copy (hT.frB f1 it) isT18 (isT_m it) (by omega)) (fun _ σ2 q2 => ?_)
  have f2 : frB σ σ2 := f1.tr (q2.2.B (by omega))
  have o2 : HB σ2 40 (opp L (adk [] A)) := q1.1.frT q2.2 isT18 isH40
  refine ok_w (c_playOn (hA.frB f2 i1) (isH_m i1) q2.1 isT18 hs (room_big hs A (by omega))) (fun _ σ3 q3 => ?_)
  have f3 : frB σ σ3 := f2.tr (q3.2.2.B (by omega))
  have o3 : HB σ3 40 (opp L (adk [] A)) := o2.frT q3.2.2 isT18 isH40
  refine ok_w (c_playOn o3 isH40 q3.2.1 isT18 (ply_srt hs A) (room_big (ply_srt hs A) _ (by omega))) (fun _ σ4 q4 => ?_)
  have f4 : frB σ σ4 := f3.tr (q4.2.2.B (by omega))
  refine ok_rb (tb_same q4.2.1 (hT.frB f4 it)) (fun v hv => ?_)
  rw [if_pos (ply_opp hs A)] at hv
  rw [hv]
  exact ok_chk (by decide) (ok_ret ⟨rfl, f4⟩)
/-! mixing -/
def mixv (w a b : Int32) : Int32 := if w = 115 then a + b else if w = 103 then (if a < b then b else a) else (if b < a then b else a)
theorem mixv_comm (w a b : Int32) : mixv w a b = mixv w b a := by
  unfold mixv
  by_cases h1 : w = 115
  · rw [if_pos h1, if_pos h1, Int32.add_comm]
  · rw [if_neg h1, if_neg h1]
    by_cases h2 : w = 103
    · rw [if_pos h2, if_pos h2]
      by_cases c : a < b
      · rw [if_pos c, if_neg (i_nlt c)]
      · rw [if_neg c]
        by_cases c2 : b < a
        · rw [if_pos c2]
        · rw [if_neg c2]; exact i_eq c c2
    · rw [if_neg h2, if_neg h2]
      by_cases c : a < b
      · rw [if_neg (i_nlt c), if_pos c]
      · rw [if_neg c]
        by_cases c2 : b < a
        · rw [if_pos c2]
        · rw [if_neg c2]; exact i_eq c c2
def mxo (w : Int32) (o : Option Int32) (x : Int32) : Int32 := match o with
  | some v => mixv w v x
  | none => x
def tkn (w : Int32) : LM → LM → LM
  | L, [] => L
  | L, a :: r => tkn w (ins L a.1 (mxo w (lk L a.1) a.2)) r
theorem tkn_srt {w : Int32} {L : LM} (hs : Srt L) (A : LM) : Srt (tkn w L A) := by
  induction A generalizing L with
  | nil => exact hs
  | cons a r ih => exact ih (ins_srt hs _ _)
theorem lk_tkn {w : Int32} {L A : LM} (hs : Srt L) (hA : Srt A) (q : Int32) : lk (tkn w L A) q = match lk A q with | some x => some (mxo w (lk L q) x) | none => lk L q := by
  induction A generalizing L with
  | nil => rfl
  | cons a r ih =>
    show lk (tkn w (ins L a.1 (mxo w (lk L a.1) a.2)) r) q = _
    rw [ih (ins_srt hs _ _) hA.tl, lk_ins hs]
    have e0 : lk (a :: r) q = if a.1 = q then some a.2 else lk r q := rfl
    rw [e0]
    by_cases e : a.1 = q
    · have hr : lk r q = none := lk_above (fun x hx => by rw [← e]; exact hA.hd x hx)
      rw [if_pos e, if_pos e, hr, e]
    · rw [if_neg e, if_neg e]
theorem tkn_comm {w : Int32} {A B : LM} (hA : Srt A) (hB : Srt B) : tkn w A B = tkn w B A := by
  refine srt_ext (tkn_srt hA B) (tkn_srt hB A) (fun q => ?_)
  rw [lk_tkn hA hB, lk_tkn hB hA]
  cases lk A q with
  | none => cases lk B q <;> rfl
  | some x =>
    cases lk B q with
    | none => rfl
    | some y => show some (mixv w x y) = some (mixv w y x); rw [mixv_comm]
theorem tkn_len {w : Int32} {L A : LM} (hs : Srt L) (hA : Srt A) : (tkn w L A).length = L.length + (flt A L).length := by
  induction A generalizing L with
  | nil => rfl
  | cons a r ih =>
    have hr : lk r a.1 = none := lk_above (fun x hx => hA.hd x hx)
    have e1 : flt r (ins L a.1 (mxo w (lk L a.1) a.2)) = flt r L := by
      refine srt_ext (flt_srt hA.tl _) (flt_srt hA.tl _) (fun q => ?_)
      rw [lk_flt hA.tl, lk_flt hA.tl, lk_ins hs]
      by_cases e : a.1 = q
      · rw [if_pos e, if_neg (by intro c; cases c), ← e, hr]; split <;> rfl
      · rw [if_neg e]
    show (tkn w (ins L a.1 (mxo w (lk L a.1) a.2)) r).length = _
    rw [ih (ins_srt hs _ _) hA.tl, e1]
    have e2 : flt (a :: r) L = if lk L a.1 = none then a :: flt r L else flt r L := by
      unfold flt
      rw [List.filter_cons]
      cases lk L a.1 <;> rfl
    rw [e2]
    by_cases c : lk L a.1 = none
    · rw [if_pos c, ins_new_len hs (lk_none_has hs c), List.length_cons]; omega
    · have hh : has L a.1 := Classical.byContradiction (fun z => c (lk_not hs z))
      rw [if_neg c, ins_old_len hs hh]
theorem c_takeIn {σ : sM} {t u : Nat} {L A : LM} {w : Int32} (hT : TB σ t L) (ht : isT t) (hs : Srt L) (hU : TB σ u A) (hu : isT u) (hne : u ≠ t) (hl : L.length + A.length ≤ 120) : ok (f_X2_takeIn t u w σ) (fun q => TB q.2 t (tkn w L A) ∧ frT σ q.2 t) := by
  have hlA := hU.2.1
  have loop : ∀ (R : LM) (j n : Nat) (M : LM) (σ1 : sM), A.drop j = R → j ≤ 120 → R.length + 1 ≤ n → TB σ1 t M → Srt M → M.length + R.length ≤ 120 → frT σ σ1 t → ok (b_X2_takeIn_2 n t u w (nI j) σ1) (fun q => TB q.2 t (tkn w M R) ∧ frT σ q.2 t) := by
    intro R
    induction R with
    | nil =>
      intro j n M σ1 hd hj120 hn hM _ _ hf
      obtain ⟨n, rfl⟩ : ∃ z, n = z + 1 := ⟨n - 1, by omega⟩
      have hB := hU.fr hf ht hu hne
      show ok (if (σ1 u 2) ≤ nI j then _ else _) _
      rw [hB.1]
      exact ok_ip (nI_le (List.drop_eq_nil_iff.mp hd) (by omega)) (ok_ret ⟨hM, hf⟩)
    | cons s r ih =>
      intro j n M σ1 hd hj120 hn hM hsM hrm hf
      obtain ⟨n, rfl⟩ : ∃ z, n = z + 1 := ⟨n - 1, by omega⟩
      obtain ⟨hj, k1, k2, hd1⟩ := kA_drop hd
      have hB := hU.fr hf ht hu hne
      have hc1 : (s :: r : LM).length = r.length + 1 := rfl
      have hlM := hM.2.1
      have hcb := cb_le M s.1
      have hin : inb (nI j) 120 = true := inb_nI (by omega) (by omega)
      have hil := ins_len hsM s.1 (mxo w (lk M s.1) s.2)
      show ok (if (σ1 u 2) ≤ nI j then _ else _) _
      rw [hB.1]
      refine ok_in (nI_ge hj (by omega)) (ok_chk hin (ok_chk hin ?_))
      rw [nI_clamp (by omega), (hB.2.2 j hj).1, (hB.2.2 j hj).2, k1, k2]
      refine ok_r (tb_placeOf hM hsM s.1) ?_
      have fin : ∀ x, x = mxo w (lk M s.1) s.2 → ok (wthn (f_X2_set t s.1 x σ1) (fun vr8 σ8 => b_X2_takeIn_2 n t u w (nI j + 1) σ8)) (fun q => TB q.2 t (tkn w M (s :: r)) ∧ frT σ q.2 t) := by
        intro x hx
        rw [hx]
        refine ok_w (tb_set hM hsM s.1 _ (Or.inr (by omega))) (fun y σ2 hy => ?_)
        rw [nI_1]
        exact ih (j + 1) n _ σ2 hd1 (by omega) (by omega) hy.2.1 (ins_srt hsM _ _) (by omega) (hf.tr hy.2.2)
      by_cases p : hasP M s.1
      · rw [if_pos p]
        have p1 := p.1
        refine ok_ip (nI_ge0 (by omega)) (ok_chk (inb_nI (by omega) (by omega)) ?_)
        rw [nI_clamp (by omega), (hM.2.2 _ p1).2]
        have em : f_X2_mix (vA M (cb M s.1)) s.2 w σ1 = some (mixv w (vA M (cb M s.1)) s.2) := by
          unfold f_X2_mix mixv
          by_cases h1 : w = 115
          · rw [if_pos h1, if_pos h1]
          · rw [if_neg h1, if_neg h1]
            by_cases h2 : w = 103
            · rw [if_pos h2, if_pos h2]
            · rw [if_neg h2, if_neg h2]
        exact ok_r em (fin _ (by rw [lk_has hsM p]; rfl))
      · rw [if_neg p]
        exact ok_in (by decide) (fin _ (by rw [lk_not hsM p]; rfl))
  exact loop A 0 FU L σ rfl (by omega) (by unfold FU; omega) hT hs hl frT.rf
theorem c_mixAlike {σ : sM} {t u : Nat} {A B : LM} (w : Int32) (hT : TB σ t A) (it : t = 6 ∨ t = 9 ∨ t = 12) (hs : Srt A) (hl : A.length ≤ 60) (hU : TB σ u B) (iu : u = 6 ∨ u = 9 ∨ u = 12) (hsB : Srt B) (hlB : B.length ≤ 60) : ok (f_X0_isMixAlike t u w σ) (fun q => q.1 = 1 ∧ frB σ q.2) := by
  unfold f_X0_isMixAlike
  refine ok_w (tb_copy hU isT18 (isT_m iu) (by omega)) (fun _ σ1 q1 => ?_)
  have f1 : frB σ σ1 := q1.2.B (by omega)
  refine ok_w (c_takeIn (w := w) q1.1 isT18 hsB (hT.frB f1 it) (isT_m it) (by omega) (by omega)) (fun _ σ2 q2 => ?_)
  have f2 : frB σ σ2 := f1.tr (q2.2.B (by omega))
  refine ok_w (tb_copy (hT.frB f2 it) isT21 (isT_m it) (by omega)) (fun _ σ3 q3 => ?_)
  have f3 : frB σ σ3 := f2.tr (q3.2.B (by omega))
  have k3 : TB σ3 18 (tkn w B A) := q2.1.fr q3.2 isT21 isT18 (by omega)
  refine ok_w (c_takeIn (w := w) q3.1 isT21 hs (hU.frB f3 iu) (isT_m iu) (by omega) (by omega)) (fun _ σ4 q4 => ?_)
  have f4 : frB σ σ4 := f3.tr (q4.2.B (by omega))
  have k4 : TB σ4 18 (tkn w B A) := k3.fr q4.2 isT21 isT18 (by omega)
  refine ok_rb (tb_same k4 q4.1) (fun v hv => ?_)
  rw [if_pos (tkn_comm hsB hs)] at hv
  rw [hv]
  exact ok_chk (by decide) (ok_ret ⟨rfl, f4⟩)
