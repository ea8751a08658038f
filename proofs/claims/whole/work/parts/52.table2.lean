/-! steps on a Table, copies, comparison, mixing -/
/-- what a step makes of a list -/
def chg (L : LM) (kind k n : Int32) : LM :=
  if kind = 114 then del L k else match lk L k with
    | some v => if kind = 115 then ins L k (v + n) else if kind = 97 then L else ins L k n
    | none => if kind = 120 then L else ins L k n
/-- whether a step left it unlike -/
def chgF (L : LM) (kind k n : Int32) : Int32 := if lk (chg L kind k n) k = lk L k then 0 else 1
theorem chg_srt {L : LM} (hs : Srt L) (kind k n : Int32) : Srt (chg L kind k n) := by
  unfold chg
  split
  · exact del_srt hs k
  · split
    · split
      · exact ins_srt hs _ _
      · split
        · exact hs
        · exact ins_srt hs _ _
    · split
      · exact hs
      · exact ins_srt hs _ _
/-- the entry of the key itself behind a step -/
def stepV (kind n : Int32) (o : Option Int32) : Option Int32 :=
  if kind = 114 then none else match o with
    | some v => if kind = 115 then some (v + n) else if kind = 97 then some v else some n
    | none => if kind = 120 then none else some n
theorem lk_chg {L : LM} (hs : Srt L) (kind k n q : Int32) : lk (chg L kind k n) q = if k = q then stepV kind n (lk L k) else lk L q := by
  unfold chg stepV
  by_cases h1 : kind = 114
  · rw [if_pos h1, if_pos h1, lk_del hs]
  · rw [if_neg h1, if_neg h1]
    cases hk : lk L k with
    | none =>
      dsimp only
      by_cases h2 : kind = 120
      · rw [if_pos h2, if_pos h2]
        by_cases e : k = q
        · rw [if_pos e, ← e, hk]
        · rw [if_neg e]
      · rw [if_neg h2, if_neg h2, lk_ins hs]
    | some v =>
      dsimp only
      by_cases h2 : kind = 115
      · rw [if_pos h2, if_pos h2, lk_ins hs]
      · rw [if_neg h2, if_neg h2]
        by_cases h3 : kind = 97
        · rw [if_pos h3, if_pos h3]
          by_cases e : k = q
          · rw [if_pos e, ← e, hk]
          · rw [if_neg e]
        · rw [if_neg h3, if_neg h3, lk_ins hs]
theorem lk_some_has {L : LM} (hs : Srt L) {k v : Int32} (h : lk L k = some v) : hasP L k ∧ v = vA L (cb L k) := by
  by_cases c : hasP L k
  · refine ⟨c, ?_⟩
    rw [lk_has hs c] at h
    exact (Option.some.inj h).symm
  · rw [lk_not hs c] at h; cases h
theorem lk_none_has {L : LM} (hs : Srt L) {k : Int32} (h : lk L k = none) : ¬ hasP L k := fun c => by rw [lk_has hs c] at h; cases h
theorem isb01 {c : Prop} [Decidable c] : isb (if c then (0 : Int32) else 1) = true := by split <;> rfl
theorem isb10 {c : Prop} [Decidable c] : isb (if c then (1 : Int32) else 0) = true := by split <;> rfl
theorem tb_change {σ : sM} {t : Nat} {L : LM} (hT : TB σ t L) (hs : Srt L) (kind k n : Int32) (hroom : hasP L k ∨ L.length < 120) : ok (f_X2_change t kind k n σ) (fun q => q.1 = chgF L kind k n ∧ TB q.2 t (chg L kind k n) ∧ frT σ q.2 t) := by
  have hl := hT.2.1
  have hc := cb_le L k
  -- put it
  have put : ∀ (v : Int32), chg L kind k n = ins L k v → ok (wthn (f_X2_set t k v σ) (fun vr10 σ10 => chk (isb vr10) (some (vr10, σ10)))) (fun q => q.1 = chgF L kind k n ∧ TB q.2 t (chg L kind k n) ∧ frT σ q.2 t) := by
    intro v e
    refine ok_w (tb_set hT hs k v hroom) (fun r σ1 h => ?_)
    obtain ⟨h1, h2, h3⟩ := h
    dsimp only at h1 h2 h3
    rw [h1]
    refine ok_chk isb01 (ok_ret ⟨?_, by rw [e]; exact h2, h3⟩)
    show (if lk L k = some v then (0 : Int32) else 1) = chgF L kind k n
    unfold chgF
    rw [e, lk_ins hs, if_pos rfl]
    by_cases c : lk L k = some v
    · rw [if_pos c, if_pos c.symm]
    · rw [if_neg c, if_neg (fun h => c h.symm)]
  have stay : chg L kind k n = L → ok (some ((0 : Int32), σ)) (fun q => q.1 = chgF L kind k n ∧ TB q.2 t (chg L kind k n) ∧ frT σ q.2 t) := by
    intro e
    exact ok_ret ⟨by unfold chgF; rw [e, if_pos rfl], by rw [e]; exact hT, frT.rf⟩
  unfold f_X2_change
  refine ok_if (fun c1 => ?_) (fun c1 => ?_)
  · have e : chg L kind k n = del L k := by unfold chg; rw [if_pos c1]
    refine ok_w (tb_drop hT hs k) (fun r σ1 h => ?_)
    obtain ⟨h1, h2, h3⟩ := h
    dsimp only at h1 h2 h3
    rw [h1]
    refine ok_chk isb10 (ok_ret ⟨?_, by rw [e]; exact h2, h3⟩)
    show (if hasP L k then (1 : Int32) else 0) = chgF L kind k n
    unfold chgF
    rw [e, lk_del hs, if_pos rfl]
    by_cases c : hasP L k
    · rw [if_pos c, lk_has hs c, if_neg (fun h => by cases h)]
    · rw [if_neg c, lk_not hs c, if_pos rfl]
  · refine ok_r (tb_placeOf hT hs k) ?_
    by_cases hh : hasP L k
    · -- the key is there
      rw [if_pos hh]
      have hlk := lk_has hs hh
      have e0 : chg L kind k n = if kind = 115 then ins L k (vA L (cb L k) + n) else if kind = 97 then L else ins L k n := by unfold chg; rw [if_neg c1, hlk]
      have hge : (0 : Int32) ≤ nI (cb L k) := nI_ge0 (by omega)
      have h56 : ¬ kind = 115 → ¬ kind = 97 → ok (b_X2_change_56 t kind k n (nI (cb L k)) σ) (fun q => q.1 = chgF L kind k n ∧ TB q.2 t (chg L kind k n) ∧ frT σ q.2 t) := by
        intro n1 n2
        have e : chg L kind k n = ins L k n := by rw [e0, if_neg n1, if_neg n2]
        unfold b_X2_change_56
        exact ok_if (fun _ => ok_ip hge (put n e)) (fun _ => put n e)
      refine ok_if (fun c2 => ?_) (fun c2 => ?_)
      · refine ok_in (nI_nlt0 (by omega)) ?_
        refine ok_chk (inb_nI (by omega) (by omega)) ?_
        rw [nI_clamp (by omega), (hT.2.2 _ hh.1).2]
        exact put _ (by rw [e0, if_pos c2])
      · refine ok_if (fun c3 => ok_ip hge (stay (by rw [e0, if_neg c2, if_pos c3]))) (fun c3 => h56 c2 c3)
    · rw [if_neg hh]
      have hlk := lk_not hs hh
      have e0 : chg L kind k n = if kind = 120 then L else ins L k n := by unfold chg; rw [if_neg c1, hlk]
      have hng : ¬ (0 : Int32) ≤ -1 := by decide
      have h56 : ok (b_X2_change_56 t kind k n (-1) σ) (fun q => q.1 = chgF L kind k n ∧ TB q.2 t (chg L kind k n) ∧ frT σ q.2 t) := by
        unfold b_X2_change_56
        exact ok_if (fun c => ok_in hng (stay (by rw [e0, if_pos c]))) (fun c => put n (by rw [e0, if_neg c]))
      refine ok_if (fun c2 => ?_) (fun c2 => ?_)
      · exact ok_ip (by decide) (ok_if (fun c3 => ok_in hng h56) (fun c3 => h56))
      · exact ok_if (fun c3 => ok_in hng h56) (fun c3 => h56)
/-- a copy -/
theorem tb_copy {σ : sM} {t u : Nat} {L : LM} (hT : TB σ u L) (ht : isT t) (hu : isT u) (hne : u ≠ t) : ok (f_X2_becomeCopy t u σ) (fun q => TB q.2 t L ∧ frT σ q.2 t) := by
  have hl := hT.2.1
  have ap : u ≠ t ∧ u ≠ t + 1 ∧ u ≠ t + 2 ∧ u + 1 ≠ t ∧ u + 1 ≠ t + 1 ∧ u + 1 ≠ t + 2 ∧ u + 2 ≠ t ∧ u + 2 ≠ t + 1 ∧ u + 2 ≠ t + 2 := by unfold isT at *; omega
  unfold f_X2_becomeCopy
  refine ok_stl (fun σ1 e1 => ?_)
  have q0 : σ1 t 2 = nI L.length := by rw [e1, up_s, upd_s, hT.1]
  rw [q0]
  refine ok_chk (cpb_nI (a := 0) (b := 0) (by omega) (by omega) (by omega) (by omega)) ?_
  refine ok_stl (fun σ2 e2 => ?_)
  have q1 : σ2 t = σ1 t := by rw [e2]; exact up_n (by omega)
  rw [q1, q0]
  refine ok_chk (cpb_nI (a := 0) (b := 0) (by omega) (by omega) (by omega) (by omega)) ?_
  refine ok_stl (fun σ3 e3 => ?_)
  rw [nI_clamp (n := L.length) (by omega)] at e2 e3
  have z0 : ((0 : Int32)).toNatClampNeg = 0 := rfl
  rw [z0] at e2 e3
  refine ok_ret ⟨⟨?_, hl, fun j hj => ?_⟩, fun k a1 a2 a3 => ?_⟩
  · show σ3 t 2 = _
    rw [e3, up_n (by omega), q1, q0]
  · show σ3 (t + 1) j = _ ∧ σ3 (t + 2) j = _
    rw [e3, up_n (by omega), up_s, e2, up_s, up_n ap.2.2.2.2.2.2.2.1, e1, up_n ap.2.2.2.1, up_n ap.2.2.2.2.2.2.1, cpy_at, cpy_at, if_pos (by omega), if_pos (by omega), Nat.zero_add, Nat.sub_zero]
    exact hT.2.2 j hj
  · show σ3 k = σ k
    rw [e3, up_n a3, e2, up_n a2, e1, up_n a1]
theorem tb_same {σ : sM} {t u : Nat} {A B : LM} (hA : TB σ t A) (hB : TB σ u B) : ok (f_X2_isSame t u σ) (fun r => r = if A = B then 1 else 0) := by
  have hl := hA.2.1
  have hl2 := hB.2.1
  have ext : A.length = B.length → (∀ j, j < A.length → kA A j = kA B j ∧ vA A j = vA B j) → A = B := by
    intro e h
    refine List.ext_getElem e (fun j h1 h2 => ?_)
    have := h j h1
    unfold kA vA at this
    simp only [List.getD_eq_getElem?_getD, List.getElem?_eq_getElem h1, List.getElem?_eq_getElem h2, Option.getD_some] at this
    exact Prod.ext this.1 this.2
  have loop : A.length = B.length → ∀ (d i : Nat), A.length = i + d → (∀ j, j < i → kA A j = kA B j ∧ vA A j = vA B j) → ∀ n, d + 1 ≤ n → ok (b_X2_isSame_15 n t u (nI i) σ) (fun r => r = if A = B then 1 else 0) := by
    intro el d
    induction d with
    | zero =>
      intro i hi hj n hn
      obtain ⟨n, rfl⟩ : ∃ z, n = z + 1 := ⟨n - 1, by omega⟩
      show ok (if (σ t 2) ≤ nI i then _ else _) _
      rw [hA.1]
      refine ok_ip ((nI_leI (by omega) (by omega)).mpr (by omega)) (ok_ret ?_)
      rw [if_pos (ext el (fun j h => hj j (by omega)))]
    | succ d ih =>
      intro i hi hj n hn
      obtain ⟨n, rfl⟩ : ∃ z, n = z + 1 := ⟨n - 1, by omega⟩
      show ok (if (σ t 2) ≤ nI i then _ else _) _
      rw [hA.1]
      refine ok_in (fun h => by have := (nI_leI (by omega) (by omega)).mp h; omega) ?_
      have hsame : f_X2_hasSameAt t (nI i) u (nI i) σ = some (if kA A i = kA B i ∧ vA A i = vA B i then 1 else 0) := by
        unfold f_X2_hasSameAt
        rw [chk_true (inb_nI (by omega) (by omega)), chk_true (inb_nI (by omega) (by omega)), nI_clamp (by omega), (hA.2.2 i (by omega)).1, (hB.2.2 i (by omega)).1, (hA.2.2 i (by omega)).2, (hB.2.2 i (by omega)).2]
        by_cases c : kA A i = kA B i
        · rw [if_pos c, chk_true (inb_nI (by omega) (by omega)), chk_true (inb_nI (by omega) (by omega))]
          by_cases c2 : vA A i = vA B i
          · rw [if_pos c2, if_pos ⟨c, c2⟩]
          · rw [if_neg c2, if_neg (fun h => c2 h.2)]
        · rw [if_neg c, if_neg (fun h => c h.1)]
      refine ok_r hsame ?_
      by_cases c : kA A i = kA B i ∧ vA A i = vA B i
      · rw [if_pos c]
        refine ok_in (by decide) ?_
        rw [nI_1]
        exact ih (i + 1) (by omega) (fun j hj2 => by
          rcases Nat.lt_or_ge j i with q | q
          · exact hj j q
          · have : j = i := by omega
            rw [this]; exact c) n (by omega)
      · rw [if_neg c]
        refine ok_ip rfl (ok_ret ?_)
        rw [if_neg (fun h => c (by rw [h]; exact ⟨rfl, rfl⟩))]
  unfold f_X2_isSame
  rw [hA.1, hB.1]
  refine ok_if (fun c => ?_) (fun c => ?_)
  · exact loop ((nI_eq (by omega) (by omega)).mp c) A.length 0 (by omega) (fun j h => absurd h (Nat.not_lt_zero _)) FU (by unfold FU; omega)
  · exact ok_ret (by rw [if_neg (fun h => c (by rw [h]))])
