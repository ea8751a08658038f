/-! a view is cut -/
variable {σ σ' : sM} {A : Nat → LM} {V : Nat → Option VW} {H : Nat → LH} {D : List Int32} {P : Option Int32}
/-- the view that a cut makes -/
def cutW (w : VW) (hd : Int32) (k f : Int32) : VW := (w.1, (if hd = 0 then k else w.2.1, (if hd = 0 then f else w.2.2.1, (if hd = 0 then w.2.2.2.1 else k, (if hd = 0 then w.2.2.2.2.1 else f, w.2.2.2.2.2 + 1)))))
theorem srcm_s {α : Type} {t : Nat} {a : α} {b : Nat → α} : srcm (some t) a b = b t := rfl
theorem c_cut {v u : Nat} {w : VW} (ha : AO A V D) (hc : CR σ A V H D P) (hv : v < 4) (hu : u < 4) (e : V u = some w) (hd k f : Int32) (hf : f = 0 ∨ f = 1) : ok (f_X3_becomeCut (24 + v) (24 + u) hd k f σ) (fun q => CV q.2 v (some (cutW w hd k f)) ∧ ∀ x, x ≠ 24 + v → q.2 x = σ x) := by
  have hw := VO.lt ha hu e
  have hO : VO (some w) := by have := ha.2.1 u hu; rw [e] at this; exact this
  obtain ⟨c0, c2, c3, c4, c5, c1⟩ := cv_some hc hu e
  unfold f_X3_becomeCut b_X3_becomeCut_48
  rw [c0, sSrc_nI (isT_m (t3 hw)), srcm_s]
  refine ok_stl (fun s1 e1 => ok_stl (fun s2 e2 => ?_))
  by_cases h0 : hd = 0
  · refine ok_ip h0 (ok_stl (fun s3 e3 => ok_ip h0 (ok_chk (nb_01 hf).2 (ok_stl (fun s4 e4 => ok_ip h0 (ok_stl (fun s5 e5 => ok_ip h0 (ok_chk ?_ (ok_stl (fun s6 e6 => ok_ret ⟨?_, fun x hx => ?_⟩))))))))))
    · have : s5 (24 + u) 5 = w.2.2.2.2.1 := by rw [e5, e4, e3, e2, e1]; simp [fu_at, c5]
      rw [this]; exact (nb_01 hO.2.2.1).2
    · have e1' : s6 (24 + v) 0 = nI (6 + 3 * w.1) := by rw [e6, e5, e4, e3, e2, e1]; simp [fu_at]
      have e2' : s6 (24 + v) 2 = k := by rw [e6, e5, e4, e3, e2, e1]; simp [fu_at]
      have e3' : s6 (24 + v) 3 = f := by rw [e6, e5, e4, e3, e2, e1]; simp [fu_at]
      have e4' : s6 (24 + v) 4 = w.2.2.2.1 := by rw [e6, e5, e4, e3, e2, e1]; simp [fu_at, c4]
      have e5' : s6 (24 + v) 5 = w.2.2.2.2.1 := by rw [e6, e5, e4, e3, e2, e1]; simp [fu_at, c5]
      have e6' : s6 (24 + v) 1 = nI (w.2.2.2.2.2 + 1) := by rw [← nI_1, ← c1, e6, e5, e4, e3, e2, e1]; simp [fu_at]
      unfold cutW
      rw [if_pos h0, if_pos h0, if_pos h0, if_pos h0]
      exact ⟨e1', e2', e3', e4', e5', e6'⟩
    · show s6 x = σ x
      rw [e6, up_n hx, e5, up_n hx, e4, up_n hx, e3, up_n hx, e2, up_n hx, e1, up_n hx]
  · refine ok_in h0 (ok_stl (fun s3 e3 => ok_in h0 (ok_chk ?_ (ok_stl (fun s4 e4 => ok_in h0 (ok_stl (fun s5 e5 => ok_in h0 (ok_chk (nb_01 hf).2 (ok_stl (fun s6 e6 => ok_ret ⟨?_, fun x hx => ?_⟩))))))))))
    · have : s3 (24 + u) 3 = w.2.2.1 := by rw [e3, e2, e1]; simp [fu_at, c3]
      rw [this]; exact (nb_01 hO.2.1).2
    · have e1' : s6 (24 + v) 0 = nI (6 + 3 * w.1) := by rw [e6, e5, e4, e3, e2, e1]; simp [fu_at]
      have e2' : s6 (24 + v) 2 = w.2.1 := by rw [e6, e5, e4, e3, e2, e1]; simp [fu_at, c2]
      have e3' : s6 (24 + v) 3 = w.2.2.1 := by rw [e6, e5, e4, e3, e2, e1]; simp [fu_at, c3]
      have e4' : s6 (24 + v) 4 = k := by rw [e6, e5, e4, e3, e2, e1]; simp [fu_at]
      have e5' : s6 (24 + v) 5 = f := by rw [e6, e5, e4, e3, e2, e1]; simp [fu_at]
      have e6' : s6 (24 + v) 1 = nI (w.2.2.2.2.2 + 1) := by rw [← nI_1, ← c1, e6, e5, e4, e3, e2, e1]; simp [fu_at]
      unfold cutW
      rw [if_neg h0, if_neg h0, if_neg h0, if_neg h0]
      exact ⟨e1', e2', e3', e4', e5', e6'⟩
    · show s6 x = σ x
      rw [e6, up_n hx, e5, up_n hx, e4, up_n hx, e3, up_n hx, e2, up_n hx, e1, up_n hx]
