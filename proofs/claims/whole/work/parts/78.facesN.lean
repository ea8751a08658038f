/-! a view is cut, second: the reference -/
variable {σ σ' : sM} {A : Nat → LM} {V : Nat → Option VW} {H : Nat → LH} {D : List Int32} {P : Option Int32}
theorem m_cut62 {v u : Nat} {w : VW} (ha : AO A V D) (hm : MR σ A V H D P) (hv : v < 4) (hu : u < 4) (e : V u = some w) (hd k f : Int32) (hf : f = 0 ∨ f = 1) (a1 : AO A (ua V v (some (cutW w hd k f))) D) : ok (b_X5_cut_62 (nI v) (nI u) hd k f 0 σ) (fun q => q.2 44 20 = 0 ∧ q.1 = nI (nW A (cutW w hd k f)) ∧ MR q.2 A (ua V v (some (cutW w hd k f))) H D P ∧ ∀ k, k < 44 → q.2 k = σ k) := by
  have hO : VO (some w) := by have := ha.2.1 u hu; rw [e] at this; exact this
  have m2 := hm.scr (rf_R 0 σ)
  obtain ⟨c0, c1, c2, c3, c4, c5, c6⟩ := mv_some m2 hu e
  have iv : inb (nI v) 4 = true := inb_nI hv (by omega)
  have iu : inb (nI u) 4 = true := inb_nI hu (by omega)
  have nv : (nI v).toNatClampNeg = v := nI_clamp (by omega)
  have nu : (nI u).toNatClampNeg = u := nI_clamp (by omega)
  have fin : ∀ s7 : sM, frV (rf 0 σ) s7 v → MV s7 v (some (cutW w hd k f)) → ok (rthn (f_X5_manyOf (nI v) s7) (fun vr45 => some (vr45, s7))) (fun q => q.2 44 20 = 0 ∧ q.1 = nI (nW A (cutW w hd k f)) ∧ MR q.2 A (ua V v (some (cutW w hd k f))) H D P ∧ ∀ k, k < 44 → q.2 k = σ k) := by
    intro s7 f7 v7
    have m3 := m2.vie v7 f7
    refine ok_r (mw_many a1 m3 hv ua_s) (ok_ret ⟨?_, rfl, m3, fun x hx => ?_⟩)
    · show s7 44 20 = 0
      rw [f7.1 44 (by omega)]; exact rf_20 0 σ
    · show s7 x = σ x
      rw [f7.1 x (by omega)]; exact rf_k 0 σ (by omega)
  unfold b_X5_cut_62 b_X5_cut_130 b_X5_cut_172
  rw [m_ref0, wthn_e, if_pos rfl, nv, nu]
  refine ok_chk iv (ok_stl (fun s1 e1 => ok_chk iu (ok_chk iv (ok_stl (fun s2 e2 => ?_)))))
  by_cases h0 : hd = 0
  · refine ok_ip h0 (ok_chk iv (ok_stl (fun s3 e3 => ok_ip h0 (ok_chk iv (ok_stl (fun s4 e4 => ok_ip h0 (ok_chk iu (ok_chk iv (ok_stl (fun s5 e5 => ok_ip h0 (ok_chk iu (ok_chk iv (ok_stl (fun s6 e6 => ok_chk iu (ok_chk iv (ok_stl (fun s7 e7 => fin s7 ?_ ?_)))))))))))))))))
    · exact ⟨fun x hx => by rw [e7, up_n (by omega), e6, up_n (by omega), e5, up_n (by omega), e4, up_n (by omega), e3, up_n (by omega), e2, up_n (by omega), e1, up_n (by omega)], fun x y _ _ hy => by rw [e7, e6, e5, e4, e3, e2, e1]; simp [fu_at, hy]⟩
    · have g8 : s7 48 v = 1 := by rw [e7, e6, e5, e4, e3, e2, e1]; simp [fu_at]; rfl
      have g9 : s7 49 v = nI w.1 := by rw [e7, e6, e5, e4, e3, e2, e1]; simp [fu_at, c1]
      have g0 : s7 50 v = k := by rw [e7, e6, e5, e4, e3, e2, e1]; simp [fu_at]
      have g2 : s7 52 v = f := by rw [e7, e6, e5, e4, e3, e2, e1]; simp [fu_at, (nb_01 hf).1]
      have g1 : s7 51 v = w.2.2.2.1 := by rw [e7, e6, e5, e4, e3, e2, e1]; simp [fu_at, c4]
      have g3 : s7 53 v = w.2.2.2.2.1 := by rw [e7, e6, e5, e4, e3, e2, e1]; simp [fu_at, c5, (nb_01 hO.2.2.1).1]
      have g4 : s7 54 v = nI (w.2.2.2.2.2 + 1) := by rw [← nI_1, ← c6, e7, e6, e5, e4, e3, e2, e1]; simp [fu_at]
      unfold cutW
      rw [if_pos h0, if_pos h0, if_pos h0, if_pos h0]
      exact ⟨g8, g9, g0, g2, g1, g3, g4⟩
  · refine ok_in h0 (ok_chk iu (ok_chk iv (ok_stl (fun s3 e3 => ok_in h0 (ok_chk iu (ok_chk iv (ok_stl (fun s4 e4 => ok_in h0 (ok_chk iv (ok_stl (fun s5 e5 => ok_in h0 (ok_chk iv (ok_stl (fun s6 e6 => ok_chk iu (ok_chk iv (ok_stl (fun s7 e7 => fin s7 ?_ ?_)))))))))))))))))
    · exact ⟨fun x hx => by rw [e7, up_n (by omega), e6, up_n (by omega), e5, up_n (by omega), e4, up_n (by omega), e3, up_n (by omega), e2, up_n (by omega), e1, up_n (by omega)], fun x y _ _ hy => by rw [e7, e6, e5, e4, e3, e2, e1]; simp [fu_at, hy]⟩
    · have g8 : s7 48 v = 1 := by rw [e7, e6, e5, e4, e3, e2, e1]; simp [fu_at]; rfl
      have g9 : s7 49 v = nI w.1 := by rw [e7, e6, e5, e4, e3, e2, e1]; simp [fu_at, c1]
      have g0 : s7 50 v = w.2.1 := by rw [e7, e6, e5, e4, e3, e2, e1]; simp [fu_at, c2]
      have g2 : s7 52 v = w.2.2.1 := by rw [e7, e6, e5, e4, e3, e2, e1]; simp [fu_at, c3, (nb_01 hO.2.1).1]
      have g1 : s7 51 v = k := by rw [e7, e6, e5, e4, e3, e2, e1]; simp [fu_at]
      have g3 : s7 53 v = f := by rw [e7, e6, e5, e4, e3, e2, e1]; simp [fu_at, (nb_01 hf).1]
      have g4 : s7 54 v = nI (w.2.2.2.2.2 + 1) := by rw [← nI_1, ← c6, e7, e6, e5, e4, e3, e2, e1]; simp [fu_at]
      unfold cutW
      rw [if_neg h0, if_neg h0, if_neg h0, if_neg h0]
      exact ⟨g8, g9, g0, g2, g1, g3, g4⟩
