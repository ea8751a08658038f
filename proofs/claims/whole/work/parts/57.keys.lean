/-! sets of keys -/
def Zv (L : LM) : Prop := ∀ x, x ∈ L → x.2 = 0
theorem lk_mem {L : LM} {k v : Int32} (h : lk L k = some v) : (k, v) ∈ L := by
  induction L with
  | nil => cases h
  | cons a r ih =>
    unfold lk at h
    split at h
    · rename_i e
      have e2 := Option.some.inj h
      rw [← e, ← e2]
      exact List.mem_cons_self
    · exact List.mem_cons_of_mem _ (ih h)
theorem lk_of_mem {L : LM} (hs : Srt L) {a : Int32 × Int32} (h : a ∈ L) : lk L a.1 = some a.2 := by
  induction L with
  | nil => cases h
  | cons b r ih =>
    unfold lk
    rcases List.mem_cons.mp h with q | q
    · rw [q, if_pos rfl]
    · rw [if_neg (fun e => by have := hs.hd a q; rw [e] at this; exact i_irr _ this)]
      exact ih hs.tl q
theorem Zv.lk {L : LM} (hz : Zv L) {k v : Int32} (h : lk L k = some v) : v = 0 := hz (k, v) (lk_mem h)
theorem Zv.ins {L : LM} (hz : Zv L) (k : Int32) : Zv (ins L k 0) := fun x hx => by
  rcases ins_mem hx with q | q
  · rw [q]
  · exact hz x q
theorem srt_nil : Srt [] := List.Pairwise.nil
theorem ins_same {L : LM} (hs : Srt L) (hz : Zv L) {k : Int32} (h : lk L k ≠ none) : ins L k 0 = L := by
  refine srt_ext (ins_srt hs _ _) hs (fun q => ?_)
  rw [lk_ins hs]
  by_cases e : k = q
  · rw [if_pos e, ← e]
    cases hk : lk L k with
    | none => exact absurd hk h
    | some v => rw [hz.lk hk]
  · rw [if_neg e]
theorem z_ext {A B : LM} (hA : Srt A) (hB : Srt B) (zA : Zv A) (zB : Zv B) (h : ∀ k, lk A k = none ↔ lk B k = none) : A = B := by
  refine srt_ext hA hB (fun k => ?_)
  cases ha : lk A k with
  | none => rw [(h k).mp ha]
  | some v =>
    cases hb : lk B k with
    | none => rw [(h k).mpr hb] at ha; cases ha
    | some w => rw [zA.lk ha, zB.lk hb]
/-- the entries of A whose keys B lacks; has -/
def flt (A B : LM) : LM := A.filter (fun a => (lk B a.1).isNone)
def cmn (A B : LM) : LM := A.filter (fun a => (lk B a.1).isSome)
theorem fil_srt {A : LM} (h : Srt A) (p : Int32 × Int32 → Bool) : Srt (A.filter p) := List.Pairwise.filter p h
theorem fil_z {A : LM} (h : Zv A) (p : Int32 × Int32 → Bool) : Zv (A.filter p) := fun x hx => h x (List.mem_filter.mp hx).1
theorem flt_srt {A : LM} (h : Srt A) (B : LM) : Srt (flt A B) := fil_srt h _
theorem cmn_srt {A : LM} (h : Srt A) (B : LM) : Srt (cmn A B) := fil_srt h _
theorem flt_z {A : LM} (h : Zv A) (B : LM) : Zv (flt A B) := fil_z h _
theorem lk_fil {A : LM} (hs : Srt A) (f : Int32 → Bool) (q : Int32) : lk (A.filter (fun a => f a.1)) q = if f q = true then lk A q else none := by
  induction A with
  | nil => simp [lk]
  | cons a r ih =>
    have ih := ih hs.tl
    rw [List.filter_cons]
    by_cases c : f a.1 = true
    · rw [if_pos c]
      show (if a.1 = q then some a.2 else lk (r.filter (fun a => f a.1)) q) = _
      by_cases e : a.1 = q
      · rw [if_pos e, if_pos (by rw [← e]; exact c)]
        show _ = (if a.1 = q then some a.2 else lk r q)
        rw [if_pos e]
      · rw [if_neg e, ih]
        show _ = (if f q = true then (if a.1 = q then some a.2 else lk r q) else none)
        rw [if_neg e]
    · rw [if_neg c, ih]
      show _ = (if f q = true then (if a.1 = q then some a.2 else lk r q) else none)
      by_cases e : a.1 = q
      · rw [if_neg (by rw [← e]; exact c), if_neg (by rw [← e]; exact c)]
      · rw [if_neg e]
theorem lk_flt {A : LM} (hs : Srt A) (B : LM) (q : Int32) : lk (flt A B) q = if lk B q = none then lk A q else none := by
  unfold flt
  rw [lk_fil hs (fun k => (lk B k).isNone)]
  cases lk B q with
  | none => rfl
  | some v => rfl
theorem lk_cmn {A : LM} (hs : Srt A) (B : LM) (q : Int32) : lk (cmn A B) q = if lk B q = none then none else lk A q := by
  unfold cmn
  rw [lk_fil hs (fun k => (lk B k).isSome)]
  cases lk B q with
  | none => rfl
  | some v => rfl
theorem flt_cmn (A B : LM) : (flt A B).length + (cmn A B).length = A.length := by
  unfold flt cmn
  induction A with
  | nil => rfl
  | cons a r ih =>
    rw [List.filter_cons, List.filter_cons]
    cases lk B a.1 with
    | none =>
      show ((a :: r.filter _).length + (r.filter _).length = r.length + 1)
      rw [List.length_cons]; omega
    | some v =>
      show ((r.filter _).length + (a :: r.filter _).length = r.length + 1)
      rw [List.length_cons]; omega
theorem cmn_sym {A B : LM} (hA : Srt A) (hB : Srt B) (zA : Zv A) (zB : Zv B) : cmn A B = cmn B A := by
  refine z_ext (fil_srt hA _) (fil_srt hB _) (fil_z zA _) (fil_z zB _) (fun k => ?_)
  show lk (cmn A B) k = none ↔ lk (cmn B A) k = none
  rw [lk_cmn hA, lk_cmn hB]
  cases lk A k <;> cases lk B k <;> simp
def adk : LM → LH → LM
  | K, [] => K
  | K, s :: r => adk (ins K s.2.1 0) r
theorem adk_srt {K : LM} (hs : Srt K) (H : LH) : Srt (adk K H) := by
  induction H generalizing K with
  | nil => exact hs
  | cons s r ih => exact ih (ins_srt hs _ _)
theorem adk_z {K : LM} (hz : Zv K) (H : LH) : Zv (adk K H) := by
  induction H generalizing K with
  | nil => exact hz
  | cons s r ih => exact ih (hz.ins _)
theorem adk_app (K : LM) (A B : LH) : adk K (A ++ B) = adk (adk K A) B := by
  induction A generalizing K with
  | nil => rfl
  | cons s r ih => exact ih _
theorem adk_len {K : LM} (hs : Srt K) (H : LH) : (adk K H).length ≤ K.length + H.length := by
  induction H generalizing K with
  | nil => exact Nat.le_refl _
  | cons s r ih =>
    have h1 := ih (ins_srt hs s.2.1 0)
    have h2 := ins_len hs s.2.1 0
    show (adk (ins K s.2.1 0) r).length ≤ K.length + (r.length + 1)
    omega
theorem lk_adk {K : LM} (hs : Srt K) (hz : Zv K) (H : LH) (q : Int32) : lk (adk K H) q = none ↔ (lk K q = none ∧ ∀ s, s ∈ H → s.2.1 ≠ q) := by
  induction H generalizing K with
  | nil => exact ⟨fun h => ⟨h, fun s hs => by cases hs⟩, fun h => h.1⟩
  | cons s r ih =>
    show lk (adk (ins K s.2.1 0) r) q = none ↔ _
    rw [ih (ins_srt hs _ _) (hz.ins _), lk_ins hs]
    constructor
    · rintro ⟨a, b⟩
      by_cases e : s.2.1 = q
      · rw [if_pos e] at a; cases a
      · rw [if_neg e] at a
        refine ⟨a, fun x hx => ?_⟩
        rcases List.mem_cons.mp hx with z | z
        · rw [z]; exact e
        · exact b x z
    · rintro ⟨a, b⟩
      rw [if_neg (b s List.mem_cons_self)]
      exact ⟨a, fun x hx => b x (List.mem_cons_of_mem _ hx)⟩
/-- how many keys two sets have together -/
theorem adk_cnt {K1 : LM} (h1 : Srt K1) (z1 : Zv K1) (H : LH) : (adk K1 H).length = (adk [] H).length + (flt K1 (adk [] H)).length := by
  have gen : ∀ (R : LH) (U B : LM), Srt U → Srt B → Zv U → Zv B → (∀ q, lk U q = none ↔ (lk K1 q = none ∧ lk B q = none)) → U.length = B.length + (flt K1 B).length → (adk U R).length = (adk B R).length + (flt K1 (adk B R)).length := by
    intro R
    induction R with
    | nil => intro U B _ _ _ _ _ h; exact h
    | cons s r ih =>
      intro U B hU hB zU zB hq hl
      show (adk (ins U s.2.1 0) r).length = (adk (ins B s.2.1 0) r).length + (flt K1 (adk (ins B s.2.1 0) r)).length
      refine ih _ _ (ins_srt hU _ _) (ins_srt hB _ _) (zU.ins _) (zB.ins _) (fun q => ?_) ?_
      · rw [lk_ins hU, lk_ins hB]
        by_cases e : s.2.1 = q
        · rw [if_pos e, if_pos e]; simp
        · rw [if_neg e, if_neg e]; exact hq q
      · by_cases cB : lk B s.2.1 = none
        · have hnB : ¬ has B s.2.1 := lk_none_has hB cB
          rw [ins_new_len hB hnB]
          by_cases cK : lk K1 s.2.1 = none
          · have cU : lk U s.2.1 = none := (hq _).mpr ⟨cK, cB⟩
            rw [ins_new_len hU (lk_none_has hU cU)]
            have e : flt K1 (ins B s.2.1 0) = flt K1 B := by
              refine srt_ext (fil_srt h1 _) (fil_srt h1 _) (fun q => ?_)
              show lk (flt K1 _) q = lk (flt K1 _) q
              rw [lk_flt h1, lk_flt h1, lk_ins hB]
              by_cases e : s.2.1 = q
              · rw [if_pos e, ← e, if_neg (by intro c; cases c), if_pos cB, cK]
              · rw [if_neg e]
            rw [e]; omega
          · have cU : lk U s.2.1 ≠ none := fun c => cK ((hq _).mp c).1
            rw [ins_same hU zU cU]
            have e : flt K1 (ins B s.2.1 0) = del (flt K1 B) s.2.1 := by
              refine srt_ext (fil_srt h1 _) (del_srt (fil_srt h1 _) _) (fun q => ?_)
              show lk (flt K1 _) q = lk (del (flt K1 B) s.2.1) q
              rw [lk_flt h1, lk_del (flt_srt h1 _), lk_flt h1, lk_ins hB]
              by_cases e : s.2.1 = q
              · rw [if_pos e, if_pos e, if_neg (by intro c; cases c)]
              · rw [if_neg e, if_neg e]
            have hh : has (flt K1 B) s.2.1 := by
              refine Classical.byContradiction (fun c => ?_)
              have := lk_not (flt_srt h1 B) c
              rw [lk_flt h1, if_pos cB] at this
              exact cK this
            have hpos := hh.1
            rw [e, del_old_len (flt_srt h1 B) hh]
            omega
        · have cU : lk U s.2.1 ≠ none := fun c => cB ((hq _).mp c).2
          rw [ins_same hU zU cU, ins_same hB zB cB]
          exact hl
  have e0 : flt K1 [] = K1 := by unfold flt; exact List.filter_eq_self.mpr (fun a _ => rfl)
  refine gen H K1 [] h1 srt_nil z1 (fun x hx => by cases hx) (fun q => ?_) ?_
  · show lk K1 q = none ↔ (lk K1 q = none ∧ none = none)
    simp
  · rw [e0]; simp
theorem adk_cnt2 {K1 : LM} (h1 : Srt K1) (z1 : Zv K1) (H : LH) : (adk K1 H).length = K1.length + (flt (adk [] H) K1).length := by
  have hB := adk_srt srt_nil H
  have zB : Zv (adk [] H) := adk_z (fun x hx => by cases hx) H
  have a := adk_cnt h1 z1 H
  have b := flt_cmn K1 (adk [] H)
  have c := flt_cmn (adk [] H) K1
  rw [cmn_sym h1 hB z1 zB] at b
  omega
/-- the keys alone -/
def zer (L : LM) : LM := L.map (fun a => (a.1, 0))
theorem zer_z (L : LM) : Zv (zer L) := fun x hx => by
  obtain ⟨a, _, e⟩ := List.mem_map.mp hx
  rw [← e]
theorem zer_srt {L : LM} (hs : Srt L) : Srt (zer L) := List.pairwise_map.mpr hs
theorem zer_len (L : LM) : (zer L).length = L.length := List.length_map _
theorem lk_zer (L : LM) (q : Int32) : lk (zer L) q = (lk L q).map (fun _ => 0) := by
  induction L with
  | nil => rfl
  | cons a r ih =>
    show (if a.1 = q then some (0 : Int32) else lk (zer r) q) = Option.map _ (if a.1 = q then some a.2 else lk r q)
    by_cases e : a.1 = q
    · rw [if_pos e, if_pos e]; rfl
    · rw [if_neg e, if_neg e]; exact ih
theorem lk_zer0 (L : LM) (q : Int32) : lk (zer L) q = none ↔ lk L q = none := by rw [lk_zer]; simp
theorem sub_len {M U : LM} (hM : Srt M) (hU : Srt U) (h : ∀ q, lk U q = none → lk M q = none) : M.length ≤ U.length := by
  have e : zer M = cmn (zer U) M := by
    refine z_ext (zer_srt hM) (fil_srt (zer_srt hU) _) (zer_z M) (fil_z (zer_z U) _) (fun q => ?_)
    show _ ↔ lk (cmn (zer U) M) q = none
    rw [lk_zer0, lk_cmn (zer_srt hU)]
    by_cases c : lk M q = none
    · rw [if_pos c]; simp [c]
    · rw [if_neg c, lk_zer0]
      exact ⟨fun z => absurd z c, fun z => h q z⟩
  have h2 := flt_cmn (zer U) M
  rw [← e, zer_len, zer_len] at h2
  omega
theorem flt_zer (A L : LM) : flt A (zer L) = flt A L := by
  unfold flt
  refine List.filter_congr (fun a _ => ?_)
  rw [lk_zer]
  cases lk L a.1 <;> rfl
/-- where the keys of the steps lie in a set that has room, every play has room -/
theorem room_sub {U : LM} (hU : Srt U) (hl : U.length ≤ 60) : ∀ (R : LH) (M : LM), Srt M → (∀ q, lk U q = none → lk M q = none) → (∀ s, s ∈ R → lk U s.2.1 ≠ none) → room 60 M R := by
  intro R
  induction R with
  | nil => intro M _ _ _; trivial
  | cons s r ih =>
    intro M hM hsub hk
    have k1 : lk U s.2.1 ≠ none := hk s List.mem_cons_self
    refine ⟨?_, ih _ (chg_srt hM _ _ _) (fun q hq => ?_) (fun x hx => hk x (List.mem_cons_of_mem _ hx))⟩
    · by_cases c : hasP M s.2.1
      · exact Or.inl c
      · refine Or.inr ?_
        have := sub_len (ins_srt hM s.2.1 0) hU (fun q hq => by
          rw [lk_ins hM]
          by_cases e : s.2.1 = q
          · rw [← e] at hq; exact absurd hq k1
          · rw [if_neg e]; exact hsub q hq)
        rw [ins_new_len hM c] at this
        omega
    · rw [lk_chg hM]
      by_cases e : s.2.1 = q
      · rw [← e] at hq; exact absurd hq k1
      · rw [if_neg e]; exact hsub q hq
theorem room_of {L : LM} (hs : Srt L) (H : LH) (h : L.length + (flt (adk [] H) L).length ≤ 60) (R : LH) (hR : ∀ s, s ∈ R → s ∈ H) : room 60 L R := by
  have hc := adk_cnt2 (zer_srt hs) (zer_z L) H
  rw [zer_len, flt_zer] at hc
  refine room_sub (adk_srt (zer_srt hs) H) (by omega) R L hs (fun q hq => ?_) (fun s hs2 hq => ?_)
  · exact (lk_zer0 L q).mp ((lk_adk (zer_srt hs) (zer_z L) H q).mp hq).1
  · exact ((lk_adk (zer_srt hs) (zer_z L) H _).mp hq).2 s (hR s hs2) rfl
/-- what the reference gathers: the keys of a history which a map lacks -/
def gth (T : LM) : LM → LH → LM
  | S, [] => S
  | S, s :: r => gth T (if lk T s.2.1 = none then ins S s.2.1 0 else S) r
theorem gth_flt {T K : LM} (hK : Srt K) (zK : Zv K) (H : LH) : gth T (flt K T) H = flt (adk K H) T := by
  induction H generalizing K with
  | nil => rfl
  | cons s r ih =>
    show gth T (if lk T s.2.1 = none then ins (flt K T) s.2.1 0 else flt K T) r = flt (adk (ins K s.2.1 0) r) T
    rw [← ih (ins_srt hK s.2.1 0) (zK.ins _)]
    congr 1
    by_cases c : lk T s.2.1 = none
    · rw [if_pos c]
      refine srt_ext (ins_srt (fil_srt hK _) _ _) (fil_srt (ins_srt hK _ _) _) (fun q => ?_)
      show lk (ins (flt K T) s.2.1 0) q = lk (flt _ T) q
      rw [lk_ins (flt_srt hK _), lk_flt hK, lk_flt (ins_srt hK _ _), lk_ins hK]
      by_cases e : s.2.1 = q
      · rw [if_pos e, if_pos e, if_pos (by rw [← e]; exact c)]
      · rw [if_neg e, if_neg e]
    · rw [if_neg c]
      refine srt_ext (fil_srt hK _) (fil_srt (ins_srt hK _ _) _) (fun q => ?_)
      show lk (flt K T) q = lk (flt _ T) q
      rw [lk_flt hK, lk_flt (ins_srt hK _ _), lk_ins hK]
      by_cases e : s.2.1 = q
      · rw [if_neg (by rw [← e]; exact c), if_neg (by rw [← e]; exact c)]
      · rw [if_neg e]
theorem flt_nil (K : LM) : flt K [] = K := by unfold flt; exact List.filter_eq_self.mpr (fun a _ => rfl)
