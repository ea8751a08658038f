/-! a function answers, and what holds of the answer -/
def ok {α : Type} (x : Option α) (P : α → Prop) : Prop := ∃ r, x = some r ∧ P r
theorem ok_ret {α : Type} {v : α} {P : α → Prop} (h : P v) : ok (some v) P := ⟨v, rfl, h⟩
theorem ok_eq {α : Type} {x : Option α} {v : α} {P : α → Prop} (e : x = some v) (h : P v) : ok x P := ⟨v, e, h⟩
theorem ok_mono {α : Type} {x : Option α} {P Q : α → Prop} (h : ok x P) (hq : ∀ r, P r → Q r) : ok x Q := by
  obtain ⟨r, e, hr⟩ := h
  exact ⟨r, e, hq r hr⟩
theorem ok_chk {α : Type} {b : Bool} {k : Option α} {P : α → Prop} (h : b = true) (hk : ok k P) : ok (chk b k) P := by rw [chk_true h]; exact hk
theorem ok_stl {β : Type} {S : sM} {k : sM → Option β} {P : β → Prop} (h : ∀ σ1, σ1 = S → ok (k σ1) P) : ok (stl S k) P := h S rfl
theorem ok_r {α β : Type} {x : Option α} {k : α → Option β} {v : α} {P : β → Prop} (e : x = some v) (h : ok (k v) P) : ok (rthn x k) P := by rw [e]; exact h
theorem ok_rb {α β : Type} {x : Option α} {k : α → Option β} {P1 : α → Prop} {P : β → Prop} (hx : ok x P1) (h : ∀ v, P1 v → ok (k v) P) : ok (rthn x k) P := by
  obtain ⟨v, e, hv⟩ := hx
  rw [e]; exact h v hv
theorem ok_w {α β : Type} {x : Option (α × sM)} {k : α → sM → Option β} {P1 : α × sM → Prop} {P : β → Prop} (hx : ok x P1) (h : ∀ r σ1, P1 (r, σ1) → ok (k r σ1) P) : ok (wthn x k) P := by
  obtain ⟨q, e, hv⟩ := hx
  rw [e]; exact h q.1 q.2 hv
theorem ok_tr {α β : Type} {x : Option ((String ⊕ α) × sM)} {k : α → sM → Option ((String ⊕ β) × sM)} {r : α} {σ1 : sM} {P : (String ⊕ β) × sM → Prop} (e : x = some (.inr r, σ1)) (h : ok (k r σ1) P) : ok (thn x k) P := by rw [e]; exact h
theorem ok_te {α β : Type} {x : Option ((String ⊕ α) × sM)} {k : α → sM → Option ((String ⊕ β) × sM)} {E : String} {σ1 : sM} {P : (String ⊕ β) × sM → Prop} (e : x = some (.inl E, σ1)) (h : P (.inl E, σ1)) : ok (thn x k) P := by rw [e]; exact ⟨_, rfl, h⟩
theorem ok_if {α : Type} {c : Prop} [Decidable c] {A B : Option α} {P : α → Prop} (h1 : c → ok A P) (h2 : ¬ c → ok B P) : ok (if c then A else B) P := by
  by_cases h : c
  · rw [if_pos h]; exact h1 h
  · rw [if_neg h]; exact h2 h
theorem ok_ip {α : Type} {c : Prop} [Decidable c] {A B : Option α} {P : α → Prop} (h : c) (hA : ok A P) : ok (if c then A else B) P := by rw [if_pos h]; exact hA
theorem ok_in {α : Type} {c : Prop} [Decidable c] {A B : Option α} {P : α → Prop} (h : ¬ c) (hB : ok B P) : ok (if c then A else B) P := by rw [if_neg h]; exact hB
/-! maps as sorted lists of entries: what the calls do, in words of lists alone -/
abbrev LM : Type := List (Int32 × Int32)
def Srt (L : LM) : Prop := L.Pairwise (fun a b => a.1 < b.1)
def kA (L : LM) (j : Nat) : Int32 := (L.getD j (0, 0)).1
def vA (L : LM) (j : Nat) : Int32 := (L.getD j (0, 0)).2
/-- how many keys stand ahead of the first one not below k -/
def cb : LM → Int32 → Nat
  | [], _ => 0
  | a :: r, k => if a.1 < k then cb r k + 1 else 0
def lk : LM → Int32 → Option Int32
  | [], _ => none
  | a :: r, k => if a.1 = k then some a.2 else lk r k
def ins : LM → Int32 → Int32 → LM
  | [], k, v => [(k, v)]
  | a :: r, k, v => if a.1 < k then a :: ins r k v else if a.1 = k then (k, v) :: r else (k, v) :: a :: r
def del : LM → Int32 → LM
  | [], _ => []
  | a :: r, k => if a.1 = k then r else a :: del r k
theorem i_nlt {a b : Int32} (h : a < b) : ¬ b < a := by rw [Int32.lt_iff_toInt_lt] at *; omega
theorem i_irr (a : Int32) : ¬ a < a := by rw [Int32.lt_iff_toInt_lt]; omega
theorem i_tr {a b c : Int32} (h : a < b) (h2 : b < c) : a < c := by rw [Int32.lt_iff_toInt_lt] at *; omega
theorem i_le {a b : Int32} : a ≤ b ↔ ¬ b < a := by rw [Int32.lt_iff_toInt_lt, Int32.le_iff_toInt_le]; omega
theorem i_eq {a b : Int32} (h1 : ¬ a < b) (h2 : ¬ b < a) : a = b := by
  rw [Int32.lt_iff_toInt_lt] at *
  exact Int32.toInt_inj.mp (by omega)
theorem i_ltle {a b c : Int32} (h : a < b) (h2 : b ≤ c) : a < c := by rw [Int32.lt_iff_toInt_lt] at *; rw [Int32.le_iff_toInt_le] at h2; omega
theorem i_lelt {a b c : Int32} (h : a ≤ b) (h2 : b < c) : a < c := by rw [Int32.lt_iff_toInt_lt] at *; rw [Int32.le_iff_toInt_le] at h; omega
theorem kA_0 (a : Int32 × Int32) (r : LM) : kA (a :: r) 0 = a.1 := rfl
theorem kA_s (a : Int32 × Int32) (r : LM) (j : Nat) : kA (a :: r) (j + 1) = kA r j := rfl
theorem vA_0 (a : Int32 × Int32) (r : LM) : vA (a :: r) 0 = a.2 := rfl
theorem vA_s (a : Int32 × Int32) (r : LM) (j : Nat) : vA (a :: r) (j + 1) = vA r j := rfl
theorem Srt.tl {a : Int32 × Int32} {r : LM} (h : Srt (a :: r)) : Srt r := (List.pairwise_cons.mp h).2
theorem Srt.hd {a : Int32 × Int32} {r : LM} (h : Srt (a :: r)) : ∀ x ∈ r, a.1 < x.1 := (List.pairwise_cons.mp h).1
theorem kA_mem {L : LM} {j : Nat} (h : j < L.length) : (kA L j, vA L j) ∈ L := by
  have e : (kA L j, vA L j) = L[j] := by simp [kA, vA, List.getD_eq_getElem?_getD, h]
  rw [e]; exact List.getElem_mem h
theorem Srt.lt {L : LM} (h : Srt L) : ∀ {i j : Nat}, i < j → j < L.length → kA L i < kA L j := by
  induction L with
  | nil => intro i j _ hj; exact absurd hj (Nat.not_lt_zero _)
  | cons a r ih =>
    intro i j hij hj
    cases j with
    | zero => omega
    | succ j =>
      cases i with
      | zero => exact h.hd _ (kA_mem (by simpa using hj))
      | succ i => exact ih h.tl (by omega) (by simpa using hj)
theorem cb_le (L : LM) (k : Int32) : cb L k ≤ L.length := by
  induction L with
  | nil => exact Nat.le_refl 0
  | cons a r ih => unfold cb; split <;> simp <;> omega
theorem cb_lt {L : LM} {k : Int32} : ∀ {j : Nat}, j < cb L k → kA L j < k := by
  induction L with
  | nil => intro j h; exact absurd h (Nat.not_lt_zero _)
  | cons a r ih =>
    intro j h
    unfold cb at h
    split at h
    · cases j with
      | zero => assumption
      | succ j => exact ih (by omega)
    · exact absurd h (Nat.not_lt_zero _)
theorem cb_ge {L : LM} (hs : Srt L) {k : Int32} : ∀ {j : Nat}, cb L k ≤ j → j < L.length → ¬ kA L j < k := by
  induction L with
  | nil => intro j _ h; exact absurd h (Nat.not_lt_zero _)
  | cons a r ih =>
    intro j h hj
    unfold cb at h
    split at h
    · cases j with
      | zero => omega
      | succ j => exact ih hs.tl (by omega) (by simpa using hj)
    · rename_i hn
      cases j with
      | zero => exact hn
      | succ j => exact fun hlt => hn (i_tr (hs.hd _ (kA_mem (by simpa using hj))) hlt)
/-- what makes a number the count below k -/
theorem cb_of {L : LM} (hs : Srt L) {k : Int32} {p : Nat} (hp : p ≤ L.length) (h1 : ∀ j, j < p → kA L j < k) (h2 : ∀ j, p ≤ j → j < L.length → ¬ kA L j < k) : cb L k = p := by
  rcases Nat.lt_trichotomy (cb L k) p with h | h | h
  · exact absurd (h1 _ h) (cb_ge hs (Nat.le_refl _) (by omega))
  · exact h
  · exact absurd (cb_lt h) (h2 _ (Nat.le_refl _) (Nat.lt_of_lt_of_le h (cb_le L k)))
abbrev has (L : LM) (k : Int32) : Prop := cb L k < L.length ∧ kA L (cb L k) = k
theorem lk_has {L : LM} (hs : Srt L) {k : Int32} (h : has L k) : lk L k = some (vA L (cb L k)) := by
  induction L with
  | nil => exact absurd h.1 (Nat.not_lt_zero _)
  | cons a r ih =>
    obtain ⟨h1, h2⟩ := h
    unfold cb at h1 h2 ⊢
    unfold lk
    by_cases hlt : a.1 < k
    · rw [if_pos hlt] at h1 h2 ⊢
      rw [if_neg (fun e => i_irr k (by rw [← e] at hlt; rw [e] at hlt; exact hlt))]
      exact ih hs.tl ⟨by simpa using h1, h2⟩
    · rw [if_neg hlt] at h2 ⊢
      have h3 : a.1 = k := h2
      rw [if_pos h3]
      rfl
theorem lk_not {L : LM} (hs : Srt L) {k : Int32} (h : ¬ has L k) : lk L k = none := by
  induction L with
  | nil => rfl
  | cons a r ih =>
    unfold lk
    have hne : ¬ a.1 = k := fun e => h (by
      have hc : cb (a :: r) k = 0 := by unfold cb; rw [if_neg (by rw [e]; exact i_irr k)]
      exact ⟨by rw [hc]; simp, by rw [hc]; exact e⟩)
    rw [if_neg hne]
    by_cases hlt : a.1 < k
    · refine ih hs.tl (fun hh => h ?_)
      have hc : cb (a :: r) k = cb r k + 1 := by rw [cb, if_pos hlt]
      exact ⟨by rw [hc]; simpa using hh.1, by rw [hc]; exact hh.2⟩
    · -- all keys are above k
      have hgt : k < a.1 := by
        rcases Int32.lt_or_le k a.1 with q | q
        · exact q
        · exact absurd (i_eq hlt (i_le.mp q)) hne
      clear ih h
      have : ∀ (r : LM), (∀ x ∈ r, k < x.1) → lk r k = none := by
        intro r
        induction r with
        | nil => intro _; rfl
        | cons b r ih =>
          intro hb
          unfold lk
          rw [if_neg (fun e => i_irr k (by have := hb b List.mem_cons_self; rw [e] at this; exact this))]
          exact ih (fun x hx => hb x (List.mem_cons_of_mem _ hx))
      exact this r (fun x hx => i_tr hgt (hs.hd x hx))
theorem ins_mem {L : LM} {k v : Int32} {x : Int32 × Int32} (h : x ∈ ins L k v) : x = (k, v) ∨ x ∈ L := by
  induction L with
  | nil => exact Or.inl (by simpa [ins] using h)
  | cons a r ih =>
    unfold ins at h
    split at h
    · rcases List.mem_cons.mp h with h | h
      · exact Or.inr (by rw [h]; exact List.mem_cons_self)
      · rcases ih h with h | h
        · exact Or.inl h
        · exact Or.inr (List.mem_cons_of_mem _ h)
    · split at h
      · rcases List.mem_cons.mp h with h | h
        · exact Or.inl h
        · exact Or.inr (List.mem_cons_of_mem _ h)
      · rcases List.mem_cons.mp h with h | h
        · exact Or.inl h
        · exact Or.inr h
theorem ins_srt {L : LM} (hs : Srt L) (k v : Int32) : Srt (ins L k v) := by
  induction L with
  | nil => exact List.pairwise_singleton _ _
  | cons a r ih =>
    unfold ins
    split
    · rename_i hlt
      refine List.pairwise_cons.mpr ⟨fun x hx => ?_, ih hs.tl⟩
      rcases ins_mem hx with rfl | hx
      · exact hlt
      · exact hs.hd x hx
    · split
      · rename_i hn he
        refine List.pairwise_cons.mpr ⟨fun x hx => ?_, hs.tl⟩
        have := hs.hd x hx
        rw [he] at this
        exact this
      · rename_i hn he
        have hgt : k < a.1 := by
          rcases Int32.lt_or_le k a.1 with q | q
          · exact q
          · exact absurd (i_eq hn (i_le.mp q)) he
        refine List.pairwise_cons.mpr ⟨fun x hx => ?_, hs⟩
        rcases List.mem_cons.mp hx with rfl | hx
        · exact hgt
        · exact i_tr hgt (hs.hd x hx)
theorem del_mem {L : LM} {k : Int32} {x : Int32 × Int32} (h : x ∈ del L k) : x ∈ L := by
  induction L with
  | nil => exact h
  | cons a r ih =>
    unfold del at h
    split at h
    · exact List.mem_cons_of_mem _ h
    · rcases List.mem_cons.mp h with h | h
      · rw [h]; exact List.mem_cons_self
      · exact List.mem_cons_of_mem _ (ih h)
theorem del_srt {L : LM} (hs : Srt L) (k : Int32) : Srt (del L k) := by
  induction L with
  | nil => exact hs
  | cons a r ih =>
    unfold del
    split
    · exact hs.tl
    · exact List.pairwise_cons.mpr ⟨fun x hx => hs.hd x (del_mem hx), ih hs.tl⟩
theorem lk_above {r : LM} {k : Int32} (h : ∀ x ∈ r, k < x.1) : lk r k = none := by
  induction r with
  | nil => rfl
  | cons b r ih =>
    unfold lk
    rw [if_neg (fun e => i_irr k (by have := h b List.mem_cons_self; rw [e] at this; exact this))]
    exact ih (fun x hx => h x (List.mem_cons_of_mem _ hx))
theorem lk_ins {L : LM} (hs : Srt L) (k v q : Int32) : lk (ins L k v) q = if k = q then some v else lk L q := by
  induction L with
  | nil => rfl
  | cons a r ih =>
    unfold ins
    split
    · rename_i hlt
      unfold lk
      by_cases e : a.1 = q
      · rw [if_pos e, if_pos e, if_neg (fun e2 => i_irr k (by rw [e, ← e2] at hlt; exact hlt))]
      · rw [if_neg e, if_neg e, ih hs.tl]
    · split
      · rename_i hn he
        show (if k = q then some v else lk r q) = _
        by_cases e : k = q
        · rw [if_pos e, if_pos e]
        · rw [if_neg e, if_neg e]
          show lk r q = if a.1 = q then some a.2 else lk r q
          rw [if_neg (by rw [he]; exact e)]
      · rfl
theorem lk_del {L : LM} (hs : Srt L) (k q : Int32) : lk (del L k) q = if k = q then none else lk L q := by
  induction L with
  | nil => simp [del, lk]
  | cons a r ih =>
    unfold del
    split
    · rename_i he
      by_cases e : k = q
      · rw [if_pos e]
        exact lk_above (fun x hx => by rw [← e, ← he]; exact hs.hd x hx)
      · rw [if_neg e]
        show lk r q = if a.1 = q then some a.2 else lk r q
        rw [if_neg (by rw [he]; exact e)]
    · rename_i he
      show (if a.1 = q then some a.2 else lk (del r k) q) = if k = q then none else if a.1 = q then some a.2 else lk r q
      rw [ih hs.tl]
      by_cases e : a.1 = q
      · rw [if_pos e, if_pos e, if_neg (fun e2 => he (e.trans e2.symm))]
      · rw [if_neg e, if_neg e]
/-- two sorted lists with the same entries are one -/
theorem srt_ext {A B : LM} (hA : Srt A) (hB : Srt B) (h : ∀ k, lk A k = lk B k) : A = B := by
  induction A generalizing B with
  | nil =>
    cases B with
    | nil => rfl
    | cons b r => have := h b.1; simp [lk] at this
  | cons a r ih =>
    cases B with
    | nil => have := h a.1; simp [lk] at this
    | cons b s =>
      have hab : a.1 = b.1 := by
        refine i_eq (fun q => ?_) (fun q => ?_)
        · have h1 := h a.1
          rw [lk, if_pos rfl, lk, if_neg (fun e => i_irr a.1 (by rw [e] at q; exact q)), lk_above (fun x hx => i_tr q (hB.hd x hx))] at h1
          cases h1
        · have h1 := h b.1
          rw [lk, if_neg (fun e => i_irr b.1 (by rw [e] at q; exact q)), lk_above (fun x hx => i_tr q (hA.hd x hx)), lk, if_pos rfl] at h1
          cases h1
      have hv : a.2 = b.2 := by
        have h1 := h a.1
        rw [lk, if_pos rfl, lk, if_pos hab.symm] at h1
        exact Option.some.inj h1
      have hr : r = s := by
        refine ih hA.tl hB.tl (fun k => ?_)
        have h1 := h k
        by_cases e : a.1 = k
        · rw [← e, lk_above (fun x hx => hA.hd x hx), hab, lk_above (fun x hx => hB.hd x hx)]
        · rw [lk, if_neg e, lk, if_neg (by rw [← hab]; exact e)] at h1
          exact h1
      rw [hr, Prod.ext hab hv]
/-- what ins and del are, by places -/
theorem ins_new {L : LM} (hs : Srt L) {k : Int32} (h : ¬ has L k) (v : Int32) : ins L k v = L.take (cb L k) ++ (k, v) :: L.drop (cb L k) := by
  induction L with
  | nil => rfl
  | cons a r ih =>
    unfold ins
    by_cases hlt : a.1 < k
    · have hc : cb (a :: r) k = cb r k + 1 := by rw [cb, if_pos hlt]
      rw [if_pos hlt, hc, ih hs.tl (fun hh => h ⟨by rw [hc]; simpa using hh.1, by rw [hc]; exact hh.2⟩)]
      rfl
    · have hc : cb (a :: r) k = 0 := by rw [cb, if_neg hlt]
      have hne : ¬ a.1 = k := fun e => h ⟨by rw [hc]; simp, by rw [hc]; exact e⟩
      rw [if_neg hlt, if_neg hne, hc]
      rfl
theorem ins_old {L : LM} (hs : Srt L) {k : Int32} (h : has L k) (v : Int32) : ins L k v = L.set (cb L k) (k, v) := by
  induction L with
  | nil => exact absurd h.1 (Nat.not_lt_zero _)
  | cons a r ih =>
    unfold ins
    by_cases hlt : a.1 < k
    · have hc : cb (a :: r) k = cb r k + 1 := by rw [cb, if_pos hlt]
      obtain ⟨h1, h2⟩ := h
      rw [hc] at h1 h2
      rw [if_pos hlt, hc, ih hs.tl ⟨by simpa using h1, h2⟩]
      rfl
    · have hc : cb (a :: r) k = 0 := by rw [cb, if_neg hlt]
      have he : a.1 = k := by have := h.2; rw [hc] at this; exact this
      rw [if_neg hlt, if_pos he, hc]
      rfl
theorem del_old {L : LM} (hs : Srt L) {k : Int32} (h : has L k) : del L k = L.eraseIdx (cb L k) := by
  induction L with
  | nil => exact absurd h.1 (Nat.not_lt_zero _)
  | cons a r ih =>
    unfold del
    by_cases hlt : a.1 < k
    · have hc : cb (a :: r) k = cb r k + 1 := by rw [cb, if_pos hlt]
      obtain ⟨h1, h2⟩ := h
      rw [hc] at h1 h2
      rw [if_neg (fun e => i_irr k (by rw [e] at hlt; exact hlt)), hc, ih hs.tl ⟨by simpa using h1, h2⟩]
      rfl
    · have hc : cb (a :: r) k = 0 := by rw [cb, if_neg hlt]
      have he : a.1 = k := by have := h.2; rw [hc] at this; exact this
      rw [if_pos he, hc]
      rfl
theorem del_new {L : LM} (hs : Srt L) {k : Int32} (h : ¬ has L k) : del L k = L := by
  refine srt_ext (del_srt hs k) hs (fun q => ?_)
  rw [lk_del hs]
  by_cases e : k = q
  · rw [if_pos e, ← e, lk_not hs h]
  · rw [if_neg e]
theorem gD_take_drop {α : Type} (L : List α) (p : Nat) (hp : p ≤ L.length) (x d : α) (j : Nat) : (L.take p ++ x :: L.drop p).getD j d = if j < p then L.getD j d else if j = p then x else L.getD (j - 1) d := by
  simp only [List.getD_eq_getElem?_getD]
  by_cases h1 : j < p
  · rw [if_pos h1, List.getElem?_append_left (by rw [List.length_take]; omega), List.getElem?_take_of_lt h1]
  · rw [if_neg h1, List.getElem?_append_right (by rw [List.length_take]; omega), List.length_take, Nat.min_eq_left hp]
    by_cases h2 : j = p
    · rw [if_pos h2, h2, Nat.sub_self]; rfl
    · rw [if_neg h2]
      obtain ⟨q, hq⟩ : ∃ q, j - p = q + 1 := ⟨j - p - 1, by omega⟩
      rw [hq, List.getElem?_cons_succ, List.getElem?_drop]
      congr 2
      omega
theorem ins_new_k {L : LM} (hs : Srt L) {k : Int32} (h : ¬ has L k) (v : Int32) (j : Nat) : kA (ins L k v) j = (if j < cb L k then kA L j else if j = cb L k then k else kA L (j - 1)) ∧ vA (ins L k v) j = (if j < cb L k then vA L j else if j = cb L k then v else vA L (j - 1)) := by
  unfold kA vA
  rw [ins_new hs h, gD_take_drop L _ (cb_le L k)]
  constructor <;> (split; rfl; split <;> rfl)
theorem ins_new_len {L : LM} (hs : Srt L) {k : Int32} (h : ¬ has L k) (v : Int32) : (ins L k v).length = L.length + 1 := by
  rw [ins_new hs h, List.length_append, List.length_cons, List.length_take, List.length_drop]
  have := cb_le L k
  omega
theorem ins_old_k {L : LM} (hs : Srt L) {k : Int32} (h : has L k) (v : Int32) (j : Nat) : kA (ins L k v) j = kA L j ∧ vA (ins L k v) j = (if j = cb L k then v else vA L j) := by
  unfold kA vA
  rw [ins_old hs h]
  simp only [List.getD_eq_getElem?_getD]
  by_cases e : j = cb L k
  · rw [if_pos e, e, List.getElem?_set_self h.1]
    exact ⟨by have := h.2; unfold kA at this; rw [List.getD_eq_getElem?_getD] at this; exact this.symm, rfl⟩
  · rw [if_neg e, List.getElem?_set_ne (Ne.symm e)]
    exact ⟨rfl, rfl⟩
theorem ins_old_len {L : LM} (hs : Srt L) {k : Int32} (h : has L k) (v : Int32) : (ins L k v).length = L.length := by
  rw [ins_old hs h, List.length_set]
theorem del_old_k {L : LM} (hs : Srt L) {k : Int32} (h : has L k) (j : Nat) : kA (del L k) j = (if j < cb L k then kA L j else kA L (j + 1)) ∧ vA (del L k) j = (if j < cb L k then vA L j else vA L (j + 1)) := by
  unfold kA vA
  rw [del_old hs h]
  simp only [List.getD_eq_getElem?_getD, List.getElem?_eraseIdx]
  constructor <;> (split <;> rfl)
theorem del_old_len {L : LM} (hs : Srt L) {k : Int32} (h : has L k) : (del L k).length = L.length - 1 := by
  rw [del_old hs h, List.length_eraseIdx, if_pos h.1]
