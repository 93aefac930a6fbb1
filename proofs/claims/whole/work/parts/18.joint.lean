/-! COPIES; THE JOINT INVARIANT -/
def Zr (n : Nat) (f : Nat → Int32) : Prop := ∀ k, n ≤ k → f k = 0
/-- beyond their lengths the rows are 0 -/
def ZT (T : Sg) : Prop := (∀ k, k < 8 ∨ 12 ≤ k → T 0 k = 0) ∧ (Zr 12 (T 1) ∧ Zr 12 (T 2)) ∧ (Zr 8 (T 3) ∧ Zr 8 (T 4) ∧ Zr 8 (T 5) ∧ Zr 8 (T 6) ∧ Zr 8 (T 7)) ∧ Zr 10 (T 8)
theorem ZT_cong {T U : Sg} (e : ∀ j, j < 9 → T j = U j) (h : ZT T) : ZT U := by
  unfold ZT at h ⊢
  rw [e 0 (by decide), e 1 (by decide), e 2 (by decide), e 3 (by decide), e 4 (by decide), e 5 (by decide), e 6 (by decide), e 7 (by decide), e 8 (by decide)] at h
  exact h
theorem VT_cong {n h b : Nat} {T U : Sg} (e : ∀ j, j < 9 → T j = U j) (v : VTb n h b T) : VTb n h b U := by
  unfold VTb at v ⊢
  rw [e 0 (by decide), e 1 (by decide), e 3 (by decide), e 4 (by decide), e 5 (by decide), e 6 (by decide), e 8 (by decide)] at v
  exact v
theorem Tq_put {o : Nat} {T σ : Sg} : ∀ j, j < 9 → Tq o (putSq o T σ) j = T j := fun j hj => putSq_in (by omega)
theorem putSq_cong {o : Nat} {T U σ : Sg} (e : ∀ j, j < 9 → T j = U j) : putSq o T σ = putSq o U σ := by
  funext i
  rcases sq_cases o i with ⟨j, hj, rfl⟩ | h
  · rw [putSq_in hj, putSq_in hj, e j (by omega)]
  · rw [putSq_out h, putSq_out h]
theorem cpy_all {f g : Nat → Int32} {n : Nat} (hf : Zr n f) (hg : Zr n g) : va_cpy f g 0 0 n = f := by
  funext k
  unfold va_cpy
  split
  · rw [Nat.zero_add, Nat.sub_zero]
  · rename_i h
    rw [hf k (by omega), hg k (by omega)]
theorem bec_fin {A : Nat} {σ T : Sg} (h0 : ∀ k, k < 8 ∨ 12 ≤ k → T 0 k = σ A k) : up2 (up2 (up2 (up2 (upr (upr (upr (upr (upr (upr (upr (upr σ (A + 1) (T 1)) (A + 2) (T 2)) (A + 3) (T 3)) (A + 4) (T 4)) (A + 5) (T 5)) (A + 6) (T 6)) (A + 7) (T 7)) (A + 8) (T 8)) A 8 (T 0 8)) A 9 (T 0 9)) A 10 (T 0 10)) A 11 (T 0 11) = putSq A T σ := by
  have key : ∀ (V : Sg) (k : Nat) (x : Int32), up2 (putSq A V σ) A k x = putSq A (upr V 0 (upd (V 0) k x)) σ := by
    intro V k x
    have := putSq_upr (o := A) (j := 0) (T := V) (σ := σ) (f := upd (V 0) k x) (by decide)
    have e0 : putSq A V σ A = V 0 := putSq_in (o := A) (j := 0) (by decide)
    show upr (putSq A V σ) A (upd (putSq A V σ A) k x) = _
    rw [e0]
    exact this
  have hs : σ = putSq A (Tq A σ) σ := (putSq_self A σ).symm
  have e : upr (upr (upr (upr (upr (upr (upr (upr σ (A + 1) (T 1)) (A + 2) (T 2)) (A + 3) (T 3)) (A + 4) (T 4)) (A + 5) (T 5)) (A + 6) (T 6)) (A + 7) (T 7)) (A + 8) (T 8) = putSq A (upr (upr (upr (upr (upr (upr (upr (upr (Tq A σ) 1 (T 1)) 2 (T 2)) 3 (T 3)) 4 (T 4)) 5 (T 5)) 6 (T 6)) 7 (T 7)) 8 (T 8)) σ := by
    rw [← putSq_upr (by decide), ← putSq_upr (by decide), ← putSq_upr (by decide), ← putSq_upr (by decide), ← putSq_upr (by decide), ← putSq_upr (by decide), ← putSq_upr (by decide), ← putSq_upr (by decide), putSq_self]
  rw [e, key, key, key, key]
  refine putSq_cong (fun j hj => ?_)
  have : j = 0 ∨ j = 1 ∨ j = 2 ∨ j = 3 ∨ j = 4 ∨ j = 5 ∨ j = 6 ∨ j = 7 ∨ j = 8 := by omega
  rcases this with rfl | rfl | rfl | rfl | rfl | rfl | rfl | rfl | rfl
  · funext k
    show (if k = 11 then T 0 11 else if k = 10 then T 0 10 else if k = 9 then T 0 9 else if k = 8 then T 0 8 else σ (A + 0) k) = T 0 k
    by_cases h11 : k = 11
    · rw [if_pos h11, h11]
    · rw [if_neg h11]
      by_cases h10 : k = 10
      · rw [if_pos h10, h10]
      · rw [if_neg h10]
        by_cases h9 : k = 9
        · rw [if_pos h9, h9]
        · rw [if_neg h9]
          by_cases h8 : k = 8
          · rw [if_pos h8, h8]
          · rw [if_neg h8]
            exact (h0 k (by omega)).symm
  all_goals rfl
/-- the first k of f, the rest of g -/
def mx (f g : Nat → Int32) (k : Nat) : Nat → Int32 := fun j => if j < k then f j else g j
theorem mx_0 (f g : Nat → Int32) : mx f g 0 = g := by
  funext j
  exact if_neg (by omega)
theorem mx_upd (f g : Nat → Int32) (k : Nat) : upd (mx f g k) k (f k) = mx f g (k + 1) := by
  funext j
  unfold upd mx
  by_cases h : j = k
  · subst h
    rw [if_pos rfl, if_pos (by omega)]
  · rw [if_neg h]
    by_cases h2 : j < k
    · rw [if_pos h2, if_pos (by omega)]
    · rw [if_neg h2, if_neg (by omega)]
theorem mx_all {f g : Nat → Int32} {n : Nat} (hf : Zr n f) (hg : Zr n g) : mx f g n = f := by
  funext j
  unfold mx
  split
  · rfl
  · rename_i h
    rw [hf j (by omega), hg j (by omega)]

theorem ct_become_10_1 {σ : Sg} (za : ZT (Tq 10 σ)) (zb' : ZT (Tq 1 σ)) : Ct mX2_become [.ref 10, .ref 1] σ (Ex none (putSq 10 (Tq 1 σ) σ)) := by
  obtain ⟨b0, ⟨b1, b2⟩, ⟨b3, b4, b5, b6, b7⟩, b8⟩ := zb'
  obtain ⟨a0, ⟨a1, a2⟩, ⟨a3, a4, a5, a6, a7⟩, a8⟩ := za
  refine Ct.of (by decide +kernel) zX2_become (Nat.le_of_ble_eq_true rfl) (by decide) (fun X go => ?_)
  refine go.1 [] 100 _ _ _ _ ?_
  refine Exists.intro 0 (Exists.intro 0 (Exists.intro 12 (And.intro ⟨rfl, rfl, rfl, by decide, by decide, by decide, by decide, by decide⟩ ?_)))
  refine Exists.intro 0 (Exists.intro 0 (Exists.intro 12 (And.intro ⟨rfl, rfl, rfl, by decide, by decide, by decide, by decide, by decide⟩ ?_)))
  refine Exists.intro 0 (Exists.intro 0 (Exists.intro 8 (And.intro ⟨rfl, rfl, rfl, by decide, by decide, by decide, by decide, by decide⟩ ?_)))
  refine Exists.intro 0 (Exists.intro 0 (Exists.intro 8 (And.intro ⟨rfl, rfl, rfl, by decide, by decide, by decide, by decide, by decide⟩ ?_)))
  refine Exists.intro 0 (Exists.intro 0 (Exists.intro 8 (And.intro ⟨rfl, rfl, rfl, by decide, by decide, by decide, by decide, by decide⟩ ?_)))
  refine Exists.intro 0 (Exists.intro 0 (Exists.intro 8 (And.intro ⟨rfl, rfl, rfl, by decide, by decide, by decide, by decide, by decide⟩ ?_)))
  refine Exists.intro 0 (Exists.intro 0 (Exists.intro 8 (And.intro ⟨rfl, rfl, rfl, by decide, by decide, by decide, by decide, by decide⟩ ?_)))
  refine Exists.intro 0 (Exists.intro 0 (Exists.intro 10 (And.intro ⟨rfl, rfl, rfl, by decide, by decide, by decide, by decide, by decide⟩ ?_)))
  refine And.intro ⟨rfl, rfl⟩ ?_
  refine And.intro ⟨rfl, rfl⟩ ?_
  refine And.intro ⟨rfl, rfl⟩ ?_
  refine And.intro ⟨rfl, rfl⟩ ?_
  refine And.intro rfl ?_
  have e1 : va_cpy (σ (1 + 1)) (σ (10 + 1)) 0 0 12 = σ (1 + 1) := cpy_all b1 a1
  have e2 : va_cpy (σ (1 + 2)) (σ (10 + 2)) 0 0 12 = σ (1 + 2) := cpy_all b2 a2
  have e3 : va_cpy (σ (1 + 3)) (σ (10 + 3)) 0 0 8 = σ (1 + 3) := cpy_all b3 a3
  have e4 : va_cpy (σ (1 + 4)) (σ (10 + 4)) 0 0 8 = σ (1 + 4) := cpy_all b4 a4
  have e5 : va_cpy (σ (1 + 5)) (σ (10 + 5)) 0 0 8 = σ (1 + 5) := cpy_all b5 a5
  have e6 : va_cpy (σ (1 + 6)) (σ (10 + 6)) 0 0 8 = σ (1 + 6) := cpy_all b6 a6
  have e7 : va_cpy (σ (1 + 7)) (σ (10 + 7)) 0 0 8 = σ (1 + 7) := cpy_all b7 a7
  have e8 : va_cpy (σ (1 + 8)) (σ (10 + 8)) 0 0 10 = σ (1 + 8) := cpy_all b8 a8
  show up2 (up2 (up2 (up2 (upr (upr (upr (upr (upr (upr (upr (upr σ (10 + 1) (va_cpy (σ (1 + 1)) (σ (10 + 1)) 0 0 12)) (10 + 2) (va_cpy (σ (1 + 2)) (σ (10 + 2)) 0 0 12)) (10 + 3) (va_cpy (σ (1 + 3)) (σ (10 + 3)) 0 0 8)) (10 + 4) (va_cpy (σ (1 + 4)) (σ (10 + 4)) 0 0 8)) (10 + 5) (va_cpy (σ (1 + 5)) (σ (10 + 5)) 0 0 8)) (10 + 6) (va_cpy (σ (1 + 6)) (σ (10 + 6)) 0 0 8)) (10 + 7) (va_cpy (σ (1 + 7)) (σ (10 + 7)) 0 0 8)) (10 + 8) (va_cpy (σ (1 + 8)) (σ (10 + 8)) 0 0 10)) 10 8 (Tq 1 σ 0 8)) 10 9 (Tq 1 σ 0 9)) 10 10 (Tq 1 σ 0 10)) 10 11 (Tq 1 σ 0 11) = _
  rw [e1, e2, e3, e4, e5, e6, e7, e8]
  exact bec_fin (T := Tq 1 σ) (fun k hk => (b0 k hk).trans (a0 k hk).symm)

theorem ct_become_1_10 {σ : Sg} (za : ZT (Tq 1 σ)) (zb' : ZT (Tq 10 σ)) : Ct mX2_become [.ref 1, .ref 10] σ (Ex none (putSq 1 (Tq 10 σ) σ)) := by
  obtain ⟨b0, ⟨b1, b2⟩, ⟨b3, b4, b5, b6, b7⟩, b8⟩ := zb'
  obtain ⟨a0, ⟨a1, a2⟩, ⟨a3, a4, a5, a6, a7⟩, a8⟩ := za
  refine Ct.of (by decide +kernel) zX2_become (Nat.le_of_ble_eq_true rfl) (by decide) (fun X go => ?_)
  refine go.1 [] 100 _ _ _ _ ?_
  refine Exists.intro 0 (Exists.intro 0 (Exists.intro 12 (And.intro ⟨rfl, rfl, rfl, by decide, by decide, by decide, by decide, by decide⟩ ?_)))
  refine Exists.intro 0 (Exists.intro 0 (Exists.intro 12 (And.intro ⟨rfl, rfl, rfl, by decide, by decide, by decide, by decide, by decide⟩ ?_)))
  refine Exists.intro 0 (Exists.intro 0 (Exists.intro 8 (And.intro ⟨rfl, rfl, rfl, by decide, by decide, by decide, by decide, by decide⟩ ?_)))
  refine Exists.intro 0 (Exists.intro 0 (Exists.intro 8 (And.intro ⟨rfl, rfl, rfl, by decide, by decide, by decide, by decide, by decide⟩ ?_)))
  refine Exists.intro 0 (Exists.intro 0 (Exists.intro 8 (And.intro ⟨rfl, rfl, rfl, by decide, by decide, by decide, by decide, by decide⟩ ?_)))
  refine Exists.intro 0 (Exists.intro 0 (Exists.intro 8 (And.intro ⟨rfl, rfl, rfl, by decide, by decide, by decide, by decide, by decide⟩ ?_)))
  refine Exists.intro 0 (Exists.intro 0 (Exists.intro 8 (And.intro ⟨rfl, rfl, rfl, by decide, by decide, by decide, by decide, by decide⟩ ?_)))
  refine Exists.intro 0 (Exists.intro 0 (Exists.intro 10 (And.intro ⟨rfl, rfl, rfl, by decide, by decide, by decide, by decide, by decide⟩ ?_)))
  refine And.intro ⟨rfl, rfl⟩ ?_
  refine And.intro ⟨rfl, rfl⟩ ?_
  refine And.intro ⟨rfl, rfl⟩ ?_
  refine And.intro ⟨rfl, rfl⟩ ?_
  refine And.intro rfl ?_
  have e1 : va_cpy (σ (10 + 1)) (σ (1 + 1)) 0 0 12 = σ (10 + 1) := cpy_all b1 a1
  have e2 : va_cpy (σ (10 + 2)) (σ (1 + 2)) 0 0 12 = σ (10 + 2) := cpy_all b2 a2
  have e3 : va_cpy (σ (10 + 3)) (σ (1 + 3)) 0 0 8 = σ (10 + 3) := cpy_all b3 a3
  have e4 : va_cpy (σ (10 + 4)) (σ (1 + 4)) 0 0 8 = σ (10 + 4) := cpy_all b4 a4
  have e5 : va_cpy (σ (10 + 5)) (σ (1 + 5)) 0 0 8 = σ (10 + 5) := cpy_all b5 a5
  have e6 : va_cpy (σ (10 + 6)) (σ (1 + 6)) 0 0 8 = σ (10 + 6) := cpy_all b6 a6
  have e7 : va_cpy (σ (10 + 7)) (σ (1 + 7)) 0 0 8 = σ (10 + 7) := cpy_all b7 a7
  have e8 : va_cpy (σ (10 + 8)) (σ (1 + 8)) 0 0 10 = σ (10 + 8) := cpy_all b8 a8
  show up2 (up2 (up2 (up2 (upr (upr (upr (upr (upr (upr (upr (upr σ (1 + 1) (va_cpy (σ (10 + 1)) (σ (1 + 1)) 0 0 12)) (1 + 2) (va_cpy (σ (10 + 2)) (σ (1 + 2)) 0 0 12)) (1 + 3) (va_cpy (σ (10 + 3)) (σ (1 + 3)) 0 0 8)) (1 + 4) (va_cpy (σ (10 + 4)) (σ (1 + 4)) 0 0 8)) (1 + 5) (va_cpy (σ (10 + 5)) (σ (1 + 5)) 0 0 8)) (1 + 6) (va_cpy (σ (10 + 6)) (σ (1 + 6)) 0 0 8)) (1 + 7) (va_cpy (σ (10 + 7)) (σ (1 + 7)) 0 0 8)) (1 + 8) (va_cpy (σ (10 + 8)) (σ (1 + 8)) 0 0 10)) 1 8 (Tq 10 σ 0 8)) 1 9 (Tq 10 σ 0 9)) 1 10 (Tq 10 σ 0 10)) 1 11 (Tq 10 σ 0 11) = _
  rw [e1, e2, e3, e4, e5, e6, e7, e8]
  exact bec_fin (T := Tq 10 σ) (fun k hk => (b0 k hk).trans (a0 k hk).symm)

theorem ct_become_19_1 {σ : Sg} (za : ZT (Tq 19 σ)) (zb' : ZT (Tq 1 σ)) : Ct mX2_become [.ref 19, .ref 1] σ (Ex none (putSq 19 (Tq 1 σ) σ)) := by
  obtain ⟨b0, ⟨b1, b2⟩, ⟨b3, b4, b5, b6, b7⟩, b8⟩ := zb'
  obtain ⟨a0, ⟨a1, a2⟩, ⟨a3, a4, a5, a6, a7⟩, a8⟩ := za
  refine Ct.of (by decide +kernel) zX2_become (Nat.le_of_ble_eq_true rfl) (by decide) (fun X go => ?_)
  refine go.1 [] 100 _ _ _ _ ?_
  refine Exists.intro 0 (Exists.intro 0 (Exists.intro 12 (And.intro ⟨rfl, rfl, rfl, by decide, by decide, by decide, by decide, by decide⟩ ?_)))
  refine Exists.intro 0 (Exists.intro 0 (Exists.intro 12 (And.intro ⟨rfl, rfl, rfl, by decide, by decide, by decide, by decide, by decide⟩ ?_)))
  refine Exists.intro 0 (Exists.intro 0 (Exists.intro 8 (And.intro ⟨rfl, rfl, rfl, by decide, by decide, by decide, by decide, by decide⟩ ?_)))
  refine Exists.intro 0 (Exists.intro 0 (Exists.intro 8 (And.intro ⟨rfl, rfl, rfl, by decide, by decide, by decide, by decide, by decide⟩ ?_)))
  refine Exists.intro 0 (Exists.intro 0 (Exists.intro 8 (And.intro ⟨rfl, rfl, rfl, by decide, by decide, by decide, by decide, by decide⟩ ?_)))
  refine Exists.intro 0 (Exists.intro 0 (Exists.intro 8 (And.intro ⟨rfl, rfl, rfl, by decide, by decide, by decide, by decide, by decide⟩ ?_)))
  refine Exists.intro 0 (Exists.intro 0 (Exists.intro 8 (And.intro ⟨rfl, rfl, rfl, by decide, by decide, by decide, by decide, by decide⟩ ?_)))
  refine Exists.intro 0 (Exists.intro 0 (Exists.intro 10 (And.intro ⟨rfl, rfl, rfl, by decide, by decide, by decide, by decide, by decide⟩ ?_)))
  refine And.intro ⟨rfl, rfl⟩ ?_
  refine And.intro ⟨rfl, rfl⟩ ?_
  refine And.intro ⟨rfl, rfl⟩ ?_
  refine And.intro ⟨rfl, rfl⟩ ?_
  refine And.intro rfl ?_
  have e1 : va_cpy (σ (1 + 1)) (σ (19 + 1)) 0 0 12 = σ (1 + 1) := cpy_all b1 a1
  have e2 : va_cpy (σ (1 + 2)) (σ (19 + 2)) 0 0 12 = σ (1 + 2) := cpy_all b2 a2
  have e3 : va_cpy (σ (1 + 3)) (σ (19 + 3)) 0 0 8 = σ (1 + 3) := cpy_all b3 a3
  have e4 : va_cpy (σ (1 + 4)) (σ (19 + 4)) 0 0 8 = σ (1 + 4) := cpy_all b4 a4
  have e5 : va_cpy (σ (1 + 5)) (σ (19 + 5)) 0 0 8 = σ (1 + 5) := cpy_all b5 a5
  have e6 : va_cpy (σ (1 + 6)) (σ (19 + 6)) 0 0 8 = σ (1 + 6) := cpy_all b6 a6
  have e7 : va_cpy (σ (1 + 7)) (σ (19 + 7)) 0 0 8 = σ (1 + 7) := cpy_all b7 a7
  have e8 : va_cpy (σ (1 + 8)) (σ (19 + 8)) 0 0 10 = σ (1 + 8) := cpy_all b8 a8
  show up2 (up2 (up2 (up2 (upr (upr (upr (upr (upr (upr (upr (upr σ (19 + 1) (va_cpy (σ (1 + 1)) (σ (19 + 1)) 0 0 12)) (19 + 2) (va_cpy (σ (1 + 2)) (σ (19 + 2)) 0 0 12)) (19 + 3) (va_cpy (σ (1 + 3)) (σ (19 + 3)) 0 0 8)) (19 + 4) (va_cpy (σ (1 + 4)) (σ (19 + 4)) 0 0 8)) (19 + 5) (va_cpy (σ (1 + 5)) (σ (19 + 5)) 0 0 8)) (19 + 6) (va_cpy (σ (1 + 6)) (σ (19 + 6)) 0 0 8)) (19 + 7) (va_cpy (σ (1 + 7)) (σ (19 + 7)) 0 0 8)) (19 + 8) (va_cpy (σ (1 + 8)) (σ (19 + 8)) 0 0 10)) 19 8 (Tq 1 σ 0 8)) 19 9 (Tq 1 σ 0 9)) 19 10 (Tq 1 σ 0 10)) 19 11 (Tq 1 σ 0 11) = _
  rw [e1, e2, e3, e4, e5, e6, e7, e8]
  exact bec_fin (T := Tq 1 σ) (fun k hk => (b0 k hk).trans (a0 k hk).symm)

theorem ct_become_1_19 {σ : Sg} (za : ZT (Tq 1 σ)) (zb' : ZT (Tq 19 σ)) : Ct mX2_become [.ref 1, .ref 19] σ (Ex none (putSq 1 (Tq 19 σ) σ)) := by
  obtain ⟨b0, ⟨b1, b2⟩, ⟨b3, b4, b5, b6, b7⟩, b8⟩ := zb'
  obtain ⟨a0, ⟨a1, a2⟩, ⟨a3, a4, a5, a6, a7⟩, a8⟩ := za
  refine Ct.of (by decide +kernel) zX2_become (Nat.le_of_ble_eq_true rfl) (by decide) (fun X go => ?_)
  refine go.1 [] 100 _ _ _ _ ?_
  refine Exists.intro 0 (Exists.intro 0 (Exists.intro 12 (And.intro ⟨rfl, rfl, rfl, by decide, by decide, by decide, by decide, by decide⟩ ?_)))
  refine Exists.intro 0 (Exists.intro 0 (Exists.intro 12 (And.intro ⟨rfl, rfl, rfl, by decide, by decide, by decide, by decide, by decide⟩ ?_)))
  refine Exists.intro 0 (Exists.intro 0 (Exists.intro 8 (And.intro ⟨rfl, rfl, rfl, by decide, by decide, by decide, by decide, by decide⟩ ?_)))
  refine Exists.intro 0 (Exists.intro 0 (Exists.intro 8 (And.intro ⟨rfl, rfl, rfl, by decide, by decide, by decide, by decide, by decide⟩ ?_)))
  refine Exists.intro 0 (Exists.intro 0 (Exists.intro 8 (And.intro ⟨rfl, rfl, rfl, by decide, by decide, by decide, by decide, by decide⟩ ?_)))
  refine Exists.intro 0 (Exists.intro 0 (Exists.intro 8 (And.intro ⟨rfl, rfl, rfl, by decide, by decide, by decide, by decide, by decide⟩ ?_)))
  refine Exists.intro 0 (Exists.intro 0 (Exists.intro 8 (And.intro ⟨rfl, rfl, rfl, by decide, by decide, by decide, by decide, by decide⟩ ?_)))
  refine Exists.intro 0 (Exists.intro 0 (Exists.intro 10 (And.intro ⟨rfl, rfl, rfl, by decide, by decide, by decide, by decide, by decide⟩ ?_)))
  refine And.intro ⟨rfl, rfl⟩ ?_
  refine And.intro ⟨rfl, rfl⟩ ?_
  refine And.intro ⟨rfl, rfl⟩ ?_
  refine And.intro ⟨rfl, rfl⟩ ?_
  refine And.intro rfl ?_
  have e1 : va_cpy (σ (19 + 1)) (σ (1 + 1)) 0 0 12 = σ (19 + 1) := cpy_all b1 a1
  have e2 : va_cpy (σ (19 + 2)) (σ (1 + 2)) 0 0 12 = σ (19 + 2) := cpy_all b2 a2
  have e3 : va_cpy (σ (19 + 3)) (σ (1 + 3)) 0 0 8 = σ (19 + 3) := cpy_all b3 a3
  have e4 : va_cpy (σ (19 + 4)) (σ (1 + 4)) 0 0 8 = σ (19 + 4) := cpy_all b4 a4
  have e5 : va_cpy (σ (19 + 5)) (σ (1 + 5)) 0 0 8 = σ (19 + 5) := cpy_all b5 a5
  have e6 : va_cpy (σ (19 + 6)) (σ (1 + 6)) 0 0 8 = σ (19 + 6) := cpy_all b6 a6
  have e7 : va_cpy (σ (19 + 7)) (σ (1 + 7)) 0 0 8 = σ (19 + 7) := cpy_all b7 a7
  have e8 : va_cpy (σ (19 + 8)) (σ (1 + 8)) 0 0 10 = σ (19 + 8) := cpy_all b8 a8
  show up2 (up2 (up2 (up2 (upr (upr (upr (upr (upr (upr (upr (upr σ (1 + 1) (va_cpy (σ (19 + 1)) (σ (1 + 1)) 0 0 12)) (1 + 2) (va_cpy (σ (19 + 2)) (σ (1 + 2)) 0 0 12)) (1 + 3) (va_cpy (σ (19 + 3)) (σ (1 + 3)) 0 0 8)) (1 + 4) (va_cpy (σ (19 + 4)) (σ (1 + 4)) 0 0 8)) (1 + 5) (va_cpy (σ (19 + 5)) (σ (1 + 5)) 0 0 8)) (1 + 6) (va_cpy (σ (19 + 6)) (σ (1 + 6)) 0 0 8)) (1 + 7) (va_cpy (σ (19 + 7)) (σ (1 + 7)) 0 0 8)) (1 + 8) (va_cpy (σ (19 + 8)) (σ (1 + 8)) 0 0 10)) 1 8 (Tq 19 σ 0 8)) 1 9 (Tq 19 σ 0 9)) 1 10 (Tq 19 σ 0 10)) 1 11 (Tq 19 σ 0 11) = _
  rw [e1, e2, e3, e4, e5, e6, e7, e8]
  exact bec_fin (T := Tq 19 σ) (fun k hk => (b0 k hk).trans (a0 k hk).symm)

theorem ct_saves {σ : Sg} (hf : Zr 78 (σ 46)) (hg : Zr 78 (σ 48)) : Ct mX5_saves [.ref 45] σ (Ex none (upr σ 48 (σ 46))) := by
  refine Ct.of (by decide +kernel) zX5_saves (Nat.le_of_ble_eq_true rfl) (by decide) (fun X go => ?_)
  have L : ∀ d k, k + d = 78 → X 2 [(0, .ref 45), (1, .int (nI k))] [] (upr σ 48 (mx (σ 46) (σ 48) k)) := by
    intro d
    induction d with
    | zero =>
      intro k hk
      have hk : k = 78 := by omega
      subst hk
      refine go.1 [2] 20 _ _ _ _ ?_
      refine br_t (by decide) ?_
      refine And.intro rfl ?_
      rw [mx_all hf hg]
    | succ d ih =>
      intro k hk
      have ihk := ih (k + 1) (by omega)
      have es : up2 (upr σ 48 (mx (σ 46) (σ 48) k)) 48 k (σ 46 k) = upr σ 48 (mx (σ 46) (σ 48) (k + 1)) := by
        show upr (upr σ 48 (mx (σ 46) (σ 48) k)) 48 (upd (upr σ 48 (mx (σ 46) (σ 48) k) 48) k _) = _
        rw [upr_in, upr_upr, mx_upd]
      rw [nI_succ, ← es] at ihk
      refine go.1 [2] 20 _ _ _ _ ?_
      refine br_f (show ¬ nI 78 ≤ nI k from nI_ge (by omega) (by omega)) ?_
      refine Exists.intro k (And.intro ⟨rfl, by omega, by omega⟩ ?_)
      refine Exists.intro k (And.intro ⟨rfl, by omega, by omega⟩ ?_)
      exact ihk
  have L0 := L 78 0 (by omega)
  rw [mx_0, upr_self] at L0
  exact go.1 [2] 20 _ _ _ _ L0

theorem ct_putsBack {σ : Sg} (hf : Zr 78 (σ 48)) (hg : Zr 78 (σ 46)) : Ct mX5_putsBack [.ref 45] σ (Ex none (upr σ 46 (σ 48))) := by
  refine Ct.of (by decide +kernel) zX5_putsBack (Nat.le_of_ble_eq_true rfl) (by decide) (fun X go => ?_)
  have L : ∀ d k, k + d = 78 → X 2 [(0, .ref 45), (1, .int (nI k))] [] (upr σ 46 (mx (σ 48) (σ 46) k)) := by
    intro d
    induction d with
    | zero =>
      intro k hk
      have hk : k = 78 := by omega
      subst hk
      refine go.1 [2] 20 _ _ _ _ ?_
      refine br_t (by decide) ?_
      refine And.intro rfl ?_
      rw [mx_all hf hg]
    | succ d ih =>
      intro k hk
      have ihk := ih (k + 1) (by omega)
      have es : up2 (upr σ 46 (mx (σ 48) (σ 46) k)) 46 k (σ 48 k) = upr σ 46 (mx (σ 48) (σ 46) (k + 1)) := by
        show upr (upr σ 46 (mx (σ 48) (σ 46) k)) 46 (upd (upr σ 46 (mx (σ 48) (σ 46) k) 46) k _) = _
        rw [upr_in, upr_upr, mx_upd]
      rw [nI_succ, ← es] at ihk
      refine go.1 [2] 20 _ _ _ _ ?_
      refine br_f (show ¬ nI 78 ≤ nI k from nI_ge (by omega) (by omega)) ?_
      refine Exists.intro k (And.intro ⟨rfl, by omega, by omega⟩ ?_)
      refine Exists.intro k (And.intro ⟨rfl, by omega, by omega⟩ ?_)
      exact ihk
  have L0 := L 78 0 (by omega)
  rw [mx_0, upr_self] at L0
  exact go.1 [2] 20 _ _ _ _ L0

/-! the joint invariant -/
def Jtape (σ : Sg) : Prop := ∃ m, m ≤ 120 ∧ σ 32 1 = nI m ∧ σ 45 8 = nI m ∧ ∀ k, k < m → ∃ b, b < 256 ∧ σ 33 k = nI b ∧ σ 51 k = nI b
def Jsh (σ : Sg) (s : Nat) : Prop := ∃ len, len ≤ 40 ∧ σ (35 + 2 * s) 2 = nI len ∧ σ 53 s = nI len ∧ σ (35 + 2 * s) 1 = σ 52 s ∧ (σ 52 s = 0 ∨ σ 52 s = 8 ∨ σ 52 s = 16 ∨ σ 52 s = 32) ∧ ∀ i, i < 40 → σ (36 + 2 * s) i = σ 54 (40 * s + i)
def J (σ : Sg) : Prop :=
  (∃ n h, VT n h (Tq 1 σ) ∧ h ≤ 999) ∧ (ZT (Tq 1 σ) ∧ ZT (Tq 10 σ) ∧ ZT (Tq 19 σ)) ∧ σ 46 = flat (Tq 1 σ) ∧ (Zr 78 (σ 48) ∧ Zr 78 (σ 47)) ∧
  (σ 0 9 = σ 45 4 ∧ bz (σ 0 9) ∧ (σ 0 9 = 1 → (∃ n h, VT n h (Tq 19 σ) ∧ h ≤ 999) ∧ σ 47 = flat (Tq 19 σ))) ∧ (∀ k, k < 7 → σ 44 k = σ 49 k) ∧ Jtape σ ∧ ∀ s, s < 4 → Jsh σ s
/-- the cells that J reads whole -/
def Jc (i : Nat) : Prop := i < 10 ∨ (19 ≤ i ∧ i < 28) ∨ (33 ≤ i ∧ i < 43) ∨ i = 44 ∨ i = 46 ∨ i = 47 ∨ i = 49 ∨ (51 ≤ i ∧ i < 55)
theorem J_junk {σ σ' : Sg} (h : J σ) (e : ∀ i, Jc i → σ' i = σ i) (e1 : σ' 32 1 = σ 32 1) (e2 : σ' 45 4 = σ 45 4) (e3 : σ' 45 8 = σ 45 8) (z : ZT (Tq 10 σ')) (z2 : Zr 78 (σ' 48)) : J σ' := by
  have t1 : ∀ j, j < 9 → Tq 1 σ j = Tq 1 σ' j := fun j hj => (e (1 + j) (by unfold Jc; omega)).symm
  have t19 : ∀ j, j < 9 → Tq 19 σ j = Tq 19 σ' j := fun j hj => (e (19 + j) (by unfold Jc; omega)).symm
  have c : ∀ i, Jc i → σ' i = σ i := e
  obtain ⟨⟨n, hh, v, h9⟩, ⟨z1, -, z19⟩, f, ⟨-, r47⟩, ⟨k1, k2, k3⟩, st, ⟨m, m1, m2, m3, m4⟩, sh⟩ := h
  refine ⟨⟨n, hh, VT_cong t1 v, h9⟩, ⟨ZT_cong t1 z1, z, ZT_cong t19 z19⟩, ?_, ⟨z2, ?_⟩, ⟨?_, ?_, ?_⟩, ?_, ⟨m, m1, ?_, ?_, ?_⟩, ?_⟩
  · rw [c 46 (by unfold Jc; omega), f, flat_cong t1]
  · rw [c 47 (by unfold Jc; omega)]; exact r47
  · rw [c 0 (by unfold Jc; omega), e2]; exact k1
  · rw [c 0 (by unfold Jc; omega)]; exact k2
  · rw [c 0 (by unfold Jc; omega), c 47 (by unfold Jc; omega)]
    intro q
    obtain ⟨⟨n', h', v', h9'⟩, f'⟩ := k3 q
    exact ⟨⟨n', h', VT_cong t19 v', h9'⟩, by rw [f', flat_cong t19]⟩
  · rw [c 44 (by unfold Jc; omega), c 49 (by unfold Jc; omega)]; exact st
  · rw [e1]; exact m2
  · rw [e3]; exact m3
  · rw [c 33 (by unfold Jc; omega), c 51 (by unfold Jc; omega)]; exact m4
  · intro s hs
    have := sh s hs
    unfold Jsh at this ⊢
    rw [c (35 + 2 * s) (by unfold Jc; omega), c (36 + 2 * s) (by unfold Jc; omega), c 52 (by unfold Jc; omega), c 53 (by unfold Jc; omega), c 54 (by unfold Jc; omega)]
    exact this
theorem Tq_upr {σ : Sg} {o i : Nat} {f : Nat → Int32} (h : i < o ∨ o + 8 < i) : ∀ j, j < 9 → Tq o σ j = Tq o (upr σ i f) j := fun j hj => (upr_out (show o + j ≠ i by omega)).symm
/-- both tell one finding -/
theorem J_tell {σ : Sg} (h : J σ) (w : Nat) : J (telM (tel σ w) w) := by
  have t : ∀ o, o + 8 < 44 → ∀ j, j < 9 → Tq o σ j = Tq o (telM (tel σ w) w) j := fun o ho j hj => by
    show σ (o + j) = upr (upr σ 44 _) 49 _ (o + j)
    rw [upr_out (by omega), upr_out (by omega)]
  have c : ∀ i, i ≠ 44 → i ≠ 49 → telM (tel σ w) w i = σ i := fun i h1 h2 => by
    show upr (upr σ 44 _) 49 _ i = _
    rw [upr_out h2, upr_out h1]
  obtain ⟨⟨n, hh, v, h9⟩, ⟨z1, z10, z19⟩, f, ⟨r48, r47⟩, ⟨k1, k2, k3⟩, st, ⟨m, m1, m2, m3, m4⟩, sh⟩ := h
  refine ⟨⟨n, hh, VT_cong (t 1 (by decide)) v, h9⟩, ⟨ZT_cong (t 1 (by decide)) z1, ZT_cong (t 10 (by decide)) z10, ZT_cong (t 19 (by decide)) z19⟩, ?_, ⟨?_, ?_⟩, ⟨?_, ?_, ?_⟩, ?_, ⟨m, m1, ?_, ?_, ?_⟩, ?_⟩
  · rw [c 46 (by decide) (by decide), f, flat_cong (t 1 (by decide))]
  · rw [c 48 (by decide) (by decide)]; exact r48
  · rw [c 47 (by decide) (by decide)]; exact r47
  · rw [c 0 (by decide) (by decide), c 45 (by decide) (by decide)]; exact k1
  · rw [c 0 (by decide) (by decide)]; exact k2
  · rw [c 0 (by decide) (by decide), c 47 (by decide) (by decide)]
    intro q
    obtain ⟨⟨n', h', v', h9'⟩, f'⟩ := k3 q
    exact ⟨⟨n', h', VT_cong (t 19 (by decide)) v', h9'⟩, by rw [f', flat_cong (t 19 (by decide))]⟩
  · intro k hk
    show upr (upr σ 44 (upd (σ 44) w (σ 44 w + 1))) 49 (upd (upr σ 44 _ 49) w (upr σ 44 _ 49 w + 1)) 44 k = upr (upr σ 44 _) 49 (upd (upr σ 44 _ 49) w (upr σ 44 _ 49 w + 1)) 49 k
    rw [upr_in, upr_out (show 44 ≠ 49 by decide), upr_in, upr_out (show 49 ≠ 44 by decide)]
    unfold upd
    by_cases hkw : k = w
    · rw [if_pos hkw, if_pos hkw, st w (by omega)]
    · rw [if_neg hkw, if_neg hkw, st k hk]
  · rw [c 32 (by decide) (by decide)]; exact m2
  · rw [c 45 (by decide) (by decide)]; exact m3
  · rw [c 33 (by decide) (by decide), c 51 (by decide) (by decide)]; exact m4
  · intro s hs
    have := sh s hs
    unfold Jsh at this ⊢
    rw [c (35 + 2 * s) (by omega) (by omega), c (36 + 2 * s) (by omega) (by omega), c 52 (by decide) (by decide), c 53 (by decide) (by decide), c 54 (by decide) (by decide)]
    exact this
/-- both answer the same, and J holds again -/
def Pair (M M' : MI) (As : List Value) (σ : Sg) : Prop := ∃ (r : Int32) (σ1 σ2 : Sg), Ct M (.ref 0 :: As) σ (Ex (some (.int r)) σ1) ∧ Ct M' (.ref 45 :: As) σ1 (Ex (some (.int r)) σ2) ∧ J σ2
