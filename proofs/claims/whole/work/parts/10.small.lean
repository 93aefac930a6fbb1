/-! tests -/
theorem ct_isPlace (p : Int32) (σ : Sg) : Ct mX4_isPlace [.int p] σ (Ex (some (.int (if p < 0 then 0 else if 12 ≤ p then 0 else 1))) σ) := by
  refine Ct.of (by decide +kernel) zX4_isPlace (Nat.le_of_ble_eq_true rfl) (by decide) (fun X go => ?_)
  refine go.1 [] 20 _ _ _ _ ?_
  refine And.intro (fun h => ?_) (fun h => ?_)
  · rw [if_pos h]
    exact And.intro (Or.inl rfl) (And.intro rfl rfl)
  · rw [if_neg h]
    refine And.intro (fun h => ?_) (fun h => ?_)
    · rw [if_pos h]
      exact And.intro (Or.inl rfl) (And.intro rfl rfl)
    · rw [if_neg h]
      exact And.intro (Or.inr rfl) (And.intro rfl rfl)
theorem ct_finding (w : Nat) (hw : w < 7) (σ : Sg) : Ct mX4_finding [.ref 0, .int (nI w)] σ (Ex (some (.int (-1000001 - nI w))) (up2 σ 44 w (σ 44 w + 1))) := by
  refine Ct.of (by decide +kernel) zX4_finding (Nat.le_of_ble_eq_true rfl) (by decide) (fun X go => ?_)
  refine go.1 [] 20 _ _ _ _ ?_
  refine Exists.intro w (And.intro ⟨rfl, hw, by omega⟩ ?_)
  refine Exists.intro w (And.intro ⟨rfl, hw, by omega⟩ ?_)
  exact And.intro rfl rfl
theorem ct_isStall (st : Int32) (σ : Sg) : Ct mX4_isStall [.ref 0, .int st] σ (Ex (some (.int (if st < 0 then 0 else if σ 1 9 ≤ st then 0 else 1))) σ) := by
  refine Ct.of (by decide +kernel) zX4_isStall (Nat.le_of_ble_eq_true rfl) (by decide) (fun X go => ?_)
  refine go.1 [] 20 _ _ _ _ ?_
  refine And.intro (fun h => ?_) (fun h => ?_)
  · rw [if_pos h]
    exact And.intro (Or.inl rfl) (And.intro rfl rfl)
  · rw [if_neg h]
    refine And.intro (fun h => ?_) (fun h => ?_)
    · rw [if_pos h]
      exact And.intro (Or.inl rfl) (And.intro rfl rfl)
    · rw [if_neg h]
      exact And.intro (Or.inr rfl) (And.intro rfl rfl)
theorem ct_spring (p : Int32) (σ : Sg) (h0 : ¬ p < 0) (h1 : ¬ 12 ≤ p) : Ct mX4_spring [.ref 0, .int p] σ (Ex (some (.int (σ 1 8))) (up2 σ 1 8 p)) := by
  refine Ct.of (by decide +kernel) zX4_spring (Nat.le_of_ble_eq_true rfl) (by decide) (fun X go => ?_)
  refine go.1 [] 20 _ _ _ _ ?_
  refine cl (ct_isPlace p σ) ?_
  rw [if_neg h0, if_neg h1]
  refine And.intro (fun h => ?_) (fun h => ?_)
  · exact absurd h (by decide)
  refine And.intro ⟨rfl, rfl⟩ ?_
  exact And.intro rfl rfl
