/-! THE REFERENCE's row is the square, flat; its hour -/
def flat (T : Sg) : Nat → Int32 := fun j => match j with
  | 0 => T 0 10
  | 1 => T 0 9
  | 2 => T 0 8
  | 3 => T 0 11
  | j => if j < 16 then T 1 (j - 4) else if j < 28 then T 2 (j - 16) else if j < 68 then T (3 + (j - 28) % 5) ((j - 28) / 5) else if j < 78 then T 8 (j - 68) else 0
theorem flat_ge {T : Sg} {j : Nat} (h : 4 ≤ j) : flat T j = if j < 16 then T 1 (j - 4) else if j < 28 then T 2 (j - 16) else if j < 68 then T (3 + (j - 28) % 5) ((j - 28) / 5) else if j < 78 then T 8 (j - 68) else 0 := by
  obtain ⟨i, rfl⟩ : ∃ i, j = i + 4 := ⟨j - 4, by omega⟩
  rfl
theorem flat_v {T : Sg} {p : Nat} (h : p < 12) : flat T (4 + p) = T 1 p := by
  rw [flat_ge (by omega), if_pos (by omega), Nat.add_sub_cancel_left]
theorem flat_s {T : Sg} {p : Nat} (h : p < 12) : flat T (16 + p) = T 2 p := by
  rw [flat_ge (by omega), if_neg (by omega), if_pos (by omega), Nat.add_sub_cancel_left]
theorem flat_k {T : Sg} {k w : Nat} (hk : k < 8) (hw : w < 5) : flat T (28 + 5 * k + w) = T (3 + w) k := by
  rw [flat_ge (by omega), if_neg (by omega), if_neg (by omega), if_pos (by omega), show (28 + 5 * k + w - 28) % 5 = w by omega, show (28 + 5 * k + w - 28) / 5 = k by omega]
theorem flat_h {T : Sg} {q : Nat} (h : q < 10) : flat T (68 + q) = T 8 q := by
  rw [flat_ge (by omega), if_neg (by omega), if_neg (by omega), if_neg (by omega), if_pos (by omega), Nat.add_sub_cancel_left]
theorem flat_cong {T U : Sg} (h : ∀ j, j < 9 → T j = U j) : flat T = flat U := by
  funext j
  by_cases h4 : 4 ≤ j
  · rw [flat_ge h4, flat_ge h4, h 1 (by decide), h 2 (by decide), h 8 (by decide)]
    have h5 : (j - 28) % 5 < 5 := Nat.mod_lt _ (by decide)
    rw [h (3 + (j - 28) % 5) (by omega)]
  · have : j = 0 ∨ j = 1 ∨ j = 2 ∨ j = 3 := by omega
    rcases this with rfl | rfl | rfl | rfl
    · show T 0 10 = U 0 10; rw [h 0 (by decide)]
    · show T 0 9 = U 0 9; rw [h 0 (by decide)]
    · show T 0 8 = U 0 8; rw [h 0 (by decide)]
    · show T 0 11 = U 0 11; rw [h 0 (by decide)]
theorem flat_upd_k {T : Sg} {k w : Nat} (hk : k < 8) (hw : w < 5) (x : Int32) : upd (flat T) (28 + 5 * k + w) x = flat (upr T (3 + w) (upd (T (3 + w)) k x)) := by
  funext j
  unfold upd
  by_cases hj : j = 28 + 5 * k + w
  · rw [if_pos hj, hj, flat_k hk hw, upr_in]
    exact (if_pos rfl).symm
  · rw [if_neg hj]
    by_cases h4 : 4 ≤ j
    · rw [flat_ge h4, flat_ge h4]
      rw [upr_out (show 1 ≠ 3 + w by omega), upr_out (show 2 ≠ 3 + w by omega), upr_out (show 8 ≠ 3 + w by omega)]
      by_cases h1 : j < 16
      · rw [if_pos h1, if_pos h1]
      · rw [if_neg h1, if_neg h1]
        by_cases h2 : j < 28
        · rw [if_pos h2, if_pos h2]
        · rw [if_neg h2, if_neg h2]
          by_cases h3 : j < 68
          · rw [if_pos h3, if_pos h3]
            by_cases hw2 : (j - 28) % 5 = w
            · rw [hw2, upr_in]
              have : (j - 28) / 5 ≠ k := by omega
              exact (if_neg this).symm
            · rw [upr_out (by omega)]
          · rw [if_neg h3, if_neg h3]
    · have : j = 0 ∨ j = 1 ∨ j = 2 ∨ j = 3 := by omega
      have h0 : upr T (3 + w) (upd (T (3 + w)) k x) 0 = T 0 := upr_out (by omega)
      rcases this with rfl | rfl | rfl | rfl
      · show T 0 10 = upr T (3 + w) (upd (T (3 + w)) k x) 0 10; rw [h0]
      · show T 0 9 = upr T (3 + w) (upd (T (3 + w)) k x) 0 9; rw [h0]
      · show T 0 8 = upr T (3 + w) (upd (T (3 + w)) k x) 0 8; rw [h0]
      · show T 0 11 = upr T (3 + w) (upd (T (3 + w)) k x) 0 11; rw [h0]
theorem flat_upd_0 (T : Sg) (x : Int32) : upd (flat T) 0 x = flat (upr T 0 (upd (T 0) 10 x)) := by
  funext j
  unfold upd
  by_cases hj : j = 0
  · subst hj
    rw [if_pos rfl]
    show x = upr T 0 (upd (T 0) 10 x) 0 10
    rw [upr_in]
    rfl
  · rw [if_neg hj]
    by_cases h4 : 4 ≤ j
    · rw [flat_ge h4, flat_ge h4, upr_out (show 1 ≠ 0 by decide), upr_out (show 2 ≠ 0 by decide), upr_out (show 3 + (j - 28) % 5 ≠ 0 by omega), upr_out (show 8 ≠ 0 by decide)]
    · have : j = 1 ∨ j = 2 ∨ j = 3 := by omega
      rcases this with rfl | rfl | rfl
      · show T 0 9 = upr T 0 (upd (T 0) 10 x) 0 9; rw [upr_in]; rfl
      · show T 0 8 = upr T 0 (upd (T 0) 10 x) 0 8; rw [upr_in]; rfl
      · show T 0 11 = upr T 0 (upd (T 0) 10 x) 0 11; rw [upr_in]; rfl
/-- the world with the square T in the reference's row -/
abbrev MS (σ : Sg) (T : Sg) : Sg := upr σ 46 (flat T)
theorem MS_upd {σ T : Sg} {k w : Nat} (hk : k < 8) (hw : w < 5) (x : Int32) : up2 (MS σ T) 46 (28 + 5 * k + w) x = MS σ (upr T (3 + w) (upd (T (3 + w)) k x)) := by
  show upr (upr σ 46 (flat T)) 46 (upd (upr σ 46 (flat T) 46) _ x) = _
  rw [upr_in, upr_upr, flat_upd_k hk hw]
theorem ct_at {a b : Nat} {kv wv : Int32} (hk : kv = nI a) (hw : wv = nI b) (σ : Sg) : Ct mX5_at [.int kv, .int wv] σ (Ex (some (.int (nI (28 + 5 * a + b)))) σ) := by
  subst hk; subst hw
  refine Ct.of (by decide +kernel) zX5_at (Nat.le_of_ble_eq_true rfl) (by decide) (fun X go => ?_)
  refine go.1 [] 30 _ _ _ _ ?_
  refine And.intro ?_ rfl
  have e : (28 : Int32) + 5 * nI a + nI b = nI (28 + 5 * a + b) := by
    show nI 28 + nI 5 * nI a + nI b = _
    rw [pk_mul, nI_add, nI_add]
  rw [← e]
theorem ct_its {k w : Nat} (hk : k < 8) (hw : w < 5) {kv wv : Int32} (ek : kv = nI k) (ew : wv = nI w) (σ T : Sg) : Ct mX5_its [.ref 45, .int kv, .int wv] (MS σ T) (Ex (some (.int (T (3 + w) k))) (MS σ T)) := by
  refine Ct.of (by decide +kernel) zX5_its (Nat.le_of_ble_eq_true rfl) (by decide) (fun X go => ?_)
  refine go.1 [] 30 _ _ _ _ ?_
  refine cl (ct_at ek ew _) ?_
  refine Exists.intro (28 + 5 * k + w) (And.intro ⟨rfl, by omega, by omega⟩ ?_)
  refine And.intro ?_ rfl
  show some (Value.int (flat T (28 + 5 * k + w))) = _
  rw [flat_k hk hw]
theorem ct_has (s j : Int32) (σ : Sg) : Ct mX5_has [.int s, .int j] σ (Ex (some (.int (if hb s j then 1 else 0))) σ) := by
  refine Ct.of (by decide +kernel) zX5_has (Nat.le_of_ble_eq_true rfl) (by decide) (fun X go => ?_)
  refine go.1 [] 30 _ _ _ _ ?_
  refine And.intro (fun (h : hb s j) => ?_) (fun (h : ¬ hb s j) => ?_)
  · rw [if_pos h]
    exact And.intro (Or.inr rfl) (And.intro rfl rfl)
  · rw [if_neg h]
    exact And.intro (Or.inl rfl) (And.intro rfl rfl)
theorem ct_price {k a : Nat} (hk : k < 8) {kv : Int32} (ek : kv = nI k) {T : Sg} (ha : a < 7) (e : T 3 k = nI a) (σ : Sg) : Ct mX5_price [.ref 45, .int kv] (MS σ T) (Ex (some (.int (pR a))) (MS σ T)) := by
  refine Ct.of (by decide +kernel) zX5_price (Nat.le_of_ble_eq_true rfl) (by decide) (fun X go => ?_)
  have c := ct_its (w := 0) hk (by decide) ek (wv := 0) rfl σ T
  rw [show T (3 + 0) k = nI a from e] at c
  have : a = 0 ∨ a = 1 ∨ a = 2 ∨ a = 3 ∨ a = 4 ∨ a = 5 ∨ a = 6 := by omega
  rcases this with rfl | rfl | rfl | rfl | rfl | rfl | rfl
  all_goals
    refine go.1 [] 30 _ _ _ _ ?_
    refine cl c ?_
    repeat (first | refine br_t (by decide) ?_ | refine br_f (by decide) ?_)
    exact And.intro rfl rfl
theorem ct_isGoing {k : Nat} (hk : k < 8) {kv : Int32} (ek : kv = nI k) (σ T : Sg) : Ct mX5_isGoing [.ref 45, .int kv] (MS σ T) (Ex (some (.int (if goT T k = true then 1 else 0))) (MS σ T)) := by
  refine Ct.of (by decide +kernel) zX5_isGoing (Nat.le_of_ble_eq_true rfl) (by decide) (fun X go => ?_)
  refine go.1 [] 50 _ _ _ _ ?_
  refine cl (ct_its (w := 0) hk (by decide) ek (wv := 0) rfl σ T) ?_
  refine Exists.intro 0 (And.intro ⟨rfl, by decide, by decide⟩ ?_)
  refine And.intro (by decide) ?_
  refine And.intro (fun (h : rm (T 0 10) 2 = 0) => ?_) (fun (h : ¬ rm (T 0 10) 2 = 0) => ?_)
  · refine And.intro (fun (h2 : T 3 k = 2) => ?_) (fun (h2 : ¬ T 3 k = 2) => ?_)
    · have e : goT T k = true := by unfold goT; rw [if_pos h2]; exact decide_eq_true h
      rw [e]
      exact And.intro (Or.inr rfl) (And.intro rfl rfl)
    · refine And.intro (fun (h4 : T 3 k = 4) => ?_) (fun (h4 : ¬ T 3 k = 4) => ?_)
      · refine br_f (by decide) ?_
        refine Exists.intro 0 (And.intro ⟨rfl, by decide, by decide⟩ ?_)
        refine And.intro (by decide) ?_
        refine And.intro (fun (h3 : rm (T 0 10) 3 = 0) => ?_) (fun (h3 : ¬ rm (T 0 10) 3 = 0) => ?_)
        · have e : goT T k = true := by unfold goT; rw [if_neg h2, if_pos h4]; exact Bool.and_eq_true_iff.mpr ⟨decide_eq_true h, decide_eq_true h3⟩
          rw [e]
          exact And.intro (Or.inr rfl) (And.intro rfl rfl)
        · have e : goT T k = false := by unfold goT; rw [if_neg h2, if_pos h4]; exact Bool.and_eq_false_iff.mpr (Or.inr (decide_eq_false h3))
          rw [e]
          exact And.intro (Or.inl rfl) (And.intro rfl rfl)
      · have e : goT T k = true := by unfold goT; rw [if_neg h2, if_neg h4]
        rw [e]
        exact And.intro (Or.inr rfl) (And.intro rfl rfl)
  · refine And.intro (fun (h2 : T 3 k = 2) => ?_) (fun (h2 : ¬ T 3 k = 2) => ?_)
    · have e : goT T k = false := by unfold goT; rw [if_pos h2]; exact decide_eq_false h
      rw [e]
      exact And.intro (Or.inl rfl) (And.intro rfl rfl)
    · refine And.intro (fun (h4 : T 3 k = 4) => ?_) (fun (h4 : ¬ T 3 k = 4) => ?_)
      · refine br_t (by decide) ?_
        have e : goT T k = false := by unfold goT; rw [if_neg h2, if_pos h4]; exact Bool.and_eq_false_iff.mpr (Or.inl (decide_eq_false h))
        rw [e]
        exact And.intro (Or.inl rfl) (And.intro rfl rfl)
      · have e : goT T k = true := by unfold goT; rw [if_neg h2, if_neg h4]
        rw [e]
        exact And.intro (Or.inr rfl) (And.intro rfl rfl)
theorem ct_offer {k p : Nat} (hk : k < 8) (hp : p < 12) {kv pv : Int32} (ek : kv = nI k) (ep : pv = nI p) (σ T : Sg) : Ct mX5_offer [.ref 45, .int kv, .int pv] (MS σ T) (Ex (some (.int (offT T (T 3 k) p))) (MS σ T)) := by
  subst ep
  have hp2 : (p + 1) % 12 < 12 := Nat.mod_lt _ (by decide)
  have v1 : flat T (4 + p) = T 1 p := flat_v hp
  have v2 : flat T (4 + (p + 1) % 12) = T 1 ((p + 1) % 12) := flat_v hp2
  have v3 : flat T (16 + p) = T 2 p := flat_s hp
  refine Ct.of (by decide +kernel) zX5_offer (Nat.le_of_ble_eq_true rfl) (by decide) (fun X go => ?_)
  refine go.1 [] 50 _ _ _ _ ?_
  refine Exists.intro (4 + p) (And.intro ⟨show nI 4 + nI p = _ from nI_add 4 p, by omega, by omega⟩ ?_)
  refine And.intro (by decide) ?_
  refine Exists.intro (4 + (p + 1) % 12) (And.intro ⟨?_, by omega, by omega⟩ ?_)
  · rw [idx12 (by omega)]
    exact nI_add 4 _
  refine cl (ct_its (w := 0) hk (by decide) ek (wv := 0) rfl σ T) ?_
  refine And.intro (fun (h : T 3 k = 1) => ?_) (fun (h1 : ¬ T 3 k = 1) => ?_)
  · refine And.intro ?_ rfl
    show some (Value.int (flat T (4 + p) + flat T (4 + (p + 1) % 12))) = _
    rw [v1, v2, h]; rfl
  refine And.intro (fun (h : T 3 k = 2) => ?_) (fun (h2 : ¬ T 3 k = 2) => ?_)
  · refine And.intro ?_ rfl
    show some (Value.int (flat T (4 + p))) = _
    rw [v1, h]; rfl
  refine And.intro (fun (h : T 3 k = 3) => ?_) (fun (h3 : ¬ T 3 k = 3) => ?_)
  · refine Exists.intro (16 + p) (And.intro ⟨show nI 16 + nI p = _ from nI_add 16 p, by omega, by omega⟩ ?_)
    refine And.intro (fun (h9 : flat T (16 + p) = 1) => ?_) (fun (h9 : ¬ flat T (16 + p) = 1) => ?_)
    · rw [v3] at h9
      refine And.intro ?_ rfl
      show some (Value.int (flat T (4 + p) + flat T (4 + (p + 1) % 12))) = _
      rw [v1, v2, h]
      unfold offT
      rw [if_neg (by decide), if_pos rfl, if_pos h9]
    · rw [v3] at h9
      refine And.intro ?_ rfl
      rw [h]
      unfold offT
      rw [if_neg (by decide), if_pos rfl, if_neg h9]
  refine And.intro (fun (h : T 3 k = 4) => ?_) (fun (h4 : ¬ T 3 k = 4) => ?_)
  · refine And.intro ?_ rfl
    show some (Value.int (flat T (4 + p))) = _
    rw [v1, h]; rfl
  refine And.intro (fun (h : T 3 k = 5) => ?_) (fun (h5 : ¬ T 3 k = 5) => ?_)
  · refine And.intro (by decide) ?_
    refine And.intro ?_ rfl
    show some (Value.int (flat T (4 + p) / 2)) = _
    rw [v1, h]; rfl
  refine And.intro (fun (h : T 3 k = 6) => ?_) (fun (h6 : ¬ T 3 k = 6) => ?_)
  · refine Exists.intro 2 (And.intro ⟨rfl, by decide, by decide⟩ ?_)
    refine And.intro (fun (h9 : nI p = T 0 8) => ?_) (fun (h9 : ¬ nI p = T 0 8) => ?_)
    · refine And.intro (by decide) ?_
      refine And.intro ?_ rfl
      show some (Value.int (3 * (flat T (4 + p) / 2))) = _
      rw [v1, h]
      unfold offT
      rw [if_neg (by decide), if_neg (by decide), if_neg (by decide), if_pos rfl, if_pos h9, Int32.mul_comm]
    · refine And.intro (by decide) ?_
      refine And.intro ?_ rfl
      show some (Value.int (flat T (4 + p) / 2)) = _
      rw [v1, h]
      unfold offT
      rw [if_neg (by decide), if_neg (by decide), if_neg (by decide), if_pos rfl, if_neg h9, Int32.mul_one]
  · refine And.intro ?_ rfl
    show some (Value.int (flat T (4 + p))) = _
    rw [v1]
    unfold offT
    rw [if_neg h1, if_neg h3, if_neg h5, if_neg h6]
