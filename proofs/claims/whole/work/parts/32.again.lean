/-! AGAIN, DEAL -/
def slk (T U : Sg) : Nat → Bool
  | 0 => true
  | k + 1 => slk T U k && decide (T 4 k = U 4 k)
theorem slk_f {T U : Sg} {k : Nat} (h : ¬ T 4 k = U 4 k) : ∀ n, k < n → slk T U n = false
  | 0, q => absurd q (by omega)
  | n + 1, q => by
    unfold slk
    by_cases e : k = n
    · subst e; rw [decide_eq_false h, Bool.and_false]
    · rw [slk_f h n (by omega), Bool.false_and]
theorem ct_standsLike {n h b : Nat} {U σ : Sg} (v : VTb n h b U) : Ct mX2_standsLike [.ref 10, .ref 1] (putSq 10 U σ) (Ex (some (.int (zb (slk U (Tq 1 σ) n)))) (putSq 10 U σ)) := by
  have hn8 := v.1.1
  have hn : putSq 10 U σ 10 9 = nI n := v.1.2.2.1
  refine Ct.of (by decide +kernel) zX2_standsLike (Nat.le_of_ble_eq_true rfl) (by decide) (fun X go => ?_)
  have L : ∀ d k, k + d = n → slk U (Tq 1 σ) k = true → X 2 [(0, .ref 10), (1, .ref 1), (2, .int (nI k))] [] (putSq 10 U σ) := by
    intro d
    induction d with
    | zero =>
      intro k hk hs
      have hk : k = n := by omega
      subst hk
      refine go.1 [2] 30 _ _ _ _ ?_
      refine br_t (show putSq 10 U σ 10 9 ≤ nI k by rw [hn]; exact nI_le (Nat.le_refl _) (by omega)) ?_
      exact And.intro (Or.inr rfl) (And.intro (by rw [hs]; rfl) rfl)
    | succ d ih =>
      intro k hk hs
      refine go.1 [2] 40 _ _ _ _ ?_
      refine br_f (show ¬ putSq 10 U σ 10 9 ≤ nI k by rw [hn]; exact nI_ge (by omega) (by omega)) ?_
      refine Exists.intro (k) (And.intro ⟨rfl, by omega, by omega⟩ ?_)
      refine Exists.intro (k) (And.intro ⟨rfl, by omega, by omega⟩ ?_)
      refine And.intro (fun (q : U 4 k = Tq 1 σ 4 k) => ?_) (fun (q : ¬ U 4 k = Tq 1 σ 4 k) => ?_)
      · have ihk := ih (k + 1) (by omega) (by unfold slk; rw [hs, decide_eq_true q]; rfl)
        rw [nI_succ] at ihk
        exact ihk
      · exact And.intro (Or.inl rfl) (And.intro (by rw [slk_f q n (by omega)]; rfl) rfl)
  exact go.1 [2] 20 _ _ _ _ (L n 0 (by omega) rfl)
def uEnd (r : Nat) : Nat := if r < 97 then r else 96
theorem P_again {σ : Sg} (h : J σ) : Pair mX4_again mX5_again [] σ := by
  have f46 := J46 h
  obtain ⟨n, hh, v, h9⟩ := h.1
  have hn8 := v.1.1
  have z1 := h.2.1.1
  have z10 := h.2.1.2.1
  have z46 := J_z46 h
  have z48 := h.2.2.2.1.1
  by_cases late : 999 < hh + 96
  · refine Pair_fd h 4 ?_ ?_
    · refine Ct.of (by decide +kernel) zX4_again (Nat.le_of_ble_eq_true rfl) (by decide) (fun X go => ?_)
      refine go.1 [] 100 _ _ _ _ ?_
      refine cl (ah_late h9 v.1.2.2.2 0 96 (by decide) (by decide) (m := 96) rfl (by omega) late) ?_
      refine br_f (by decide) ?_
      exact And.intro rfl rfl
    · refine Ct.of (by decide +kernel) zX5_again (Nat.le_of_ble_eq_true rfl) (by decide) (fun X go => ?_)
      refine go.1 [] 100 _ _ _ _ ?_
      refine cl (tl h9 (σ := tel σ 4) f46 v.1.2.2.2 (m := 96) rfl (by omega) (decide_eq_true late)) ?_
      refine br_f (by decide) ?_
      refine cl (ct_finds (w := 4) (by decide) fd4 _) ?_
      exact And.intro rfl rfl
  · obtain ⟨P, hP⟩ : ∃ P : Nat → Bool, P = fun j => slk (hrsT n (Tq 1 σ) j) (Tq 1 σ) n := ⟨_, rfl⟩
    obtain ⟨r, hr⟩ : ∃ r, r = firstN P 96 1 := ⟨_, rfl⟩
    have hr97 : r ≤ 97 := by rw [hr]; exact firstN_le P 96 1
    have zu : ZT (hrsT n (Tq 1 σ) (uEnd r)) := ZT_hrs hn8 z1 _
    refine ⟨ansF r, endF r (putSq 10 (hrsT n (Tq 1 σ) (uEnd r)) σ), endM r (sv (endF r (putSq 10 (hrsT n (Tq 1 σ) (uEnd r)) σ))), ?_, ?_, J_end h zu r⟩
    · refine Ct.of (by decide +kernel) zX4_again (Nat.le_of_ble_eq_true rfl) (by decide) (fun X go => ?_)
      refine go.1 [30] 100 _ _ _ _ ?_
      have L : ∀ d j, j + 1 + d = 97 → firstN P d (j + 1) = r → X 30 [(0, .ref 0), (1, .int 0), (2, .int (nI (j + 1)))] [] (putSq 10 (hrsT n (Tq 1 σ) j) σ) := by
        intro d
        induction d with
        | zero =>
          intro j hj hf
          have hj : j = 96 := by omega
          subst hj
          have hf : r = 97 := hf.symm
          subst hf
          refine go.1 [30] 60 _ _ _ _ ?_
          refine br_t (by decide) ?_
          refine cl (ct_fd (w := 3) (by decide) rfl _) ?_
          exact And.intro rfl rfl
        | succ d ih =>
          intro j hj hf
          refine go.1 [30] 60 _ _ _ _ ?_
          refine br_f (show ¬ nI 96 < nI (j + 1) from nI_nlt (by omega) (by decide)) ?_
          refine cl (ct_passHour_10 (VT_hrs v j (by omega)) σ) ?_
          refine cl (ct_standsLike (VT_hrs v (j + 1) (by omega))) ?_
          have eP : P (j + 1) = slk (hrT n (hrsT n (Tq 1 σ) j)) (Tq 1 σ) n := by rw [hP]; rfl
          rw [← eP]
          cases hPj : P (j + 1) with
          | true =>
            have hf : r = j + 1 := by rw [← hf]; exact if_pos hPj
            have hu : uEnd r = j + 1 := by unfold uEnd; rw [if_pos (by omega)]; exact hf
            refine br_f (by decide) ?_
            unfold ansF endF
            rw [if_pos (by omega), if_pos (by omega), hu, hf]
            exact And.intro rfl rfl
          | false =>
            have ihj := ih (j + 1) (by omega) (by rw [← hf]; exact (if_neg (by rw [hPj]; decide)).symm)
            rw [nI_succ (j + 1)] at ihj
            refine br_t (by decide) ?_
            exact ihj
      refine cl (ah_ok h9 v.1.2.2.2 0 96 (by decide) (by decide) (m := 96) rfl (by omega) late) ?_
      refine br_t (by decide) ?_
      refine cl (ct_become_10_1 z10 z1) ?_
      exact L 96 0 rfl hr.symm
    · generalize hσ1 : endF r (putSq 10 (hrsT n (Tq 1 σ) (uEnd r)) σ) = σ1
      have f1 : σ1 46 = flat (Tq 1 σ) := by rw [← hσ1, endF_46]; exact f46
      have z1' : Zr 78 (σ1 46) := by rw [f1]; exact flat_z _
      have z8' : Zr 78 (σ1 48) := by rw [← hσ1, endF_48]; exact z48
      have fs : sv σ1 46 = flat (Tq 1 σ) := f1
      refine Ct.of (by decide +kernel) zX5_again (Nat.le_of_ble_eq_true rfl) (by decide) (fun X go => ?_)
      refine go.1 [24] 100 _ _ _ _ ?_
      have E : ∀ j b, (if b = true then r = j else r = 97) → j < 97 → X 98 [(0, .ref 45), (1, .int (nI j)), (2, .int (zb b))] [] (MS (sv σ1) (hrsT n (Tq 1 σ) j)) := by
        intro j b hb hj
        refine go.1 [24] 40 _ _ _ _ ?_
        refine cl (ct_bk z1' _) ?_
        cases b with
        | true =>
          have hb : r = j := hb
          refine br_f (by decide) ?_
          unfold ansF endM
          rw [if_pos (by omega), if_pos (by omega), hb]
          exact And.intro rfl rfl
        | false =>
          have hb : r = 97 := hb
          refine br_t (by decide) ?_
          unfold ansF endM
          rw [if_neg (by omega), if_neg (by omega)]
          refine cl (ct_finds (w := 3) (by decide) fd3 _) ?_
          exact And.intro rfl rfl
      have L : ∀ d j, j + 1 + d = 97 → firstN P d (j + 1) = r → X 24 [(0, .ref 45), (1, .int (nI j)), (2, .int 0)] [] (MS (sv σ1) (hrsT n (Tq 1 σ) j)) := by
        intro d
        induction d with
        | zero =>
          intro j hj hf
          have hj : j = 96 := by omega
          subst hj
          refine go.1 [24, 98] 60 _ _ _ _ ?_
          refine br_t (by decide) ?_
          exact E 96 false hf.symm (by decide)
        | succ d ih =>
          intro j hj hf
          have vj := VT_hrs v (j + 1) (by omega)
          refine go.1 [24, 47, 98] 60 _ _ _ _ ?_
          refine br_f (show ¬ nI 96 ≤ nI j from nI_ge (by omega) (by omega)) ?_
          refine br_t (by decide) ?_
          refine cl (ct_hour (VT_hrs v j (by omega)) (sv σ1)) ?_
          refine go.2 [0, 1, 2, 4] _ _ _ _ ?_
          have LL : ∀ e k, k + e = n → X 47 [(0, .ref 45), (1, .int (nI (j + 1))), (2, .int (zb (slk (hrsT n (Tq 1 σ) (j + 1)) (Tq 1 σ) k))), (4, .int (nI k))] [] (MS (sv σ1) (hrsT n (Tq 1 σ) (j + 1))) := by
            intro e
            induction e with
            | zero =>
              intro k hk
              have hk : k = n := by omega
              subst hk
              have eP : P (j + 1) = slk (hrsT k (Tq 1 σ) (j + 1)) (Tq 1 σ) k := by rw [hP]
              rw [← eP]
              have hnn : MS (sv σ1) (hrsT k (Tq 1 σ) (j + 1)) 46 1 = nI k := vj.1.2.2.1
              refine go.1 [24] 60 _ _ _ _ ?_
              refine Exists.intro (1) (And.intro ⟨rfl, by omega, by omega⟩ ?_)
              refine br_t (by rw [hnn]; exact nI_le (Nat.le_refl _) (by omega)) ?_
              refine go.2 [0, 1, 2] _ _ _ _ ?_
              cases hPj : P (j + 1) with
              | true =>
                have hf : r = j + 1 := by rw [← hf]; exact if_pos hPj
                show X 24 [(0, .ref 45), (1, .int (nI (j + 1))), (2, .int 1)] [] (MS (sv σ1) (hrsT k (Tq 1 σ) (j + 1)))
                refine go.1 [98] 60 _ _ _ _ ?_
                refine And.intro (fun _ => ?_) (fun _ => ?_)
                · exact E (j + 1) true hf (by omega)
                · refine br_f (by decide) ?_
                  exact E (j + 1) true hf (by omega)
              | false =>
                exact ih (j + 1) (by omega) (by rw [← hf]; exact (if_neg (by rw [hPj]; decide)).symm)
            | succ e ihe =>
              intro k hk
              have ihk := ihe (k + 1) (by omega)
              have hk8 : k < 8 := by omega
              have hnn : MS (sv σ1) (hrsT n (Tq 1 σ) (j + 1)) 46 1 = nI n := vj.1.2.2.1
              have e48 : MS (sv σ1) (hrsT n (Tq 1 σ) (j + 1)) 48 (28 + 5 * k + 1) = Tq 1 σ 4 k := by
                show σ1 46 _ = _
                rw [f1, flat_k hk8 (by decide)]
              rw [nI_succ k] at ihk
              unfold slk at ihk
              refine go.1 [47] 60 _ _ _ _ ?_
              refine Exists.intro (1) (And.intro ⟨rfl, by omega, by omega⟩ ?_)
              refine br_f (by rw [hnn]; exact nI_ge (by omega) (by omega)) ?_
              cases hs : slk (hrsT n (Tq 1 σ) (j + 1)) (Tq 1 σ) k with
              | false =>
                rw [hs] at ihk
                refine br_t (by decide) ?_
                exact ihk
              | true =>
                rw [hs] at ihk
                refine br_f (by decide) ?_
                refine cl (ct_its (w := 1) hk8 (by decide) (kv := nI k) rfl (wv := 1) rfl (sv σ1) (hrsT n (Tq 1 σ) (j + 1))) ?_
                refine cl (ct_at (a := k) (b := 1) rfl rfl _) ?_
                refine Exists.intro (28 + 5 * k + 1) (And.intro ⟨rfl, by omega, by omega⟩ ?_)
                rw [e48]
                refine And.intro (fun (q : hrsT n (Tq 1 σ) (j + 1) 4 k = Tq 1 σ 4 k) => ?_) (fun (q : ¬ hrsT n (Tq 1 σ) (j + 1) 4 k = Tq 1 σ 4 k) => ?_)
                · rw [decide_eq_true q] at ihk
                  exact ihk
                · rw [decide_eq_false q] at ihk
                  exact ihk
          have LL0 := LL n 0 (by omega)
          rw [nI_succ j] at LL0
          exact LL0
      refine cl (tl h9 f1 v.1.2.2.2 (m := 96) rfl (by omega) (decide_eq_false late)) ?_
      refine br_t (by decide) ?_
      refine cl (ct_sv z1' z8') ?_
      have L0 := L 96 0 rfl hr.symm
      rw [show MS (sv σ1) (hrsT n (Tq 1 σ) 0) = sv σ1 from MSe fs] at L0
      exact L0
