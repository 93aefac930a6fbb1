/-! FEED -/
abbrev shU (x y : Int32) : Int32 := (x.toUInt32 >>> (y.toUInt32 &&& Int32.toUInt32 31)).toInt32
theorem byt_n (x : Int32) {k : Nat} (hk : k < 4) : ∃ b, b < 256 ∧ shU x (8 * nI k) &&& 255 = nI b ∧ (x >>> ((8 * nI k) &&& 31)) &&& 255 = nI b := by
  have h1 := pk_and (shU x (8 * nI k)) (m := 255) 8 (by decide)
  have h2 := pk_and (x >>> ((8 * nI k) &&& 31)) (m := 255) 8 (by decide)
  refine ⟨_, Nat.mod_lt _ (by decide), h1, ?_⟩
  rw [h2]
  congr 1
  have hx := x.toBitVec.isLt
  have hti : x.toInt = if x.toBitVec.toNat < 2147483648 then (x.toBitVec.toNat : Int) else (x.toBitVec.toNat : Int) - 4294967296 := by
    show x.toBitVec.toInt = _
    rw [BitVec.toInt_eq_toNat_cond]
    split <;> split <;> omega
  have hy : ∀ y : Int32, (y.toBitVec.toNat : Int) % 256 = y.toInt % 256 := fun y => by
    have hy := y.toBitVec.isLt
    have : y.toInt = if y.toBitVec.toNat < 2147483648 then (y.toBitVec.toNat : Int) else (y.toBitVec.toNat : Int) - 4294967296 := by
      show y.toBitVec.toInt = _
      rw [BitVec.toInt_eq_toNat_cond]
      split <;> split <;> omega
    rw [this]
    split <;> omega
  have hk : k = 0 ∨ k = 1 ∨ k = 2 ∨ k = 3 := by omega
  rcases hk with rfl | rfl | rfl | rfl
  · have a := pk_ushr x (8 * nI 0) 0 (by decide)
    have b := pk_shr x ((8 * nI 0) &&& 31) 0 (by decide)
    have c := hy (x >>> ((8 * nI 0) &&& 31))
    rw [b, Int.shiftRight_eq_div_pow] at c
    rw [a]
    omega
  · have a := pk_ushr x (8 * nI 1) 8 (by decide)
    have b := pk_shr x ((8 * nI 1) &&& 31) 8 (by decide)
    have c := hy (x >>> ((8 * nI 1) &&& 31))
    rw [b, Int.shiftRight_eq_div_pow] at c
    rw [a]
    split at hti <;> omega
  · have a := pk_ushr x (8 * nI 2) 16 (by decide)
    have b := pk_shr x ((8 * nI 2) &&& 31) 16 (by decide)
    have c := hy (x >>> ((8 * nI 2) &&& 31))
    rw [b, Int.shiftRight_eq_div_pow] at c
    rw [a]
    split at hti <;> omega
  · have a := pk_ushr x (8 * nI 3) 24 (by decide)
    have b := pk_shr x ((8 * nI 3) &&& 31) 24 (by decide)
    have c := hy (x >>> ((8 * nI 3) &&& 31))
    rw [b, Int.shiftRight_eq_div_pow] at c
    rw [a]
    split at hti <;> omega
def byt (x : Int32) (k : Nat) : Int32 := shU x (8 * nI k) &&& 255
/-- a row behind k bytes more from place m on -/
def frF (x : Int32) : Nat → (Nat → Int32) → Nat → (Nat → Int32)
  | 0, g, _ => g
  | k + 1, g, m => frF x k (upd g m (byt x k)) (m + 1)
theorem fr_ok (x : Int32) : ∀ (k : Nat) (g g' : Nat → Int32) (m : Nat), k ≤ 4 → (∀ i, i < m → ∃ b, b < 256 ∧ g i = nI b ∧ g' i = nI b) → ∀ i, i < m + k → ∃ b, b < 256 ∧ frF x k g m i = nI b ∧ frF x k g' m i = nI b
  | 0, g, g', m, _, h, i, hi => h i hi
  | k + 1, g, g', m, hk, h, i, hi => by
    refine fr_ok x k (upd g m (byt x k)) (upd g' m (byt x k)) (m + 1) (by omega) (fun i hi => ?_) i (by omega)
    by_cases e : i = m
    · subst e
      obtain ⟨b, b1, b2, -⟩ := byt_n x (show k < 4 by omega)
      exact ⟨b, b1, by rw [upd_eq]; exact b2, by rw [upd_eq]; exact b2⟩
    · rw [upd_ne e, upd_ne e]
      exact h i (by omega)
theorem ct_tput {m : Nat} (hm : m < 120) {τ : Sg} (e1 : τ 32 1 = nI m) (v : Int32) : Ct mX3_put [.ref 32, .int v] τ (Ex none (up2 (up2 τ 33 m v) 32 1 (nI (m + 1)))) := by
  refine Ct.of (by decide +kernel) zX3_put (Nat.le_of_ble_eq_true rfl) (by decide) (fun X go => ?_)
  refine go.1 [] 100 _ _ _ _ ?_
  refine br_f (show ¬ nI 120 ≤ τ 32 1 from by rw [e1]; exact nI_ge hm (by decide)) ?_
  refine Exists.intro (m) (And.intro ⟨e1, by omega, by omega⟩ ?_)
  refine And.intro ⟨rfl, rfl⟩ ?_
  refine And.intro rfl ?_
  show up2 (up2 τ 33 m v) 32 1 (τ 32 1 + 1) = _
  rw [e1, nI_1]
theorem ctc_feed {m k : Nat} {σ : Sg} (e1 : σ 32 1 = nI m) (h1 : 1 ≤ k) (h4 : k ≤ 4) (hm : m + k ≤ 120) (x : Int32) {nv : Int32} (en : nv = nI k) : Ct mX4_feed [.ref 0, .int x, .int nv] σ (Ex (some (.int (nI (m + k)))) (up2 (upr σ 33 (frF x k (σ 33) m)) 32 1 (nI (m + k)))) := by
  subst en
  refine Ct.of (by decide +kernel) zX4_feed (Nat.le_of_ble_eq_true rfl) (by decide) (fun X go => ?_)
  refine go.1 [40] 100 _ _ _ _ ?_
  refine br_f (show ¬ nI k < nI 1 from nI_nlt h1 (by omega)) ?_
  refine br_t (show nI k ≤ nI 4 from nI_le h4 (by decide)) ?_
  refine br_t (show σ 32 1 + nI k ≤ nI 120 from by rw [e1, nI_add]; exact nI_le hm (by decide)) ?_
  have L : ∀ (j : Nat) (g : Nat → Int32) (q : Nat), j ≤ k → q + j = m + k → frF x j g q = frF x k (σ 33) m → X 40 [(0, .ref 0), (1, .int x), (2, .int (nI k)), (3, .int (nI j + (-1)))] [] (up2 (upr σ 33 g) 32 1 (nI q)) := by
    intro j
    induction j with
    | zero =>
      intro g q hj hq hf
      refine go.1 [40] 40 _ _ _ _ ?_
      refine br_t (by decide) ?_
      have hq : q = m + k := by omega
      have hf : g = frF x k (σ 33) m := hf
      rw [hf, hq]
      exact And.intro (by rw [up2_at]) rfl
    | succ j ih =>
      intro g q hj hq hf
      rw [pk_m1]
      have ihj := ih (upd g q (byt x j)) (q + 1) (by omega) (by omega) hf
      have es : up2 (up2 (up2 (upr σ 33 g) 32 1 (nI q)) 33 q (byt x j)) 32 1 (nI (q + 1)) = up2 (upr σ 33 (upd g q (byt x j))) 32 1 (nI (q + 1)) := by
        funext i
        by_cases i32 : i = 32
        · subst i32
          show upd (upd (σ 32) 1 (nI q)) 1 (nI (q + 1)) = upd (σ 32) 1 (nI (q + 1))
          funext j
          unfold upd
          split <;> rfl
        · rw [show up2 (upr σ 33 (upd g q (byt x j))) 32 1 (nI (q + 1)) i = upr σ 33 (upd g q (byt x j)) i from upr_out i32]
          refine (upr_out i32).trans ?_
          by_cases i33 : i = 33
          · subst i33
            rfl
          · rw [upr_out i33]
            exact (upr_out i33).trans ((upr_out i32).trans (upr_out i33))
      rw [← es] at ihj
      refine go.1 [40] 60 _ _ _ _ ?_
      refine br_f (nI_pos (by omega)) ?_
      refine cl (ct_tput (m := q) (by omega) (up2_at _ _ _ _) _) ?_
      exact ihj
  have L0 := L k (σ 33) m (Nat.le_refl k) rfl rfl
  rw [upr_self, up2_self e1] at L0
  rw [show nI k + (-1) = nI k - 1 from by obtain ⟨j, rfl⟩ : ∃ j, k = j + 1 := ⟨k - 1, by omega⟩; rw [pk_m1, nI_pred]] at L0
  exact L0
theorem ctm_feed {m k : Nat} {σ : Sg} (e1 : σ 45 8 = nI m) (h1 : 1 ≤ k) (h4 : k ≤ 4) (hm : m + k ≤ 120) (x : Int32) {nv : Int32} (hn : bI nv 1 4 = true) (en : nv = nI k) : Ct mX5_feed [.ref 45, .int x, .int nv] σ (Ex (some (.int (nI (m + k)))) (up2 (upr σ 51 (frF x k (σ 51) m)) 45 8 (nI (m + k)))) := by
  subst en
  refine Ct.of (by decide +kernel) zX5_feed (Nat.le_of_ble_eq_true rfl) (by decide) (fun X go => ?_)
  refine go.1 [41] 100 _ _ _ _ ?_
  refine cl (inM 1 4 hn _) ?_
  refine br_f (by decide) ?_
  refine br_t (show σ 45 8 + nI k ≤ nI 120 from by rw [e1, nI_add]; exact nI_le hm (by decide)) ?_
  have L : ∀ (j : Nat) (g : Nat → Int32) (q : Nat), j ≤ k → q + j = m + k → frF x j g q = frF x k (σ 51) m → X 41 [(0, .ref 45), (1, .int x), (2, .int (nI k)), (3, .int (nI j + (-1)))] [] (up2 (upr σ 51 g) 45 8 (nI q)) := by
    intro j
    induction j with
    | zero =>
      intro g q hj hq hf
      refine go.1 [41] 40 _ _ _ _ ?_
      refine br_t (by decide) ?_
      have hq : q = m + k := by omega
      have hf : g = frF x k (σ 51) m := hf
      rw [hf, hq]
      exact And.intro (by rw [up2_at]) rfl
    | succ j ih =>
      intro g q hj hq hf
      rw [pk_m1]
      have ihj := ih (upd g q (byt x j)) (q + 1) (by omega) (by omega) hf
      obtain ⟨b, b1, b2, b3⟩ := byt_n x (show j < 4 by omega)
      have es : up2 (up2 (up2 (upr σ 51 g) 45 8 (nI q)) 51 q ((x >>> ((8 * nI j) &&& 31)) &&& 255)) 45 8 (nI q + 1) = up2 (upr σ 51 (upd g q (byt x j))) 45 8 (nI (q + 1)) := by
        rw [b3, show byt x j = nI b from b2, nI_1]
        funext i
        by_cases i32 : i = 45
        · subst i32
          show upd (upd (σ 45) 8 (nI q)) 8 (nI (q + 1)) = upd (σ 45) 8 (nI (q + 1))
          funext j
          unfold upd
          split <;> rfl
        · rw [show up2 (upr σ 51 (upd g q (nI b))) 45 8 (nI (q + 1)) i = upr σ 51 (upd g q (nI b)) i from upr_out i32]
          refine (upr_out i32).trans ?_
          by_cases i33 : i = 51
          · subst i33
            rfl
          · rw [upr_out i33]
            exact (upr_out i33).trans ((upr_out i32).trans (upr_out i33))
      rw [← es] at ihj
      refine go.1 [41] 60 _ _ _ _ ?_
      refine br_f (nI_pos (by omega)) ?_
      refine Exists.intro (q) (And.intro ⟨up2_at _ _ _ _, by omega, by omega⟩ ?_)
      refine And.intro ⟨rfl, rfl⟩ ?_
      exact ihj
  have L0 := L k (σ 51) m (Nat.le_refl k) rfl rfl
  rw [upr_self, up2_self e1] at L0
  rw [show nI k + (-1) = nI k - 1 from by obtain ⟨j, rfl⟩ : ∃ j, k = j + 1 := ⟨k - 1, by omega⟩; rw [pk_m1, nI_pred]] at L0
  exact L0
theorem P_feed {σ : Sg} (h : J σ) (x nv : Int32) : Pair mX4_feed mX5_feed [.int x, .int nv] σ := by
  obtain ⟨m, hm, e1, e8, hb⟩ := J_tp h
  cases hn : bI nv 1 4 with
  | false =>
    refine Pair_fd h 0 ?_ ?_
    · refine Ct.of (by decide +kernel) zX4_feed (Nat.le_of_ble_eq_true rfl) (by decide) (fun X go => ?_)
      refine go.1 [] 100 _ _ _ _ ?_
      refine And.intro (fun (q : nv < 1) => ?_) (fun (q : ¬ nv < 1) => ?_)
      · refine cl (ct_fd (w := 0) (by decide) rfl _) ?_
        exact And.intro rfl rfl
      · refine br_f (show ¬ nv ≤ 4 from fun g => ?_) ?_
        · have g : nv.toInt ≤ 4 := (i_le nv 4).mp g
          have q : ¬ nv.toInt < 1 := fun z => q ((i_lt nv 1).mpr z)
          exact bI_f.mp hn ⟨by omega, g⟩
        · refine cl (ct_fd (w := 0) (by decide) rfl _) ?_
          exact And.intro rfl rfl
    · refine Ct.of (by decide +kernel) zX5_feed (Nat.le_of_ble_eq_true rfl) (by decide) (fun X go => ?_)
      refine go.1 [] 100 _ _ _ _ ?_
      refine cl (inM 1 4 hn _) ?_
      refine br_t (by decide) ?_
      refine cl (ct_finds (w := 0) (by decide) fd0 _) ?_
      exact And.intro rfl rfl
  | true =>
    obtain ⟨k, hk1, hk2, en⟩ := bI_n hn (by decide) (by decide)
    by_cases full : m + k ≤ 120
    · have c1 := ctc_feed e1 (show 1 ≤ k by omega) (show k ≤ 4 by omega) full x en
      have c2 := ctm_feed (σ := up2 (upr σ 33 (frF x k (σ 33) m)) 32 1 (nI (m + k))) (show σ 45 8 = nI m from e8) (show 1 ≤ k by omega) (show k ≤ 4 by omega) full x hn en
      refine ⟨_, _, _, c1, c2, ?_⟩
      have fo := fr_ok x k (σ 33) (σ 51) m (by omega) hb
      generalize hG : frF x k (σ 33) m = G at *
      have hG2 : (up2 (upr σ 33 G) 32 1 (nI (m + k))) 51 = σ 51 := rfl
      rw [hG2]
      generalize hG3 : frF x k (σ 51) m = G' at *
      have o : ∀ i, i ≠ 32 → i ≠ 33 → i ≠ 45 → i ≠ 51 → up2 (upr (up2 (upr σ 33 G) 32 1 (nI (m + k))) 51 G') 45 8 (nI (m + k)) i = σ i := fun i a b c d => (upr_out c).trans ((upr_out d).trans ((upr_out a).trans (upr_out b)))
      have o45 : ∀ j, j ≠ 8 → up2 (upr (up2 (upr σ 33 G) 32 1 (nI (m + k))) 51 G') 45 8 (nI (m + k)) 45 j = σ 45 j := fun j hj => up2_ne hj
      refine J_other h (fun i a b => o i (by omega) (by omega) (by omega) (by omega)) (o 46 (by decide) (by decide) (by decide) (by decide)) (o 47 (by decide) (by decide) (by decide) (by decide)) (o 48 (by decide) (by decide) (by decide) (by decide)) ?_ ?_ ?_ ?_
      · exact Jkp_cong (by rw [o 0 (by decide) (by decide) (by decide) (by decide)]) (o45 4 (by decide)) (fun i a b => o i (by omega) (by omega) (by omega) (by omega)) (o 47 (by decide) (by decide) (by decide) (by decide)) (J_kp h)
      · intro j hj
        rw [o 44 (by decide) (by decide) (by decide) (by decide), o 49 (by decide) (by decide) (by decide) (by decide)]
        exact J_st h j hj
      · exact ⟨m + k, full, up2_at (upr σ 33 G) 32 1 (nI (m + k)), up2_at _ _ _ _, fo⟩
      · intro s hs
        exact Jsh_cong (fun i a b => o i (by omega) (by omega) (by omega) (by omega)) (o 52 (by decide) (by decide) (by decide) (by decide)) (o 53 (by decide) (by decide) (by decide) (by decide)) (o 54 (by decide) (by decide) (by decide) (by decide)) hs (J_sh h s hs)
    · refine Pair_fd h 1 ?_ ?_
      · refine Ct.of (by decide +kernel) zX4_feed (Nat.le_of_ble_eq_true rfl) (by decide) (fun X go => ?_)
        refine go.1 [] 100 _ _ _ _ ?_
        subst en
        refine br_f (show ¬ nI k < nI 1 from nI_nlt (by omega) (by omega)) ?_
        refine br_t (show nI k ≤ nI 4 from nI_le (by omega) (by decide)) ?_
        refine br_f (show ¬ σ 32 1 + nI k ≤ nI 120 from by rw [e1, nI_add]; exact nI_ge (by omega) (by omega)) ?_
        refine cl (ct_fd (w := 1) (by decide) rfl _) ?_
        exact And.intro rfl rfl
      · refine Ct.of (by decide +kernel) zX5_feed (Nat.le_of_ble_eq_true rfl) (by decide) (fun X go => ?_)
        refine go.1 [] 100 _ _ _ _ ?_
        refine cl (inM 1 4 hn _) ?_
        refine br_f (by decide) ?_
        refine br_f (show ¬ tel σ 1 45 8 + nv ≤ nI 120 from by rw [show tel σ 1 45 8 = nI m from e8, en, nI_add]; exact nI_ge (by omega) (by omega)) ?_
        refine cl (ct_finds (w := 1) (by decide) fd1 _) ?_
        exact And.intro rfl rfl
