/-! change, count, status, as -/
theorem VT_kind {n h b : Nat} {T : Sg} (v : VTb n h b T) {k a : Nat} (ha : a < 7) {x : Int32} (ex : x = nI a) : VTb n h b (upr T 3 (upd (T 3) k x)) := by
  refine ⟨v.1, v.2.1, fun i hi => ?_, v.2.2.2⟩
  rw [upr_in]
  by_cases e : i = k
  · subst e; rw [upd_eq]; exact ⟨a, ha, ex⟩
  · rw [upd_ne e]; exact v.2.2.1 i hi
theorem VT_goods {n h b : Nat} {T : Sg} (v : VTb n h b T) {k a : Nat} (ha : a ≤ 99) {x : Int32} (ex : x = nI a) : VTb n h b (upr T 5 (upd (T 5) k x)) := by
  refine ⟨v.1, v.2.1, v.2.2.1, fun i hi => ?_, v.2.2.2.2⟩
  rw [upr_in]
  by_cases e : i = k
  · subst e; rw [upd_eq]; exact ⟨a, ha, ex⟩
  · rw [upd_ne e]; exact v.2.2.2.1 i hi
theorem P_change {σ : Sg} (h : J σ) (s w x : Int32) : Pair mX4_change mX5_change [.int s, .int w, .int x] σ := by
  have f46 := J46 h
  obtain ⟨n, hh, v, h9⟩ := h.1
  have hn8 := v.1.1
  have z1 := h.2.1.1
  have z10 := h.2.1.2.1
  have z46 := J_z46 h
  have z48 := h.2.2.2.1.1
  cases hs : bI s 0 ((n : Int) - 1) with
  | false =>
      refine Pair_fd h 0 ?_ ?_
      · refine Ct.of (by decide +kernel) zX4_change (Nat.le_of_ble_eq_true rfl) (by decide) (fun X go => ?_)
        refine go.1 [] 100 _ _ _ _ ?_
        refine cl (isS v hs) ?_
        refine br_t (by decide) ?_
        refine cl (ct_fd (w := 0) (by decide) rfl _) ?_
        exact And.intro rfl rfl
      · refine Ct.of (by decide +kernel) zX5_change (Nat.le_of_ble_eq_true rfl) (by decide) (fun X go => ?_)
        refine go.1 [] 100 _ _ _ _ ?_
        refine cl (isSM v (σ := tel σ 0) f46 hs) ?_
        refine br_t (by decide) ?_
        refine cl (ct_finds (w := 0) (by decide) fd0 _) ?_
        exact And.intro rfl rfl
  | true =>
    obtain ⟨k, hk, rfl⟩ := st_n v.1.1 hs
    have hk8 : k < 8 := by omega
    by_cases h0 : w = 0
    · subst h0
      cases hx : bI x 0 6 with
      | false =>
        refine Pair_fd h 0 ?_ ?_
        · refine Ct.of (by decide +kernel) zX4_change (Nat.le_of_ble_eq_true rfl) (by decide) (fun X go => ?_)
          refine go.1 [] 100 _ _ _ _ ?_
          refine cl (isS v hs) ?_
          refine br_f (by decide) ?_
          refine br_t (by decide) ?_
          refine cl (isK hx _) ?_
          refine br_t (by decide) ?_
          refine br_f (by decide) ?_
          refine cl (ct_fd (w := 0) (by decide) rfl _) ?_
          exact And.intro rfl rfl
        · refine Ct.of (by decide +kernel) zX5_change (Nat.le_of_ble_eq_true rfl) (by decide) (fun X go => ?_)
          refine go.1 [] 100 _ _ _ _ ?_
          refine cl (isSM v (σ := tel σ 0) f46 hs) ?_
          refine br_f (by decide) ?_
          refine br_t (by decide) ?_
          refine br_t (by decide) ?_
          refine cl (inM 0 6 hx _) ?_
          refine br_t (by decide) ?_
          refine cl (ct_finds (w := 0) (by decide) fd0 _) ?_
          exact And.intro rfl rfl
      | true =>
        obtain ⟨a, -, ha, rfl⟩ := bI_n hx (by decide) (by decide)
        refine ⟨σ 4 k, up2 σ 4 k (nI a), up2 (up2 σ 4 k (nI a)) 46 (28 + 5 * k + 0) (nI a), ?_, ?_, ?_⟩
        · refine Ct.of (by decide +kernel) zX4_change (Nat.le_of_ble_eq_true rfl) (by decide) (fun X go => ?_)
          refine go.1 [] 100 _ _ _ _ ?_
          refine cl (isS v hs) ?_
          refine br_f (by decide) ?_
          refine br_t (by decide) ?_
          refine cl (isK hx _) ?_
          refine br_f (by decide) ?_
          refine Exists.intro (k) (And.intro ⟨rfl, by omega, by omega⟩ ?_)
          refine Exists.intro (k) (And.intro ⟨rfl, by omega, by omega⟩ ?_)
          exact And.intro rfl rfl
        · have c := ct_its (k := k) (w := 0) hk8 (by decide) (kv := nI k) (wv := 0) rfl rfl (up2 σ 4 k (nI a)) (Tq 1 σ)
          rw [MSe (show up2 σ 4 k (nI a) 46 = flat (Tq 1 σ) from f46)] at c
          refine Ct.of (by decide +kernel) zX5_change (Nat.le_of_ble_eq_true rfl) (by decide) (fun X go => ?_)
          refine go.1 [] 100 _ _ _ _ ?_
          refine cl (isSM v (σ := up2 σ 4 k (nI a)) f46 hs) ?_
          refine br_f (by decide) ?_
          refine br_t (by decide) ?_
          refine br_t (by decide) ?_
          refine cl (inM 0 6 hx _) ?_
          refine br_f (by decide) ?_
          refine cl (c) ?_
          refine cl (ct_at (a := k) (b := 0) rfl rfl _) ?_
          refine Exists.intro (28 + 5 * k + 0) (And.intro ⟨rfl, by omega, by omega⟩ ?_)
          exact And.intro rfl rfl
        · refine J_row h (r := 3) (by decide) (f := upd (σ 4) k (nI a)) ⟨n, hh, VT_kind v (by omega) rfl, h9⟩ ⟨z1.1, z1.2.1, ⟨Zr_upd z1.2.2.1.1 hk8, z1.2.2.1.2⟩, z1.2.2.2⟩ ?_
          show upd (σ 46) (28 + 5 * k + 0) (nI a) = _
          rw [f46, flat_upd_k hk8 (by decide)]
          rfl
    · by_cases h2 : w = 2
      · subst h2
        cases hx : bI x 0 99 with
        | false =>
          have hx' := bI_f.mp hx
          refine Pair_fd h 0 ?_ ?_
          · refine Ct.of (by decide +kernel) zX4_change (Nat.le_of_ble_eq_true rfl) (by decide) (fun X go => ?_)
            refine go.1 [] 100 _ _ _ _ ?_
            refine cl (isS v hs) ?_
            refine br_f (by decide) ?_
            refine br_f (by decide) ?_
            refine br_t (by decide) ?_
            refine And.intro (fun (q : x < 0) => ?_) (fun (q : ¬ x < 0) => ?_)
            · refine cl (ct_fd (w := 0) (by decide) rfl _) ?_
              exact And.intro rfl rfl
            · refine br_t (show (99 : Int32) < x from Int32.not_le.mp (fun g => ?_)) ?_
              · have g : x.toInt ≤ 99 := (i_le x 99).mp g
                have q : ¬ x.toInt < 0 := fun z => q ((i_lt x 0).mpr z)
                exact hx' ⟨by omega, g⟩
              · refine cl (ct_fd (w := 0) (by decide) rfl _) ?_
                exact And.intro rfl rfl
          · refine Ct.of (by decide +kernel) zX5_change (Nat.le_of_ble_eq_true rfl) (by decide) (fun X go => ?_)
            refine go.1 [] 100 _ _ _ _ ?_
            refine cl (isSM v (σ := tel σ 0) f46 hs) ?_
            refine br_f (by decide) ?_
            refine br_f (by decide) ?_
            refine br_t (by decide) ?_
            refine br_f (by decide) ?_
            refine cl (inM 0 99 hx _) ?_
            refine br_t (by decide) ?_
            refine cl (ct_finds (w := 0) (by decide) fd0 _) ?_
            exact And.intro rfl rfl
        | true =>
          obtain ⟨a, -, ha, rfl⟩ := bI_n hx (by decide) (by decide)
          refine ⟨σ 6 k, up2 σ 6 k (nI a), up2 (up2 σ 6 k (nI a)) 46 (28 + 5 * k + 2) (nI a), ?_, ?_, ?_⟩
          · refine Ct.of (by decide +kernel) zX4_change (Nat.le_of_ble_eq_true rfl) (by decide) (fun X go => ?_)
            refine go.1 [] 100 _ _ _ _ ?_
            refine cl (isS v hs) ?_
            refine br_f (by decide) ?_
            refine br_f (by decide) ?_
            refine br_t (by decide) ?_
            refine br_f (nI_pos (by omega)) ?_
            refine br_f (show ¬ nI 99 < nI a from nI_nlt (by omega) (by omega)) ?_
            refine Exists.intro (k) (And.intro ⟨rfl, by omega, by omega⟩ ?_)
            refine Exists.intro (k) (And.intro ⟨rfl, by omega, by omega⟩ ?_)
            exact And.intro rfl rfl
          · have c := ct_its (k := k) (w := 2) hk8 (by decide) (kv := nI k) (wv := 2) rfl rfl (up2 σ 6 k (nI a)) (Tq 1 σ)
            rw [MSe (show up2 σ 6 k (nI a) 46 = flat (Tq 1 σ) from f46)] at c
            refine Ct.of (by decide +kernel) zX5_change (Nat.le_of_ble_eq_true rfl) (by decide) (fun X go => ?_)
            refine go.1 [] 100 _ _ _ _ ?_
            refine cl (isSM v (σ := up2 σ 6 k (nI a)) f46 hs) ?_
            refine br_f (by decide) ?_
            refine br_f (by decide) ?_
            refine br_t (by decide) ?_
            refine br_f (by decide) ?_
            refine cl (inM 0 99 hx _) ?_
            refine br_f (by decide) ?_
            refine cl (c) ?_
            refine cl (ct_at (a := k) (b := 2) rfl rfl _) ?_
            refine Exists.intro (28 + 5 * k + 2) (And.intro ⟨rfl, by omega, by omega⟩ ?_)
            exact And.intro rfl rfl
          · refine J_row h (r := 5) (by decide) (f := upd (σ 6) k (nI a)) ⟨n, hh, VT_goods v (by omega) rfl, h9⟩ ⟨z1.1, z1.2.1, ⟨z1.2.2.1.1, z1.2.2.1.2.1, Zr_upd z1.2.2.1.2.2.1 hk8, z1.2.2.1.2.2.2⟩, z1.2.2.2⟩ ?_
            show upd (σ 46) (28 + 5 * k + 2) (nI a) = _
            rw [f46, flat_upd_k hk8 (by decide)]
            rfl
      · refine Pair_fd h 0 ?_ ?_
        · refine Ct.of (by decide +kernel) zX4_change (Nat.le_of_ble_eq_true rfl) (by decide) (fun X go => ?_)
          refine go.1 [] 100 _ _ _ _ ?_
          refine cl (isS v hs) ?_
          refine br_f (by decide) ?_
          refine br_f h0 ?_
          refine br_f h2 ?_
          refine cl (ct_fd (w := 0) (by decide) rfl _) ?_
          exact And.intro rfl rfl
        · refine Ct.of (by decide +kernel) zX5_change (Nat.le_of_ble_eq_true rfl) (by decide) (fun X go => ?_)
          refine go.1 [] 100 _ _ _ _ ?_
          refine cl (isSM v (σ := tel σ 0) f46 hs) ?_
          refine br_f (by decide) ?_
          refine br_f h0 ?_
          refine br_f h2 ?_
          refine cl (ct_finds (w := 0) (by decide) fd0 _) ?_
          exact And.intro rfl rfl
/-- the sum of a row, by both -/
theorem suG_sum {f : Nat → Int32} (k : Nat) : suG f (k + 1) = suG f k + f k := rfl
theorem ct_allGoods {n : Nat} (hn8 : n ≤ 8) {σ : Sg} (hn : σ 1 9 = nI n) : Ct mX2_allGoods [.ref 1] σ (Ex (some (.int (suG (σ 6) n))) σ) := by
  refine Ct.of (by decide +kernel) zX2_allGoods (Nat.le_of_ble_eq_true rfl) (by decide) (fun X go => ?_)
  have L : ∀ d k, k + d = n → X 4 [(0, .ref 1), (1, .int (suG (σ 6) k)), (2, .int (nI k))] [] σ := by
    intro d
    induction d with
    | zero =>
      intro k hk
      have hk : k = n := by omega
      subst hk
      refine go.1 [4] 20 _ _ _ _ ?_
      refine br_t (show σ 1 9 ≤ nI k by rw [hn]; exact nI_le (Nat.le_refl _) (by omega)) ?_
      exact And.intro rfl rfl
    | succ d ih =>
      intro k hk
      have ihk := ih (k + 1) (by omega)
      rw [nI_succ] at ihk
      refine go.1 [4] 30 _ _ _ _ ?_
      refine br_f (show ¬ σ 1 9 ≤ nI k by rw [hn]; exact nI_ge (by omega) (by omega)) ?_
      refine Exists.intro (k) (And.intro ⟨rfl, by omega, by omega⟩ ?_)
      exact ihk
  exact go.1 [4] 20 _ _ _ _ (L n 0 (by omega))
theorem ct_allVisits (σ : Sg) : Ct mX2_allVisits [.ref 1] σ (Ex (some (.int (suG (σ 2) 12))) σ) := by
  refine Ct.of (by decide +kernel) zX2_allVisits (Nat.le_of_ble_eq_true rfl) (by decide) (fun X go => ?_)
  have L : ∀ d k, k + d = 12 → X 4 [(0, .ref 1), (1, .int (suG (σ 2) k)), (2, .int (nI k))] [] σ := by
    intro d
    induction d with
    | zero =>
      intro k hk
      have hk : k = 12 := by omega
      subst hk
      refine go.1 [4] 20 _ _ _ _ ?_
      refine br_t (by decide) ?_
      exact And.intro rfl rfl
    | succ d ih =>
      intro k hk
      have ihk := ih (k + 1) (by omega)
      rw [nI_succ] at ihk
      refine go.1 [4] 30 _ _ _ _ ?_
      refine br_f (show ¬ nI 12 ≤ nI k from nI_ge (by omega) (by omega)) ?_
      refine Exists.intro (k) (And.intro ⟨rfl, by omega, by omega⟩ ?_)
      exact ihk
  exact go.1 [4] 20 _ _ _ _ (L 12 0 (by omega))
theorem ct_visitsOfAll {σ T : Sg} (f46 : σ 46 = flat T) : Ct mX5_visitsOfAll [.ref 45] σ (Ex (some (.int (suG (T 1) 12))) σ) := by
  refine Ct.of (by decide +kernel) zX5_visitsOfAll (Nat.le_of_ble_eq_true rfl) (by decide) (fun X go => ?_)
  have L : ∀ d k, k + d = 12 → X 4 [(0, .ref 45), (1, .int (suG (T 1) k)), (2, .int (nI k))] [] σ := by
    intro d
    induction d with
    | zero =>
      intro k hk
      have hk : k = 12 := by omega
      subst hk
      refine go.1 [4] 20 _ _ _ _ ?_
      refine br_t (by decide) ?_
      exact And.intro rfl rfl
    | succ d ih =>
      intro k hk
      have ihk := ih (k + 1) (by omega)
      rw [nI_succ] at ihk
      refine go.1 [4] 30 _ _ _ _ ?_
      refine br_f (show ¬ nI 12 ≤ nI k from nI_ge (by omega) (by omega)) ?_
      refine Exists.intro (4 + k) (And.intro ⟨show nI 4 + nI k = _ from nI_add 4 k, by omega, by omega⟩ ?_)
      rw [show σ 46 (4 + k) = T 1 k by rw [f46, flat_v (by omega)]]
      exact ihk
  exact go.1 [4] 20 _ _ _ _ (L 12 0 (by omega))
def cnG (f : Nat → Int32) : Nat → Nat
  | 0 => 0
  | k + 1 => if f k < 0 then cnG f k else cnG f k + 1
theorem ct_spots (σ : Sg) : Ct mX2_spotsInUse [.ref 1] σ (Ex (some (.int (nI (cnG (σ 9) 10)))) σ) := by
  refine Ct.of (by decide +kernel) zX2_spotsInUse (Nat.le_of_ble_eq_true rfl) (by decide) (fun X go => ?_)
  have L : ∀ d k, k + d = 10 → X 4 [(0, .ref 1), (1, .int (nI (cnG (σ 9) k))), (2, .int (nI k))] [] σ := by
    intro d
    induction d with
    | zero =>
      intro k hk
      have hk : k = 10 := by omega
      subst hk
      refine go.1 [4] 20 _ _ _ _ ?_
      refine br_t (by decide) ?_
      exact And.intro rfl rfl
    | succ d ih =>
      intro k hk
      have ihk := ih (k + 1) (by omega)
      rw [nI_succ] at ihk
      refine go.1 [4] 30 _ _ _ _ ?_
      refine br_f (show ¬ nI 10 ≤ nI k from nI_ge (by omega) (by omega)) ?_
      refine Exists.intro (k) (And.intro ⟨rfl, by omega, by omega⟩ ?_)
      refine And.intro (fun (q : σ 9 k < 0) => ?_) (fun (q : ¬ σ 9 k < 0) => ?_)
      · rw [show cnG (σ 9) (k + 1) = cnG (σ 9) k from if_pos q] at ihk
        exact ihk
      · rw [show cnG (σ 9) (k + 1) = cnG (σ 9) k + 1 from if_neg q, nI_succ] at ihk
        exact ihk
  exact go.1 [4] 20 _ _ _ _ (L 10 0 (by omega))
theorem ct_held {σ T : Sg} (f46 : σ 46 = flat T) : Ct mX5_held [.ref 45] σ (Ex (some (.int (nI (cnG (T 8) 10)))) σ) := by
  refine Ct.of (by decide +kernel) zX5_held (Nat.le_of_ble_eq_true rfl) (by decide) (fun X go => ?_)
  have L : ∀ d k, k + d = 10 → X 4 [(0, .ref 45), (1, .int (nI (cnG (T 8) k))), (2, .int (nI k))] [] σ := by
    intro d
    induction d with
    | zero =>
      intro k hk
      have hk : k = 10 := by omega
      subst hk
      refine go.1 [4] 20 _ _ _ _ ?_
      refine br_t (by decide) ?_
      exact And.intro rfl rfl
    | succ d ih =>
      intro k hk
      have ihk := ih (k + 1) (by omega)
      rw [nI_succ] at ihk
      refine go.1 [4] 30 _ _ _ _ ?_
      refine br_f (show ¬ nI 10 ≤ nI k from nI_ge (by omega) (by omega)) ?_
      refine Exists.intro (68 + k) (And.intro ⟨show nI 68 + nI k = _ from nI_add 68 k, by omega, by omega⟩ ?_)
      rw [show σ 46 (68 + k) = T 8 k by rw [f46, flat_h (by omega)]]
      by_cases q : T 8 k < 0
      · rw [show cnG (T 8) (k + 1) = cnG (T 8) k from if_pos q] at ihk
        first
          | refine br_t q ?_
          | refine br_f (fun z => absurd q (Int32.not_lt.mpr z)) ?_
        rw [show nI (cnG (T 8) k) = nI (cnG (T 8) k) + 0 from (Int32.add_zero _).symm] at ihk
        exact ihk
      · rw [show cnG (T 8) (k + 1) = cnG (T 8) k + 1 from if_neg q, nI_succ] at ihk
        first
          | refine br_f q ?_
          | refine br_t (Int32.not_lt.mp q) ?_
        exact ihk
  exact go.1 [4] 20 _ _ _ _ (L 10 0 (by omega))

theorem P_count {σ : Sg} (h : J σ) (w : Int32) : Pair mX4_count mX5_count [.int w] σ := by
  have f46 := J46 h
  obtain ⟨n, hh, v, h9⟩ := h.1
  have hn8 := v.1.1
  have z1 := h.2.1.1
  have z10 := h.2.1.2.1
  have z46 := J_z46 h
  have z48 := h.2.2.2.1.1
  cases hw : bI w 0 7 with
  | false =>
      refine Pair_fd h 0 ?_ ?_
      · refine Ct.of (by decide +kernel) zX4_count (Nat.le_of_ble_eq_true rfl) (by decide) (fun X go => ?_)
        refine go.1 [] 100 _ _ _ _ ?_
        repeat (refine br_f (fun q => by rw [q] at hw; exact absurd hw (by decide)) ?_)
        refine cl (ct_fd (w := 0) (by decide) rfl _) ?_
        exact And.intro rfl rfl
      · refine Ct.of (by decide +kernel) zX5_count (Nat.le_of_ble_eq_true rfl) (by decide) (fun X go => ?_)
        refine go.1 [] 100 _ _ _ _ ?_
        repeat (refine br_f (fun q => by rw [q] at hw; exact absurd hw (by decide)) ?_)
        refine cl (ct_finds (w := 0) (by decide) fd0 _) ?_
        exact And.intro rfl rfl
  | true =>
      obtain ⟨b, -, hb, rfl⟩ := bI_n hw (by decide) (by decide)
      have hb : b = 0 ∨ b = 1 ∨ b = 2 ∨ b = 3 ∨ b = 4 ∨ b = 5 ∨ b = 6 ∨ b = 7 := by omega
      rcases hb with rfl | rfl | rfl | rfl | rfl | rfl | rfl | rfl
      · refine ⟨σ 1 10, σ, σ, ?_, ?_, h⟩
        · refine Ct.of (by decide +kernel) zX4_count (Nat.le_of_ble_eq_true rfl) (by decide) (fun X go => ?_)
          refine go.1 [] 100 _ _ _ _ ?_
          repeat (first | refine br_t (by decide) ?_ | refine br_f (by decide) ?_)
          exact And.intro rfl rfl
        · refine Ct.of (by decide +kernel) zX5_count (Nat.le_of_ble_eq_true rfl) (by decide) (fun X go => ?_)
          refine go.1 [] 100 _ _ _ _ ?_
          repeat (first | refine br_t (by decide) ?_ | refine br_f (by decide) ?_)
          refine Exists.intro (0) (And.intro ⟨rfl, by omega, by omega⟩ ?_)
          rw [show σ 46 0 = σ 1 10 by rw [f46]; rfl]
          exact And.intro rfl rfl
      · refine ⟨σ 1 9, σ, σ, ?_, ?_, h⟩
        · refine Ct.of (by decide +kernel) zX4_count (Nat.le_of_ble_eq_true rfl) (by decide) (fun X go => ?_)
          refine go.1 [] 100 _ _ _ _ ?_
          repeat (first | refine br_t (by decide) ?_ | refine br_f (by decide) ?_)
          exact And.intro rfl rfl
        · refine Ct.of (by decide +kernel) zX5_count (Nat.le_of_ble_eq_true rfl) (by decide) (fun X go => ?_)
          refine go.1 [] 100 _ _ _ _ ?_
          repeat (first | refine br_t (by decide) ?_ | refine br_f (by decide) ?_)
          refine Exists.intro (1) (And.intro ⟨rfl, by omega, by omega⟩ ?_)
          rw [show σ 46 1 = σ 1 9 by rw [f46]; rfl]
          exact And.intro rfl rfl
      · have c := ct_sumOf hn8 v.1.2.2.1 (w := 2) (by decide) (wv := 2) rfl σ
        rw [MSe f46] at c
        refine ⟨suG (Tq 1 σ 5) n, σ, σ, ?_, ?_, h⟩
        · refine Ct.of (by decide +kernel) zX4_count (Nat.le_of_ble_eq_true rfl) (by decide) (fun X go => ?_)
          refine go.1 [] 100 _ _ _ _ ?_
          repeat (first | refine br_t (by decide) ?_ | refine br_f (by decide) ?_)
          refine cl (ct_allGoods hn8 v.1.2.2.1) ?_
          exact And.intro rfl rfl
        · refine Ct.of (by decide +kernel) zX5_count (Nat.le_of_ble_eq_true rfl) (by decide) (fun X go => ?_)
          refine go.1 [] 100 _ _ _ _ ?_
          repeat (first | refine br_t (by decide) ?_ | refine br_f (by decide) ?_)
          refine cl (c) ?_
          exact And.intro rfl rfl
      · have c := ct_sumOf hn8 v.1.2.2.1 (w := 3) (by decide) (wv := 3) rfl σ
        rw [MSe f46] at c
        refine ⟨suG (Tq 1 σ 6) n, σ, σ, ?_, ?_, h⟩
        · refine Ct.of (by decide +kernel) zX4_count (Nat.le_of_ble_eq_true rfl) (by decide) (fun X go => ?_)
          refine go.1 [] 100 _ _ _ _ ?_
          repeat (first | refine br_t (by decide) ?_ | refine br_f (by decide) ?_)
          refine cl (ct_allCoin_1 hn8 v.1.2.2.1) ?_
          exact And.intro rfl rfl
        · refine Ct.of (by decide +kernel) zX5_count (Nat.le_of_ble_eq_true rfl) (by decide) (fun X go => ?_)
          refine go.1 [] 100 _ _ _ _ ?_
          repeat (first | refine br_t (by decide) ?_ | refine br_f (by decide) ?_)
          refine cl (c) ?_
          exact And.intro rfl rfl
      · refine ⟨suG (Tq 1 σ 1) 12, σ, σ, ?_, ?_, h⟩
        · refine Ct.of (by decide +kernel) zX4_count (Nat.le_of_ble_eq_true rfl) (by decide) (fun X go => ?_)
          refine go.1 [] 100 _ _ _ _ ?_
          repeat (first | refine br_t (by decide) ?_ | refine br_f (by decide) ?_)
          refine cl (ct_allVisits σ) ?_
          exact And.intro rfl rfl
        · refine Ct.of (by decide +kernel) zX5_count (Nat.le_of_ble_eq_true rfl) (by decide) (fun X go => ?_)
          refine go.1 [] 100 _ _ _ _ ?_
          repeat (first | refine br_t (by decide) ?_ | refine br_f (by decide) ?_)
          refine cl (ct_visitsOfAll f46) ?_
          exact And.intro rfl rfl
      · obtain ⟨m, m1, m2, m3, m4⟩ := J_tp h
        refine ⟨nI m, σ, σ, ?_, ?_, h⟩
        · refine Ct.of (by decide +kernel) zX4_count (Nat.le_of_ble_eq_true rfl) (by decide) (fun X go => ?_)
          refine go.1 [] 100 _ _ _ _ ?_
          repeat (first | refine br_t (by decide) ?_ | refine br_f (by decide) ?_)
          exact And.intro (congrArg (fun x => some (Value.int x)) m2) rfl
        · refine Ct.of (by decide +kernel) zX5_count (Nat.le_of_ble_eq_true rfl) (by decide) (fun X go => ?_)
          refine go.1 [] 100 _ _ _ _ ?_
          repeat (first | refine br_t (by decide) ?_ | refine br_f (by decide) ?_)
          exact And.intro (congrArg (fun x => some (Value.int x)) m3) rfl
      · refine ⟨σ 1 11, σ, σ, ?_, ?_, h⟩
        · refine Ct.of (by decide +kernel) zX4_count (Nat.le_of_ble_eq_true rfl) (by decide) (fun X go => ?_)
          refine go.1 [] 100 _ _ _ _ ?_
          repeat (first | refine br_t (by decide) ?_ | refine br_f (by decide) ?_)
          exact And.intro rfl rfl
        · refine Ct.of (by decide +kernel) zX5_count (Nat.le_of_ble_eq_true rfl) (by decide) (fun X go => ?_)
          refine go.1 [] 100 _ _ _ _ ?_
          repeat (first | refine br_t (by decide) ?_ | refine br_f (by decide) ?_)
          refine Exists.intro (3) (And.intro ⟨rfl, by omega, by omega⟩ ?_)
          rw [show σ 46 3 = σ 1 11 by rw [f46]; rfl]
          exact And.intro rfl rfl
      · refine ⟨nI (cnG (Tq 1 σ 8) 10), σ, σ, ?_, ?_, h⟩
        · refine Ct.of (by decide +kernel) zX4_count (Nat.le_of_ble_eq_true rfl) (by decide) (fun X go => ?_)
          refine go.1 [] 100 _ _ _ _ ?_
          repeat (first | refine br_t (by decide) ?_ | refine br_f (by decide) ?_)
          refine cl (ct_spots σ) ?_
          exact And.intro rfl rfl
        · refine Ct.of (by decide +kernel) zX5_count (Nat.le_of_ble_eq_true rfl) (by decide) (fun X go => ?_)
          refine go.1 [] 100 _ _ _ _ ?_
          repeat (first | refine br_t (by decide) ?_ | refine br_f (by decide) ?_)
          refine cl (ct_held f46) ?_
          exact And.intro rfl rfl

def one1 (f : Nat → Int32) (w : Nat) (k : Nat) : Int32 := if k = w then f k else 0
theorem suG_one {f : Nat → Int32} {w : Nat} : ∀ n, suG (one1 f w) n = if w < n then f w else 0
  | 0 => rfl
  | n + 1 => by
    rw [suG_sum, suG_one n]
    unfold one1
    by_cases h : n = w
    · subst h
      rw [if_pos rfl, if_neg (by omega), if_pos (by omega), Int32.zero_add]
    · rw [if_neg h, Int32.add_zero]
      by_cases h2 : w < n
      · rw [if_pos h2, if_pos (by omega)]
      · rw [if_neg h2, if_neg (by omega)]
theorem suG_eq {f g : Nat → Int32} : ∀ n, (∀ k, k < n → f k = g k) → suG f n = suG g n
  | 0, _ => rfl
  | n + 1, h => by rw [suG_sum, suG_sum, suG_eq n (fun k hk => h k (by omega)), h n (by omega)]
theorem P_status {σ : Sg} (h : J σ) (w : Int32) : Pair mX4_status mX5_status [.int w] σ := by
  have f46 := J46 h
  obtain ⟨n, hh, v, h9⟩ := h.1
  have hn8 := v.1.1
  have z1 := h.2.1.1
  have z10 := h.2.1.2.1
  have z46 := J_z46 h
  have z48 := h.2.2.2.1.1
  have st := J_st h
  cases hw : bI w (-1) 6 with
  | false =>
      have hw' := bI_f.mp hw
      refine Pair_fd h 0 ?_ ?_
      · refine Ct.of (by decide +kernel) zX4_status (Nat.le_of_ble_eq_true rfl) (by decide) (fun X go => ?_)
        refine go.1 [] 100 _ _ _ _ ?_
        refine And.intro (fun (q : w < -1) => ?_) (fun (q : ¬ w < -1) => ?_)
        · refine cl (ct_fd (w := 0) (by decide) rfl _) ?_
          exact And.intro rfl rfl
        · refine br_f (show ¬ w < 7 from fun g => ?_) ?_
          · have g : w.toInt < 7 := (i_lt w 7).mp g
            have q : ¬ w.toInt < -1 := fun z => q ((i_lt w (-1)).mpr (by rw [m1_toInt]; exact z))
            exact hw' ⟨by omega, by omega⟩
          · refine cl (ct_fd (w := 0) (by decide) rfl _) ?_
            exact And.intro rfl rfl
      · refine Ct.of (by decide +kernel) zX5_status (Nat.le_of_ble_eq_true rfl) (by decide) (fun X go => ?_)
        refine go.1 [] 100 _ _ _ _ ?_
        refine cl (inM (-1) 6 hw _) ?_
        refine br_t (by decide) ?_
        refine cl (ct_finds (w := 0) (by decide) fd0 _) ?_
        exact And.intro rfl rfl
  | true =>
    by_cases hm : w = -1
    · subst hm
      refine ⟨suG (σ 44) 7, σ, σ, ?_, ?_, h⟩
      · refine Ct.of (by decide +kernel) zX4_status (Nat.le_of_ble_eq_true rfl) (by decide) (fun X go => ?_)
        refine go.1 [32] 100 _ _ _ _ ?_
        have L : ∀ d k, k + d = 7 → X 32 [(0, .ref 0), (1, .int (-1)), (2, .int (suG (σ 44) k)), (3, .int (nI k))] [] σ := by
          intro d
          induction d with
          | zero =>
            intro k hk
            have hk : k = 7 := by omega
            subst hk
            refine go.1 [32] 20 _ _ _ _ ?_
            refine br_t (by decide) ?_
            exact And.intro rfl rfl
          | succ d ih =>
            intro k hk
            have ihk := ih (k + 1) (by omega)
            rw [nI_succ] at ihk
            refine go.1 [32] 30 _ _ _ _ ?_
            refine br_f (show ¬ nI 7 ≤ nI k from nI_ge (by omega) (by omega)) ?_
            refine Exists.intro (k) (And.intro ⟨rfl, by omega, by omega⟩ ?_)
            exact ihk
        repeat (first | refine br_t (by decide) ?_ | refine br_f (by decide) ?_)
        exact L 7 0 rfl
      · rw [suG_eq 7 st]
        refine Ct.of (by decide +kernel) zX5_status (Nat.le_of_ble_eq_true rfl) (by decide) (fun X go => ?_)
        refine go.1 [25] 100 _ _ _ _ ?_
        have L : ∀ d k, k + d = 7 → X 25 [(0, .ref 45), (1, .int (-1)), (2, .int (suG (σ 49) k)), (3, .int (nI k))] [] σ := by
          intro d
          induction d with
          | zero =>
            intro k hk
            have hk : k = 7 := by omega
            subst hk
            refine go.1 [25] 20 _ _ _ _ ?_
            refine br_t (by decide) ?_
            exact And.intro rfl rfl
          | succ d ih =>
            intro k hk
            have ihk := ih (k + 1) (by omega)
            rw [nI_succ] at ihk
            refine go.1 [25] 30 _ _ _ _ ?_
            refine br_f (show ¬ nI 7 ≤ nI k from nI_ge (by omega) (by omega)) ?_
            refine br_t (by decide) ?_
            refine Exists.intro (k) (And.intro ⟨rfl, by omega, by omega⟩ ?_)
            exact ihk
        refine cl (inM (-1) 6 hw _) ?_
        refine br_f (by decide) ?_
        exact L 7 0 rfl
    · have hw' := bI_t.mp hw
      obtain ⟨a, ha, rfl⟩ : ∃ a, a < 7 ∧ w = nI a := by
        have : w.toInt ≠ -1 := fun q => hm (Int32.toInt_inj.mp (by rw [q, m1_toInt]))
        exact ⟨w.toInt.toNat, by omega, nI_of_toInt (by omega) (by omega)⟩
      refine ⟨σ 44 a, σ, σ, ?_, ?_, h⟩
      · refine Ct.of (by decide +kernel) zX4_status (Nat.le_of_ble_eq_true rfl) (by decide) (fun X go => ?_)
        refine go.1 [] 100 _ _ _ _ ?_
        refine br_f (fun q => by have q := (i_lt _ _).mp q; rw [nI_toInt (by omega), m1_toInt] at q; omega) ?_
        refine br_t (show nI a < nI 7 from nI_lt (by omega) (by omega)) ?_
        refine br_f (nI_pos (by omega)) ?_
        refine Exists.intro (a) (And.intro ⟨rfl, by omega, by omega⟩ ?_)
        exact And.intro rfl rfl
      · rw [st a ha, show σ 49 a = suG (one1 (σ 49) a) 7 by rw [suG_one, if_pos ha]]
        refine Ct.of (by decide +kernel) zX5_status (Nat.le_of_ble_eq_true rfl) (by decide) (fun X go => ?_)
        refine go.1 [25] 100 _ _ _ _ ?_
        have L : ∀ d k, k + d = 7 → X 25 [(0, .ref 45), (1, .int (nI a)), (2, .int (suG (one1 (σ 49) a) k)), (3, .int (nI k))] [] σ := by
          intro d
          induction d with
          | zero =>
            intro k hk
            have hk : k = 7 := by omega
            subst hk
            refine go.1 [25] 20 _ _ _ _ ?_
            refine br_t (by decide) ?_
            exact And.intro rfl rfl
          | succ d ih =>
            intro k hk
            have ihk := ih (k + 1) (by omega)
            rw [nI_succ, suG_sum] at ihk
            refine go.1 [25] 30 _ _ _ _ ?_
            refine br_f (show ¬ nI 7 ≤ nI k from nI_ge (by omega) (by omega)) ?_
            refine br_f (nI_pos (by omega)) ?_
            by_cases q : k = a
            · refine br_t (show nI k = nI a by rw [q]) ?_
              rw [show one1 (σ 49) a k = σ 49 k from if_pos q] at ihk
              refine Exists.intro (k) (And.intro ⟨rfl, by omega, by omega⟩ ?_)
              exact ihk
            · refine br_f (show ¬ nI k = nI a from fun z => q ((nI_eq (by omega) (by omega)).mp z)) ?_
              rw [show one1 (σ 49) a k = 0 from if_neg q] at ihk
              exact ihk
        refine cl (inM (-1) 6 hw _) ?_
        refine br_f (by decide) ?_
        exact L 7 0 rfl

/-- whether a stall of kind a is one of kind b too -/
def okT (a b : Nat) : Bool := decide (b = 0) || decide (a = b) || (decide (b = 1) && decide (a = 3)) || (decide (b = 2) && decide (a = 4)) || (decide (b = 5) && decide (a = 6))

theorem ct_isOfKind {k a b : Nat} (hk : k < 8) (ha : a < 7) (hb : b < 7) {σ : Sg} (e : σ 4 k = nI a) : Ct mX2_isOfKind [.ref 1, .int (nI k), .int (nI b)] σ (Ex (some (.int (zb (okT a b)))) σ) := by
  have hb7 := hb
  refine Ct.of (by decide +kernel) zX2_isOfKind (Nat.le_of_ble_eq_true rfl) (by decide) (fun X go => ?_)
  have Hm : ∀ s, s < 7 → okT a b = false → X 10 [(0, .ref 1), (1, .int (nI k)), (2, .int (nI b)), (3, .int (-1)), (4, .int (nI s))] [] σ := by
    intro s hs ho
    refine go.1 [10] 30 _ _ _ _ ?_
    refine br_f (show ¬ nI 7 ≤ nI s from nI_ge (by omega) (by omega)) ?_
    refine br_t (by decide) ?_
    exact And.intro (Or.inl rfl) (And.intro (by rw [ho]; rfl) rfl)
  have ST : ∀ x s, x < 7 → s < 7 → (b = x → okT a b = true) → (b ≠ x → X 10 [(0, .ref 1), (1, .int (nI k)), (2, .int (nI b)), (3, .int (kA x)), (4, .int (nI (s + 1)))] [] σ) → X 10 [(0, .ref 1), (1, .int (nI k)), (2, .int (nI b)), (3, .int (nI x)), (4, .int (nI s))] [] σ := by
    intro x s hx hs hy hn
    refine go.1 [10] 30 _ _ _ _ ?_
    refine br_f (show ¬ nI 7 ≤ nI s from nI_ge (by omega) (by omega)) ?_
    refine br_f (nI_pos (by omega)) ?_
    by_cases q : b = x
    · refine br_t (show nI x = nI b by rw [q]) ?_
      exact And.intro (Or.inr rfl) (And.intro (by rw [hy q]; rfl) rfl)
    · have hn := hn q
      rw [nI_succ] at hn
      refine br_f (show ¬ nI x = nI b from fun z => q ((nI_eq (by omega) (by omega)).mp z).symm) ?_
      refine Exists.intro x (And.intro ⟨rfl, hx, by omega⟩ ?_)
      exact hn
  have ha : a = 0 ∨ a = 1 ∨ a = 2 ∨ a = 3 ∨ a = 4 ∨ a = 5 ∨ a = 6 := by omega
  have hb : b = 0 ∨ b = 1 ∨ b = 2 ∨ b = 3 ∨ b = 4 ∨ b = 5 ∨ b = 6 := by omega
  rcases ha with rfl | rfl | rfl | rfl | rfl | rfl | rfl
  · have hyes : (b = 0) → okT 0 b = true := by
      intro q
      rcases hb with rfl | rfl | rfl | rfl | rfl | rfl | rfl <;> first | rfl | exact absurd q (by decide)
    have hno : ¬ (b = 0) → okT 0 b = false := by
      intro q
      rcases hb with rfl | rfl | rfl | rfl | rfl | rfl | rfl <;> first | rfl | exact absurd (by decide) q
    refine go.1 [10] 20 _ _ _ _ ?_
    refine Exists.intro k (And.intro ⟨rfl, hk, by omega⟩ ?_)
    rw [e]
    exact ST 0 0 (by omega) (by omega) (fun q => hyes (by omega)) (fun q0 => Hm 1 (by omega) (hno (by omega)))
  · have hyes : (b = 1 ∨ b = 0) → okT 1 b = true := by
      intro q
      rcases hb with rfl | rfl | rfl | rfl | rfl | rfl | rfl <;> first | rfl | exact absurd q (by decide)
    have hno : ¬ (b = 1 ∨ b = 0) → okT 1 b = false := by
      intro q
      rcases hb with rfl | rfl | rfl | rfl | rfl | rfl | rfl <;> first | rfl | exact absurd (by decide) q
    refine go.1 [10] 20 _ _ _ _ ?_
    refine Exists.intro k (And.intro ⟨rfl, hk, by omega⟩ ?_)
    rw [e]
    exact ST 1 0 (by omega) (by omega) (fun q => hyes (by omega)) (fun q0 => ST 0 1 (by omega) (by omega) (fun q => hyes (by omega)) (fun q1 => Hm 2 (by omega) (hno (by omega))))
  · have hyes : (b = 2 ∨ b = 0) → okT 2 b = true := by
      intro q
      rcases hb with rfl | rfl | rfl | rfl | rfl | rfl | rfl <;> first | rfl | exact absurd q (by decide)
    have hno : ¬ (b = 2 ∨ b = 0) → okT 2 b = false := by
      intro q
      rcases hb with rfl | rfl | rfl | rfl | rfl | rfl | rfl <;> first | rfl | exact absurd (by decide) q
    refine go.1 [10] 20 _ _ _ _ ?_
    refine Exists.intro k (And.intro ⟨rfl, hk, by omega⟩ ?_)
    rw [e]
    exact ST 2 0 (by omega) (by omega) (fun q => hyes (by omega)) (fun q0 => ST 0 1 (by omega) (by omega) (fun q => hyes (by omega)) (fun q1 => Hm 2 (by omega) (hno (by omega))))
  · have hyes : (b = 3 ∨ b = 1 ∨ b = 0) → okT 3 b = true := by
      intro q
      rcases hb with rfl | rfl | rfl | rfl | rfl | rfl | rfl <;> first | rfl | exact absurd q (by decide)
    have hno : ¬ (b = 3 ∨ b = 1 ∨ b = 0) → okT 3 b = false := by
      intro q
      rcases hb with rfl | rfl | rfl | rfl | rfl | rfl | rfl <;> first | rfl | exact absurd (by decide) q
    refine go.1 [10] 20 _ _ _ _ ?_
    refine Exists.intro k (And.intro ⟨rfl, hk, by omega⟩ ?_)
    rw [e]
    exact ST 3 0 (by omega) (by omega) (fun q => hyes (by omega)) (fun q0 => ST 1 1 (by omega) (by omega) (fun q => hyes (by omega)) (fun q1 => ST 0 2 (by omega) (by omega) (fun q => hyes (by omega)) (fun q2 => Hm 3 (by omega) (hno (by omega)))))
  · have hyes : (b = 4 ∨ b = 2 ∨ b = 0) → okT 4 b = true := by
      intro q
      rcases hb with rfl | rfl | rfl | rfl | rfl | rfl | rfl <;> first | rfl | exact absurd q (by decide)
    have hno : ¬ (b = 4 ∨ b = 2 ∨ b = 0) → okT 4 b = false := by
      intro q
      rcases hb with rfl | rfl | rfl | rfl | rfl | rfl | rfl <;> first | rfl | exact absurd (by decide) q
    refine go.1 [10] 20 _ _ _ _ ?_
    refine Exists.intro k (And.intro ⟨rfl, hk, by omega⟩ ?_)
    rw [e]
    exact ST 4 0 (by omega) (by omega) (fun q => hyes (by omega)) (fun q0 => ST 2 1 (by omega) (by omega) (fun q => hyes (by omega)) (fun q1 => ST 0 2 (by omega) (by omega) (fun q => hyes (by omega)) (fun q2 => Hm 3 (by omega) (hno (by omega)))))
  · have hyes : (b = 5 ∨ b = 0) → okT 5 b = true := by
      intro q
      rcases hb with rfl | rfl | rfl | rfl | rfl | rfl | rfl <;> first | rfl | exact absurd q (by decide)
    have hno : ¬ (b = 5 ∨ b = 0) → okT 5 b = false := by
      intro q
      rcases hb with rfl | rfl | rfl | rfl | rfl | rfl | rfl <;> first | rfl | exact absurd (by decide) q
    refine go.1 [10] 20 _ _ _ _ ?_
    refine Exists.intro k (And.intro ⟨rfl, hk, by omega⟩ ?_)
    rw [e]
    exact ST 5 0 (by omega) (by omega) (fun q => hyes (by omega)) (fun q0 => ST 0 1 (by omega) (by omega) (fun q => hyes (by omega)) (fun q1 => Hm 2 (by omega) (hno (by omega))))
  · have hyes : (b = 6 ∨ b = 5 ∨ b = 0) → okT 6 b = true := by
      intro q
      rcases hb with rfl | rfl | rfl | rfl | rfl | rfl | rfl <;> first | rfl | exact absurd q (by decide)
    have hno : ¬ (b = 6 ∨ b = 5 ∨ b = 0) → okT 6 b = false := by
      intro q
      rcases hb with rfl | rfl | rfl | rfl | rfl | rfl | rfl <;> first | rfl | exact absurd (by decide) q
    refine go.1 [10] 20 _ _ _ _ ?_
    refine Exists.intro k (And.intro ⟨rfl, hk, by omega⟩ ?_)
    rw [e]
    exact ST 6 0 (by omega) (by omega) (fun q => hyes (by omega)) (fun q0 => ST 5 1 (by omega) (by omega) (fun q => hyes (by omega)) (fun q1 => ST 0 2 (by omega) (by omega) (fun q => hyes (by omega)) (fun q2 => Hm 3 (by omega) (hno (by omega)))))

theorem okT_t {a b : Nat} (h : b = 0 ∨ a = b ∨ (b = 1 ∧ a = 3) ∨ (b = 2 ∧ a = 4) ∨ (b = 5 ∧ a = 6)) : okT a b = true := by
  unfold okT
  rcases h with h | h | ⟨h, g⟩ | ⟨h, g⟩ | ⟨h, g⟩ <;> simp [*]
theorem okT_f {a b : Nat} (h0 : ¬ b = 0) (h1 : ¬ a = b) (h2 : ¬ (b = 1 ∧ a = 3)) (h3 : ¬ (b = 2 ∧ a = 4)) (h4 : ¬ (b = 5 ∧ a = 6)) : okT a b = false := by
  cases q : okT a b with
  | false => rfl
  | true =>
    unfold okT at q
    simp only [Bool.or_eq_true, Bool.and_eq_true, decide_eq_true_eq] at q
    omega

theorem P_as {σ : Sg} (h : J σ) (p w : Int32) : Pair mX4_as mX5_as [.int p, .int w] σ := by
  have f46 := J46 h
  obtain ⟨n, hh, v, h9⟩ := h.1
  have hn8 := v.1.1
  have z1 := h.2.1.1
  have z10 := h.2.1.2.1
  have z46 := J_z46 h
  have z48 := h.2.2.2.1.1
  cases hp : bI p 0 9 with
  | false =>
      refine Pair_fd h 0 ?_ ?_
      · refine Ct.of (by decide +kernel) zX4_as (Nat.le_of_ble_eq_true rfl) (by decide) (fun X go => ?_)
        refine go.1 [] 100 _ _ _ _ ?_
        refine cl (isPo hp _) ?_
        refine br_t (by decide) ?_
        refine cl (ct_fd (w := 0) (by decide) rfl _) ?_
        exact And.intro rfl rfl
      · refine Ct.of (by decide +kernel) zX5_as (Nat.le_of_ble_eq_true rfl) (by decide) (fun X go => ?_)
        refine go.1 [] 100 _ _ _ _ ?_
        refine cl (inM 0 9 hp _) ?_
        refine br_t (by decide) ?_
        refine cl (ct_finds (w := 0) (by decide) fd0 _) ?_
        exact And.intro rfl rfl
  | true =>
    cases hw : bI w 0 6 with
    | false =>
      refine Pair_fd h 0 ?_ ?_
      · refine Ct.of (by decide +kernel) zX4_as (Nat.le_of_ble_eq_true rfl) (by decide) (fun X go => ?_)
        refine go.1 [] 100 _ _ _ _ ?_
        refine cl (isPo hp _) ?_
        refine br_f (by decide) ?_
        refine cl (isK hw _) ?_
        refine br_t (by decide) ?_
        refine cl (ct_fd (w := 0) (by decide) rfl _) ?_
        exact And.intro rfl rfl
      · refine Ct.of (by decide +kernel) zX5_as (Nat.le_of_ble_eq_true rfl) (by decide) (fun X go => ?_)
        refine go.1 [] 100 _ _ _ _ ?_
        refine cl (inM 0 9 hp _) ?_
        refine br_f (by decide) ?_
        refine cl (inM 0 6 hw _) ?_
        refine br_t (by decide) ?_
        refine cl (ct_finds (w := 0) (by decide) fd0 _) ?_
        exact And.intro rfl rfl
    | true =>
      obtain ⟨q, -, hq, rfl⟩ := bI_n hp (by decide) (by decide)
      have hq : q < 10 := by omega
      obtain ⟨b, -, hb, rfl⟩ := bI_n hw (by decide) (by decide)
      have hb : b < 7 := by omega
      have ez : σ 46 (68 + q) = σ 9 q := by rw [f46, flat_h hq]; rfl
      rcases v.2.2.2.2.2.2.2.2 q hq with hn1 | ⟨k, hk, ek⟩
      · have e1 : σ 9 q = -1 := hn1
        have hs : bI (-1) 0 ((n : Int) - 1) = false := bI_f.mpr (fun z => by rw [m1_toInt] at z; omega)
        refine Pair_fd h 5 ?_ ?_
        · refine Ct.of (by decide +kernel) zX4_as (Nat.le_of_ble_eq_true rfl) (by decide) (fun X go => ?_)
          refine go.1 [] 100 _ _ _ _ ?_
          refine cl (isPo hp _) ?_
          refine br_f (by decide) ?_
          refine cl (isK hw _) ?_
          refine br_f (by decide) ?_
          refine Exists.intro (q) (And.intro ⟨rfl, by omega, by omega⟩ ?_)
          rw [e1]
          refine cl (isS v hs) ?_
          refine br_t (by decide) ?_
          refine cl (ct_fd (w := 5) (by decide) rfl _) ?_
          exact And.intro rfl rfl
        · refine Ct.of (by decide +kernel) zX5_as (Nat.le_of_ble_eq_true rfl) (by decide) (fun X go => ?_)
          refine go.1 [] 100 _ _ _ _ ?_
          refine cl (inM 0 9 hp _) ?_
          refine br_f (by decide) ?_
          refine cl (inM 0 6 hw _) ?_
          refine br_f (by decide) ?_
          refine Exists.intro (68 + q) (And.intro ⟨show nI 68 + nI q = _ from nI_add 68 q, by omega, by omega⟩ ?_)
          rw [show tel σ 5 46 (68 + q) = -1 from ez.trans e1]
          refine br_f (by decide) ?_
          refine cl (ct_finds (w := 5) (by decide) fd5 _) ?_
          exact And.intro rfl rfl
      · have e1 : σ 9 q = nI k := ek
        have hk8 : k < 8 := by omega
        have hs : bI (nI k) 0 ((n : Int) - 1) = true := stn_t v.1.1 hk
        obtain ⟨a, ha, ea⟩ := v.2.2.1 k hk8
        have co := ct_isOfKind hk8 ha hb (σ := σ) ea
        have cM : ∀ σ1 : Sg, σ1 46 = flat (Tq 1 σ) → Ct mX5_its [.ref 45, .int (nI k), .int 0] σ1 (Ex (some (.int (nI a))) σ1) := by
          intro σ1 f1
          have c := ct_its (k := k) (w := 0) hk8 (by decide) (kv := nI k) (wv := 0) rfl rfl σ1 (Tq 1 σ)
          rw [MSe f1, show Tq 1 σ (3 + 0) k = nI a from ea] at c
          exact c
        cases ho : okT a b with
        | true =>
          rw [ho] at co
          refine ⟨nI k, σ, σ, ?_, ?_, h⟩
          · refine Ct.of (by decide +kernel) zX4_as (Nat.le_of_ble_eq_true rfl) (by decide) (fun X go => ?_)
            refine go.1 [] 100 _ _ _ _ ?_
            refine cl (isPo hp _) ?_
            refine br_f (by decide) ?_
            refine cl (isK hw _) ?_
            refine br_f (by decide) ?_
            refine Exists.intro (q) (And.intro ⟨rfl, by omega, by omega⟩ ?_)
            rw [e1]
            refine cl (isS v hs) ?_
            refine br_f (by decide) ?_
            refine cl (co) ?_
            refine br_f (by decide) ?_
            exact And.intro rfl rfl
          · refine Ct.of (by decide +kernel) zX5_as (Nat.le_of_ble_eq_true rfl) (by decide) (fun X go => ?_)
            refine go.1 [] 100 _ _ _ _ ?_
            refine cl (inM 0 9 hp _) ?_
            refine br_f (by decide) ?_
            refine cl (inM 0 6 hw _) ?_
            refine br_f (by decide) ?_
            refine Exists.intro (68 + q) (And.intro ⟨show nI 68 + nI q = _ from nI_add 68 q, by omega, by omega⟩ ?_)
            rw [ez, e1]
            refine br_t (nI_pos' (by omega)) ?_
            refine cl (cM σ f46) ?_
            by_cases b0 : b = 0
            · refine br_t (show nI b = nI 0 by rw [b0]) ?_
              refine br_f (by decide) ?_
              exact And.intro rfl rfl
            · refine br_f (show ¬ nI b = nI 0 from fun z => absurd ((nI_eq (by omega) (by omega)).mp z) (by omega)) ?_
              by_cases ab : a = b
              · refine br_t (show nI a = nI b by rw [ab]) ?_
                refine br_f (by decide) ?_
                exact And.intro rfl rfl
              · refine br_f (show ¬ nI a = nI b from fun z => absurd ((nI_eq (by omega) (by omega)).mp z) (by omega)) ?_
                by_cases b1 : b = 1
                · refine br_t (show nI b = nI 1 by rw [b1]) ?_
                  by_cases a3 : a = 3
                  · refine br_t (show nI a = nI 3 by rw [a3]) ?_
                    refine br_f (by decide) ?_
                    exact And.intro rfl rfl
                  · refine br_f (show ¬ nI a = nI 3 from fun z => absurd ((nI_eq (by omega) (by omega)).mp z) (by omega)) ?_
                    refine br_f (show ¬ nI b = nI 2 from fun z => absurd ((nI_eq (by omega) (by omega)).mp z) (by omega)) ?_
                    refine br_f (show ¬ nI b = nI 5 from fun z => absurd ((nI_eq (by omega) (by omega)).mp z) (by omega)) ?_
                    exact absurd (ho.symm.trans (okT_f (by omega) (by omega) (by omega) (by omega) (by omega))) (by decide)
                · refine br_f (show ¬ nI b = nI 1 from fun z => absurd ((nI_eq (by omega) (by omega)).mp z) (by omega)) ?_
                  by_cases b2 : b = 2
                  · refine br_t (show nI b = nI 2 by rw [b2]) ?_
                    by_cases a4 : a = 4
                    · refine br_t (show nI a = nI 4 by rw [a4]) ?_
                      refine br_f (by decide) ?_
                      exact And.intro rfl rfl
                    · refine br_f (show ¬ nI a = nI 4 from fun z => absurd ((nI_eq (by omega) (by omega)).mp z) (by omega)) ?_
                      refine br_f (show ¬ nI b = nI 5 from fun z => absurd ((nI_eq (by omega) (by omega)).mp z) (by omega)) ?_
                      exact absurd (ho.symm.trans (okT_f (by omega) (by omega) (by omega) (by omega) (by omega))) (by decide)
                  · refine br_f (show ¬ nI b = nI 2 from fun z => absurd ((nI_eq (by omega) (by omega)).mp z) (by omega)) ?_
                    by_cases b5 : b = 5
                    · refine br_t (show nI b = nI 5 by rw [b5]) ?_
                      by_cases a6 : a = 6
                      · refine br_t (show nI a = nI 6 by rw [a6]) ?_
                        refine br_f (by decide) ?_
                        exact And.intro rfl rfl
                      · refine br_f (show ¬ nI a = nI 6 from fun z => absurd ((nI_eq (by omega) (by omega)).mp z) (by omega)) ?_
                        exact absurd (ho.symm.trans (okT_f (by omega) (by omega) (by omega) (by omega) (by omega))) (by decide)
                    · refine br_f (show ¬ nI b = nI 5 from fun z => absurd ((nI_eq (by omega) (by omega)).mp z) (by omega)) ?_
                      exact absurd (ho.symm.trans (okT_f (by omega) (by omega) (by omega) (by omega) (by omega))) (by decide)
        | false =>
          rw [ho] at co
          refine Pair_fd h 2 ?_ ?_
          · refine Ct.of (by decide +kernel) zX4_as (Nat.le_of_ble_eq_true rfl) (by decide) (fun X go => ?_)
            refine go.1 [] 100 _ _ _ _ ?_
            refine cl (isPo hp _) ?_
            refine br_f (by decide) ?_
            refine cl (isK hw _) ?_
            refine br_f (by decide) ?_
            refine Exists.intro (q) (And.intro ⟨rfl, by omega, by omega⟩ ?_)
            rw [e1]
            refine cl (isS v hs) ?_
            refine br_f (by decide) ?_
            refine cl (co) ?_
            refine br_t (by decide) ?_
            refine cl (ct_fd (w := 2) (by decide) rfl _) ?_
            exact And.intro rfl rfl
          · refine Ct.of (by decide +kernel) zX5_as (Nat.le_of_ble_eq_true rfl) (by decide) (fun X go => ?_)
            refine go.1 [] 100 _ _ _ _ ?_
            refine cl (inM 0 9 hp _) ?_
            refine br_f (by decide) ?_
            refine cl (inM 0 6 hw _) ?_
            refine br_f (by decide) ?_
            refine Exists.intro (68 + q) (And.intro ⟨show nI 68 + nI q = _ from nI_add 68 q, by omega, by omega⟩ ?_)
            rw [show tel σ 2 46 (68 + q) = nI k from ez.trans e1]
            refine br_t (nI_pos' (by omega)) ?_
            refine cl (cM (tel σ 2) f46) ?_
            by_cases b0 : b = 0
            · refine br_t (show nI b = nI 0 by rw [b0]) ?_
              exact absurd (ho.symm.trans (okT_t (Or.inl b0))) (by decide)
            · refine br_f (show ¬ nI b = nI 0 from fun z => absurd ((nI_eq (by omega) (by omega)).mp z) (by omega)) ?_
              by_cases ab : a = b
              · refine br_t (show nI a = nI b by rw [ab]) ?_
                exact absurd (ho.symm.trans (okT_t (Or.inr (Or.inl ab)))) (by decide)
              · refine br_f (show ¬ nI a = nI b from fun z => absurd ((nI_eq (by omega) (by omega)).mp z) (by omega)) ?_
                by_cases b1 : b = 1
                · refine br_t (show nI b = nI 1 by rw [b1]) ?_
                  by_cases a3 : a = 3
                  · refine br_t (show nI a = nI 3 by rw [a3]) ?_
                    exact absurd (ho.symm.trans (okT_t (by omega))) (by decide)
                  · refine br_f (show ¬ nI a = nI 3 from fun z => absurd ((nI_eq (by omega) (by omega)).mp z) (by omega)) ?_
                    refine br_f (show ¬ nI b = nI 2 from fun z => absurd ((nI_eq (by omega) (by omega)).mp z) (by omega)) ?_
                    refine br_f (show ¬ nI b = nI 5 from fun z => absurd ((nI_eq (by omega) (by omega)).mp z) (by omega)) ?_
                    refine br_t (by decide) ?_
                    refine cl (ct_finds (w := 2) (by decide) fd2 _) ?_
                    exact And.intro rfl rfl
                · refine br_f (show ¬ nI b = nI 1 from fun z => absurd ((nI_eq (by omega) (by omega)).mp z) (by omega)) ?_
                  by_cases b2 : b = 2
                  · refine br_t (show nI b = nI 2 by rw [b2]) ?_
                    by_cases a4 : a = 4
                    · refine br_t (show nI a = nI 4 by rw [a4]) ?_
                      exact absurd (ho.symm.trans (okT_t (by omega))) (by decide)
                    · refine br_f (show ¬ nI a = nI 4 from fun z => absurd ((nI_eq (by omega) (by omega)).mp z) (by omega)) ?_
                      refine br_f (show ¬ nI b = nI 5 from fun z => absurd ((nI_eq (by omega) (by omega)).mp z) (by omega)) ?_
                      refine br_t (by decide) ?_
                      refine cl (ct_finds (w := 2) (by decide) fd2 _) ?_
                      exact And.intro rfl rfl
                  · refine br_f (show ¬ nI b = nI 2 from fun z => absurd ((nI_eq (by omega) (by omega)).mp z) (by omega)) ?_
                    by_cases b5 : b = 5
                    · refine br_t (show nI b = nI 5 by rw [b5]) ?_
                      by_cases a6 : a = 6
                      · refine br_t (show nI a = nI 6 by rw [a6]) ?_
                        exact absurd (ho.symm.trans (okT_t (by omega))) (by decide)
                      · refine br_f (show ¬ nI a = nI 6 from fun z => absurd ((nI_eq (by omega) (by omega)).mp z) (by omega)) ?_
                        refine br_t (by decide) ?_
                        refine cl (ct_finds (w := 2) (by decide) fd2 _) ?_
                        exact And.intro rfl rfl
                    · refine br_f (show ¬ nI b = nI 5 from fun z => absurd ((nI_eq (by omega) (by omega)).mp z) (by omega)) ?_
                      refine br_t (by decide) ?_
                      refine cl (ct_finds (w := 2) (by decide) fd2 _) ?_
                      exact And.intro rfl rfl
