/-! MORE AHEAD: meet, ever, passes, ahead -/
theorem bes_cong {T U : Sg} (h4 : T 4 = U 4) (a b : Nat) : bes T a b = bes U a b := by unfold bes pl; rw [h4]
theorem stG_cong {P Q : Nat → Bool} (h : ∀ k, P k = Q k) : ∀ n, stG P n = stG Q n
  | 0 => rfl
  | k + 1 => by unfold stG; rw [h k, stG_cong h k]
theorem stn_t {n k : Nat} (hn8 : n ≤ 8) (hk : k < n) : bI (nI k) 0 ((n : Int) - 1) = true := by rw [nI_bI (by omega)]; exact decide_eq_true (by omega)

theorem ct_firstBeside {n hh m a b : Nat} {U σ : Sg} (v : VT n hh U) (hm : hh + m + 1 ≤ 2000) (ha : a < 8) (hb : b < 8) : Ct mX4_firstBeside [.ref 0, .int (nI a), .int (nI b), .int (nI m)] (putSq 10 U σ) (Ex (some (.int (if firstN (fun j => bes (hrsT n U j) a b) (m + 1) 0 ≤ m then nI (firstN (fun j => bes (hrsT n U j) a b) (m + 1) 0) else -1))) (putSq 10 (hrsT n U (firstN (fun j => bes (hrsT n U j) a b) (m + 1) 0)) σ)) := by
  generalize hr : firstN (fun j => bes (hrsT n U j) a b) (m + 1) 0 = r
  refine Ct.of (by decide +kernel) zX4_firstBeside (Nat.le_of_ble_eq_true rfl) (by decide) (fun X go => ?_)
  refine go.1 [3] 100 _ _ _ _ ?_
  have L : ∀ d j, j + d = m + 1 → firstN (fun j => bes (hrsT n U j) a b) d j = r → X 3 [(0, .ref 0), (1, .int (nI a)), (2, .int (nI b)), (3, .int (nI m)), (4, .int (nI j))] [] (putSq 10 (hrsT n U j) σ) := by
    intro d
    induction d with
    | zero =>
      intro j hj hf
      have hj : j = m + 1 := by omega
      subst hj
      have hf : r = m + 1 := hf.symm
      subst hf
      refine go.1 [3] 60 _ _ _ _ ?_
      refine br_t (show nI m < nI (m + 1) from nI_lt (by omega) (by omega)) ?_
      rw [if_neg (by omega)]
      exact And.intro rfl rfl
    | succ d ih =>
      intro j hj hf
      refine go.1 [3] 60 _ _ _ _ ?_
      refine br_f (show ¬ nI m < nI j from nI_nlt (by omega) (by omega)) ?_
      have vj := VT_hrs v j (by omega)
      have cb := ct_areBeside_10 (σ := putSq 10 (hrsT n U j) σ) (VT_tr vj) ha hb (av := nI a) (bv := nI b) rfl rfl
      rw [bes_cong (T := Tq 10 (putSq 10 (hrsT n U j) σ)) (U := hrsT n U j) rfl a b] at cb
      cases hq : bes (hrsT n U j) a b with
      | true =>
        rw [hq] at cb
        refine cl cb ?_
        refine br_f (by decide) ?_
        have hf : r = j := by rw [← hf]; exact if_pos hq
        subst hf
        rw [if_pos (by omega)]
        exact And.intro rfl rfl
      | false =>
        rw [hq] at cb
        refine cl cb ?_
        refine br_t (by decide) ?_
        have ihj := ih (j + 1) (by omega) (by rw [← hf]; exact (if_neg (show ¬ bes (hrsT n U j) a b = true by rw [hq]; decide)).symm)
        rw [nI_succ] at ihj
        refine cl (ct_passHour_10 vj σ) ?_
        exact ihj
  exact L (m + 1) 0 (by omega) hr
/-- two unlike stalls -/
theorem ct_isPair {n hh : Nat} {σ : Sg} (v : VT n hh (Tq 1 σ)) (a b : Int32) : Ct mX4_isPair [.ref 0, .int a, .int b] σ (Ex (some (.int (zb (bI a 0 ((n : Int) - 1) && bI b 0 ((n : Int) - 1) && !decide (a = b))))) σ) := by
  refine Ct.of (by decide +kernel) zX4_isPair (Nat.le_of_ble_eq_true rfl) (by decide) (fun X go => ?_)
  refine go.1 [] 100 _ _ _ _ ?_
  cases h1 : bI a 0 ((n : Int) - 1) with
  | false =>
    refine cl (isS v h1) ?_
    refine br_t (by decide) ?_
    exact And.intro (Or.inl rfl) (And.intro rfl rfl)
  | true =>
    refine cl (isS v h1) ?_
    refine br_f (by decide) ?_
    cases h2 : bI b 0 ((n : Int) - 1) with
    | false =>
      refine cl (isS v h2) ?_
      refine br_t (by decide) ?_
      exact And.intro (Or.inl rfl) (And.intro rfl rfl)
    | true =>
      refine cl (isS v h2) ?_
      refine br_f (by decide) ?_
      refine And.intro (fun (q : a = b) => ?_) (fun (q : ¬ a = b) => ?_)
      · rw [decide_eq_true q]
        exact And.intro (Or.inl rfl) (And.intro rfl rfl)
      · rw [decide_eq_false q]
        exact And.intro (Or.inr rfl) (And.intro rfl rfl)
theorem ct_isTwo {n hh : Nat} {σ T : Sg} (v : VT n hh T) (f46 : σ 46 = flat T) (a b : Int32) : Ct mX5_isTwo [.ref 45, .int a, .int b] σ (Ex (some (.int (zb (bI a 0 ((n : Int) - 1) && bI b 0 ((n : Int) - 1) && !decide (a = b))))) σ) := by
  refine Ct.of (by decide +kernel) zX5_isTwo (Nat.le_of_ble_eq_true rfl) (by decide) (fun X go => ?_)
  refine go.1 [] 100 _ _ _ _ ?_
  cases h1 : bI a 0 ((n : Int) - 1) with
  | false =>
    refine cl (isSM v f46 h1) ?_
    refine br_t (by decide) ?_
    exact And.intro (Or.inl rfl) (And.intro rfl rfl)
  | true =>
    refine cl (isSM v f46 h1) ?_
    refine br_f (by decide) ?_
    cases h2 : bI b 0 ((n : Int) - 1) with
    | false =>
      refine cl (isSM v f46 h2) ?_
      refine br_t (by decide) ?_
      exact And.intro (Or.inl rfl) (And.intro rfl rfl)
    | true =>
      refine cl (isSM v f46 h2) ?_
      refine br_f (by decide) ?_
      refine And.intro (fun (q : a = b) => ?_) (fun (q : ¬ a = b) => ?_)
      · rw [decide_eq_true q]
        exact And.intro (Or.inl rfl) (And.intro rfl rfl)
      · rw [decide_eq_false q]
        exact And.intro (Or.inr rfl) (And.intro rfl rfl)
theorem pair_n {n : Nat} {a b : Int32} (hn : n ≤ 8) (h : (bI a 0 ((n : Int) - 1) && bI b 0 ((n : Int) - 1) && !decide (a = b)) = true) : ∃ i j, i < n ∧ j < n ∧ i ≠ j ∧ a = nI i ∧ b = nI j := by
  obtain ⟨h1, h2⟩ := Bool.and_eq_true_iff.mp h
  obtain ⟨h3, h4⟩ := Bool.and_eq_true_iff.mp h1
  obtain ⟨i, hi, rfl⟩ := st_n hn h3
  obtain ⟨j, hj, rfl⟩ := st_n hn h4
  refine ⟨i, j, hi, hj, fun q => ?_, rfl, rfl⟩
  subst q
  rw [decide_eq_true rfl] at h2
  cases h2
theorem isPr {n hh : Nat} {σ : Sg} (v : VT n hh (Tq 1 σ)) {a b : Int32} {z : Bool} (h : (bI a 0 ((n : Int) - 1) && bI b 0 ((n : Int) - 1) && !decide (a = b)) = z) : Ct mX4_isPair [.ref 0, .int a, .int b] σ (Ex (some (.int (zb z))) σ) := by rw [← h]; exact ct_isPair v a b
theorem isTw {n hh : Nat} {σ T : Sg} (v : VT n hh T) (f46 : σ 46 = flat T) {a b : Int32} {z : Bool} (h : (bI a 0 ((n : Int) - 1) && bI b 0 ((n : Int) - 1) && !decide (a = b)) = z) : Ct mX5_isTwo [.ref 45, .int a, .int b] σ (Ex (some (.int (zb z))) σ) := by rw [← h]; exact ct_isTwo v f46 a b
theorem ctm_meet {σ T : Sg} {n hh : Nat} (v : VT n hh T) (h9 : hh ≤ 999) (f46 : σ 46 = flat T) (z48 : Zr 78 (σ 48)) {a b : Nat} (ha : a < n) (hb : b < n) (hp : (bI (nI a) 0 ((n : Int) - 1) && bI (nI b) 0 ((n : Int) - 1) && !decide (nI a = nI b)) = true) (late : ¬ 999 < hh + 96) : Ct mX5_meet [.ref 45, .int (nI a), .int (nI b)] σ (Ex (some (.int (ansF (firstN (fun j => bes (hrsT n T j) a b) 97 0)))) (endM (firstN (fun j => bes (hrsT n T j) a b) 97 0) (sv σ))) := by
  have hn8 := v.1.1
  have z46 : Zr 78 (σ 46) := by rw [f46]; exact flat_z T
  have f46s : sv σ 46 = flat T := f46
  generalize hr : firstN (fun j => bes (hrsT n T j) a b) 97 0 = r
  have hr97 : r ≤ 97 := by rw [← hr]; exact firstN_le _ 97 0
  refine Ct.of (by decide +kernel) zX5_meet (Nat.le_of_ble_eq_true rfl) (by decide) (fun X go => ?_)
  refine go.1 [38] 100 _ _ _ _ ?_
  have E : ∀ j, j = r → X 65 [(0, .ref 45), (1, .int (nI a)), (2, .int (nI b)), (3, .int (nI j))] [] (MS (sv σ) (hrsT n T j)) := by
    intro j hj
    subst hj
    refine go.1 [38] 40 _ _ _ _ ?_
    refine cl (ct_bk z46 _) ?_
    by_cases h97 : j < 97
    · refine br_t (show nI j ≤ nI 96 from nI_le (by omega) (by decide)) ?_
      unfold ansF endM
      rw [if_pos h97, if_pos h97]
      exact And.intro rfl rfl
    · refine br_f (show ¬ nI j ≤ nI 96 from nI_ge (by omega) (by omega)) ?_
      unfold ansF endM
      rw [if_neg h97, if_neg h97]
      refine cl (ct_finds (w := 3) (by decide) fd3 _) ?_
      exact And.intro rfl rfl
  have L : ∀ d j, j + d = 97 → firstN (fun j => bes (hrsT n T j) a b) d j = r → X 38 [(0, .ref 45), (1, .int (nI a)), (2, .int (nI b)), (3, .int (nI j))] [] (MS (sv σ) (hrsT n T j)) := by
    intro d
    induction d with
    | zero =>
      intro j hj hf
      have hj : j = 97 := by omega
      subst hj
      refine go.1 [38, 65] 60 _ _ _ _ ?_
      refine br_t (by decide) ?_
      exact E 97 hf
    | succ d ih =>
      intro j hj hf
      refine go.1 [38, 65] 60 _ _ _ _ ?_
      refine br_f (show ¬ nI 97 ≤ nI j from nI_ge (by omega) (by omega)) ?_
      have vj := VT_hrs v j (by omega)
      have cb := ct_isBeside vj (show a < 8 by omega) (show b < 8 by omega) (av := nI a) (bv := nI b) rfl rfl (sv σ)
      cases hq : bes (hrsT n T j) a b with
      | true =>
        rw [hq] at cb
        refine cl cb ?_
        refine br_f (by decide) ?_
        refine E j ?_
        rw [← hf]; exact (if_pos hq).symm
      | false =>
        rw [hq] at cb
        refine cl cb ?_
        refine br_t (by decide) ?_
        have ihj := ih (j + 1) (by omega) (by rw [← hf]; exact (if_neg (show ¬ bes (hrsT n T j) a b = true by rw [hq]; decide)).symm)
        rw [nI_succ] at ihj
        refine cl (ct_hour vj (sv σ)) ?_
        refine go.2 [0, 1, 2, 3] _ _ _ _ ?_
        exact ihj
  refine cl (isTw v f46 hp) ?_
  refine br_f (by decide) ?_
  refine cl (tl h9 f46 v.1.2.2.2 (m := 96) rfl (by omega) (decide_eq_false late)) ?_
  refine br_t (by decide) ?_
  refine cl (ct_sv z46 z48) ?_
  have L0 := L 97 0 rfl hr
  rw [show MS (sv σ) (hrsT n T 0) = sv σ from MSe f46s] at L0
  exact L0
theorem P_meet {σ : Sg} (h : J σ) (a b : Int32) : Pair mX4_meet mX5_meet [.int a, .int b] σ := by
  have f46 := J46 h
  obtain ⟨n, hh, v, h9⟩ := h.1
  have hn8 := v.1.1
  have z1 := h.2.1.1
  have z10 := h.2.1.2.1
  have z46 := J_z46 h
  have z48 := h.2.2.2.1.1
  cases hp : (bI a 0 ((n : Int) - 1) && bI b 0 ((n : Int) - 1) && !decide (a = b)) with
  | false =>
      refine Pair_fd h 0 ?_ ?_
      · refine Ct.of (by decide +kernel) zX4_meet (Nat.le_of_ble_eq_true rfl) (by decide) (fun X go => ?_)
        refine go.1 [] 100 _ _ _ _ ?_
        refine cl (isPr v hp) ?_
        refine cl (ah_bad h9 v.1.2.2.2 0 96 (by decide) false rfl) ?_
        refine br_f (by decide) ?_
        exact And.intro rfl rfl
      · refine Ct.of (by decide +kernel) zX5_meet (Nat.le_of_ble_eq_true rfl) (by decide) (fun X go => ?_)
        refine go.1 [] 100 _ _ _ _ ?_
        refine cl (isTw v (σ := tel σ 0) f46 hp) ?_
        refine br_t (by decide) ?_
        refine cl (ct_finds (w := 0) (by decide) fd0 _) ?_
        exact And.intro rfl rfl
  | true =>
      by_cases late : 999 < hh + 96
      · refine Pair_fd h 4 ?_ ?_
        · refine Ct.of (by decide +kernel) zX4_meet (Nat.le_of_ble_eq_true rfl) (by decide) (fun X go => ?_)
          refine go.1 [] 100 _ _ _ _ ?_
          refine cl (isPr v hp) ?_
          refine cl (ah_late h9 v.1.2.2.2 0 96 (by decide) (by decide) (m := 96) rfl (by omega) late) ?_
          refine br_f (by decide) ?_
          exact And.intro rfl rfl
        · refine Ct.of (by decide +kernel) zX5_meet (Nat.le_of_ble_eq_true rfl) (by decide) (fun X go => ?_)
          refine go.1 [] 100 _ _ _ _ ?_
          refine cl (isTw v (σ := tel σ 4) f46 hp) ?_
          refine br_f (by decide) ?_
          refine cl (tl h9 (σ := tel σ 4) f46 v.1.2.2.2 (m := 96) rfl (by omega) (decide_eq_true late)) ?_
          refine br_f (by decide) ?_
          refine cl (ct_finds (w := 4) (by decide) fd4 _) ?_
          exact And.intro rfl rfl
      · obtain ⟨i, j, hi, hj, hij, rfl, rfl⟩ := pair_n hn8 hp
        have cf := ct_firstBeside (σ := σ) (m := 96) v (by omega) (show i < 8 by omega) (show j < 8 by omega)
        refine ⟨_, endF (firstN (fun q => bes (hrsT n (Tq 1 σ) q) i j) 97 0) (putSq 10 (hrsT n (Tq 1 σ) (firstN (fun q => bes (hrsT n (Tq 1 σ) q) i j) 97 0)) σ), _, ?_, ctm_meet v h9 (by rw [endF_46]; exact f46) (by rw [endF_48]; exact z48) hi hj hp late, J_end h (ZT_hrs hn8 z1 _) _⟩
        have hr97 := firstN_le (fun q => bes (hrsT n (Tq 1 σ) q) i j) 97 0
        rw [show (96 : Nat) + 1 = 97 from rfl] at cf
        generalize firstN (fun q => bes (hrsT n (Tq 1 σ) q) i j) 97 0 = r at *
        refine Ct.of (by decide +kernel) zX4_meet (Nat.le_of_ble_eq_true rfl) (by decide) (fun X go => ?_)
        refine go.1 [] 100 _ _ _ _ ?_
        refine cl (isPr v hp) ?_
        refine cl (ah_ok h9 v.1.2.2.2 0 96 (by decide) (by decide) (m := 96) rfl (by omega) late) ?_
        refine br_t (by decide) ?_
        refine cl (ct_become_10_1 z10 z1) ?_
        by_cases h97 : r < 97
        · rw [if_pos (show r ≤ 96 by omega)] at cf
          refine cl cf ?_
          refine br_f (nI_pos (by omega)) ?_
          unfold ansF endF
          rw [if_pos h97, if_pos h97]
          exact And.intro rfl rfl
        · rw [if_neg (show ¬ r ≤ 96 by omega)] at cf
          refine cl cf ?_
          refine br_t (by decide) ?_
          unfold ansF endF
          rw [if_neg h97, if_neg h97]
          refine cl (ct_fd (w := 3) (by decide) rfl _) ?_
          exact And.intro rfl rfl
/-- whom one is ever beside -/
def evS (n k : Nat) (T : Sg) : Nat → Int32
  | 0 => stG (bes T k) n
  | i + 1 => evS n k T i ||| stG (bes (hrsT n T (i + 1)) k) n
theorem P_ever {σ : Sg} (h : J σ) (s nv : Int32) : Pair mX4_ever mX5_ever [.int s, .int nv] σ := by
  have f46 := J46 h
  obtain ⟨n, hh, v, h9⟩ := h.1
  have hn8 := v.1.1
  have z1 := h.2.1.1
  have z10 := h.2.1.2.1
  have z46 := J_z46 h
  have z48 := h.2.2.2.1.1
  cases hs : bI s 0 ((n : Int) - 1) with
  | false =>
      refine Pair_fd h 0 ?_ ?_
      · refine Ct.of (by decide +kernel) zX4_ever (Nat.le_of_ble_eq_true rfl) (by decide) (fun X go => ?_)
        refine go.1 [] 100 _ _ _ _ ?_
        refine cl (isS v hs) ?_
        refine cl (ah_bad h9 v.1.2.2.2 0 96 (by decide) false rfl) ?_
        refine br_f (by decide) ?_
        exact And.intro rfl rfl
      · refine Ct.of (by decide +kernel) zX5_ever (Nat.le_of_ble_eq_true rfl) (by decide) (fun X go => ?_)
        refine go.1 [] 100 _ _ _ _ ?_
        refine cl (isSM v (σ := tel σ 0) f46 hs) ?_
        refine br_t (by decide) ?_
        refine cl (ct_finds (w := 0) (by decide) fd0 _) ?_
        exact And.intro rfl rfl
  | true =>
    cases hn : bI nv 0 96 with
    | false =>
      refine Pair_fd h 0 ?_ ?_
      · refine Ct.of (by decide +kernel) zX4_ever (Nat.le_of_ble_eq_true rfl) (by decide) (fun X go => ?_)
        refine go.1 [] 100 _ _ _ _ ?_
        refine cl (isS v hs) ?_
        refine cl (ah_bad h9 v.1.2.2.2 0 96 (by decide) true hn) ?_
        refine br_f (by decide) ?_
        exact And.intro rfl rfl
      · refine Ct.of (by decide +kernel) zX5_ever (Nat.le_of_ble_eq_true rfl) (by decide) (fun X go => ?_)
        refine go.1 [] 100 _ _ _ _ ?_
        refine cl (isSM v (σ := tel σ 0) f46 hs) ?_
        refine br_f (by decide) ?_
        refine cl (isSpM hn _) ?_
        refine br_t (by decide) ?_
        refine cl (ct_finds (w := 0) (by decide) fd0 _) ?_
        exact And.intro rfl rfl
    | true =>
      obtain ⟨m, hm1, hm2, rfl⟩ := bI_n hn (by decide) (by decide)
      by_cases late : 999 < hh + m
      · refine Pair_fd h 4 ?_ ?_
        · refine Ct.of (by decide +kernel) zX4_ever (Nat.le_of_ble_eq_true rfl) (by decide) (fun X go => ?_)
          refine go.1 [] 100 _ _ _ _ ?_
          refine cl (isS v hs) ?_
          refine cl (ah_late h9 v.1.2.2.2 0 96 (by decide) hn rfl (by omega) late) ?_
          refine br_f (by decide) ?_
          exact And.intro rfl rfl
        · refine Ct.of (by decide +kernel) zX5_ever (Nat.le_of_ble_eq_true rfl) (by decide) (fun X go => ?_)
          refine go.1 [] 100 _ _ _ _ ?_
          refine cl (isSM v (σ := tel σ 4) f46 hs) ?_
          refine br_f (by decide) ?_
          refine cl (isSpM hn _) ?_
          refine br_f (by decide) ?_
          refine cl (tl h9 (σ := tel σ 4) f46 v.1.2.2.2 rfl (by omega) (decide_eq_true late)) ?_
          refine br_f (by decide) ?_
          refine cl (ct_finds (w := 4) (by decide) fd4 _) ?_
          exact And.intro rfl rfl
      · obtain ⟨k, hk, rfl⟩ := st_n v.1.1 hs
        have hk8 : k < 8 := by omega
        have cb : ∀ i, i ≤ m → Ct mX2_besideSet [.ref 10, .int (nI k)] (putSq 10 (hrsT n (Tq 1 σ) i) σ) (Ex (some (.int (stG (bes (hrsT n (Tq 1 σ) i) k) n))) (putSq 10 (hrsT n (Tq 1 σ) i) σ)) := by
          intro i hi
          have c := ct_besideSet_10 (σ := putSq 10 (hrsT n (Tq 1 σ) i) σ) (VT_tr (VT_hrs v i (by omega))) hk8 (av := nI k) rfl
          rw [stG_cong (P := bes (Tq 10 (putSq 10 (hrsT n (Tq 1 σ) i) σ)) k) (Q := bes (hrsT n (Tq 1 σ) i) k) (fun q => bes_cong rfl k q)] at c
          exact c
        refine ⟨evS n k (Tq 1 σ) m, putSq 10 (hrsT n (Tq 1 σ) m) σ, sv (putSq 10 (hrsT n (Tq 1 σ) m) σ), ?_, ?_, J_tr h (ZT_hrs hn8 z1 m)⟩
        · refine Ct.of (by decide +kernel) zX4_ever (Nat.le_of_ble_eq_true rfl) (by decide) (fun X go => ?_)
          refine go.1 [44] 100 _ _ _ _ ?_
          have L : ∀ d i, i + d = m → X 44 [(0, .ref 0), (1, .int (nI k)), (2, .int (nI m)), (3, .int 0), (4, .int (evS n k (Tq 1 σ) i)), (5, .int (nI (i + 1)))] [] (putSq 10 (hrsT n (Tq 1 σ) i) σ) := by
            intro d
            induction d with
            | zero =>
              intro i hi
              have hi : i = m := by omega
              subst hi
              refine go.1 [44] 60 _ _ _ _ ?_
              refine br_t (nI_lt (by omega) (by omega)) ?_
              exact And.intro rfl rfl
            | succ d ih =>
              intro i hi
              have ihi := ih (i + 1) (by omega)
              rw [nI_succ (i + 1)] at ihi
              refine go.1 [44] 60 _ _ _ _ ?_
              refine br_f (nI_nlt (by omega) (by omega)) ?_
              refine cl (ct_passHour_10 (VT_hrs v i (by omega)) σ) ?_
              refine cl (cb (i + 1) (by omega)) ?_
              exact ihi
          refine cl (isS v hs) ?_
          refine cl (ah_ok h9 v.1.2.2.2 0 96 (by decide) hn rfl (by omega) late) ?_
          refine br_t (by decide) ?_
          refine cl (ct_become_10_1 z10 z1) ?_
          refine cl (cb 0 (by omega)) ?_
          exact L m 0 (by omega)
        · generalize hσ1 : putSq 10 (hrsT n (Tq 1 σ) m) σ = σ1
          have f1 : σ1 46 = flat (Tq 1 σ) := by rw [← hσ1]; exact f46
          have z1' : Zr 78 (σ1 46) := by rw [← hσ1]; exact z46
          have z8' : Zr 78 (σ1 48) := by rw [← hσ1]; exact z48
          refine Ct.of (by decide +kernel) zX5_ever (Nat.le_of_ble_eq_true rfl) (by decide) (fun X go => ?_)
          refine go.1 [50] 100 _ _ _ _ ?_
          have L : ∀ d i, i + d = m → X 50 [(0, .ref 45), (1, .int (nI k)), (2, .int (nI m)), (3, .int (evS n k (Tq 1 σ) i)), (4, .int (nI i))] [] (MS (sv σ1) (hrsT n (Tq 1 σ) i)) := by
            intro d
            induction d with
            | zero =>
              intro i hi
              have hi : i = m := by omega
              subst hi
              refine go.1 [50] 60 _ _ _ _ ?_
              refine br_t (nI_le (Nat.le_refl _) (by omega)) ?_
              refine cl (ct_bk z1' _) ?_
              exact And.intro rfl rfl
            | succ d ih =>
              intro i hi
              have ihi := ih (i + 1) (by omega)
              rw [nI_succ] at ihi
              refine go.1 [50] 60 _ _ _ _ ?_
              refine br_f (nI_ge (by omega) (by omega)) ?_
              refine cl (ct_hour (VT_hrs v i (by omega)) (sv σ1)) ?_
              refine cl (ct_besideSetM (VT_hrs v (i + 1) (by omega)) hk8 (av := nI k) rfl (sv σ1)) ?_
              refine go.2 [0, 1, 2, 3, 4] _ _ _ _ ?_
              exact ihi
          refine cl (isSM v f1 hs) ?_
          refine br_f (by decide) ?_
          refine cl (isSpM hn _) ?_
          refine br_f (by decide) ?_
          refine cl (tl h9 f1 v.1.2.2.2 rfl (by omega) (decide_eq_false late)) ?_
          refine br_t (by decide) ?_
          refine cl (ct_sv z1' z8') ?_
          have c0 := ct_besideSetM v hk8 (av := nI k) rfl (sv σ1)
          rw [MSe (show sv σ1 46 = flat (Tq 1 σ) from f1)] at c0
          refine cl c0 ?_
          have L0 := L m 0 (by omega)
          rw [show MS (sv σ1) (hrsT n (Tq 1 σ) 0) = sv σ1 from MSe f1] at L0
          exact L0
