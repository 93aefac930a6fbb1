/-! SEARCHES AHEAD -/
/-- the first from j on, of d; else j + d -/
def firstN (P : Nat → Bool) : Nat → Nat → Nat
  | 0, j => j
  | d + 1, j => if P j = true then j else firstN P d (j + 1)
theorem firstN_le (P : Nat → Bool) : ∀ d j, firstN P d j ≤ j + d
  | 0, j => Nat.le_refl _
  | d + 1, j => by
    unfold firstN
    split
    · omega
    · have := firstN_le P d (j + 1); omega
def ansF (r : Nat) : Int32 := if r < 97 then nI r else fd 3
def endF (r : Nat) (σ : Sg) : Sg := if r < 97 then σ else tel σ 3
def endM (r : Nat) (σ : Sg) : Sg := if r < 97 then σ else telM σ 3
theorem J_end {σ U : Sg} (h : J σ) (z : ZT U) (r : Nat) : J (endM r (sv (endF r (putSq 10 U σ)))) := by
  unfold endM endF
  split
  · exact J_tr h z
  · rw [sv_tel]; exact J_tell (J_tr h z) 3
theorem endF_46 (r : Nat) (U σ : Sg) : endF r (putSq 10 U σ) 46 = σ 46 := by unfold endF; split <;> rfl
theorem endF_48 (r : Nat) (U σ : Sg) : endF r (putSq 10 U σ) 48 = σ 48 := by unfold endF; split <;> rfl

theorem ctc_when {σ : Sg} (h : J σ) {n hh : Nat} (v : VT n hh (Tq 1 σ)) (h9 : hh ≤ 999) {k : Nat} (hk : k < n) (p : Int32) (hp : bI p 0 11 = true) (late : ¬ 999 < hh + 96) : Ct mX4_when [.ref 0, .int (nI k), .int p] σ (Ex (some (.int (ansF (firstN (fun j => decide (hrsT n (Tq 1 σ) j 4 k = p)) 97 0)))) (endF (firstN (fun j => decide (hrsT n (Tq 1 σ) j 4 k = p)) 97 0) (putSq 10 (hrsT n (Tq 1 σ) (firstN (fun j => decide (hrsT n (Tq 1 σ) j 4 k = p)) 97 0)) σ))) := by
  have hn8 := v.1.1
  have z1 := h.2.1.1
  have z10 := h.2.1.2.1
  have hk8 : k < 8 := by omega
  have hs : bI (nI k) 0 ((n : Int) - 1) = true := by rw [nI_bI (by omega)]; exact decide_eq_true (by omega)
  generalize hP : (fun j => decide (hrsT n (Tq 1 σ) j 4 k = p)) = P
  generalize hr : firstN P 97 0 = r
  refine Ct.of (by decide +kernel) zX4_when (Nat.le_of_ble_eq_true rfl) (by decide) (fun X go => ?_)
  refine go.1 [50] 100 _ _ _ _ ?_
  have L : ∀ d j, j + d = 97 → firstN P d j = r → X 50 [(0, .ref 0), (1, .int (nI k)), (2, .int p), (3, .int 0), (4, .int (nI j))] [] (putSq 10 (hrsT n (Tq 1 σ) j) σ) := by
    intro d
    induction d with
    | zero =>
      intro j hj hf
      have hj : j = 97 := by omega
      subst hj
      have hf : r = 97 := hf.symm
      subst hf
      refine go.1 [50] 60 _ _ _ _ ?_
      refine br_t (by decide) ?_
      refine cl (ct_fd (w := 3) (by decide) rfl _) ?_
      exact And.intro rfl rfl
    | succ d ih =>
      intro j hj hf
      refine go.1 [50] 60 _ _ _ _ ?_
      refine br_f (show ¬ nI 96 < nI j from nI_nlt (by omega) (by decide)) ?_
      refine Exists.intro k (And.intro ⟨rfl, hk8, by omega⟩ ?_)
      refine And.intro (fun (q : hrsT n (Tq 1 σ) j 4 k = p) => ?_) (fun (q : ¬ hrsT n (Tq 1 σ) j 4 k = p) => ?_)
      · have hPj : P j = true := by rw [← hP]; exact decide_eq_true q
        have hf : r = j := by rw [← hf]; exact if_pos hPj
        subst hf
        unfold ansF endF
        rw [if_pos (by omega), if_pos (by omega)]
        exact And.intro rfl rfl
      · have hPj : ¬ P j = true := by rw [← hP]; exact fun z => q (of_decide_eq_true z)
        have ihj := ih (j + 1) (by omega) (by rw [← hf]; exact (if_neg hPj).symm)
        rw [nI_succ] at ihj
        refine cl (ct_passHour_10 (VT_hrs v j (by omega)) σ) ?_
        exact ihj
  refine cl (isS v hs) ?_
  refine br_f (by decide) ?_
  refine cl (isP hp _) ?_
  refine br_f (by decide) ?_
  refine cl (ah_ok h9 v.1.2.2.2 0 96 (by decide) (by decide) (m := 96) rfl (by omega) late) ?_
  refine br_t (by decide) ?_
  refine cl (ct_become_10_1 z10 z1) ?_
  exact L 97 0 rfl hr
theorem ctm_when {σ T : Sg} {n hh : Nat} (v : VT n hh T) (h9 : hh ≤ 999) (f46 : σ 46 = flat T) (z48 : Zr 78 (σ 48)) {k : Nat} (hk : k < n) (p : Int32) (hp : bI p 0 11 = true) (late : ¬ 999 < hh + 96) : Ct mX5_when [.ref 45, .int (nI k), .int p] σ (Ex (some (.int (ansF (firstN (fun j => decide (hrsT n T j 4 k = p)) 97 0)))) (endM (firstN (fun j => decide (hrsT n T j 4 k = p)) 97 0) (sv σ))) := by
  have hn8 := v.1.1
  have z46 : Zr 78 (σ 46) := by rw [f46]; exact flat_z T
  have f46s : sv σ 46 = flat T := f46
  have hk8 : k < 8 := by omega
  have hs : bI (nI k) 0 ((n : Int) - 1) = true := by rw [nI_bI (by omega)]; exact decide_eq_true (by omega)
  generalize hP : (fun j => decide (hrsT n T j 4 k = p)) = P
  generalize hr : firstN P 97 0 = r
  have hr97 : r ≤ 97 := by rw [← hr]; exact firstN_le P 97 0
  refine Ct.of (by decide +kernel) zX5_when (Nat.le_of_ble_eq_true rfl) (by decide) (fun X go => ?_)
  refine go.1 [44] 100 _ _ _ _ ?_
  have E : ∀ j, j = r → X 72 [(0, .ref 45), (1, .int (nI k)), (2, .int p), (3, .int (nI j))] [] (MS (sv σ) (hrsT n T j)) := by
    intro j hj
    subst hj
    refine go.1 [44] 40 _ _ _ _ ?_
    refine cl (ct_bk z46 _) ?_
    by_cases h97 : j < 97
    · refine br_t (show nI j ≤ nI 96 from nI_le (by omega) (by decide)) ?_
      unfold ansF endM
      rw [if_pos h97, if_pos h97]
      exact And.intro rfl rfl
    · refine br_f (show ¬ nI j ≤ nI 96 from nI_ge (by omega) (by omega)) ?_
      unfold ansF endM
      rw [if_neg h97, if_neg h97]
      refine cl (ct_finds (w := 3) (by decide) fd3 _) ?_
      exact And.intro rfl rfl
  have L : ∀ d j, j + d = 97 → firstN P d j = r → X 44 [(0, .ref 45), (1, .int (nI k)), (2, .int p), (3, .int (nI j))] [] (MS (sv σ) (hrsT n T j)) := by
    intro d
    induction d with
    | zero =>
      intro j hj hf
      have hj : j = 97 := by omega
      subst hj
      refine go.1 [44, 72] 60 _ _ _ _ ?_
      refine br_t (by decide) ?_
      exact E 97 hf
    | succ d ih =>
      intro j hj hf
      refine go.1 [44, 72] 60 _ _ _ _ ?_
      refine br_f (show ¬ nI 97 ≤ nI j from nI_ge (by omega) (by omega)) ?_
      refine cl (ct_its (w := 1) hk8 (by decide) (kv := nI k) rfl (wv := 1) rfl (sv σ) (hrsT n T j)) ?_
      refine And.intro (fun q => ?_) (fun q => ?_)
      · have hPj : P j = true := by rw [← hP]; exact decide_eq_true q
        refine E j ?_
        rw [← hf]; exact (if_pos hPj).symm
      · have hPj : ¬ P j = true := by rw [← hP]; exact fun z => q (of_decide_eq_true z)
        have ihj := ih (j + 1) (by omega) (by rw [← hf]; exact (if_neg hPj).symm)
        rw [nI_succ] at ihj
        refine cl (ct_hour (VT_hrs v j (by omega)) (sv σ)) ?_
        refine go.2 [0, 1, 2, 3] _ _ _ _ ?_
        exact ihj
  refine cl (isSM v f46 hs) ?_
  refine br_f (by decide) ?_
  refine cl (isPM hp _) ?_
  refine br_f (by decide) ?_
  refine cl (tl h9 f46 v.1.2.2.2 (m := 96) rfl (by omega) (decide_eq_false late)) ?_
  refine br_t (by decide) ?_
  refine cl (ct_sv z46 z48) ?_
  have L0 := L 97 0 rfl hr
  rw [show MS (sv σ) (hrsT n T 0) = sv σ from MSe f46s] at L0
  exact L0
theorem P_when {σ : Sg} (h : J σ) (s p : Int32) : Pair mX4_when mX5_when [.int s, .int p] σ := by
  have f46 := J46 h
  obtain ⟨n, hh, v, h9⟩ := h.1
  have hn8 := v.1.1
  have z1 := h.2.1.1
  have z10 := h.2.1.2.1
  have z46 := J_z46 h
  have z48 := h.2.2.2.1.1
  cases hs : bI s 0 ((n : Int) - 1) with
  | false =>
      refine Pair_fd h 0 ?_ ?_
      · refine Ct.of (by decide +kernel) zX4_when (Nat.le_of_ble_eq_true rfl) (by decide) (fun X go => ?_)
        refine go.1 [] 100 _ _ _ _ ?_
        refine cl (isS v hs) ?_
        refine br_t (by decide) ?_
        refine cl (ah_bad h9 v.1.2.2.2 0 96 (by decide) false rfl) ?_
        refine br_f (by decide) ?_
        exact And.intro rfl rfl
      · refine Ct.of (by decide +kernel) zX5_when (Nat.le_of_ble_eq_true rfl) (by decide) (fun X go => ?_)
        refine go.1 [] 100 _ _ _ _ ?_
        refine cl (isSM v (σ := tel σ 0) f46 hs) ?_
        refine br_t (by decide) ?_
        refine cl (ct_finds (w := 0) (by decide) fd0 _) ?_
        exact And.intro rfl rfl
  | true =>
    cases hp : bI p 0 11 with
    | false =>
      refine Pair_fd h 0 ?_ ?_
      · refine Ct.of (by decide +kernel) zX4_when (Nat.le_of_ble_eq_true rfl) (by decide) (fun X go => ?_)
        refine go.1 [] 100 _ _ _ _ ?_
        refine cl (isS v hs) ?_
        refine br_f (by decide) ?_
        refine cl (isP hp _) ?_
        refine br_t (by decide) ?_
        refine cl (ah_bad h9 v.1.2.2.2 0 96 (by decide) false rfl) ?_
        refine br_f (by decide) ?_
        exact And.intro rfl rfl
      · refine Ct.of (by decide +kernel) zX5_when (Nat.le_of_ble_eq_true rfl) (by decide) (fun X go => ?_)
        refine go.1 [] 100 _ _ _ _ ?_
        refine cl (isSM v (σ := tel σ 0) f46 hs) ?_
        refine br_f (by decide) ?_
        refine cl (isPM hp _) ?_
        refine br_t (by decide) ?_
        refine cl (ct_finds (w := 0) (by decide) fd0 _) ?_
        exact And.intro rfl rfl
    | true =>
      by_cases late : 999 < hh + 96
      · refine Pair_fd h 4 ?_ ?_
        · refine Ct.of (by decide +kernel) zX4_when (Nat.le_of_ble_eq_true rfl) (by decide) (fun X go => ?_)
          refine go.1 [] 100 _ _ _ _ ?_
          refine cl (isS v hs) ?_
          refine br_f (by decide) ?_
          refine cl (isP hp _) ?_
          refine br_f (by decide) ?_
          refine cl (ah_late h9 v.1.2.2.2 0 96 (by decide) (by decide) (m := 96) rfl (by omega) late) ?_
          refine br_f (by decide) ?_
          exact And.intro rfl rfl
        · refine Ct.of (by decide +kernel) zX5_when (Nat.le_of_ble_eq_true rfl) (by decide) (fun X go => ?_)
          refine go.1 [] 100 _ _ _ _ ?_
          refine cl (isSM v (σ := tel σ 4) f46 hs) ?_
          refine br_f (by decide) ?_
          refine cl (isPM hp _) ?_
          refine br_f (by decide) ?_
          refine cl (tl h9 (σ := tel σ 4) f46 v.1.2.2.2 (m := 96) rfl (by omega) (decide_eq_true late)) ?_
          refine br_f (by decide) ?_
          refine cl (ct_finds (w := 4) (by decide) fd4 _) ?_
          exact And.intro rfl rfl
      · obtain ⟨k, hk, rfl⟩ := st_n v.1.1 hs
        exact ⟨_, _, _, ctc_when h v h9 hk p hp late, ctm_when v h9 (by rw [endF_46]; exact f46) (by rw [endF_48]; exact z48) hk p hp late, J_end h (ZT_hrs hn8 z1 _) _⟩

theorem ctc_empty {σ : Sg} (h : J σ) {n hh : Nat} (v : VT n hh (Tq 1 σ)) (h9 : hh ≤ 999) {k : Nat} (hk : k < n) (late : ¬ 999 < hh + 96) : Ct mX4_empty [.ref 0, .int (nI k)] σ (Ex (some (.int (ansF (firstN (fun j => decide (hrsT n (Tq 1 σ) j 5 k = 0)) 97 0)))) (endF (firstN (fun j => decide (hrsT n (Tq 1 σ) j 5 k = 0)) 97 0) (putSq 10 (hrsT n (Tq 1 σ) (firstN (fun j => decide (hrsT n (Tq 1 σ) j 5 k = 0)) 97 0)) σ))) := by
  have hn8 := v.1.1
  have z1 := h.2.1.1
  have z10 := h.2.1.2.1
  have hk8 : k < 8 := by omega
  have hs : bI (nI k) 0 ((n : Int) - 1) = true := by rw [nI_bI (by omega)]; exact decide_eq_true (by omega)
  generalize hP : (fun j => decide (hrsT n (Tq 1 σ) j 5 k = 0)) = P
  generalize hr : firstN P 97 0 = r
  refine Ct.of (by decide +kernel) zX4_empty (Nat.le_of_ble_eq_true rfl) (by decide) (fun X go => ?_)
  refine go.1 [34] 100 _ _ _ _ ?_
  have L : ∀ d j, j + d = 97 → firstN P d j = r → X 34 [(0, .ref 0), (1, .int (nI k)), (2, .int 0), (3, .int (nI j))] [] (putSq 10 (hrsT n (Tq 1 σ) j) σ) := by
    intro d
    induction d with
    | zero =>
      intro j hj hf
      have hj : j = 97 := by omega
      subst hj
      have hf : r = 97 := hf.symm
      subst hf
      refine go.1 [34] 60 _ _ _ _ ?_
      refine br_t (by decide) ?_
      refine cl (ct_fd (w := 3) (by decide) rfl _) ?_
      exact And.intro rfl rfl
    | succ d ih =>
      intro j hj hf
      refine go.1 [34] 60 _ _ _ _ ?_
      refine br_f (show ¬ nI 96 < nI j from nI_nlt (by omega) (by decide)) ?_
      refine Exists.intro k (And.intro ⟨rfl, hk8, by omega⟩ ?_)
      refine And.intro (fun (q : hrsT n (Tq 1 σ) j 5 k = 0) => ?_) (fun (q : ¬ hrsT n (Tq 1 σ) j 5 k = 0) => ?_)
      · have hPj : P j = true := by rw [← hP]; exact decide_eq_true q
        have hf : r = j := by rw [← hf]; exact if_pos hPj
        subst hf
        unfold ansF endF
        rw [if_pos (by omega), if_pos (by omega)]
        exact And.intro rfl rfl
      · have hPj : ¬ P j = true := by rw [← hP]; exact fun z => q (of_decide_eq_true z)
        have ihj := ih (j + 1) (by omega) (by rw [← hf]; exact (if_neg hPj).symm)
        rw [nI_succ] at ihj
        refine cl (ct_passHour_10 (VT_hrs v j (by omega)) σ) ?_
        exact ihj
  refine cl (isS v hs) ?_
  refine cl (ah_ok h9 v.1.2.2.2 0 96 (by decide) (by decide) (m := 96) rfl (by omega) late) ?_
  refine br_t (by decide) ?_
  refine cl (ct_become_10_1 z10 z1) ?_
  exact L 97 0 rfl hr
theorem ctm_empty {σ T : Sg} {n hh : Nat} (v : VT n hh T) (h9 : hh ≤ 999) (f46 : σ 46 = flat T) (z48 : Zr 78 (σ 48)) {k : Nat} (hk : k < n) (late : ¬ 999 < hh + 96) : Ct mX5_empty [.ref 45, .int (nI k)] σ (Ex (some (.int (ansF (firstN (fun j => decide (hrsT n T j 5 k = 0)) 97 0)))) (endM (firstN (fun j => decide (hrsT n T j 5 k = 0)) 97 0) (sv σ))) := by
  have hn8 := v.1.1
  have z46 : Zr 78 (σ 46) := by rw [f46]; exact flat_z T
  have f46s : sv σ 46 = flat T := f46
  have hk8 : k < 8 := by omega
  have hs : bI (nI k) 0 ((n : Int) - 1) = true := by rw [nI_bI (by omega)]; exact decide_eq_true (by omega)
  generalize hP : (fun j => decide (hrsT n T j 5 k = 0)) = P
  generalize hr : firstN P 97 0 = r
  have hr97 : r ≤ 97 := by rw [← hr]; exact firstN_le P 97 0
  refine Ct.of (by decide +kernel) zX5_empty (Nat.le_of_ble_eq_true rfl) (by decide) (fun X go => ?_)
  refine go.1 [37] 100 _ _ _ _ ?_
  have E : ∀ j, j = r → X 63 [(0, .ref 45), (1, .int (nI k)), (2, .int (nI j))] [] (MS (sv σ) (hrsT n T j)) := by
    intro j hj
    subst hj
    refine go.1 [37] 40 _ _ _ _ ?_
    refine cl (ct_bk z46 _) ?_
    by_cases h97 : j < 97
    · refine br_t (show nI j ≤ nI 96 from nI_le (by omega) (by decide)) ?_
      unfold ansF endM
      rw [if_pos h97, if_pos h97]
      exact And.intro rfl rfl
    · refine br_f (show ¬ nI j ≤ nI 96 from nI_ge (by omega) (by omega)) ?_
      unfold ansF endM
      rw [if_neg h97, if_neg h97]
      refine cl (ct_finds (w := 3) (by decide) fd3 _) ?_
      exact And.intro rfl rfl
  have L : ∀ d j, j + d = 97 → firstN P d j = r → X 37 [(0, .ref 45), (1, .int (nI k)), (2, .int (nI j))] [] (MS (sv σ) (hrsT n T j)) := by
    intro d
    induction d with
    | zero =>
      intro j hj hf
      have hj : j = 97 := by omega
      subst hj
      refine go.1 [37, 63] 60 _ _ _ _ ?_
      refine br_t (by decide) ?_
      exact E 97 hf
    | succ d ih =>
      intro j hj hf
      refine go.1 [37, 63] 60 _ _ _ _ ?_
      refine br_f (show ¬ nI 97 ≤ nI j from nI_ge (by omega) (by omega)) ?_
      refine cl (ct_its (w := 2) hk8 (by decide) (kv := nI k) rfl (wv := 2) rfl (sv σ) (hrsT n T j)) ?_
      refine And.intro (fun q => ?_) (fun q => ?_)
      · obtain ⟨g, hg, eg⟩ := (VT_hrs v j (by omega)).2.2.2.1 k hk8
        have q0 : hrsT n T j 5 k = 0 := by
          have q' : hrsT n T j 5 k ≤ 0 := q
          rw [eg] at q' ⊢
          have : g ≤ 0 := (nI_leI (b := 0) (by omega) (by decide)).mp q'
          have : g = 0 := by omega
          rw [this]; rfl
        have hPj : P j = true := by rw [← hP]; exact decide_eq_true q0
        refine E j ?_
        rw [← hf]; exact (if_pos hPj).symm
      · have hPj : ¬ P j = true := by
          rw [← hP]
          intro z
          have z := of_decide_eq_true z
          exact q (show hrsT n T j 5 k ≤ 0 by rw [z]; decide)
        have ihj := ih (j + 1) (by omega) (by rw [← hf]; exact (if_neg hPj).symm)
        rw [nI_succ] at ihj
        refine cl (ct_hour (VT_hrs v j (by omega)) (sv σ)) ?_
        refine go.2 [0, 1, 2] _ _ _ _ ?_
        exact ihj
  refine cl (isSM v f46 hs) ?_
  refine br_f (by decide) ?_
  refine cl (tl h9 f46 v.1.2.2.2 (m := 96) rfl (by omega) (decide_eq_false late)) ?_
  refine br_t (by decide) ?_
  refine cl (ct_sv z46 z48) ?_
  have L0 := L 97 0 rfl hr
  rw [show MS (sv σ) (hrsT n T 0) = sv σ from MSe f46s] at L0
  exact L0
theorem P_empty {σ : Sg} (h : J σ) (s : Int32) : Pair mX4_empty mX5_empty [.int s] σ := by
  have f46 := J46 h
  obtain ⟨n, hh, v, h9⟩ := h.1
  have hn8 := v.1.1
  have z1 := h.2.1.1
  have z10 := h.2.1.2.1
  have z46 := J_z46 h
  have z48 := h.2.2.2.1.1
  cases hs : bI s 0 ((n : Int) - 1) with
  | false =>
      refine Pair_fd h 0 ?_ ?_
      · refine Ct.of (by decide +kernel) zX4_empty (Nat.le_of_ble_eq_true rfl) (by decide) (fun X go => ?_)
        refine go.1 [] 100 _ _ _ _ ?_
        refine cl (isS v hs) ?_
        refine cl (ah_bad h9 v.1.2.2.2 0 96 (by decide) false rfl) ?_
        refine br_f (by decide) ?_
        exact And.intro rfl rfl
      · refine Ct.of (by decide +kernel) zX5_empty (Nat.le_of_ble_eq_true rfl) (by decide) (fun X go => ?_)
        refine go.1 [] 100 _ _ _ _ ?_
        refine cl (isSM v (σ := tel σ 0) f46 hs) ?_
        refine br_t (by decide) ?_
        refine cl (ct_finds (w := 0) (by decide) fd0 _) ?_
        exact And.intro rfl rfl
  | true =>
      by_cases late : 999 < hh + 96
      · refine Pair_fd h 4 ?_ ?_
        · refine Ct.of (by decide +kernel) zX4_empty (Nat.le_of_ble_eq_true rfl) (by decide) (fun X go => ?_)
          refine go.1 [] 100 _ _ _ _ ?_
          refine cl (isS v hs) ?_
          refine cl (ah_late h9 v.1.2.2.2 0 96 (by decide) (by decide) (m := 96) rfl (by omega) late) ?_
          refine br_f (by decide) ?_
          exact And.intro rfl rfl
        · refine Ct.of (by decide +kernel) zX5_empty (Nat.le_of_ble_eq_true rfl) (by decide) (fun X go => ?_)
          refine go.1 [] 100 _ _ _ _ ?_
          refine cl (isSM v (σ := tel σ 4) f46 hs) ?_
          refine br_f (by decide) ?_
          refine cl (tl h9 (σ := tel σ 4) f46 v.1.2.2.2 (m := 96) rfl (by omega) (decide_eq_true late)) ?_
          refine br_f (by decide) ?_
          refine cl (ct_finds (w := 4) (by decide) fd4 _) ?_
          exact And.intro rfl rfl
      · obtain ⟨k, hk, rfl⟩ := st_n v.1.1 hs
        exact ⟨_, _, _, ctc_empty h v h9 hk late, ctm_empty v h9 (by rw [endF_46]; exact f46) (by rw [endF_48]; exact z48) hk late, J_end h (ZT_hrs hn8 z1 _) _⟩
