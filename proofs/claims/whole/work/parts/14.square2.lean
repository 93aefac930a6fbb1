/-! SQUARE's methods, by program (sq.py), further -/
theorem bit_01 (x : Int32) (h : ¬ x &&& 1 = 0) : x &&& 1 = 1 := by
  obtain ⟨j, hj, e⟩ := pk_andE x (m := 1) 1 rfl
  rw [e] at h ⊢
  have : j = 0 ∨ j = 1 := by omega
  rcases this with rfl | rfl
  · exact absurd rfl h
  · rfl
theorem goT_cong {T U : Sg} (h0 : T 0 = U 0) (h3 : T 3 = U 3) (k : Nat) : goT T k = goT U k := by unfold goT; rw [h0, h3]
theorem stN_cong {T U : Sg} (h0 : T 0 = U 0) (h3 : T 3 = U 3) (h5 : T 5 = U 5) : ∀ n, stN T n = stN U n
  | 0 => rfl
  | k + 1 => by unfold stN; rw [h5, goT_cong h0 h3 k, stN_cong h0 h3 h5 k]
theorem plN_cong {T U : Sg} (h4 : T 4 = U 4) (set : Int32) : ∀ n, plN T set n = plN U set n
  | 0 => rfl
  | k + 1 => by unfold plN; rw [h4, plN_cong h4 set k]

theorem ct_stayers_1 {n : Nat} (hn8 : n ≤ 8) {σ : Sg} (hn : Tq 1 σ 0 9 = nI n) : Ct mX2_stayers [.ref 1] σ (Ex (some (.int (stN (Tq 1 σ) n))) σ) := by
  refine Ct.of (by decide +kernel) zX2_stayers (Nat.le_of_ble_eq_true rfl) (by decide) (fun X go => ?_)
  have L : ∀ d k, k + d = n → X 4 [(0, .ref 1), (1, .int (stN (Tq 1 σ) k)), (2, .int (nI k))] [] σ := by
    intro d
    induction d with
    | zero =>
      intro k hk
      have hk : k = n := by omega
      subst hk
      refine go.1 [4] 20 _ _ _ _ ?_
      refine br_t (show Tq 1 σ 0 9 ≤ nI k by rw [hn]; exact nI_le (Nat.le_refl _) (by omega)) ?_
      exact And.intro rfl rfl
    | succ d ih =>
      intro k hk
      have hk8 : k < 8 := by omega
      have ihk := ih (k + 1) (by omega)
      rw [nI_succ] at ihk
      refine go.1 [4] 60 _ _ _ _ ?_
      refine br_f (show ¬ Tq 1 σ 0 9 ≤ nI k by rw [hn]; exact nI_ge (by omega) (by omega)) ?_
      refine Exists.intro k (And.intro ⟨rfl, hk8, by omega⟩ ?_)
      refine And.intro (fun (h5 : Tq 1 σ 5 k = 0) => ?_) (fun (h5 : ¬ Tq 1 σ 5 k = 0) => ?_)
      · rw [show stN (Tq 1 σ) (k + 1) = stN (Tq 1 σ) k ||| bit1 (nI k) from if_pos (Or.inl h5)] at ihk
        exact ihk
      · have cw := ct_wouldGo_1 hk8 σ
        cases hg : goT (Tq 1 σ) k with
        | true =>
          rw [hg] at cw
          refine cl cw ?_
          refine br_f (by decide) ?_
          rw [show stN (Tq 1 σ) (k + 1) = stN (Tq 1 σ) k from if_neg (fun q => q.elim h5 (fun q => by rw [hg] at q; cases q))] at ihk
          exact ihk
        | false =>
          rw [hg] at cw
          refine cl cw ?_
          refine br_t (by decide) ?_
          rw [show stN (Tq 1 σ) (k + 1) = stN (Tq 1 σ) k ||| bit1 (nI k) from if_pos (Or.inr hg)] at ihk
          exact ihk
  exact go.1 [4] 20 _ _ _ _ (L n 0 (by omega))
theorem ct_placesOf_1 {n : Nat} (hn8 : n ≤ 8) {σ : Sg} (hn : Tq 1 σ 0 9 = nI n) (set : Int32) : Ct mX2_placesOf [.ref 1, .int set] σ (Ex (some (.int (plN (Tq 1 σ) set n))) σ) := by
  refine Ct.of (by decide +kernel) zX2_placesOf (Nat.le_of_ble_eq_true rfl) (by decide) (fun X go => ?_)
  have L : ∀ d k, k + d = n → X 4 [(0, .ref 1), (1, .int set), (2, .int (plN (Tq 1 σ) set k)), (3, .int (nI k))] [] σ := by
    intro d
    induction d with
    | zero =>
      intro k hk
      have hk : k = n := by omega
      subst hk
      refine go.1 [4] 20 _ _ _ _ ?_
      refine br_t (show Tq 1 σ 0 9 ≤ nI k by rw [hn]; exact nI_le (Nat.le_refl _) (by omega)) ?_
      exact And.intro rfl rfl
    | succ d ih =>
      intro k hk
      have hk8 : k < 8 := by omega
      have ihk := ih (k + 1) (by omega)
      rw [nI_succ] at ihk
      refine go.1 [4] 60 _ _ _ _ ?_
      refine br_f (show ¬ Tq 1 σ 0 9 ≤ nI k by rw [hn]; exact nI_ge (by omega) (by omega)) ?_
      refine And.intro (fun (h5 : hb set (nI k)) => ?_) (fun (h5 : ¬ hb set (nI k)) => ?_)
      · refine Exists.intro k (And.intro ⟨rfl, hk8, by omega⟩ ?_)
        rw [show plN (Tq 1 σ) set (k + 1) = plN (Tq 1 σ) set k ||| bit1 (Tq 1 σ 4 k) from if_pos h5] at ihk
        exact ihk
      · rw [show plN (Tq 1 σ) set (k + 1) = plN (Tq 1 σ) set k from if_neg h5] at ihk
        exact ihk
  exact go.1 [4] 20 _ _ _ _ (L n 0 (by omega))
theorem ct_stepsFrom_1 {p : Nat} (hp : p < 12) {pv : Int32} (e : pv = nI p) (tk : Int32) (σ : Sg) : Ct mX2_stepsFrom [.ref 1, .int pv, .int tk] σ (Ex (some (.int (nI (far p tk)))) σ) := by
  subst e
  refine Ct.of (by decide +kernel) zX2_stepsFrom (Nat.le_of_ble_eq_true rfl) (by decide) (fun X go => ?_)
  have L : ∀ f s, s + f = 12 → far p tk = farG p tk f s → X 2 [(0, .ref 1), (1, .int (nI p)), (2, .int tk), (3, .int (nI s))] [] σ := by
    intro f
    induction f with
    | zero =>
      intro s hs hf
      have hs : s = 12 := by omega
      subst hs
      refine go.1 [2] 20 _ _ _ _ ?_
      refine br_t (by decide) ?_
      rw [hf]
      exact And.intro rfl rfl
    | succ f ih =>
      intro s hs hf
      refine go.1 [2] 40 _ _ _ _ ?_
      refine br_f (show ¬ nI 12 ≤ nI s from nI_ge (by omega) (by omega)) ?_
      refine And.intro (by decide) ?_
      have em : nI p + nI s - (nI p + nI s) / 12 * 12 = nI ((p + s) % 12) := by rw [nI_add]; exact nI_m12 (by omega)
      refine And.intro (fun (h : hb tk (nI p + nI s - (nI p + nI s) / 12 * 12)) => ?_) (fun (h : ¬ hb tk (nI p + nI s - (nI p + nI s) / 12 * 12)) => ?_)
      · rw [em] at h
        have ihs := ih (s + 1) (by omega) (hf.trans (if_pos h))
        rw [nI_succ] at ihs
        exact ihs
      · rw [em] at h
        rw [hf, show farG p tk (f + 1) s = s from if_neg h]
        exact And.intro rfl rfl
  exact go.1 [2] 20 _ _ _ _ (L 11 1 (by omega) rfl)
theorem ct_strike_1 {n h b : Nat} {U : Sg} (v : VTb n h b U) (σ : Sg) : Ct mX2_strike [.ref 1] (putSq 1 U σ) (Ex none (putSq 1 (strT n U) σ)) := by
  have hn8 := v.1.1
  have hn := v.1.2.2.1
  refine Ct.of (by decide +kernel) zX2_strike (Nat.le_of_ble_eq_true rfl) (by decide) (fun X go => ?_)
  have L : ∀ d k, k + d = n → X 13 [(0, .ref 1), (1, .int (stN U n)), (2, .int (plN U (stN U n) n)), (3, .int (nI k))] [] (putSq 1 (strN (stN U n) (plN U (stN U n) n) U k) σ) := by
    intro d
    induction d with
    | zero =>
      intro k hk
      have hk : k = n := by omega
      subst hk
      refine go.1 [13] 20 _ _ _ _ ?_
      refine br_t (show strN (stN U k) (plN U (stN U k) k) U k 0 9 ≤ nI k by rw [strN_row (by decide), hn]; exact nI_le (Nat.le_refl _) (by omega)) ?_
      exact And.intro rfl rfl
    | succ d ih =>
      intro k hk
      have hk8 : k < 8 := by omega
      generalize hst : stN U n = st at ih ⊢
      generalize htk : plN U st n = tk at ih ⊢
      have ihk := ih (k + 1) (by omega)
      rw [nI_succ] at ihk
      refine go.1 [13] 60 _ _ _ _ ?_
      refine br_f (show ¬ strN st tk U k 0 9 ≤ nI k by rw [strN_row (by decide), hn]; exact nI_ge (by omega) (by omega)) ?_
      refine And.intro (fun (h5 : (st >>> (nI k &&& 31)) &&& 1 = 0) => ?_) (fun (h5 : ¬ (st >>> (nI k &&& 31)) &&& 1 = 0) => ?_)
      · have h6 : ¬ hb st (nI k) := fun q => by
          rw [show (st >>> (nI k &&& 31)) &&& 1 = 1 from q] at h5
          exact absurd h5 (by decide)
        have e4 : strN st tk U k 4 k = nI (pl U k) := by rw [strN_ge k (Nat.le_refl k)]; exact (VTpl v hk8).1
        have e4' : pl (strN st tk U k) k = pl U k := by unfold pl; rw [strN_ge k (Nat.le_refl k)]
        have f12 : far (pl U k) tk ≤ 12 := by
          obtain ⟨ms, mp, -, h2, e1, e2, -, -⟩ := strT_at v
          rw [hst, htk] at e2
          rw [e2]
          exact (far_spec (by omega)).2.1
        have ev : strN st tk U k 4 k + nI (far (pl U k) tk) - (strN st tk U k 4 k + nI (far (pl U k) tk)) / 12 * 12 = nI ((pl U k + far (pl U k) tk) % 12) := by
          have := (VTpl v hk8).2
          rw [e4, nI_add]
          exact nI_m12 (by omega)
        have es : up2 (putSq 1 (strN st tk U k) σ) (1 + 4) k (strN st tk U k 4 k + nI (far (pl U k) tk) - (strN st tk U k 4 k + nI (far (pl U k) tk)) / 12 * 12) = putSq 1 (strN st tk U (k + 1)) σ := by
          rw [ev]
          show upr (putSq 1 (strN st tk U k) σ) (1 + 4) (upd (strN st tk U k 4) k _) = _
          rw [putSq_upr (by decide)]
          rw [show strN st tk U (k + 1) = upr (strN st tk U k) 4 (upd (strN st tk U k 4) k (nI ((pl (strN st tk U k) k + far (pl (strN st tk U k) k) tk) % 12))) from if_neg h6, e4']
        rw [← es] at ihk
        refine Exists.intro k (And.intro ⟨rfl, hk8, by omega⟩ ?_)
        refine Exists.intro k (And.intro ⟨rfl, hk8, by omega⟩ ?_)
        refine cl (ct_stepsFrom_1 (VTpl v hk8).2 e4 tk _) ?_
        refine And.intro (by decide) ?_
        refine Exists.intro k (And.intro ⟨rfl, hk8, by omega⟩ ?_)
        exact ihk
      · have h6 : hb st (nI k) := bit_01 _ h5
        rw [show strN st tk U (k + 1) = strN st tk U k from if_pos h6] at ihk
        exact ihk
  refine go.1 [13] 30 _ _ _ _ ?_
  have c1 := ct_stayers_1 (σ := putSq 1 U σ) hn8 hn
  rw [show stN (Tq 1 (putSq 1 U σ)) n = stN U n from stN_cong (T := Tq 1 (putSq 1 U σ)) (U := U) rfl rfl rfl n] at c1
  refine cl c1 ?_
  have c2 := ct_placesOf_1 (σ := putSq 1 U σ) hn8 hn (stN U n)
  rw [show plN (Tq 1 (putSq 1 U σ)) (stN U n) n = plN U (stN U n) n from plN_cong (T := Tq 1 (putSq 1 U σ)) (U := U) rfl (stN U n) n] at c2
  refine cl c2 ?_
  exact L n 0 (by omega)
theorem ct_passHour_1 {n h : Nat} {T : Sg} (v : VT n h T) (σ : Sg) : Ct mX2_passHour [.ref 1] (putSq 1 T σ) (Ex (some (.int (saleN T n))) (putSq 1 (hrT n T) σ)) := by
  refine Ct.of (by decide +kernel) zX2_passHour (Nat.le_of_ble_eq_true rfl) (by decide) (fun X go => ?_)
  refine go.1 [] 30 _ _ _ _ ?_
  refine cl (ct_sellAll_1 v σ) ?_
  refine cl (ct_strike_1 (VT_sell v) σ) ?_
  refine And.intro ⟨rfl, rfl⟩ ?_
  refine And.intro rfl ?_
  show up2 (putSq 1 (strT n (sellN T n)) σ) (1 + 0) 10 _ = _
  show upr (putSq 1 (strT n (sellN T n)) σ) (1 + 0) (upd (strT n (sellN T n) 0) 10 (strT n (sellN T n) 0 10 + 1)) = _
  rw [putSq_upr (by decide)]
  rfl
theorem ct_passHours_1 {n h m : Nat} {T : Sg} (v : VT n h T) (hm : h + m ≤ 2000) {mv : Int32} (e : mv = nI m) (σ : Sg) : Ct mX2_passHours [.ref 1, .int mv] (putSq 1 T σ) (Ex (some (.int (hrsS n T m))) (putSq 1 (hrsT n T m) σ)) := by
  subst e
  refine Ct.of (by decide +kernel) zX2_passHours (Nat.le_of_ble_eq_true rfl) (by decide) (fun X go => ?_)
  have L : ∀ d k, k + d = m → X 4 [(0, .ref 1), (1, .int (nI m)), (2, .int (hrsS n T k)), (3, .int (nI k))] [] (putSq 1 (hrsT n T k) σ) := by
    intro d
    induction d with
    | zero =>
      intro k hk
      have hk : k = m := by omega
      subst hk
      refine go.1 [4] 20 _ _ _ _ ?_
      refine br_t (nI_le (Nat.le_refl _) (by omega)) ?_
      exact And.intro rfl rfl
    | succ d ih =>
      intro k hk
      have ihk := ih (k + 1) (by omega)
      rw [nI_succ] at ihk
      refine go.1 [4] 60 _ _ _ _ ?_
      refine br_f (nI_ge (by omega) (by omega)) ?_
      refine cl (ct_passHour_1 (VT_hrs v k (by omega)) σ) ?_
      exact ihk
  exact go.1 [4] 20 _ _ _ _ (L m 0 (by omega))

theorem ct_stayers_10 {n : Nat} (hn8 : n ≤ 8) {σ : Sg} (hn : Tq 10 σ 0 9 = nI n) : Ct mX2_stayers [.ref 10] σ (Ex (some (.int (stN (Tq 10 σ) n))) σ) := by
  refine Ct.of (by decide +kernel) zX2_stayers (Nat.le_of_ble_eq_true rfl) (by decide) (fun X go => ?_)
  have L : ∀ d k, k + d = n → X 4 [(0, .ref 10), (1, .int (stN (Tq 10 σ) k)), (2, .int (nI k))] [] σ := by
    intro d
    induction d with
    | zero =>
      intro k hk
      have hk : k = n := by omega
      subst hk
      refine go.1 [4] 20 _ _ _ _ ?_
      refine br_t (show Tq 10 σ 0 9 ≤ nI k by rw [hn]; exact nI_le (Nat.le_refl _) (by omega)) ?_
      exact And.intro rfl rfl
    | succ d ih =>
      intro k hk
      have hk8 : k < 8 := by omega
      have ihk := ih (k + 1) (by omega)
      rw [nI_succ] at ihk
      refine go.1 [4] 60 _ _ _ _ ?_
      refine br_f (show ¬ Tq 10 σ 0 9 ≤ nI k by rw [hn]; exact nI_ge (by omega) (by omega)) ?_
      refine Exists.intro k (And.intro ⟨rfl, hk8, by omega⟩ ?_)
      refine And.intro (fun (h5 : Tq 10 σ 5 k = 0) => ?_) (fun (h5 : ¬ Tq 10 σ 5 k = 0) => ?_)
      · rw [show stN (Tq 10 σ) (k + 1) = stN (Tq 10 σ) k ||| bit1 (nI k) from if_pos (Or.inl h5)] at ihk
        exact ihk
      · have cw := ct_wouldGo_10 hk8 σ
        cases hg : goT (Tq 10 σ) k with
        | true =>
          rw [hg] at cw
          refine cl cw ?_
          refine br_f (by decide) ?_
          rw [show stN (Tq 10 σ) (k + 1) = stN (Tq 10 σ) k from if_neg (fun q => q.elim h5 (fun q => by rw [hg] at q; cases q))] at ihk
          exact ihk
        | false =>
          rw [hg] at cw
          refine cl cw ?_
          refine br_t (by decide) ?_
          rw [show stN (Tq 10 σ) (k + 1) = stN (Tq 10 σ) k ||| bit1 (nI k) from if_pos (Or.inr hg)] at ihk
          exact ihk
  exact go.1 [4] 20 _ _ _ _ (L n 0 (by omega))
theorem ct_placesOf_10 {n : Nat} (hn8 : n ≤ 8) {σ : Sg} (hn : Tq 10 σ 0 9 = nI n) (set : Int32) : Ct mX2_placesOf [.ref 10, .int set] σ (Ex (some (.int (plN (Tq 10 σ) set n))) σ) := by
  refine Ct.of (by decide +kernel) zX2_placesOf (Nat.le_of_ble_eq_true rfl) (by decide) (fun X go => ?_)
  have L : ∀ d k, k + d = n → X 4 [(0, .ref 10), (1, .int set), (2, .int (plN (Tq 10 σ) set k)), (3, .int (nI k))] [] σ := by
    intro d
    induction d with
    | zero =>
      intro k hk
      have hk : k = n := by omega
      subst hk
      refine go.1 [4] 20 _ _ _ _ ?_
      refine br_t (show Tq 10 σ 0 9 ≤ nI k by rw [hn]; exact nI_le (Nat.le_refl _) (by omega)) ?_
      exact And.intro rfl rfl
    | succ d ih =>
      intro k hk
      have hk8 : k < 8 := by omega
      have ihk := ih (k + 1) (by omega)
      rw [nI_succ] at ihk
      refine go.1 [4] 60 _ _ _ _ ?_
      refine br_f (show ¬ Tq 10 σ 0 9 ≤ nI k by rw [hn]; exact nI_ge (by omega) (by omega)) ?_
      refine And.intro (fun (h5 : hb set (nI k)) => ?_) (fun (h5 : ¬ hb set (nI k)) => ?_)
      · refine Exists.intro k (And.intro ⟨rfl, hk8, by omega⟩ ?_)
        rw [show plN (Tq 10 σ) set (k + 1) = plN (Tq 10 σ) set k ||| bit1 (Tq 10 σ 4 k) from if_pos h5] at ihk
        exact ihk
      · rw [show plN (Tq 10 σ) set (k + 1) = plN (Tq 10 σ) set k from if_neg h5] at ihk
        exact ihk
  exact go.1 [4] 20 _ _ _ _ (L n 0 (by omega))
theorem ct_stepsFrom_10 {p : Nat} (hp : p < 12) {pv : Int32} (e : pv = nI p) (tk : Int32) (σ : Sg) : Ct mX2_stepsFrom [.ref 10, .int pv, .int tk] σ (Ex (some (.int (nI (far p tk)))) σ) := by
  subst e
  refine Ct.of (by decide +kernel) zX2_stepsFrom (Nat.le_of_ble_eq_true rfl) (by decide) (fun X go => ?_)
  have L : ∀ f s, s + f = 12 → far p tk = farG p tk f s → X 2 [(0, .ref 10), (1, .int (nI p)), (2, .int tk), (3, .int (nI s))] [] σ := by
    intro f
    induction f with
    | zero =>
      intro s hs hf
      have hs : s = 12 := by omega
      subst hs
      refine go.1 [2] 20 _ _ _ _ ?_
      refine br_t (by decide) ?_
      rw [hf]
      exact And.intro rfl rfl
    | succ f ih =>
      intro s hs hf
      refine go.1 [2] 40 _ _ _ _ ?_
      refine br_f (show ¬ nI 12 ≤ nI s from nI_ge (by omega) (by omega)) ?_
      refine And.intro (by decide) ?_
      have em : nI p + nI s - (nI p + nI s) / 12 * 12 = nI ((p + s) % 12) := by rw [nI_add]; exact nI_m12 (by omega)
      refine And.intro (fun (h : hb tk (nI p + nI s - (nI p + nI s) / 12 * 12)) => ?_) (fun (h : ¬ hb tk (nI p + nI s - (nI p + nI s) / 12 * 12)) => ?_)
      · rw [em] at h
        have ihs := ih (s + 1) (by omega) (hf.trans (if_pos h))
        rw [nI_succ] at ihs
        exact ihs
      · rw [em] at h
        rw [hf, show farG p tk (f + 1) s = s from if_neg h]
        exact And.intro rfl rfl
  exact go.1 [2] 20 _ _ _ _ (L 11 1 (by omega) rfl)
theorem ct_strike_10 {n h b : Nat} {U : Sg} (v : VTb n h b U) (σ : Sg) : Ct mX2_strike [.ref 10] (putSq 10 U σ) (Ex none (putSq 10 (strT n U) σ)) := by
  have hn8 := v.1.1
  have hn := v.1.2.2.1
  refine Ct.of (by decide +kernel) zX2_strike (Nat.le_of_ble_eq_true rfl) (by decide) (fun X go => ?_)
  have L : ∀ d k, k + d = n → X 13 [(0, .ref 10), (1, .int (stN U n)), (2, .int (plN U (stN U n) n)), (3, .int (nI k))] [] (putSq 10 (strN (stN U n) (plN U (stN U n) n) U k) σ) := by
    intro d
    induction d with
    | zero =>
      intro k hk
      have hk : k = n := by omega
      subst hk
      refine go.1 [13] 20 _ _ _ _ ?_
      refine br_t (show strN (stN U k) (plN U (stN U k) k) U k 0 9 ≤ nI k by rw [strN_row (by decide), hn]; exact nI_le (Nat.le_refl _) (by omega)) ?_
      exact And.intro rfl rfl
    | succ d ih =>
      intro k hk
      have hk8 : k < 8 := by omega
      generalize hst : stN U n = st at ih ⊢
      generalize htk : plN U st n = tk at ih ⊢
      have ihk := ih (k + 1) (by omega)
      rw [nI_succ] at ihk
      refine go.1 [13] 60 _ _ _ _ ?_
      refine br_f (show ¬ strN st tk U k 0 9 ≤ nI k by rw [strN_row (by decide), hn]; exact nI_ge (by omega) (by omega)) ?_
      refine And.intro (fun (h5 : (st >>> (nI k &&& 31)) &&& 1 = 0) => ?_) (fun (h5 : ¬ (st >>> (nI k &&& 31)) &&& 1 = 0) => ?_)
      · have h6 : ¬ hb st (nI k) := fun q => by
          rw [show (st >>> (nI k &&& 31)) &&& 1 = 1 from q] at h5
          exact absurd h5 (by decide)
        have e4 : strN st tk U k 4 k = nI (pl U k) := by rw [strN_ge k (Nat.le_refl k)]; exact (VTpl v hk8).1
        have e4' : pl (strN st tk U k) k = pl U k := by unfold pl; rw [strN_ge k (Nat.le_refl k)]
        have f12 : far (pl U k) tk ≤ 12 := by
          obtain ⟨ms, mp, -, h2, e1, e2, -, -⟩ := strT_at v
          rw [hst, htk] at e2
          rw [e2]
          exact (far_spec (by omega)).2.1
        have ev : strN st tk U k 4 k + nI (far (pl U k) tk) - (strN st tk U k 4 k + nI (far (pl U k) tk)) / 12 * 12 = nI ((pl U k + far (pl U k) tk) % 12) := by
          have := (VTpl v hk8).2
          rw [e4, nI_add]
          exact nI_m12 (by omega)
        have es : up2 (putSq 10 (strN st tk U k) σ) (10 + 4) k (strN st tk U k 4 k + nI (far (pl U k) tk) - (strN st tk U k 4 k + nI (far (pl U k) tk)) / 12 * 12) = putSq 10 (strN st tk U (k + 1)) σ := by
          rw [ev]
          show upr (putSq 10 (strN st tk U k) σ) (10 + 4) (upd (strN st tk U k 4) k _) = _
          rw [putSq_upr (by decide)]
          rw [show strN st tk U (k + 1) = upr (strN st tk U k) 4 (upd (strN st tk U k 4) k (nI ((pl (strN st tk U k) k + far (pl (strN st tk U k) k) tk) % 12))) from if_neg h6, e4']
        rw [← es] at ihk
        refine Exists.intro k (And.intro ⟨rfl, hk8, by omega⟩ ?_)
        refine Exists.intro k (And.intro ⟨rfl, hk8, by omega⟩ ?_)
        refine cl (ct_stepsFrom_10 (VTpl v hk8).2 e4 tk _) ?_
        refine And.intro (by decide) ?_
        refine Exists.intro k (And.intro ⟨rfl, hk8, by omega⟩ ?_)
        exact ihk
      · have h6 : hb st (nI k) := bit_01 _ h5
        rw [show strN st tk U (k + 1) = strN st tk U k from if_pos h6] at ihk
        exact ihk
  refine go.1 [13] 30 _ _ _ _ ?_
  have c1 := ct_stayers_10 (σ := putSq 10 U σ) hn8 hn
  rw [show stN (Tq 10 (putSq 10 U σ)) n = stN U n from stN_cong (T := Tq 10 (putSq 10 U σ)) (U := U) rfl rfl rfl n] at c1
  refine cl c1 ?_
  have c2 := ct_placesOf_10 (σ := putSq 10 U σ) hn8 hn (stN U n)
  rw [show plN (Tq 10 (putSq 10 U σ)) (stN U n) n = plN U (stN U n) n from plN_cong (T := Tq 10 (putSq 10 U σ)) (U := U) rfl (stN U n) n] at c2
  refine cl c2 ?_
  exact L n 0 (by omega)
theorem ct_passHour_10 {n h : Nat} {T : Sg} (v : VT n h T) (σ : Sg) : Ct mX2_passHour [.ref 10] (putSq 10 T σ) (Ex (some (.int (saleN T n))) (putSq 10 (hrT n T) σ)) := by
  refine Ct.of (by decide +kernel) zX2_passHour (Nat.le_of_ble_eq_true rfl) (by decide) (fun X go => ?_)
  refine go.1 [] 30 _ _ _ _ ?_
  refine cl (ct_sellAll_10 v σ) ?_
  refine cl (ct_strike_10 (VT_sell v) σ) ?_
  refine And.intro ⟨rfl, rfl⟩ ?_
  refine And.intro rfl ?_
  show up2 (putSq 10 (strT n (sellN T n)) σ) (10 + 0) 10 _ = _
  show upr (putSq 10 (strT n (sellN T n)) σ) (10 + 0) (upd (strT n (sellN T n) 0) 10 (strT n (sellN T n) 0 10 + 1)) = _
  rw [putSq_upr (by decide)]
  rfl
theorem ct_passHours_10 {n h m : Nat} {T : Sg} (v : VT n h T) (hm : h + m ≤ 2000) {mv : Int32} (e : mv = nI m) (σ : Sg) : Ct mX2_passHours [.ref 10, .int mv] (putSq 10 T σ) (Ex (some (.int (hrsS n T m))) (putSq 10 (hrsT n T m) σ)) := by
  subst e
  refine Ct.of (by decide +kernel) zX2_passHours (Nat.le_of_ble_eq_true rfl) (by decide) (fun X go => ?_)
  have L : ∀ d k, k + d = m → X 4 [(0, .ref 10), (1, .int (nI m)), (2, .int (hrsS n T k)), (3, .int (nI k))] [] (putSq 10 (hrsT n T k) σ) := by
    intro d
    induction d with
    | zero =>
      intro k hk
      have hk : k = m := by omega
      subst hk
      refine go.1 [4] 20 _ _ _ _ ?_
      refine br_t (nI_le (Nat.le_refl _) (by omega)) ?_
      exact And.intro rfl rfl
    | succ d ih =>
      intro k hk
      have ihk := ih (k + 1) (by omega)
      rw [nI_succ] at ihk
      refine go.1 [4] 60 _ _ _ _ ?_
      refine br_f (nI_ge (by omega) (by omega)) ?_
      refine cl (ct_passHour_10 (VT_hrs v k (by omega)) σ) ?_
      exact ihk
  exact go.1 [4] 20 _ _ _ _ (L m 0 (by omega))
