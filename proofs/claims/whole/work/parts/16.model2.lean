/-! THE REFERENCE's hour -/
theorem ct_sells {n h b k : Nat} {T : Sg} (v : VTb n h b T) (hk : k < 8) {kv : Int32} (ek : kv = nI k) (σ : Sg) : Ct mX5_sells [.ref 45, .int kv] (MS σ T) (Ex (some (.int (selT T k))) (MS σ T)) := by
  refine Ct.of (by decide +kernel) zX5_sells (Nat.le_of_ble_eq_true rfl) (by decide) (fun X go => ?_)
  refine go.1 [] 50 _ _ _ _ ?_
  have c4 := ct_its (w := 1) hk (by decide) ek (wv := 1) rfl σ T
  rw [show T (3 + 1) k = nI (pl T k) from (VTpl v hk).1] at c4
  refine cl c4 ?_
  refine cl (ct_offer hk (VTpl v hk).2 ek rfl σ T) ?_
  refine cl (ct_its (w := 2) hk (by decide) ek (wv := 2) rfl σ T) ?_
  refine And.intro (fun (h9 : offT T (T 3 k) (pl T k) ≤ T 5 k) => ?_) (fun (h9 : ¬ offT T (T 3 k) (pl T k) ≤ T 5 k) => ?_)
  · refine And.intro ?_ rfl
    unfold selT
    by_cases hlt : offT T (T 3 k) (pl T k) < T 5 k
    · rw [if_pos hlt]
    · rw [if_neg hlt]
      have e : offT T (T 3 k) (pl T k) = T 5 k := by
        have h1 := Int32.le_iff_toInt_le.mp h9
        have h2 : ¬ _ := fun q => hlt (Int32.lt_iff_toInt_lt.mpr q)
        exact Int32.toInt_inj.mp (by omega)
      rw [← e]
  · refine cl (ct_its (w := 2) hk (by decide) ek (wv := 2) rfl σ T) ?_
    refine And.intro ?_ rfl
    unfold selT
    rw [if_neg (fun hlt => h9 (Int32.le_iff_toInt_le.mpr (by have := Int32.lt_iff_toInt_lt.mp hlt; omega)))]
/-- behind the selling of this hour, or ahead of it -/
def stB (s : Bool) (T : Sg) : Nat → Int32
  | 0 => 0
  | k + 1 => if T 5 k - (if s = true then 0 else selT T k) = 0 ∨ goT T k = false then stB s T k ||| bit1 (nI k) else stB s T k
theorem stB_t (T : Sg) : ∀ k, stB true T k = stN T k
  | 0 => rfl
  | k + 1 => by
    unfold stB stN
    rw [stB_t T k, if_pos rfl, Int32.sub_zero]
theorem stB_f {n h : Nat} {T : Sg} (v : VT n h T) : ∀ k, k ≤ n → stB false T k = stN (sellN T n) k
  | 0, _ => rfl
  | k + 1, hk => by
    unfold stB stN
    rw [stB_f v k (by omega), sellN_5 (show k < n by omega), goT_cong (U := T) (sellN_row (by decide) (by decide) (by decide) n) (sellN_row (by decide) (by decide) (by decide) n)]
    rfl
theorem ct_staying {n h b : Nat} {T : Sg} (v : VTb n h b T) (s : Bool) {sv : Int32} (es : sv = if s = true then 1 else 0) (σ : Sg) : Ct mX5_staying [.ref 45, .int sv] (MS σ T) (Ex (some (.int (stB s T n))) (MS σ T)) := by
  have hn8 := v.1.1
  have hn := v.1.2.2.1
  refine Ct.of (by decide +kernel) zX5_staying (Nat.le_of_ble_eq_true rfl) (by decide) (fun X go => ?_)
  have L : ∀ d k, k + d = n → X 4 [(0, .ref 45), (1, .int sv), (2, .int (stB s T k)), (3, .int (nI k))] [] (MS σ T) := by
    intro d
    induction d with
    | zero =>
      intro k hk
      have hk : k = n := by omega
      subst hk
      refine go.1 [4] 20 _ _ _ _ ?_
      refine Exists.intro 1 (And.intro ⟨rfl, by decide, by decide⟩ ?_)
      refine br_t (show T 0 9 ≤ nI k by rw [hn]; exact nI_le (Nat.le_refl _) (by omega)) ?_
      exact And.intro rfl rfl
    | succ d ih =>
      intro k hk
      have hk8 : k < 8 := by omega
      have ihk := ih (k + 1) (by omega)
      rw [nI_succ] at ihk
      have fin : ∀ z : Int32, z = (if s = true then 0 else selT T k) → X 36 [(0, .ref 45), (1, .int sv), (2, .int (stB s T k)), (3, .int (nI k)), (4, .int (T 5 k - z))] [] (MS σ T) := by
        intro z hz
        subst hz
        refine go.1 [4] 60 _ _ _ _ ?_
        refine And.intro (fun (h5 : T 5 k - _ = 0) => ?_) (fun (h5 : ¬ T 5 k - _ = 0) => ?_)
        · refine go.2 [0, 1, 2, 3] _ _ _ _ ?_
          rw [show stB s T (k + 1) = stB s T k ||| bit1 (nI k) from if_pos (Or.inl h5)] at ihk
          exact ihk
        · have cg := ct_isGoing hk8 (kv := nI k) rfl σ T
          cases hg : goT T k with
          | true =>
            rw [hg] at cg
            refine cl cg ?_
            refine br_f (by decide) ?_
            refine go.2 [0, 1, 2, 3] _ _ _ _ ?_
            rw [show stB s T (k + 1) = stB s T k from if_neg (fun q => q.elim h5 (fun q => by rw [hg] at q; cases q)), ← Int32.or_zero (a := stB s T k)] at ihk
            exact ihk
          | false =>
            rw [hg] at cg
            refine cl cg ?_
            refine br_t (by decide) ?_
            refine go.2 [0, 1, 2, 3] _ _ _ _ ?_
            rw [show stB s T (k + 1) = stB s T k ||| bit1 (nI k) from if_pos (Or.inr hg)] at ihk
            exact ihk
      refine go.1 [4, 36] 60 _ _ _ _ ?_
      refine Exists.intro 1 (And.intro ⟨rfl, by decide, by decide⟩ ?_)
      refine br_f (show ¬ T 0 9 ≤ nI k by rw [hn]; exact nI_ge (by omega) (by omega)) ?_
      refine cl (ct_its (w := 2) hk8 (by decide) rfl (wv := 2) rfl σ T) ?_
      cases s with
      | true =>
        refine br_f (show ¬ sv = 0 by rw [es]; decide) ?_
        exact fin 0 rfl
      | false =>
        refine br_t (show sv = 0 by rw [es]; rfl) ?_
        refine cl (ct_sells v hk8 rfl σ) ?_
        exact fin (selT T k) rfl
  exact go.1 [4] 20 _ _ _ _ (L n 0 (by omega))
theorem ct_placesM {n h b : Nat} {T : Sg} (v : VTb n h b T) (set : Int32) (σ : Sg) : Ct mX5_placesOf [.ref 45, .int set] (MS σ T) (Ex (some (.int (plN T set n))) (MS σ T)) := by
  have hn8 := v.1.1
  have hn := v.1.2.2.1
  refine Ct.of (by decide +kernel) zX5_placesOf (Nat.le_of_ble_eq_true rfl) (by decide) (fun X go => ?_)
  have L : ∀ d k, k + d = n → X 4 [(0, .ref 45), (1, .int set), (2, .int (plN T set k)), (3, .int (nI k))] [] (MS σ T) := by
    intro d
    induction d with
    | zero =>
      intro k hk
      have hk : k = n := by omega
      subst hk
      refine go.1 [4] 20 _ _ _ _ ?_
      refine Exists.intro 1 (And.intro ⟨rfl, by decide, by decide⟩ ?_)
      refine br_t (show T 0 9 ≤ nI k by rw [hn]; exact nI_le (Nat.le_refl _) (by omega)) ?_
      exact And.intro rfl rfl
    | succ d ih =>
      intro k hk
      have hk8 : k < 8 := by omega
      have ihk := ih (k + 1) (by omega)
      rw [nI_succ] at ihk
      refine go.1 [4] 60 _ _ _ _ ?_
      refine Exists.intro 1 (And.intro ⟨rfl, by decide, by decide⟩ ?_)
      refine br_f (show ¬ T 0 9 ≤ nI k by rw [hn]; exact nI_ge (by omega) (by omega)) ?_
      have ch := ct_has set (nI k) (MS σ T)
      by_cases hh : hb set (nI k)
      · rw [if_pos hh] at ch
        refine cl ch ?_
        refine br_f (by decide) ?_
        refine cl (ct_its (w := 1) hk8 (by decide) rfl (wv := 1) rfl σ T) ?_
        rw [show plN T set (k + 1) = plN T set k ||| bit1 (T 4 k) from if_pos hh] at ihk
        exact ihk
      · rw [if_neg hh] at ch
        refine cl ch ?_
        refine br_t (by decide) ?_
        rw [show plN T set (k + 1) = plN T set k from if_neg hh, ← Int32.or_zero (a := plN T set k)] at ihk
        exact ihk
  exact go.1 [4] 20 _ _ _ _ (L n 0 (by omega))
theorem ct_farFrom {p : Nat} (hp : p < 12) {pv : Int32} (e : pv = nI p) {tk : Int32} (h0 : ¬ hb tk (nI p)) (σ : Sg) : Ct mX5_farFrom [.int pv, .int tk] σ (Ex (some (.int (nI (far p tk)))) σ) := by
  subst e
  refine Ct.of (by decide +kernel) zX5_farFrom (Nat.le_of_ble_eq_true rfl) (by decide) (fun X go => ?_)
  have L : ∀ f s, s + f = 12 → far p tk = farG p tk f s → X 2 [(0, .int (nI p)), (1, .int tk), (2, .int (nI s))] [] σ := by
    intro f
    induction f with
    | zero =>
      intro s hs hf
      have hs : s = 12 := by omega
      subst hs
      refine go.1 [2] 40 _ _ _ _ ?_
      refine And.intro (by decide) ?_
      have em : nI p + nI 12 - (nI p + nI 12) / 12 * 12 = nI p := by rw [nI_add, show nI p = nI ((p + 12) % 12) by congr 1; omega]; exact nI_m12 (by omega)
      have ch := ct_has tk (nI p + nI 12 - (nI p + nI 12) / 12 * 12) σ
      rw [if_neg (by rw [em]; exact h0)] at ch
      refine cl ch ?_
      refine br_t (by decide) ?_
      rw [hf]
      exact And.intro rfl rfl
    | succ f ih =>
      intro s hs hf
      refine go.1 [2] 40 _ _ _ _ ?_
      refine And.intro (by decide) ?_
      have em : nI p + nI s - (nI p + nI s) / 12 * 12 = nI ((p + s) % 12) := by rw [nI_add]; exact nI_m12 (by omega)
      have ch := ct_has tk (nI p + nI s - (nI p + nI s) / 12 * 12) σ
      by_cases h : hb tk (nI ((p + s) % 12))
      · rw [if_pos (by rw [em]; exact h)] at ch
        refine cl ch ?_
        refine br_f (by decide) ?_
        have ihs := ih (s + 1) (by omega) (hf.trans (if_pos h))
        rw [nI_succ] at ihs
        exact ihs
      · rw [if_neg (by rw [em]; exact h)] at ch
        refine cl ch ?_
        refine br_t (by decide) ?_
        rw [hf, show farG p tk (f + 1) s = s from if_neg h]
        exact And.intro rfl rfl
  exact go.1 [2] 20 _ _ _ _ (L 11 1 (by omega) rfl)
theorem hb_free {n h b k : Nat} {U : Sg} (v : VTb n h b U) (hk : k < n) (hg : ¬ hb (stN U n) (nI k)) : ¬ hb (plN U (stN U n) n) (nI (pl U k)) := by
  obtain ⟨ms, mp, h1, h2, e1, e2, hs, hb'⟩ := strT_at v
  have h8 := v.1.1
  rw [e1] at hg
  rw [e2]
  have p12 := (VTpl v (show k < 8 by omega)).2
  intro q
  have q := (hb_n (by omega) (by omega)).mp q
  have hg : ms.testBit k = false := by
    cases hm : ms.testBit k with
    | false => rfl
    | true => exact absurd ((hb_n (by omega) (by omega)).mpr hm) hg
  rw [go_free (VTd v) hb' hk hg] at q
  cases q
theorem far_le {n h b k : Nat} {U : Sg} (v : VTb n h b U) : far (pl U k) (plN U (stN U n) n) ≤ 12 := by
  obtain ⟨ms, mp, h1, h2, e1, e2, hs, hb'⟩ := strT_at v
  rw [e2]
  exact (far_spec (by omega)).2.1
theorem ct_hour {n h : Nat} {T : Sg} (v : VT n h T) (σ : Sg) : Ct mX5_hour [.ref 45] (MS σ T) (Ex (some (.int (saleN T n))) (MS σ (hrT n T))) := by
  have hn8 := v.1.1
  have hn := v.1.2.2.1
  have vs := VT_sell v
  refine Ct.of (by decide +kernel) zX5_hour (Nat.le_of_ble_eq_true rfl) (by decide) (fun X go => ?_)
  have L2 : ∀ d k, k + d = n → X 93 [(0, .ref 45), (1, .int (saleN T n)), (2, .int (stN (sellN T n) n)), (3, .int (plN (sellN T n) (stN (sellN T n) n) n)), (4, .int (nI k))] [] (MS σ (strN (stN (sellN T n) n) (plN (sellN T n) (stN (sellN T n) n) n) (sellN T n) k)) := by
    intro d
    induction d with
    | zero =>
      intro k hk
      have hk : k = n := by omega
      subst hk
      refine go.1 [93] 40 _ _ _ _ ?_
      refine Exists.intro 1 (And.intro ⟨rfl, by decide, by decide⟩ ?_)
      refine br_t (show strN _ _ (sellN T k) k 0 9 ≤ nI k by rw [strN_row (by decide), vs.1.2.2.1]; exact nI_le (Nat.le_refl _) (by omega)) ?_
      refine Exists.intro 0 (And.intro ⟨rfl, by decide, by decide⟩ ?_)
      refine Exists.intro 0 (And.intro ⟨rfl, by decide, by decide⟩ ?_)
      refine And.intro rfl ?_
      show upr (upr σ 46 (flat (strT k (sellN T k)))) 46 (upd (upr σ 46 (flat (strT k (sellN T k))) 46) 0 (strT k (sellN T k) 0 10 + 1)) = _
      rw [upr_in, upr_upr, flat_upd_0]
      rfl
    | succ d ih =>
      intro k hk
      have hk8 : k < 8 := by omega
      have hfree := hb_free vs (show k < n by omega)
      have hfar := far_le (k := k) vs
      have hrow : ∀ kk, strN (stN (sellN T n) n) (plN (sellN T n) (stN (sellN T n) n) n) (sellN T n) kk 0 = sellN T n 0 := fun kk => strN_row (by decide) kk
      have e4 : strN (stN (sellN T n) n) (plN (sellN T n) (stN (sellN T n) n) n) (sellN T n) k 4 k = nI (pl (sellN T n) k) := by rw [strN_ge k (Nat.le_refl k)]; exact (VTpl vs hk8).1
      have p12 := (VTpl vs hk8).2
      have ihk := ih (k + 1) (by omega)
      generalize hU : sellN T n = U at *
      generalize hst : stN U n = st at *
      generalize htk : plN U st n = tk at *
      rw [nI_succ] at ihk
      have e4' : pl (strN st tk U k) k = pl U k := by unfold pl; rw [strN_ge k (Nat.le_refl k)]
      refine go.1 [93] 70 _ _ _ _ ?_
      refine Exists.intro 1 (And.intro ⟨rfl, by decide, by decide⟩ ?_)
      refine br_f (show ¬ strN st tk U k 0 9 ≤ nI k by rw [hrow, vs.1.2.2.1]; exact nI_ge (by omega) (by omega)) ?_
      have c4 := ct_its (w := 1) hk8 (by decide) (kv := nI k) rfl (wv := 1) rfl σ (strN st tk U k)
      rw [show strN st tk U k (3 + 1) k = nI (pl U k) from e4] at c4
      refine cl c4 ?_
      refine cl (ct_at (a := k) (b := 1) rfl rfl _) ?_
      have ch := ct_has st (nI k) (MS σ (strN st tk U k))
      by_cases hh : hb st (nI k)
      · rw [if_pos hh] at ch
        refine cl ch ?_
        refine br_f (by decide) ?_
        refine Exists.intro (28 + 5 * k + 1) (And.intro ⟨rfl, by omega, by omega⟩ ?_)
        have es : up2 (MS σ (strN st tk U k)) 46 (28 + 5 * k + 1) (nI (pl U k)) = MS σ (strN st tk U (k + 1)) := by
          rw [MS_upd hk8 (by decide), show strN st tk U (k + 1) = strN st tk U k from if_pos hh, ← e4, upd_same, upr_self]
        rw [← es] at ihk
        refine go.2 [0, 1, 2, 3, 4] _ _ _ _ ?_
        exact ihk
      · rw [if_neg hh] at ch
        refine cl ch ?_
        refine br_t (by decide) ?_
        refine cl (ct_farFrom p12 rfl (hfree hh) _) ?_
        refine And.intro (by decide) ?_
        refine Exists.intro (28 + 5 * k + 1) (And.intro ⟨rfl, by omega, by omega⟩ ?_)
        have ev : nI (pl U k) + nI (far (pl U k) tk) - (nI (pl U k) + nI (far (pl U k) tk)) / 12 * 12 = nI ((pl U k + far (pl U k) tk) % 12) := by
          rw [nI_add]
          exact nI_m12 (by omega)
        have es : up2 (MS σ (strN st tk U k)) 46 (28 + 5 * k + 1) (nI (pl U k) + nI (far (pl U k) tk) - (nI (pl U k) + nI (far (pl U k) tk)) / 12 * 12) = MS σ (strN st tk U (k + 1)) := by
          rw [ev, MS_upd hk8 (by decide), show strN st tk U (k + 1) = upr (strN st tk U k) 4 (upd (strN st tk U k 4) k (nI ((pl (strN st tk U k) k + far (pl (strN st tk U k) k) tk) % 12))) from if_neg hh, e4']
        rw [← es] at ihk
        refine go.2 [0, 1, 2, 3, 4] _ _ _ _ ?_
        exact ihk
  have L : ∀ d k, k + d = n → X 4 [(0, .ref 45), (1, .int (saleN T k)), (2, .int (nI k))] [] (MS σ (sellN T k)) := by
    intro d
    induction d with
    | zero =>
      intro k hk
      have hk : k = n := by omega
      subst hk
      refine go.1 [4, 93] 40 _ _ _ _ ?_
      refine Exists.intro 1 (And.intro ⟨rfl, by decide, by decide⟩ ?_)
      refine br_t (show sellN T k 0 9 ≤ nI k by rw [vs.1.2.2.1]; exact nI_le (Nat.le_refl _) (by omega)) ?_
      have c1 := ct_staying vs true (sv := 1) rfl σ
      rw [stB_t] at c1
      refine cl c1 ?_
      refine cl (ct_placesM vs _ σ) ?_
      exact L2 k 0 (by omega)
    | succ d ih =>
      intro k hk
      have hk8 : k < 8 := by omega
      obtain ⟨a, ha, ea⟩ := v.2.2.1 k hk8
      have ihk := ih (k + 1) (by omega)
      rw [nI_succ] at ihk
      have vk := VT_sellk v (show k ≤ n by omega)
      generalize hU : sellN T k = U at *
      have ea : U 3 k = nI a := by rw [← hU, sellN_row (by decide) (by decide) (by decide)]; exact ea
      have ep : pR a = priT (U 3 k) := by rw [ea]; unfold priT; rw [nI_clamp (by omega)]
      have rd : ∀ (V : Sg) (w : Nat), w < 5 → MS σ V 46 (28 + 5 * k + w) = V (3 + w) k := fun V w hw => flat_k (T := V) hk8 hw
      generalize hx : selT U k = x at *
      have a1 : up2 (MS σ U) 46 (28 + 5 * k + 2) (MS σ U 46 (28 + 5 * k + 2) - x) = MS σ (upr U 5 (upd (U 5) k (U 5 k - x))) := by
        rw [rd U 2 (by decide)]
        exact MS_upd hk8 (by decide) _
      generalize hU1 : upr U 5 (upd (U 5) k (U 5 k - x)) = U1 at *
      have a2 : up2 (MS σ U1) 46 (28 + 5 * k + 4) (MS σ U1 46 (28 + 5 * k + 4) + x) = MS σ (upr U1 7 (upd (U1 7) k (U1 7 k + x))) := by
        rw [rd U1 4 (by decide)]
        exact MS_upd hk8 (by decide) _
      generalize hU2 : upr U1 7 (upd (U1 7) k (U1 7 k + x)) = U2 at *
      have a3 : up2 (MS σ U2) 46 (28 + 5 * k + 3) (MS σ U2 46 (28 + 5 * k + 3) + x * pR a) = MS σ (sellN T (k + 1)) := by
        rw [rd U2 3 (by decide), show sellN T (k + 1) = sell1 U k by rw [← hU]; rfl]
        refine (MS_upd hk8 (by decide) _).trans ?_
        rw [← hU2, ← hU1]
        unfold sell1
        rw [hx, ep]
        rfl
      have ea2 : U2 3 k = nI a := by rw [← hU2, ← hU1]; exact ea
      have hsale : saleN T (k + 1) = saleN T k + x := by rw [← hx, ← hU]; rfl
      rw [hsale] at ihk
      have f3 : X 48 [(0, .ref 45), (1, .int (saleN T k)), (2, .int (nI k)), (3, .int x)] [] (MS σ U2) := by
        refine go.1 [4] 60 _ _ _ _ ?_
        refine cl (ct_at (a := k) (b := 3) rfl rfl _) ?_
        refine Exists.intro (28 + 5 * k + 3) (And.intro ⟨rfl, by omega, by omega⟩ ?_)
        refine cl (ct_price hk8 rfl ha ea2 σ) ?_
        refine Exists.intro (28 + 5 * k + 3) (And.intro ⟨rfl, by omega, by omega⟩ ?_)
        refine go.2 [0, 1, 2] _ _ _ _ ?_
        rw [← a3] at ihk
        exact ihk
      have f2 : X 34 [(0, .ref 45), (1, .int (saleN T k)), (2, .int (nI k)), (3, .int x)] [] (MS σ U1) := by
        refine go.1 [4, 48] 60 _ _ _ _ ?_
        refine cl (ct_at (a := k) (b := 4) rfl rfl _) ?_
        refine Exists.intro (28 + 5 * k + 4) (And.intro ⟨rfl, by omega, by omega⟩ ?_)
        refine Exists.intro (28 + 5 * k + 4) (And.intro ⟨rfl, by omega, by omega⟩ ?_)
        rw [← a2] at f3
        exact f3
      refine go.1 [4, 34] 60 _ _ _ _ ?_
      refine Exists.intro 1 (And.intro ⟨rfl, by decide, by decide⟩ ?_)
      refine br_f (show ¬ U 0 9 ≤ nI k by rw [vk.1.2.2.1]; exact nI_ge (by omega) (by omega)) ?_
      have cs := ct_sells vk hk8 (kv := nI k) rfl σ
      rw [hx] at cs
      refine cl cs ?_
      refine cl (ct_at (a := k) (b := 2) rfl rfl _) ?_
      refine Exists.intro (28 + 5 * k + 2) (And.intro ⟨rfl, by omega, by omega⟩ ?_)
      refine Exists.intro (28 + 5 * k + 2) (And.intro ⟨rfl, by omega, by omega⟩ ?_)
      rw [← a1] at f2
      exact f2
  exact go.1 [4] 20 _ _ _ _ (L n 0 (by omega))
theorem ct_hoursGo {n h m : Nat} {T : Sg} (v : VT n h T) (hm : h + m ≤ 2000) {mv : Int32} (e : mv = nI m) (σ : Sg) : Ct mX5_hoursGo [.ref 45, .int mv] (MS σ T) (Ex (some (.int (hrsS n T m))) (MS σ (hrsT n T m))) := by
  subst e
  refine Ct.of (by decide +kernel) zX5_hoursGo (Nat.le_of_ble_eq_true rfl) (by decide) (fun X go => ?_)
  have L : ∀ d k, k + d = m → X 4 [(0, .ref 45), (1, .int (nI m)), (2, .int (hrsS n T k)), (3, .int (nI k))] [] (MS σ (hrsT n T k)) := by
    intro d
    induction d with
    | zero =>
      intro k hk
      have hk : k = m := by omega
      subst hk
      refine go.1 [4] 20 _ _ _ _ ?_
      refine br_t (nI_le (Nat.le_refl _) (by omega)) ?_
      exact And.intro rfl rfl
    | succ d ih =>
      intro k hk
      have ihk := ih (k + 1) (by omega)
      rw [nI_succ] at ihk
      refine go.1 [4] 60 _ _ _ _ ?_
      refine br_f (nI_ge (by omega) (by omega)) ?_
      refine cl (ct_hour (VT_hrs v k (by omega)) σ) ?_
      exact ihk
  exact go.1 [4] 20 _ _ _ _ (L m 0 (by omega))
