/-! AHEAD: passes, ahead -/
theorem P_passes {σ : Sg} (h : J σ) (s : Int32) : Pair mX4_passes mX5_passes [.int s] σ := by
  have f46 := J46 h
  obtain ⟨n, hh, v, h9⟩ := h.1
  have hn8 := v.1.1
  have z1 := h.2.1.1
  have z10 := h.2.1.2.1
  have z46 := J_z46 h
  have z48 := h.2.2.2.1.1
  cases hs : bI s 0 ((n : Int) - 1) with
  | false =>
      refine Pair_fd h 0 ?_ ?_
      · refine Ct.of (by decide +kernel) zX4_passes (Nat.le_of_ble_eq_true rfl) (by decide) (fun X go => ?_)
        refine go.1 [] 100 _ _ _ _ ?_
        refine cl (isS v hs) ?_
        refine br_t (by decide) ?_
        refine cl (ct_fd (w := 0) (by decide) rfl _) ?_
        exact And.intro rfl rfl
      · refine Ct.of (by decide +kernel) zX5_passes (Nat.le_of_ble_eq_true rfl) (by decide) (fun X go => ?_)
        refine go.1 [] 100 _ _ _ _ ?_
        refine cl (isSM v (σ := tel σ 0) f46 hs) ?_
        refine br_t (by decide) ?_
        refine cl (ct_finds (w := 0) (by decide) fd0 _) ?_
        exact And.intro rfl rfl
  | true =>
    obtain ⟨k, hk, rfl⟩ := st_n v.1.1 hs
    have hk8 : k < 8 := by omega
    have vs := VT_sell v
    have c1 := ct_sellAll_10 v σ
    have hn' : sellN (Tq 1 σ) n 0 9 = nI n := vs.1.2.2.1
    have c3 := ct_staying v false (sv := 0) rfl (putSq 10 (sellN (Tq 1 σ) n) σ)
    rw [MSe (show putSq 10 (sellN (Tq 1 σ) n) σ 46 = flat (Tq 1 σ) from f46), stB_f v n (Nat.le_refl n)] at c3
    have e4 : sellN (Tq 1 σ) n 4 = Tq 1 σ 4 := sellN_row (by decide) (by decide) (by decide) n
    have ep : pl (sellN (Tq 1 σ) n) k = pl (Tq 1 σ) k := by unfold pl; rw [e4]
    have hfree := hb_free vs hk
    have hk4 : sellN (Tq 1 σ) n 4 k = nI (pl (Tq 1 σ) k) := by rw [e4]; exact (VTpl v hk8).1
    have p12 := (VTpl v hk8).2
    rw [ep] at hfree
    have cpm := ct_placesM v (stN (sellN (Tq 1 σ) n) n) (putSq 10 (sellN (Tq 1 σ) n) σ)
    rw [MSe (show putSq 10 (sellN (Tq 1 σ) n) σ 46 = flat (Tq 1 σ) from f46), show plN (Tq 1 σ) (stN (sellN (Tq 1 σ) n) n) n = plN (sellN (Tq 1 σ) n) (stN (sellN (Tq 1 σ) n) n) n from plN_cong (T := Tq 1 σ) (U := sellN (Tq 1 σ) n) e4.symm _ n] at cpm
    have zs := ZT_sell z1 n hn8
    generalize hU : sellN (Tq 1 σ) n = U at *
    have c2 := ct_stayers_10 (σ := putSq 10 U σ) hn8 hn'
    rw [show stN (Tq 10 (putSq 10 U σ)) n = stN U n from stN_cong (T := Tq 10 (putSq 10 U σ)) (U := U) rfl rfl rfl n] at c2
    have c4 := ct_placesOf_10 (σ := putSq 10 U σ) hn8 hn' (stN U n)
    rw [show plN (Tq 10 (putSq 10 U σ)) (stN U n) n = plN U (stN U n) n from plN_cong (T := Tq 10 (putSq 10 U σ)) (U := U) rfl (stN U n) n] at c4
    by_cases hh' : hb (stN U n) (nI k)
    · refine ⟨0, putSq 10 U σ, putSq 10 U σ, ?_, ?_, J_tr0 h zs⟩
      · refine Ct.of (by decide +kernel) zX4_passes (Nat.le_of_ble_eq_true rfl) (by decide) (fun X go => ?_)
        refine go.1 [] 100 _ _ _ _ ?_
        refine cl (isS v hs) ?_
        refine br_f (by decide) ?_
        refine cl (ct_become_10_1 z10 z1) ?_
        refine cl (c1) ?_
        refine cl (c2) ?_
        refine br_t hh' ?_
        exact And.intro rfl rfl
      · have ch := ct_has (stN U n) (nI k) (putSq 10 U σ)
        rw [if_pos hh'] at ch
        refine Ct.of (by decide +kernel) zX5_passes (Nat.le_of_ble_eq_true rfl) (by decide) (fun X go => ?_)
        refine go.1 [] 100 _ _ _ _ ?_
        refine cl (isSM v (σ := putSq 10 U σ) f46 hs) ?_
        refine br_f (by decide) ?_
        refine cl (c3) ?_
        refine cl (ch) ?_
        refine br_f (by decide) ?_
        exact And.intro rfl rfl
    · refine ⟨nI (far (pl (Tq 1 σ) k) (plN U (stN U n) n)) - 1, putSq 10 U σ, putSq 10 U σ, ?_, ?_, J_tr0 h zs⟩
      · refine Ct.of (by decide +kernel) zX4_passes (Nat.le_of_ble_eq_true rfl) (by decide) (fun X go => ?_)
        refine go.1 [] 100 _ _ _ _ ?_
        refine cl (isS v hs) ?_
        refine br_f (by decide) ?_
        refine cl (ct_become_10_1 z10 z1) ?_
        refine cl (c1) ?_
        refine cl (c2) ?_
        refine br_f hh' ?_
        refine Exists.intro (k) (And.intro ⟨rfl, by omega, by omega⟩ ?_)
        refine cl (c4) ?_
        refine cl (ct_stepsFrom_10 p12 hk4 _ _) ?_
        exact And.intro rfl rfl
      · have ch := ct_has (stN U n) (nI k) (putSq 10 U σ)
        rw [if_neg hh'] at ch
        have c5 := ct_its (w := 1) hk8 (by decide) (kv := nI k) rfl (wv := 1) rfl (putSq 10 U σ) (Tq 1 σ)
        rw [MSe (show putSq 10 U σ 46 = flat (Tq 1 σ) from f46)] at c5
        refine Ct.of (by decide +kernel) zX5_passes (Nat.le_of_ble_eq_true rfl) (by decide) (fun X go => ?_)
        refine go.1 [] 100 _ _ _ _ ?_
        refine cl (isSM v (σ := putSq 10 U σ) f46 hs) ?_
        refine br_f (by decide) ?_
        refine cl (c3) ?_
        refine cl (ch) ?_
        refine br_t (by decide) ?_
        refine cl (c5) ?_
        refine cl (cpm) ?_
        refine cl (ct_farFrom p12 (VTpl v hk8).1 (hfree hh') _) ?_
        exact And.intro rfl rfl
theorem P_ahead {σ : Sg} (h : J σ) (nv w : Int32) : Pair mX4_ahead mX5_ahead [.int nv, .int w] σ := by
  have f46 := J46 h
  obtain ⟨n, hh, v, h9⟩ := h.1
  have hn8 := v.1.1
  have z1 := h.2.1.1
  have z10 := h.2.1.2.1
  have z46 := J_z46 h
  have z48 := h.2.2.2.1.1
  have hst : (4 + σ 1 9).toInt = (n : Int) + 4 := by
    rw [show σ 1 9 = nI n from v.1.2.2.1, show (4 : Int32) + nI n = nI (4 + n) from nI_add 4 n, nI_toInt (by omega)]
    omega
  have hlt : ∀ z : Int32, bI z 0 ((n : Int) + 3) = true → ¬ 4 + σ 1 9 ≤ z := by
    intro z hz q
    have q := (i_le _ z).mp q
    rw [hst] at q
    have := (bI_t.mp hz).2
    omega
  have cin : ∀ σ1 : Sg, σ1 46 = flat (Tq 1 σ) → Ct mX5_in [.long w.toInt64, .long 0, .long (3 + σ1 46 1).toInt64] σ1 (Ex (some (.int (zb (bI w 0 ((n : Int) + 3))))) σ1) := by
    intro σ1 f
    have c := ct_inI w 0 (3 + σ1 46 1) (la := 0) (lb := (3 + σ1 46 1).toInt64) (by decide) rfl σ1
    have e : (3 + σ1 46 1).toInt = (n : Int) + 3 := by
      rw [f, show flat (Tq 1 σ) 1 = nI n from v.1.2.2.1, show (3 : Int32) + nI n = nI (3 + n) from nI_add 3 n, nI_toInt (by omega)]
      omega
    rw [e] at c
    exact c
  have F23 : ∀ (X : Kt) (rt : Rt), Go kX4_ahead rt X → X 23 [(0, .ref 0), (1, .int nv), (2, .int w)] [.int (zb (bI w 0 ((n : Int) + 3))), .ref 0] σ → X 0 [(0, .ref 0), (1, .int nv), (2, .int w)] [] σ := by
    intro X rt go hX
    refine go.1 [23] 40 _ _ _ _ ?_
    refine And.intro (fun (q : w < 0) => ?_) (fun (q : ¬ w < 0) => ?_)
    · rw [show bI w 0 ((n : Int) + 3) = false from bI_f.mpr (fun z => by have := (i_lt w 0).mp q; rw [show (0 : Int32).toInt = 0 from rfl] at this; omega)] at hX
      exact hX
    · have q : ¬ w.toInt < 0 := fun z => q ((i_lt w 0).mpr z)
      refine And.intro (fun (g : 4 + σ 1 9 ≤ w) => ?_) (fun (g : ¬ 4 + σ 1 9 ≤ w) => ?_)
      · have g := (i_le _ w).mp g
        rw [hst] at g
        rw [show bI w 0 ((n : Int) + 3) = false from bI_f.mpr (fun z => by omega)] at hX
        exact hX
      · have g : ¬ (n : Int) + 4 ≤ w.toInt := fun z => g ((i_le _ w).mpr (by rw [hst]; exact z))
        rw [show bI w 0 ((n : Int) + 3) = true from bI_t.mpr (by omega)] at hX
        exact hX
  have bad : (bI w 0 ((n : Int) + 3) && bI nv 0 96) = false → Pair mX4_ahead mX5_ahead [.int nv, .int w] σ := by
    intro hbad
    refine Pair_fd h 0 ?_ ?_
    · refine Ct.of (by decide +kernel) zX4_ahead (Nat.le_of_ble_eq_true rfl) (by decide) (fun X go => F23 X _ go ?_)
      refine go.1 [] 60 _ _ _ _ ?_
      refine cl (ah_bad h9 v.1.2.2.2 0 96 (by decide) (bI w 0 ((n : Int) + 3)) hbad) ?_
      refine br_f (by decide) ?_
      exact And.intro rfl rfl
    · refine Ct.of (by decide +kernel) zX5_ahead (Nat.le_of_ble_eq_true rfl) (by decide) (fun X go => ?_)
      refine go.1 [] 100 _ _ _ _ ?_
      cases hn : bI nv 0 96 with
      | false =>
        refine cl (isSpM hn _) ?_
        refine br_t (by decide) ?_
        refine cl (ct_finds (w := 0) (by decide) fd0 _) ?_
        exact And.intro rfl rfl
      | true =>
        rw [hn, Bool.and_true] at hbad
        have c := cin (tel σ 0) f46
        rw [hbad] at c
        refine cl (isSpM hn _) ?_
        refine br_f (by decide) ?_
        refine Exists.intro (1) (And.intro ⟨rfl, by omega, by omega⟩ ?_)
        refine cl (c) ?_
        refine br_t (by decide) ?_
        refine cl (ct_finds (w := 0) (by decide) fd0 _) ?_
        exact And.intro rfl rfl
  cases hw : bI w 0 ((n : Int) + 3) with
  | false => exact bad (by rw [hw]; rfl)
  | true =>
    cases hn : bI nv 0 96 with
    | false => exact bad (by rw [hn, Bool.and_false])
    | true =>
      obtain ⟨m, hm1, hm2, en⟩ := bI_n hn (by decide) (by decide)
      rw [hw] at F23 cin
      by_cases late : 999 < hh + m
      · refine Pair_fd h 4 ?_ ?_
        · refine Ct.of (by decide +kernel) zX4_ahead (Nat.le_of_ble_eq_true rfl) (by decide) (fun X go => F23 X _ go ?_)
          refine go.1 [] 60 _ _ _ _ ?_
          refine cl (ah_late h9 v.1.2.2.2 0 96 (by decide) hn en (by omega) late) ?_
          refine br_f (by decide) ?_
          exact And.intro rfl rfl
        · refine Ct.of (by decide +kernel) zX5_ahead (Nat.le_of_ble_eq_true rfl) (by decide) (fun X go => ?_)
          refine go.1 [] 100 _ _ _ _ ?_
          refine cl (isSpM hn _) ?_
          refine br_f (by decide) ?_
          refine Exists.intro (1) (And.intro ⟨rfl, by omega, by omega⟩ ?_)
          refine cl (cin (tel σ 4) f46) ?_
          refine br_f (by decide) ?_
          refine cl (tl h9 (σ := tel σ 4) f46 v.1.2.2.2 en (by omega) (decide_eq_true late)) ?_
          refine br_f (by decide) ?_
          refine cl (ct_finds (w := 4) (by decide) fd4 _) ?_
          exact And.intro rfl rfl
      · have vm := VT_hrs v m (by omega)
        have zm := ZT_hrs hn8 z1 m
        have c1 := ct_passHours_10 v (show hh + m ≤ 2000 by omega) en σ
        have c2 : Ct mX5_hoursGo [.ref 45, .int nv] (sv (putSq 10 (hrsT n (Tq 1 σ) m) σ)) (Ex (some (.int (hrsS n (Tq 1 σ) m))) (MS (sv (putSq 10 (hrsT n (Tq 1 σ) m) σ)) (hrsT n (Tq 1 σ) m))) := by
          have c := ct_hoursGo v (show hh + m ≤ 2000 by omega) en (sv (putSq 10 (hrsT n (Tq 1 σ) m) σ))
          rw [MSe (show sv (putSq 10 (hrsT n (Tq 1 σ) m) σ) 46 = flat (Tq 1 σ) from f46)] at c
          exact c
        generalize hU : hrsT n (Tq 1 σ) m = U at *
        generalize hS : hrsS n (Tq 1 σ) m = S at *
        have hn' : U 0 9 = nI n := vm.1.2.2.1
        have cbk := ct_bk (σ := putSq 10 U σ) z46 U
        have ok : ∀ r : Int32, (∀ X : Kt, Go kX4_ahead (Ex (some (.int r)) (putSq 10 U σ)) X → X 58 [(0, .ref 0), (1, .int nv), (2, .int w), (3, .int 0), (4, .int S)] [] (putSq 10 U σ)) → (∀ X : Kt, Go kX5_ahead (Ex (some (.int r)) (sv (putSq 10 U σ))) X → X 57 [(0, .ref 45), (1, .int nv), (2, .int w), (3, .int S)] [] (MS (sv (putSq 10 U σ)) U)) → Pair mX4_ahead mX5_ahead [.int nv, .int w] σ := by
          intro r hc hm
          refine ⟨r, putSq 10 U σ, sv (putSq 10 U σ), ?_, ?_, J_tr h zm⟩
          · refine Ct.of (by decide +kernel) zX4_ahead (Nat.le_of_ble_eq_true rfl) (by decide) (fun X go => F23 X _ go ?_)
            refine go.1 [58] 60 _ _ _ _ ?_
            refine cl (ah_ok h9 v.1.2.2.2 0 96 (by decide) hn en (by omega) late) ?_
            refine br_t (by decide) ?_
            refine cl (ct_become_10_1 z10 z1) ?_
            refine cl (c1) ?_
            exact hc X go
          · refine Ct.of (by decide +kernel) zX5_ahead (Nat.le_of_ble_eq_true rfl) (by decide) (fun X go => ?_)
            refine go.1 [57] 100 _ _ _ _ ?_
            refine cl (isSpM hn _) ?_
            refine br_f (by decide) ?_
            refine Exists.intro (1) (And.intro ⟨rfl, by omega, by omega⟩ ?_)
            refine cl (cin (putSq 10 U σ) f46) ?_
            refine br_f (by decide) ?_
            refine cl (tl h9 (σ := putSq 10 U σ) f46 v.1.2.2.2 en (by omega) (decide_eq_false late)) ?_
            refine br_t (by decide) ?_
            refine cl (ct_sv (σ := putSq 10 U σ) z46 z48) ?_
            refine cl (c2) ?_
            exact hm X go
        obtain ⟨b, hb1, hb2, ew⟩ := bI_n hw (by decide) (by omega)
        have hb : b = 0 ∨ b = 1 ∨ b = 2 ∨ b = 3 ∨ ∃ k, k < n ∧ b = 4 + k := by
          by_cases h4 : b < 4
          · omega
          · exact Or.inr (Or.inr (Or.inr (Or.inr ⟨b - 4, by omega, by omega⟩)))
        rcases hb with rfl | rfl | rfl | rfl | ⟨k, hk, rfl⟩
        · refine ok S (fun X go => ?_) (fun X go => ?_)
          · refine go.1 [] 40 _ _ _ _ ?_
            refine br_t ew ?_
            exact And.intro rfl rfl
          · refine go.1 [] 60 _ _ _ _ ?_
            refine br_t ew ?_
            refine cl cbk ?_
            exact And.intro rfl rfl
        · subst ew
          refine ok (stG (fun k => decide (U 5 k = 0)) n) (fun X go => ?_) (fun X go => ?_)
          · refine go.1 [] 40 _ _ _ _ ?_
            refine br_f (by decide) ?_
            refine br_t (by decide) ?_
            refine cl (ct_soldOut_10 (σ := putSq 10 U σ) hn8 hn') ?_
            exact And.intro rfl rfl
          · refine go.1 [] 60 _ _ _ _ ?_
            refine br_f (by decide) ?_
            refine br_t (by decide) ?_
            refine cl (ct_emptySet hn8 hn' (sv (putSq 10 U σ))) ?_
            refine cl (cbk) ?_
            exact And.intro rfl rfl
        · subst ew
          refine ok ((4095 : Int32) &&& (plN U ((1 : Int32) <<< (nI n &&& 31) - 1) n ^^^ (-1))) (fun X go => ?_) (fun X go => ?_)
          · have cf := ct_freePlaces_10 (σ := putSq 10 U σ) hn8 hn'
            rw [plN_cong (T := Tq 10 (putSq 10 U σ)) (U := U) rfl _ n] at cf
            refine go.1 [] 40 _ _ _ _ ?_
            refine br_f (by decide) ?_
            refine br_f (by decide) ?_
            refine br_t (by decide) ?_
            refine cl (cf) ?_
            exact And.intro rfl rfl
          · refine go.1 [] 60 _ _ _ _ ?_
            refine br_f (by decide) ?_
            refine br_f (by decide) ?_
            refine br_t (by decide) ?_
            refine cl (ct_everyPlace vm (sv (putSq 10 U σ))) ?_
            refine cl (cbk) ?_
            exact And.intro rfl rfl
        · subst ew
          refine ok (suG (U 6) n) (fun X go => ?_) (fun X go => ?_)
          · refine go.1 [] 40 _ _ _ _ ?_
            refine br_f (by decide) ?_
            refine br_f (by decide) ?_
            refine br_f (by decide) ?_
            refine br_t (by decide) ?_
            refine cl (ct_allCoin_10 (σ := putSq 10 U σ) hn8 hn') ?_
            exact And.intro rfl rfl
          · refine go.1 [] 60 _ _ _ _ ?_
            refine br_f (by decide) ?_
            refine br_f (by decide) ?_
            refine br_f (by decide) ?_
            refine br_t (by decide) ?_
            refine cl (ct_sumOf hn8 hn' (w := 3) (by decide) rfl (sv (putSq 10 U σ))) ?_
            refine cl (cbk) ?_
            exact And.intro rfl rfl
        · have hk8 : k < 8 := by omega
          have n4 : ∀ c : Nat, c < 4 → ¬ w = nI c := fun c hc q => by
            rw [ew] at q
            have := (nI_eq (by omega) (by omega)).mp q
            omega
          have e4 : w - 4 = nI k := by
            rw [ew]
            have := pk_sub (a := 4 + k) (b := 4) (by omega)
            rw [Nat.add_sub_cancel_left] at this
            exact this
          refine ok (U 4 k) (fun X go => ?_) (fun X go => ?_)
          · refine go.1 [] 40 _ _ _ _ ?_
            refine br_f (n4 0 (by decide)) ?_
            refine br_f (n4 1 (by decide)) ?_
            refine br_f (n4 2 (by decide)) ?_
            refine br_f (n4 3 (by decide)) ?_
            refine Exists.intro (k) (And.intro ⟨e4, by omega, by omega⟩ ?_)
            exact And.intro rfl rfl
          · refine go.1 [] 60 _ _ _ _ ?_
            refine br_f (n4 0 (by decide)) ?_
            refine br_f (n4 1 (by decide)) ?_
            refine br_f (n4 2 (by decide)) ?_
            refine br_f (n4 3 (by decide)) ?_
            refine cl (ct_its (w := 1) hk8 (by decide) e4 (wv := 1) rfl (sv (putSq 10 U σ)) U) ?_
            refine cl (cbk) ?_
            exact And.intro rfl rfl
