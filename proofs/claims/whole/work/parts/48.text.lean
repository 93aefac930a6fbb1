/-! ITEM, TEXT -/
theorem RS_46 (σ T : Sg) (r : Nat → Int32) (j : Nat) (x : Int32) : up2 (RS σ T r) 46 j x = upr (upr σ 45 r) 46 (upd (flat T) j x) := U2 (upr σ 45 r) 46 (flat T) j x
theorem RS_sh (σ T : Sg) (r : Nat → Int32) {p : Nat} (hp : p < 12) (x : Int32) : up2 (RS σ T r) 46 (16 + p) x = RS σ (upr T 2 (upd (T 2) p x)) r := by
  rw [RS_46, flat_upd_s hp]
theorem RS_sp (σ T : Sg) (r : Nat → Int32) (x : Int32) : up2 (RS σ T r) 46 2 x = RS σ (upr T 0 (upd (T 0) 8 x)) r := by
  rw [RS_46, flat_upd_f (Or.inl ⟨rfl, rfl⟩)]
theorem ct_item_w {B : Nat → Nat} {m : Nat} {σ : Sg} (tb : TBm σ B m) {T : Sg} {r0 r : Nat → Int32} {f : Nat} (q : Q B m r0 f true r) (hf : f ≤ m) : Ct mX5_item [.ref 45] (RS σ T r) (fun x σ' => x = none ∧ ∃ U r', σ' = RS σ U r' ∧ Q B m r0 f true r') := by
  refine Ct.of (by decide +kernel) zX5_item (Nat.le_of_ble_eq_true rfl) (by decide) (fun X go => ?_)
  refine go.1 [] 100 _ _ _ _ ?_
  refine cl (ct_kindHere tb q hf) ?_
  refine cl (ct_word tb q hf) ?_
  refine wb tb true (k := 12) (by decide) (by decide) (fun z => absurd z (by show ¬ false = true; decide)) (fun _ => ?_)
  refine br_t (show kdM B m f true < 0 from by show (-1 : Int32) < 0; decide) ?_
  refine cl (ct_word tb q hf) ?_
  refine wb tb true (k := 9) (by decide) (by decide) (fun z => absurd z (by show ¬ false = true; decide)) (fun _ => ?_)
  refine br_t (by decide) ?_
  refine cl (ct_word tb q hf) ?_
  refine wb tb true (k := 13) (by decide) (by decide) (fun z => absurd z (by show ¬ false = true; decide)) (fun _ => ?_)
  refine cl (ct_word tb q hf) ?_
  refine wb tb true (k := 14) (by decide) (by decide) (fun z => absurd z (by show ¬ false = true; decide)) (fun _ => ?_)
  refine clG (ct_needs tb q hf false rfl) (fun x τ hrr => ?_)
  obtain ⟨rfl, r1, rfl, q1, -⟩ := hrr
  have q1 : Q B m r0 f true r1 := q1
  refine cl (ct_number_w q1 0 11) ?_
  refine Exists.intro 2 (And.intro ⟨rfl, by decide, by decide⟩ ?_)
  exact And.intro rfl ⟨_, r1, RS_sp σ T r1 _, q1⟩
theorem ct_item {B : Nat → Nat} {m : Nat} {σ : Sg} (tb : TBm σ B m) {T : Sg} {n hh f : Nat} (v : VT n hh T) {r0 r : Nat → Int32} (q : Q B m r0 f false r) (hf : f ≤ m) : Ct mX5_item [.ref 45] (RS σ T r) (RJ σ B m r0 (itI B m T n f)) := by
  generalize hres : itI B m T n f = res
  refine Ct.of (by decide +kernel) zX5_item (Nat.le_of_ble_eq_true rfl) (by decide) (fun X go => ?_)
  refine go.1 [22] 100 _ _ _ _ ?_
  unfold itI at hres
  have H67 : ∀ (sh : Bool) (kd : Int32), f < m → shI B m T n f (zb sh) = res → X 67 [(0, .ref 45), (1, .int kd), (2, .int (zb sh))] [] (RS σ T r) := by
    intro sh kd hfm hres
    refine go.1 [] 60 _ _ _ _ ?_
    refine clG (ct_perhaps tb q hf (a := 0) (b := 11) (by decide) (by decide) rfl rfl _) (fun x τ hrr => ?_)
    obtain ⟨z, r1, rfl, rfl, q1, e1⟩ := hrr
    cases hn : isNm B m (nx B m f) 0 11 with
    | false =>
      rw [hn] at q1
      have q1 : Q B m r0 (nx B m f) true r1 := q1
      refine br_f (show ¬ r1 12 = 0 from by rw [q1.2.2.2.1]; decide) ?_
      have hr : (false, T, n, nx B m f) = res := by rw [← hres]; exact (bif_f hn).symm
      cases sh with
      | true =>
        refine br_f (by decide) ?_
        refine Exists.intro 16 (And.intro ⟨rfl, by decide, by decide⟩ ?_)
        have c := RS_sh σ T r1 (p := 0) (by decide) 1
        have d := RJ_f (σ := σ) (U := upr T 2 (upd (T 2) 0 1)) hr q1
        rw [← c] at d
        exact d
      | false =>
        refine br_t (by decide) ?_
        refine Exists.intro 16 (And.intro ⟨rfl, by decide, by decide⟩ ?_)
        have c := RS_sh σ T r1 (p := 0) (by decide) 0
        have d := RJ_f (σ := σ) (U := upr T 2 (upd (T 2) 0 0)) hr q1
        rw [← c] at d
        exact d
    | true =>
      rw [hn] at q1
      have q1 : Q B m r0 (nx B m (nx B m f)) false r1 := q1
      have e1 := e1 (isNm_t hn).1
      have v1 := (isNm_t hn).2.2
      have hr : (true, upr T 2 (upd (T 2) (val B m (nx B m f)) (zb sh)), n, nx B m (nx B m f)) = res := by rw [← hres]; exact (bif_t hn).symm
      refine br_t (show r1 12 = 0 from q1.2.2.2.1) ?_
      cases sh with
      | true =>
        refine br_f (by decide) ?_
        refine Exists.intro (16 + val B m (nx B m f)) (And.intro ⟨show nI 16 + z = _ by rw [e1, nI_add], by omega, by omega⟩ ?_)
        have c := RS_sh σ T r1 (p := val B m (nx B m f)) (by omega) 1
        have d := RJ_t (σ := σ) hr q1
        rw [show zb true = 1 from rfl, ← c] at d
        exact d
      | false =>
        refine br_t (by decide) ?_
        refine Exists.intro (16 + val B m (nx B m f)) (And.intro ⟨show nI 16 + z = _ by rw [e1, nI_add], by omega, by omega⟩ ?_)
        have c := RS_sh σ T r1 (p := val B m (nx B m f)) (by omega) 0
        have d := RJ_t (σ := σ) hr q1
        rw [show zb false = 0 from rfl, ← c] at d
        exact d
  have M22 : ∀ sh : Bool, iW B m f 12 = sh → X 22 [(0, .ref 45), (1, .int (kdM B m f false)), (2, .int (zb sh))] [] (RS σ T r) := by
    intro sh hsh
    refine go.1 [67] 90 _ _ _ _ ?_
    by_cases q0 : kdW B m f < 7
    · have hfm := iW_lt (kdW_lt q0)
      rw [bif_t (blt_t q0)] at hres
      have hk : kdM B m f false = nI (kdW B m f) := if_pos q0
      refine br_f (show ¬ kdM B m f false < 0 from by rw [hk]; exact nI_pos (by omega)) ?_
      refine clG (ct_stallItem tb v q hfm q0 hk) (fun x τ hrr => ?_)
      rw [hres] at hrr
      obtain ⟨rfl, rest⟩ := hrr
      exact And.intro rfl rest
    · rw [bif_f (blt_f q0)] at hres
      refine br_t (show kdM B m f false < 0 from by rw [show kdM B m f false = -1 from if_neg q0]; decide) ?_
      refine cl (ct_word tb q hf) ?_
      refine wb tb false (k := 9) (by decide) (by decide) (fun z => ?_) (fun z => ?_)
      · have z : iW B m f 9 = true := z
        rw [bif_t z] at hres
        refine clG (ct_visitsItem tb v q (iW_lt z)) (fun x τ hrr => ?_)
        rw [hres] at hrr
        obtain ⟨rfl, rest⟩ := hrr
        exact And.intro rfl rest
      · have z : iW B m f 9 = false := z
        rw [bif_f z] at hres
        cases hq : sh with
        | true =>
          have z2 : iW B m f 12 = true := hsh.trans hq
          rw [bif_t z2] at hres
          refine br_f (by decide) ?_
          exact H67 true _ (iW_lt z2) hres
        | false =>
          have z2 : iW B m f 12 = false := hsh.trans hq
          rw [bif_f z2] at hres
          refine br_t (by decide) ?_
          refine cl (ct_word tb q hf) ?_
          refine wb tb false (k := 13) (by decide) (by decide) (fun z => ?_) (fun z => ?_)
          · have z : iW B m f 13 = true := z
            rw [bif_t z] at hres
            exact H67 false _ (iW_lt z) hres
          · have z : iW B m f 13 = false := z
            rw [bif_f z] at hres
            refine cl (ct_word tb q hf) ?_
            refine wb tb false (k := 14) (by decide) (by decide) (fun z => ?_) (fun z => ?_)
            · have z : iW B m f 14 = true := z
              rw [bif_t z] at hres
              refine clG (ct_needs tb q hf true rfl) (fun x τ hrr => ?_)
              obtain ⟨rfl, r1, rfl, q1, -⟩ := hrr
              have q1 : Q B m r0 (nx B m f) false r1 := q1
              refine clG (ct_number tb q1 (nx_le hf).2 (a := 0) (b := 11) (by decide) (by decide) rfl rfl) (fun x τ hrr => ?_)
              obtain ⟨rfl, r2, rfl, q2, e2⟩ := hrr
              refine Exists.intro 2 (And.intro ⟨rfl, by decide, by decide⟩ ?_)
              have c := RS_sp σ T r2 (r2 11)
              cases hn : isNm B m (nx B m f) 0 11 with
              | false =>
                rw [hn] at q2
                have q2 : Q B m r0 (nx B m f) true r2 := q2
                have d := RJ_f (σ := σ) (res := res) (T := T) (n := n) (U := upr T 0 (upd (T 0) 8 (r2 11))) (by rw [← hres]; exact (bif_f hn).symm) q2
                rw [← c] at d
                exact d
              | true =>
                rw [hn] at q2
                have q2 : Q B m r0 (nx B m (nx B m f)) false r2 := q2
                have d := RJ_t (σ := σ) (res := res) (n := n) (T := upr T 0 (upd (T 0) 8 (r2 11))) (by rw [← hres, e2 (isNm_t hn).1]; exact (bif_t hn).symm) q2
                rw [← c] at d
                exact d
            · have z : iW B m f 14 = false := z
              rw [bif_f z] at hres
              refine clG (ct_needs tb q hf false rfl) (fun x τ hrr => ?_)
              obtain ⟨rfl, r1, rfl, q1, -⟩ := hrr
              have q1 : Q B m r0 f true r1 := q1
              refine cl (ct_number_w q1 0 11) ?_
              refine Exists.intro 2 (And.intro ⟨rfl, by decide, by decide⟩ ?_)
              have c := RS_sp σ T r1 (r1 11)
              have d := RJ_f (σ := σ) (U := upr T 0 (upd (T 0) 8 (r1 11))) hres q1
              rw [← c] at d
              exact d
  refine cl (ct_kindHere tb q hf) ?_
  refine cl (ct_word tb q hf) ?_
  refine wb tb false (k := 12) (by decide) (by decide) (fun z => ?_) (fun z => ?_)
  · exact M22 true z
  · exact M22 false z
def RTm (σ : Sg) (T0 : Sg) (res : Rsl) : Rt := fun x σ' => ((∀ i, i ≠ 45 → i ≠ 46 → i ≠ 48 → σ' i = σ i) ∧ (∀ j, j < 8 → σ' 45 j = σ 45 j) ∧ σ' 45 8 = 0 ∧ σ' 48 = flat T0) ∧ (res.1 = true → x = some (.int (nI res.2.2.2)) ∧ σ' 46 = flat res.2.1) ∧ (res.1 = false → x = some (.int (-1 - nI res.2.2.2)) ∧ σ' 46 = flat T0)
theorem ct_textM {B : Nat → Nat} {m : Nat} {σ : Sg} (tb : TBm σ B m) {T : Sg} {n hh : Nat} (v : VT n hh T) (z : ZT T) (f46 : σ 46 = flat T) (z48 : Zr 78 (σ 48)) (e8 : σ 45 8 = nI m) : Ct mX5_text [.ref 45] σ (RTm σ T (txI B m 120 1 T n (skp B m 0))) := by
  have hm := tb.1
  have z46 : Zr 78 (σ 46) := by rw [f46]; exact flat_z T
  generalize hres : txI B m 120 1 T n (skp B m 0) = res
  refine Ct.of (by decide +kernel) zX5_text (Nat.le_of_ble_eq_true rfl) (by decide) (fun X go => ?_)
  refine go.1 [24] 100 _ _ _ _ ?_
  have s45 : ∀ j, sv σ 45 j = σ 45 j := fun j => rfl
  have fin : ∀ (U : Sg) (r : Nat → Int32) (g : Nat) (w : Bool), Q B m (σ 45) g w r → (∀ i, i ≠ 45 → i ≠ 46 → i ≠ 48 → up2 (RS (sv σ) U r) 45 8 0 i = σ i) ∧ (∀ j, j < 8 → up2 (RS (sv σ) U r) 45 8 0 45 j = σ 45 j) := by
    intro U r g w q
    refine ⟨fun i h1 h2 h3 => ?_, fun j hj => ?_⟩
    · rw [RS_2]
      exact (upr_out h2).trans ((upr_out h1).trans (upr_out h3))
    · rw [up2_ne (by omega)]
      exact q.2.2.2.2 j (by omega)
  have AW : ∀ (U : Sg) (r : Nat → Int32) (g i : Nat), Q B m (σ 45) g true r → res.1 = false → res.2.2.2 = g → X 24 [(0, .ref 45), (1, .int (nI i))] [] (RS (sv σ) U r) := by
    intro U r g i q h1 h2
    obtain ⟨a1, a2⟩ := fin U r g true q
    refine go.1 [] 60 _ _ _ _ ?_
    refine br_f (show ¬ r 12 = 0 from by rw [q.2.2.2.1]; decide) ?_
    refine And.intro ⟨rfl, rfl⟩ ?_
    refine br_f (show ¬ r 12 = 0 from by rw [q.2.2.2.1]; decide) ?_
    refine cl (ct_putsBack (σ := up2 (RS (sv σ) U r) 45 8 0) (show Zr 78 (σ 46) from z46) (show Zr 78 (flat U) from flat_z U)) ?_
    refine And.intro ⟨fun i h1 h2 h3 => (upr_out h2).trans (a1 i h1 h2 h3), fun j hj => a2 j hj, up2_at (RS (sv σ) U r) 45 8 0, ?_⟩ (And.intro (fun h => ?_) (fun _ => And.intro ?_ ?_))
    · show σ 46 = _
      exact f46
    · rw [h1] at h; exact absurd h (by decide)
    · show some (Value.int (-1 - r 9)) = _
      rw [q.2.1, h2]
    · show σ 46 = _
      exact f46
  have K : ∀ d i (T1 : Sg) (n1 f : Nat) (U : Sg) (r : Nat → Int32), i + (d + 1) = 121 → 1 ≤ i → 2 * (i - 1) ≤ f → f ≤ m → VT n1 hh T1 → ZT T1 → txI B m (d + 1) i T1 n1 f = res → Q B m (σ 45) (itI B m T1 n1 f).2.2.2 (!(itI B m T1 n1 f).1) r → ((itI B m T1 n1 f).1 = true → U = (itI B m T1 n1 f).2.1) → X 24 [(0, .ref 45), (1, .int (nI i))] [] (RS (sv σ) U r) := by
    intro d
    induction d with
    | zero =>
      intro i T1 n1 f U r hi hi1 hs hf v1 z1 hres q hU
      omega
    | succ d ih =>
      intro i T1 n1 f U r hi hi1 hs hf v1 z1 hres q hU
      unfold txI at hres
      have gd := it_good (B := B) (m := m) (f := f) v1 z1
      cases hb : (itI B m T1 n1 f).1 with
      | false =>
        rw [bif_f hb] at hres
        rw [hb] at q
        exact AW U r _ i q (by rw [← hres]) (by rw [← hres])
      | true =>
        rw [bif_t hb] at hres
        rw [hb] at q
        obtain ⟨v2, z2, h1, h2⟩ := gd hb
        have hU := hU hb
        subst hU
        generalize hg : (itI B m T1 n1 f).2.2.2 = g at *
        generalize hT2 : (itI B m T1 n1 f).2.1 = T2 at *
        generalize hn2 : (itI B m T1 n1 f).2.2.1 = n2 at *
        have q : Q B m (σ 45) g false r := q
        refine go.1 [24] 90 _ _ _ _ ?_
        refine br_t (show r 12 = 0 from q.2.2.2.1) ?_
        by_cases hgm : g < m
        · rw [bif_t (blt_t hgm)] at hres
          refine br_f (show ¬ r 8 ≤ r 9 from by rw [q.1, q.2.1]; exact nI_ge hgm (by omega)) ?_
          refine cl (ct_bA (τ := RS (sv σ) T2 r) (B := B) tb (show r 8 = nI m from q.1) (k := g) (by omega) q.2.1) ?_
          by_cases q2 : B g = 59
          · rw [bif_t (show Nat.beq (B g) 59 = true from by rw [q2]; rfl)] at hres
            have gt := nx_gt (B := B) hgm
            refine br_t (show bA B m g = nI 59 from (bA_eq (fun h => (tb.2 g h).2) (by decide)).mpr ⟨hgm, q2⟩) ?_
            refine clG (ct_needs (σ := sv σ) tb q (by omega) true rfl) (fun x τ hrr => ?_)
            obtain ⟨rfl, r1, rfl, q1, -⟩ := hrr
            have q1 : Q B m (σ 45) (nx B m g) false r1 := q1
            refine clG (ct_item (σ := sv σ) tb v2 q1 gt.2) (fun x τ hrr => ?_)
            obtain ⟨rfl, U3, r3, rfl, q3, hU3⟩ := hrr
            have ihk := ih (i + 1) T2 n2 (nx B m g) U3 r3 (by omega) (by omega) (by omega) gt.2 v2 z2 hres q3 hU3
            rw [nI_succ i] at ihk
            exact ihk
          · rw [bif_f (show Nat.beq (B g) 59 = false from by cases w : Nat.beq (B g) 59 with
              | false => rfl
              | true => exact absurd (Nat.eq_of_beq_eq_true w) q2)] at hres
            refine br_f (show ¬ bA B m g = nI 59 from fun z => q2 ((bA_eq (fun h => (tb.2 g h).2) (by decide)).mp z).2) ?_
            refine clG (ct_needs (σ := sv σ) tb q (by omega) false rfl) (fun x τ hrr => ?_)
            obtain ⟨rfl, r1, rfl, q1, -⟩ := hrr
            have q1 : Q B m (σ 45) g true r1 := q1
            refine clG (ct_item_w (σ := sv σ) tb q1 (by omega)) (fun x τ hrr => ?_)
            obtain ⟨rfl, U3, r3, rfl, q3⟩ := hrr
            have a := AW U3 r3 g (i + 1) q3 (by rw [← hres]) (by rw [← hres])
            rw [nI_succ i] at a
            exact a
        · rw [bif_f (blt_f hgm)] at hres
          obtain ⟨a1, a2⟩ := fin T2 r g false q
          refine br_t (show r 8 ≤ r 9 from by rw [q.1, q.2.1]; exact nI_le (by omega) (by omega)) ?_
          refine And.intro ⟨rfl, rfl⟩ ?_
          refine br_t (show r 12 = 0 from q.2.2.2.1) ?_
          subst hres
          refine And.intro ⟨a1, a2, up2_at _ _ _ _, ?_⟩ (And.intro (fun _ => And.intro rfl ?_) (fun h => absurd h (by show ¬ true = false; decide)))
          · show σ 46 = _
            exact f46
          · rfl
  refine cl (ct_sv z46 z48) ?_
  refine And.intro ⟨rfl, rfl⟩ ?_
  refine And.intro ⟨rfl, rfl⟩ ?_
  have e0 : up2 (up2 (sv σ) 45 10 0) 45 12 0 = RS (sv σ) T (upd (upd (σ 45) 10 0) 12 0) := by
    have h1 : sv σ = RS (sv σ) T (σ 45) := by
      show sv σ = upr (upr (sv σ) 45 (sv σ 45)) 46 (flat T)
      rw [upr_self, ← f46]
      exact (upr_self (sv σ) 46).symm
    rw [show up2 (up2 (sv σ) 45 10 0) 45 12 0 = up2 (up2 (RS (sv σ) T (σ 45)) 45 10 0) 45 12 0 from by rw [← h1], RS_2, RS_2]
  generalize hr1 : upd (upd (σ 45) 10 0) 12 0 = r1 at e0
  have a8 : r1 8 = nI m := by rw [← hr1, upd_ne (by decide), upd_ne (by decide)]; exact e8
  have a10 : r1 10 = nI 0 := by rw [← hr1, upd_ne (by decide), upd_eq]; rfl
  have a12 : r1 12 = 0 := by rw [← hr1, upd_eq]
  have aj : ∀ j, j < 9 → r1 j = σ 45 j := fun j hj => by rw [← hr1, upd_ne (by omega), upd_ne (by omega)]
  have ct := ct_token (τ := RS (sv σ) T r1) (B := B) (m := m) (e := 0) tb a8 a10 (by omega)
  rw [← e0] at ct
  refine clG ct (fun x τ hrr => ?_)
  obtain ⟨rfl, r2, rfl, b9, b10, bj⟩ := hrr
  rw [e0] at bj
  have q2 : Q B m (σ 45) (skp B m 0) false r2 := ⟨(bj 8 (by decide) (by decide)).trans a8, b9, b10, (bj 12 (by decide) (by decide)).trans a12, fun j hj => (bj j (by omega) (by omega)).trans (aj j hj)⟩
  have e2 : upr (up2 (up2 (sv σ) 45 10 0) 45 12 0) 45 r2 = RS (sv σ) T r2 := by rw [e0]; exact RS_upr (sv σ) T r1 r2
  have ci := ct_item (σ := sv σ) tb v q2 (skp_le (by omega)).2
  rw [← e2] at ci
  refine clG ci (fun x τ hrr => ?_)
  obtain ⟨rfl, U3, r3, rfl, q3, hU3⟩ := hrr
  exact K 119 1 T n (skp B m 0) U3 r3 (by omega) (by omega) (by omega) (skp_le (by omega)).2 v z hres q3 hU3
theorem it_le {B : Nat → Nat} {m n f : Nat} {T : Sg} (hf : f ≤ m) : (itI B m T n f).2.2.2 ≤ m := by
  have f1 := (nx_le (B := B) hf).2
  have f2 := (nx_le (B := B) f1).2
  have f3 := (nx_le (B := B) f2).2
  have f4 := (nx_le (B := B) f3).2
  have f5 := (nx_le (B := B) f4).2
  have C : ∀ a b g, g ≤ m → (viC B m T n a b g).2.2.2 ≤ m := by
    intro a b g hg
    have g1 := (nx_le (B := B) hg).2
    have g2 := (nx_le (B := B) g1).2
    unfold viC
    exact bif_c (P := fun r : Rsl => r.2.2.2 ≤ m) (fun _ => bif_c (P := fun r : Rsl => r.2.2.2 ≤ m) (fun _ => g2) (fun _ => g1)) (fun _ => hg)
  have P : ∀ r : Rsl, r.2.2.2 ≤ m → r.2.2.2 ≤ m := fun _ h => h
  unfold itI
  refine bif_c (P := fun r : Rsl => r.2.2.2 ≤ m) (fun _ => ?_) (fun _ => ?_)
  · unfold stI
    refine bif_c (P := fun r : Rsl => r.2.2.2 ≤ m) (fun _ => ?_) (fun _ => hf)
    unfold stA
    refine bif_c (P := fun r : Rsl => r.2.2.2 ≤ m) (fun _ => ?_) (fun _ => f1)
    unfold stB'
    refine bif_c (P := fun r : Rsl => r.2.2.2 ≤ m) (fun _ => ?_) (fun _ => f2)
    unfold stC
    exact bif_c (P := fun r : Rsl => r.2.2.2 ≤ m) (fun _ => bif_c (P := fun r : Rsl => r.2.2.2 ≤ m) (fun _ => f5) (fun _ => f4)) (fun _ => f3)
  refine bif_c (P := fun r : Rsl => r.2.2.2 ≤ m) (fun _ => ?_) (fun _ => ?_)
  · unfold viI
    refine bif_c (P := fun r : Rsl => r.2.2.2 ≤ m) (fun _ => ?_) (fun _ => f1)
    unfold viB
    exact bif_c (P := fun r : Rsl => r.2.2.2 ≤ m) (fun _ => bif_c (P := fun r : Rsl => r.2.2.2 ≤ m) (fun _ => C _ _ _ f4) (fun _ => f3)) (fun _ => C _ _ _ f2)
  refine bif_c (P := fun r : Rsl => r.2.2.2 ≤ m) (fun _ => ?_) (fun _ => ?_)
  · unfold shI
    exact bif_c (P := fun r : Rsl => r.2.2.2 ≤ m) (fun _ => f2) (fun _ => f1)
  refine bif_c (P := fun r : Rsl => r.2.2.2 ≤ m) (fun _ => ?_) (fun _ => ?_)
  · unfold shI
    exact bif_c (P := fun r : Rsl => r.2.2.2 ≤ m) (fun _ => f2) (fun _ => f1)
  refine bif_c (P := fun r : Rsl => r.2.2.2 ≤ m) (fun _ => ?_) (fun _ => hf)
  unfold spI
  exact bif_c (P := fun r : Rsl => r.2.2.2 ≤ m) (fun _ => f2) (fun _ => f1)
/-- what is told of a text is small; the square behind it can be -/
theorem tx_ok {B : Nat → Nat} {m hh : Nat} : ∀ d i (T : Sg) (n f : Nat), f ≤ m → VT n hh T → ZT T → ((txI B m d i T n f).1 = true → (txI B m d i T n f).2.2.2 ≤ i + d ∧ VT (txI B m d i T n f).2.2.1 hh (txI B m d i T n f).2.1 ∧ ZT (txI B m d i T n f).2.1) ∧ ((txI B m d i T n f).1 = false → (txI B m d i T n f).2.2.2 ≤ m)
  | 0, i, T, n, f, hf, v, z => ⟨fun h => absurd h (by show ¬ false = true; decide), fun _ => hf⟩
  | d + 1, i, T, n, f, hf, v, z => by
    have gd := it_good (B := B) (m := m) (f := f) v z
    have le := it_le (B := B) (m := m) (n := n) (T := T) hf
    unfold txI
    refine bif_c (P := fun r : Rsl => (r.1 = true → r.2.2.2 ≤ i + (d + 1) ∧ VT r.2.2.1 hh r.2.1 ∧ ZT r.2.1) ∧ (r.1 = false → r.2.2.2 ≤ m)) (fun hb => ?_) (fun _ => ⟨fun h => absurd h (by show ¬ false = true; decide), fun _ => le⟩)
    obtain ⟨v2, z2, h1, h2⟩ := gd hb
    refine bif_c (P := fun r : Rsl => (r.1 = true → r.2.2.2 ≤ i + (d + 1) ∧ VT r.2.2.1 hh r.2.1 ∧ ZT r.2.1) ∧ (r.1 = false → r.2.2.2 ≤ m)) (fun hg => ?_) (fun _ => ⟨fun _ => ⟨by show i ≤ i + (d + 1); omega, v2, z2⟩, fun h => absurd h (by show ¬ true = false; decide)⟩)
    refine bif_c (P := fun r : Rsl => (r.1 = true → r.2.2.2 ≤ i + (d + 1) ∧ VT r.2.2.1 hh r.2.1 ∧ ZT r.2.1) ∧ (r.1 = false → r.2.2.2 ≤ m)) (fun hs => ?_) (fun _ => ⟨fun h => absurd h (by show ¬ false = true; decide), fun _ => le⟩)
    obtain ⟨p1, p2⟩ := tx_ok d (i + 1) (itI B m T n f).2.1 (itI B m T n f).2.2.1 (nx B m (itI B m T n f).2.2.2) (nx_le le).2 v2 z2
    exact ⟨fun h => ⟨by have := (p1 h).1; omega, (p1 h).2⟩, p2⟩
theorem neg1 : ∀ f, f < 121 → (-1 : Int32) - nI f < 0 := by decide +kernel
/-- the square as it is behind a text -/
def txT (T : Sg) (res : Rsl) : Sg := bif res.1 then res.2.1 else T
def txA (res : Rsl) : Int32 := bif res.1 then nI res.2.2.2 else -1 - nI res.2.2.2
theorem ctc_text {B : Nat → Nat} {m : Nat} {σ : Sg} (tb : TB σ B m) {n hh : Nat} (v : VT n hh (Tq 1 σ)) (z : ZT (Tq 1 σ)) (z10 : ZT (Tq 10 σ)) (e1 : σ 32 1 = nI m) : Ct mX4_text [.ref 0] σ (fun x σ' => x = some (.int (txA (txI B m 120 1 (Tq 1 σ) n (skp B m 0)))) ∧ (∀ i, 19 ≤ i → i ≠ 32 → σ' i = σ i) ∧ σ' 0 = σ 0 ∧ σ' 32 1 = 0 ∧ ZT (Tq 10 σ') ∧ ∀ j, j < 9 → Tq 1 σ' j = txT (Tq 1 σ) (txI B m 120 1 (Tq 1 σ) n (skp B m 0)) j) := by
  have hm := tb.1
  have ok := tx_ok (B := B) (m := m) 120 1 (Tq 1 σ) n (skp B m 0) (skp_le (by omega)).2 v z
  have ct := ct_readText tb v z (r := σ 32) e1
  generalize hres : txI B m 120 1 (Tq 1 σ) n (skp B m 0) = res at ok ct ⊢
  have es : CS σ (Tq 1 σ) (σ 32) = putSq 10 (Tq 1 σ) σ := by
    show putSq 10 (Tq 1 σ) (upr σ 32 (σ 32)) = _
    rw [upr_self]
  rw [es] at ct
  refine Ct.of (by decide +kernel) zX4_text (Nat.le_of_ble_eq_true rfl) (by decide) (fun X go => ?_)
  refine go.1 [] 100 _ _ _ _ ?_
  refine cl (ct_become_10_1 z10 z) ?_
  refine clG ct (fun x τ hr => ?_)
  have out : ∀ (U : Sg) (r : Nat → Int32), (∀ i, 19 ≤ i → i ≠ 32 → up2 (CS σ U r) 32 1 0 i = σ i) ∧ up2 (CS σ U r) 32 1 0 0 = σ 0 ∧ up2 (CS σ U r) 32 1 0 32 1 = 0 := fun U r => ⟨fun i h1 h2 => (upr_out h2).trans ((putSq_out (by omega)).trans (upr_out h2)), rfl, up2_at _ _ _ _⟩
  cases hb : res.1 with
  | true =>
    obtain ⟨rfl, r, rfl, a1, zz⟩ := hr.1 hb
    obtain ⟨hi, v2, z2⟩ := ok.1 hb
    obtain ⟨o1, o2, o3⟩ := out res.2.1 r
    refine And.intro ⟨rfl, rfl⟩ ?_
    refine br_f (show ¬ nI res.2.2.2 < 0 from nI_pos (by omega)) ?_
    have tq : ∀ j, j < 9 → Tq 10 (up2 (CS σ res.2.1 r) 32 1 0) j = res.2.1 j := fun j hj => (upr_out (show 10 + j ≠ 32 by omega)).trans (putSq_in (by omega))
    have t1 : ∀ j, j < 9 → Tq 1 (up2 (CS σ res.2.1 r) 32 1 0) j = Tq 1 σ j := fun j hj => (upr_out (show 1 + j ≠ 32 by omega)).trans ((putSq_out (by omega)).trans (upr_out (by omega)))
    refine cl (ct_become_1_10 (ZT_cong (fun j hj => (t1 j hj).symm) z) (ZT_cong (fun j hj => (tq j hj).symm) z2)) ?_
    refine And.intro ?_ ⟨fun i h1 h2 => (putSq_out (by omega)).trans (o1 i h1 h2), (putSq_out (by omega)).trans o2, ?_, ?_, fun j hj => ?_⟩
    · unfold txA; rw [hb]; rfl
    · exact o3
    · exact ZT_cong (fun j hj => ((putSq_out (o := 1) (i := 10 + j) (by omega)).trans (tq j hj)).symm) z2
    · unfold txT
      rw [hb]
      exact (putSq_in (by omega)).trans (tq j hj)
  | false =>
    obtain ⟨rfl, U, r, rfl, zU, a1⟩ := hr.2 hb
    have hi := ok.2 hb
    obtain ⟨o1, o2, o3⟩ := out U r
    refine And.intro ⟨rfl, rfl⟩ ?_
    refine br_t (show (-1 : Int32) - nI res.2.2.2 < 0 from neg1 _ (by omega)) ?_
    have tq : ∀ j, j < 9 → Tq 10 (up2 (CS σ U r) 32 1 0) j = U j := fun j hj => (upr_out (show 10 + j ≠ 32 by omega)).trans (putSq_in (by omega))
    have t1 : ∀ j, j < 9 → Tq 1 (up2 (CS σ U r) 32 1 0) j = Tq 1 σ j := fun j hj => (upr_out (show 1 + j ≠ 32 by omega)).trans ((putSq_out (by omega)).trans (upr_out (by omega)))
    refine And.intro ?_ ⟨o1, o2, o3, ZT_cong (fun j hj => (tq j hj).symm) zU, fun j hj => ?_⟩
    · unfold txA; rw [hb]; rfl
    · unfold txT
      rw [hb]
      exact t1 j hj
theorem P_text {σ : Sg} (h : J σ) : PairG mX4_text mX5_text [] σ := by
  have f46 := J46 h
  obtain ⟨n, hh, v, h9⟩ := h.1
  have z1 := h.2.1.1
  have z10 := h.2.1.2.1
  have z48 := h.2.2.2.1.1
  obtain ⟨m, hm, e1, e8, hb⟩ := J_tp h
  obtain ⟨B, hB⟩ : ∃ B : Nat → Nat, B = fun k => (σ 33 k).toNatClampNeg := ⟨_, rfl⟩
  have hbk : ∀ k, k < m → σ 33 k = nI (B k) ∧ σ 51 k = nI (B k) ∧ B k < 256 := fun k hk => by
    obtain ⟨b, b1, b2, b3⟩ := hb k hk
    have : B k = b := by
      rw [hB]
      show (σ 33 k).toNatClampNeg = b
      rw [b2]
      exact nI_clamp (by omega)
    rw [this]
    exact ⟨b2, b3, b1⟩
  have tb : TB σ B m := ⟨hm, fun k hk => ⟨(hbk k hk).1, (hbk k hk).2.2⟩⟩
  have ok := tx_ok (B := B) (m := m) 120 1 (Tq 1 σ) n (skp B m 0) (skp_le (by omega)).2 v z1
  have c1 := ctc_text tb v z1 z10 e1
  have c2 := fun (τ : Sg) (tbm : TBm τ B m) (f : τ 46 = flat (Tq 1 σ)) (z : Zr 78 (τ 48)) (e : τ 45 8 = nI m) => ct_textM tbm v z1 f z e
  generalize hres : txI B m 120 1 (Tq 1 σ) n (skp B m 0) = res at ok c1 c2
  refine ⟨txA res, _, c1, fun x σ1 hr => ⟨hr.1, ?_⟩⟩
  obtain ⟨-, o, o0, o32, oz, ot⟩ := hr
  refine ⟨_, c2 σ1 ⟨hm, fun k hk => ⟨by rw [o 51 (by decide) (by decide)]; exact (hbk k hk).2.1, (hbk k hk).2.2⟩⟩ (by rw [o 46 (by decide) (by decide)]; exact f46) (by rw [o 48 (by decide) (by decide)]; exact z48) (by rw [o 45 (by decide) (by decide)]; exact e8), fun y σ2 hr2 => ?_⟩
  obtain ⟨⟨p1, p2, p3, p4⟩, pt, pf⟩ := hr2
  have key : y = some (.int (txA res)) ∧ σ2 46 = flat (txT (Tq 1 σ) res) ∧ (∃ n h, VT n h (txT (Tq 1 σ) res) ∧ h ≤ 999) ∧ ZT (txT (Tq 1 σ) res) := by
    unfold txA txT
    cases hb : res.1 with
    | true => exact ⟨(pt hb).1, (pt hb).2, ⟨_, _, (ok.1 hb).2.1, h9⟩, (ok.1 hb).2.2⟩
    | false => exact ⟨(pf hb).1, (pf hb).2, ⟨_, _, v, h9⟩, z1⟩
  obtain ⟨k1, k2, ⟨n', h', k3, k3'⟩, k4⟩ := key
  refine ⟨k1, ?_⟩
  have s2 : ∀ i, i ≠ 45 → i ≠ 46 → i ≠ 48 → 19 ≤ i → i ≠ 32 → σ2 i = σ i := fun i a b c d e => (p1 i a b c).trans (o i d e)
  have t1 : ∀ j, j < 9 → txT (Tq 1 σ) res j = Tq 1 σ2 j := fun j hj => ((p1 (1 + j) (by omega) (by omega) (by omega)).trans (ot j hj)).symm
  have t10 : ∀ j, j < 9 → Tq 10 σ1 j = Tq 10 σ2 j := fun j hj => (p1 (10 + j) (by omega) (by omega) (by omega)).symm
  have t19 : ∀ j, j < 9 → Tq 19 σ j = Tq 19 σ2 j := fun j hj => (s2 (19 + j) (by omega) (by omega) (by omega) (by omega) (by omega)).symm
  refine ⟨⟨n', h', VT_cong t1 k3, k3'⟩, ⟨ZT_cong t1 k4, ZT_cong t10 oz, ZT_cong t19 h.2.1.2.2⟩, ?_, ⟨?_, ?_⟩, ?_, ?_, ⟨0, by decide, ?_, ?_, fun k hk => absurd hk (by omega)⟩, ?_⟩
  · rw [k2]; exact flat_cong t1
  · rw [p4]; exact flat_z _
  · rw [s2 47 (by decide) (by decide) (by decide) (by decide) (by decide)]; exact h.2.2.2.1.2
  · exact Jkp_cong (by rw [p1 0 (by decide) (by decide) (by decide), o0]) (by rw [p2 4 (by decide), o 45 (by decide) (by decide)]) (fun i h1 h2 => s2 i (by omega) (by omega) (by omega) (by omega) (by omega)) (s2 47 (by decide) (by decide) (by decide) (by decide) (by decide)) (J_kp h)
  · intro k hk
    rw [s2 44 (by decide) (by decide) (by decide) (by decide) (by decide), s2 49 (by decide) (by decide) (by decide) (by decide) (by decide)]
    exact J_st h k hk
  · rw [p1 32 (by decide) (by decide) (by decide)]; exact o32
  · exact p3
  · intro s hs
    exact Jsh_cong (fun i h1 h2 => s2 i (by omega) (by omega) (by omega) (by omega) (by omega)) (s2 52 (by decide) (by decide) (by decide) (by decide) (by decide)) (s2 53 (by decide) (by decide) (by decide) (by decide) (by decide)) (s2 54 (by decide) (by decide) (by decide) (by decide) (by decide)) hs (J_sh h s hs)
