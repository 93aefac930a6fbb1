/-! THE REFERENCE's TAPE: 45: 8 how many bytes, 9 from, 10 to, 11 value, 12 isWrong; row 51 the bytes -/
def TBm (σ : Sg) (B : Nat → Nat) (m : Nat) : Prop := m ≤ 120 ∧ ∀ k, k < m → σ 51 k = nI (B k) ∧ B k < 256
def bA (B : Nat → Nat) (m k : Nat) : Int32 := if k < m then nI (B k) else -1
theorem ct_isLt (p : Int32) (σ : Sg) : Ct mX5_isLetter [.int p] σ (Ex (some (.int (zb (bI p 97 122)))) σ) := by
  refine Ct.of (by decide +kernel) zX5_isLetter (Nat.le_of_ble_eq_true rfl) (by decide) (fun X go => ?_)
  refine go.1 [] 20 _ _ _ _ ?_
  refine cl (ct_inI p 97 122 (by decide) (by decide) σ) ?_
  exact And.intro (zb_bz _) (And.intro rfl rfl)
theorem ct_isDg (p : Int32) (σ : Sg) : Ct mX5_isDigit [.int p] σ (Ex (some (.int (zb (bI p 48 57)))) σ) := by
  refine Ct.of (by decide +kernel) zX5_isDigit (Nat.le_of_ble_eq_true rfl) (by decide) (fun X go => ?_)
  refine go.1 [] 20 _ _ _ _ ?_
  refine cl (ct_inI p 48 57 (by decide) (by decide) σ) ?_
  exact And.intro (zb_bz _) (And.intro rfl rfl)
theorem bA_bI {B : Nat → Nat} {m k a b : Nat} (hB : k < m → B k < 256) (ha : 0 < a) : bI (bA B m k) a b = iB a b B m k := by
  unfold bA iB
  by_cases h : k < m
  · have := hB h
    rw [if_pos h, nI_bI (by omega), decide_eq_true h, Bool.true_and, ← Bool.decide_and]
    congr 1
    exact propext ⟨fun z => ⟨by omega, by omega⟩, fun z => ⟨by omega, by omega⟩⟩
  · rw [if_neg h, decide_eq_false h, Bool.false_and]
    exact bI_f.mpr (fun z => by rw [m1_toInt] at z; omega)
theorem ct_bA {B : Nat → Nat} {m k : Nat} {τ : Sg} (tb : TBm τ B m) (e8 : τ 45 8 = nI m) (hk : k < 1000) {kv : Int32} (ek : kv = nI k) : Ct mX5_byteAt [.ref 45, .int kv] τ (Ex (some (.int (bA B m k))) τ) := by
  subst ek
  have hm := tb.1
  refine Ct.of (by decide +kernel) zX5_byteAt (Nat.le_of_ble_eq_true rfl) (by decide) (fun X go => ?_)
  refine go.1 [] 20 _ _ _ _ ?_
  unfold bA
  by_cases h : k < m
  · refine br_f (show ¬ τ 45 8 ≤ nI k from by rw [e8]; exact nI_ge h (by omega)) ?_
    refine Exists.intro (k) (And.intro ⟨rfl, by omega, by omega⟩ ?_)
    refine And.intro ?_ rfl
    rw [if_pos h, (tb.2 k h).1]
  · refine br_t (show τ 45 8 ≤ nI k from by rw [e8]; exact nI_le (by omega) (by omega)) ?_
    refine And.intro ?_ rfl
    rw [if_neg h]
theorem isLt {B : Nat → Nat} {m k : Nat} {τ : Sg} (tb : TBm τ B m) : Ct mX5_isLetter [.int (bA B m k)] τ (Ex (some (.int (zb (ltr B m k)))) τ) := by
  have c := ct_isLt (bA B m k) τ
  rw [show bI (bA B m k) 97 122 = ltr B m k from bA_bI (a := 97) (b := 122) (fun h => (tb.2 k h).2) (by decide)] at c
  exact c
theorem isDg {B : Nat → Nat} {m k : Nat} {τ : Sg} (tb : TBm τ B m) : Ct mX5_isDigit [.int (bA B m k)] τ (Ex (some (.int (zb (dgt B m k)))) τ) := by
  have c := ct_isDg (bA B m k) τ
  rw [show bI (bA B m k) 48 57 = dgt B m k from bA_bI (a := 48) (b := 57) (fun h => (tb.2 k h).2) (by decide)] at c
  exact c
theorem bA_eq {B : Nat → Nat} {m k c : Nat} (hB : k < m → B k < 256) (hc : c < 256) : bA B m k = nI c ↔ k < m ∧ B k = c := by
  unfold bA
  by_cases h : k < m
  · have := hB h
    rw [if_pos h, nI_eq (by omega) (by omega)]
    exact ⟨fun z => ⟨h, z⟩, fun z => z.2⟩
  · rw [if_neg h]
    refine ⟨fun z => ?_, fun z => absurd z.1 h⟩
    have := congrArg Int32.toInt z
    rw [m1_toInt, nI_toInt (by omega)] at this
    omega
/-- the token that begins at f; wrong or not -/
def Q (B : Nat → Nat) (m : Nat) (r0 : Nat → Int32) (f : Nat) (w : Bool) (r : Nat → Int32) : Prop := r 8 = nI m ∧ r 9 = nI f ∧ r 10 = nI (tE B m f) ∧ r 12 = zb w ∧ ∀ j, j < 9 → r j = r0 j
theorem ct_token {B : Nat → Nat} {m e : Nat} {τ : Sg} (tb : TBm τ B m) (e8 : τ 45 8 = nI m) (e10 : τ 45 10 = nI e) (he : e ≤ m) : Ct mX5_token [.ref 45] τ (fun x σ' => x = none ∧ ∃ r, σ' = upr τ 45 r ∧ r 9 = nI (skp B m e) ∧ r 10 = nI (tE B m (skp B m e)) ∧ ∀ j, j ≠ 9 → j ≠ 10 → r j = τ 45 j) := by
  have hm := tb.1
  have hle := skp_le (B := B) he
  generalize hF : skp B m e = f at hle ⊢
  have tbg : ∀ g : Nat → Int32, TBm (upr τ 45 g) B m := fun g => tb
  refine Ct.of (by decide +kernel) zX5_token (Nat.le_of_ble_eq_true rfl) (by decide) (fun X go => ?_)
  refine go.1 [8] 40 _ _ _ _ ?_
  have fin : ∀ (v1 v2 : Int32) (g : Nat → Int32), g 9 = nI f → g 10 = nI (tE B m f) → (∀ j, j ≠ 9 → j ≠ 10 → g j = τ 45 j) → X 135 [(0, .ref 45), (1, .int v1), (2, .int v2)] [] (upr τ 45 g) := by
    intro v1 v2 g g9 g10 gj
    refine go.1 [] 10 _ _ _ _ ?_
    exact And.intro rfl ⟨g, rfl, g9, g10, gj⟩
  have LW : ∀ d e, e + d = m → firstN (fun j => !iB 97 122 B m j) d e = tE B m f → ∀ g : Nat → Int32, g 9 = nI f → g 10 = nI e → (∀ j, j ≠ 9 → j ≠ 10 → g j = τ 45 j) → X 86 [(0, .ref 45), (1, .int 1), (2, .int 0)] [] (upr τ 45 g) := by
    intro d
    induction d with
    | zero =>
      intro e hd hf g g9 g10 gj
      have hf : e = tE B m f := hf
      have g8 : g 8 = nI m := (gj 8 (by decide) (by decide)).trans e8
      refine go.1 [86, 135] 60 _ _ _ _ ?_
      refine br_f (by decide) ?_
      refine cl (ct_bA (tbg g) (show g 8 = nI m from g8) (k := e) (by omega) g10) ?_
      have cl1 := isLt (k := e) (tbg g)
      rw [show ltr B m e = false from iB_f.mpr (by omega)] at cl1
      refine cl cl1 ?_
      refine br_t (by decide) ?_
      refine br_t (by decide) ?_
      exact fin _ _ g g9 (by rw [g10, hf]) gj
    | succ d ih =>
      intro e hd hf g g9 g10 gj
      have g8 : g 8 = nI m := (gj 8 (by decide) (by decide)).trans e8
      refine go.1 [86, 135] 60 _ _ _ _ ?_
      refine br_f (by decide) ?_
      refine cl (ct_bA (tbg g) (show g 8 = nI m from g8) (k := e) (by omega) g10) ?_
      have cl1 := isLt (k := e) (tbg g)
      cases hb : iB 97 122 B m e with
      | false =>
        rw [firstN_h (by rw [hb]; rfl)] at hf
        rw [show ltr B m e = false from hb] at cl1
        refine cl cl1 ?_
        refine br_t (by decide) ?_
        refine br_t (by decide) ?_
        exact fin _ _ g g9 (by rw [g10, hf]) gj
      | true =>
        rw [firstN_s (by rw [hb]; rfl)] at hf
        rw [show ltr B m e = true from hb] at cl1
        refine cl cl1 ?_
        refine br_f (by decide) ?_
        refine And.intro ⟨rfl, rfl⟩ ?_
        have ihk := ih (e + 1) (by omega) hf (upd g 10 (g 10 + 1)) (by rw [upd_ne (by decide)]; exact g9) (by rw [upd_eq, g10, nI_succ]) (fun j h1 h2 => by rw [upd_ne h2]; exact gj j h1 h2)
        rw [← U2] at ihk
        exact ihk
  have LD : ∀ d e, e + d = m → firstN (fun j => !iB 48 57 B m j) d e = tE B m f → ∀ g : Nat → Int32, g 9 = nI f → g 10 = nI e → (∀ j, j ≠ 9 → j ≠ 10 → g j = τ 45 j) → X 86 [(0, .ref 45), (1, .int 0), (2, .int 1)] [] (upr τ 45 g) := by
    intro d
    induction d with
    | zero =>
      intro e hd hf g g9 g10 gj
      have hf : e = tE B m f := hf
      have g8 : g 8 = nI m := (gj 8 (by decide) (by decide)).trans e8
      refine go.1 [86, 135] 60 _ _ _ _ ?_
      refine br_t (by decide) ?_
      refine br_f (by decide) ?_
      refine cl (ct_bA (tbg g) (show g 8 = nI m from g8) (k := e) (by omega) g10) ?_
      have cl1 := isDg (k := e) (tbg g)
      rw [show dgt B m e = false from iB_f.mpr (by omega)] at cl1
      refine cl cl1 ?_
      refine br_t (by decide) ?_
      exact fin _ _ g g9 (by rw [g10, hf]) gj
    | succ d ih =>
      intro e hd hf g g9 g10 gj
      have g8 : g 8 = nI m := (gj 8 (by decide) (by decide)).trans e8
      refine go.1 [86, 135] 60 _ _ _ _ ?_
      refine br_t (by decide) ?_
      refine br_f (by decide) ?_
      refine cl (ct_bA (tbg g) (show g 8 = nI m from g8) (k := e) (by omega) g10) ?_
      have cl1 := isDg (k := e) (tbg g)
      cases hb : iB 48 57 B m e with
      | false =>
        rw [firstN_h (by rw [hb]; rfl)] at hf
        rw [show dgt B m e = false from hb] at cl1
        refine cl cl1 ?_
        refine br_t (by decide) ?_
        exact fin _ _ g g9 (by rw [g10, hf]) gj
      | true =>
        rw [firstN_s (by rw [hb]; rfl)] at hf
        rw [show dgt B m e = true from hb] at cl1
        refine cl cl1 ?_
        refine br_f (by decide) ?_
        refine And.intro ⟨rfl, rfl⟩ ?_
        have ihk := ih (e + 1) (by omega) hf (upd g 10 (g 10 + 1)) (by rw [upd_ne (by decide)]; exact g9) (by rw [upd_eq, g10, nI_succ]) (fun j h1 h2 => by rw [upd_ne h2]; exact gj j h1 h2)
        rw [← U2] at ihk
        exact ihk
  have E34 : ∀ g : Nat → Int32, g 9 = nI f → (∀ j, j ≠ 9 → j ≠ 10 → g j = τ 45 j) → X 34 [(0, .ref 45)] [] (upr τ 45 g) := by
    intro g g9 gj
    have g8 : g 8 = nI m := (gj 8 (by decide) (by decide)).trans e8
    have cb := ct_bA (τ := upr τ 45 g) (B := B) (tbg g) (show g 8 = nI m from g8) (k := f) (by omega) g9
    have c1 := isLt (k := f) (tbg g)
    have c2 := isDg (k := f) (tbg g)
    refine go.1 [86] 60 _ _ _ _ ?_
    refine cl cb ?_
    refine cl c1 ?_
    refine cl cb ?_
    refine cl c2 ?_
    by_cases hfm : f < m
    · refine br_f (show ¬ g 8 ≤ g 9 from by rw [g8, g9]; exact nI_ge hfm (by omega)) ?_
      refine And.intro ⟨rfl, rfl⟩ ?_
      have h9 : upd g 10 (g 9 + 1) 9 = nI f := by rw [upd_ne (by decide)]; exact g9
      have h10 : upd g 10 (g 9 + 1) 10 = nI (f + 1) := by rw [upd_eq, g9, nI_succ]
      have hj : ∀ j, j ≠ 9 → j ≠ 10 → upd g 10 (g 9 + 1) j = τ 45 j := fun j h1 h2 => by rw [upd_ne h2]; exact gj j h1 h2
      obtain ⟨d, hd⟩ : ∃ d, m - f = d + 1 := ⟨m - f - 1, by omega⟩
      cases hl : iB 97 122 B m f with
      | true =>
        have hE : firstN (fun j => !iB 97 122 B m j) d (f + 1) = tE B m f := by
          rw [tE_l hl, rnF, hd, firstN_s (by rw [hl]; rfl)]
        have x := LW d (f + 1) (by omega) hE _ h9 h10 hj
        rw [← U2] at x
        rw [show dgt B m f = false from iB_f.mpr (by rw [iB_t] at hl; omega)]
        rw [show ltr B m f = true from hl]
        exact x
      | false =>
        cases hg : iB 48 57 B m f with
        | true =>
          have hE : firstN (fun j => !iB 48 57 B m j) d (f + 1) = tE B m f := by
            rw [(tE_d hg).2, rnF, hd, firstN_s (by rw [hg]; rfl)]
          have x := LD d (f + 1) (by omega) hE _ h9 h10 hj
          rw [← U2] at x
          rw [show dgt B m f = true from hg]
          rw [show ltr B m f = false from hl]
          exact x
        | false =>
          have ht : tE B m f = f + 1 := by
            unfold tE
            rw [if_neg (by rw [show ltr B m f = false from hl]; decide), if_neg (by rw [show dgt B m f = false from hg]; decide), if_pos hfm]
          have x : X 86 [(0, .ref 45), (1, .int 0), (2, .int 0)] [] (upr τ 45 (upd g 10 (g 9 + 1))) := by
            refine go.1 [135] 20 _ _ _ _ ?_
            refine br_t (by decide) ?_
            refine br_t (by decide) ?_
            exact fin _ _ _ h9 (by rw [h10, ht]) hj
          rw [← U2] at x
          rw [show dgt B m f = false from hg]
          rw [show ltr B m f = false from hl]
          exact x
    · refine br_t (show g 8 ≤ g 9 from by rw [g8, g9]; exact nI_le (by omega) (by omega)) ?_
      refine And.intro ⟨rfl, rfl⟩ ?_
      have ht : tE B m f = f := by
        unfold tE
        rw [if_neg (by rw [iB_t]; omega), if_neg (by rw [iB_t]; omega), if_neg hfm]
      have x : X 86 [(0, .ref 45), (1, .int 0), (2, .int 0)] [] (upr τ 45 (upd g 10 (g 9))) := by
        refine go.1 [135] 20 _ _ _ _ ?_
        refine br_t (by decide) ?_
        refine br_t (by decide) ?_
        exact fin _ _ _ (by rw [upd_ne (by decide)]; exact g9) (by rw [upd_eq, ht]; exact g9) (fun j h1 h2 => by rw [upd_ne h2]; exact gj j h1 h2)
      rw [← U2] at x
      rw [show dgt B m f = false from iB_f.mpr (by omega)]
      rw [show ltr B m f = false from iB_f.mpr (by omega)]
      exact x
  have L : ∀ d b, b + d = m → firstN (fun j => !iB 32 32 B m j) d b = f → ∀ g : Nat → Int32, g 9 = nI b → (∀ j, j ≠ 9 → j ≠ 10 → g j = τ 45 j) → X 8 [(0, .ref 45)] [] (upr τ 45 g) := by
    intro d
    induction d with
    | zero =>
      intro b hb hf g g9 gj
      have hf : b = f := hf
      subst hf
      have g8 : g 8 = nI m := (gj 8 (by decide) (by decide)).trans e8
      refine go.1 [8, 34] 60 _ _ _ _ ?_
      refine cl (ct_bA (tbg g) (show g 8 = nI m from g8) (k := b) (by omega) g9) ?_
      refine br_f (show ¬ bA B m b = nI 32 from fun z => by have := (bA_eq (fun h => (tb.2 b h).2) (by decide)).mp z; omega) ?_
      exact E34 g g9 gj
    | succ d ih =>
      intro b hb hf g g9 gj
      have g8 : g 8 = nI m := (gj 8 (by decide) (by decide)).trans e8
      refine go.1 [8, 34] 60 _ _ _ _ ?_
      refine cl (ct_bA (tbg g) (show g 8 = nI m from g8) (k := b) (by omega) g9) ?_
      cases hq : iB 32 32 B m b with
      | false =>
        rw [firstN_h (by rw [hq]; rfl)] at hf
        subst hf
        rw [iB_f] at hq
        refine br_f (show ¬ bA B m b = nI 32 from fun z => by have := (bA_eq (fun h => (tb.2 b h).2) (by decide)).mp z; omega) ?_
        exact E34 g g9 gj
      | true =>
        rw [firstN_s (by rw [hq]; rfl)] at hf
        rw [iB_t] at hq
        refine br_t (show bA B m b = nI 32 from (bA_eq (fun h => (tb.2 b h).2) (by decide)).mpr (by omega)) ?_
        refine And.intro ⟨rfl, rfl⟩ ?_
        have ihk := ih (b + 1) (by omega) hf (upd g 9 (g 9 + 1)) (by rw [upd_eq, g9, nI_succ]) (fun j h1 h2 => by rw [upd_ne h1]; exact gj j h1 h2)
        rw [← U2] at ihk
        exact ihk
  refine And.intro ⟨rfl, rfl⟩ ?_
  exact L (m - e) e (by omega) hF (upd (τ 45) 9 (τ 45 10)) (by rw [upd_eq]; exact e10) (fun j h1 h2 => upd_ne h1)
abbrev RS (σ T : Sg) (r : Nat → Int32) : Sg := MS (upr σ 45 r) T
theorem RS_upr (σ T : Sg) (r g : Nat → Int32) : upr (RS σ T r) 45 g = RS σ T g := by
  funext i
  by_cases q : i = 45
  · subst q; rfl
  · rw [upr_out q]
    by_cases q2 : i = 46
    · subst q2; rfl
    · exact ((upr_out q2).trans (upr_out q)).trans ((upr_out q2).trans (upr_out q)).symm
theorem RS_2 (σ T : Sg) (r : Nat → Int32) (k : Nat) (x : Int32) : up2 (RS σ T r) 45 k x = RS σ T (upd r k x) := RS_upr σ T r (upd r k x)
theorem Qn {B : Nat → Nat} {m f : Nat} {r0 r r' : Nat → Int32} {w : Bool} (q : Q B m r0 f w r) {g : Nat} (h9 : r' 9 = nI g) (h10 : r' 10 = nI (tE B m g)) (hj : ∀ j, j ≠ 9 → j ≠ 10 → r' j = r j) : Q B m r0 g w r' := ⟨(hj 8 (by decide) (by decide)).trans q.1, h9, h10, (hj 12 (by decide) (by decide)).trans q.2.2.2.1, fun j h => (hj j (by omega) (by omega)).trans (q.2.2.2.2 j h)⟩
theorem Q12 {B : Nat → Nat} {m f : Nat} {r0 r : Nat → Int32} {w : Bool} (q : Q B m r0 f w r) (w' : Bool) {x : Int32} (hx : x = zb w') : Q B m r0 f w' (upd r 12 x) := ⟨(upd_ne (by decide)).trans q.1, (upd_ne (by decide)).trans q.2.1, (upd_ne (by decide)).trans q.2.2.1, by rw [upd_eq]; exact hx, fun j h => (upd_ne (by omega)).trans (q.2.2.2.2 j h)⟩
theorem Q11 {B : Nat → Nat} {m f : Nat} {r0 r : Nat → Int32} {w : Bool} (q : Q B m r0 f w r) (x : Int32) : Q B m r0 f w (upd r 11 x) := ⟨(upd_ne (by decide)).trans q.1, (upd_ne (by decide)).trans q.2.1, (upd_ne (by decide)).trans q.2.2.1, (upd_ne (by decide)).trans q.2.2.2.1, fun j h => (upd_ne (by omega)).trans (q.2.2.2.2 j h)⟩
/-- needs: on, or wrong from here on -/
def ndF (B : Nat → Nat) (m f : Nat) (w b : Bool) : Nat := bif !w && b then nx B m f else f
theorem ct_needs {B : Nat → Nat} {m : Nat} {σ : Sg} (tb : TBm σ B m) {T : Sg} {r0 r : Nat → Int32} {f : Nat} {w : Bool} (q : Q B m r0 f w r) (hf : f ≤ m) (b : Bool) {bv : Int32} (eb : bv = zb b) : Ct mX5_needs [.ref 45, .int bv] (RS σ T r) (fun x σ' => x = none ∧ ∃ r', σ' = RS σ T r' ∧ Q B m r0 (ndF B m f w b) (w || !b) r' ∧ r' 11 = r 11) := by
  subst eb
  refine Ct.of (by decide +kernel) zX5_needs (Nat.le_of_ble_eq_true rfl) (by decide) (fun X go => ?_)
  refine go.1 [17] 40 _ _ _ _ ?_
  have bad : X 17 [(0, .ref 45), (1, .int (zb b))] [.int 1, .ref 45] (RS σ T r) → True := fun _ => trivial
  have W : (w || !b) = true → X 17 [(0, .ref 45), (1, .int (zb b))] [.int 1, .ref 45] (RS σ T r) := by
    intro h
    refine go.1 [] 40 _ _ _ _ ?_
    refine And.intro ⟨rfl, rfl⟩ ?_
    refine br_f (show ¬ up2 (RS σ T r) 45 12 1 45 12 = 0 from by rw [up2_at]; decide) ?_
    rw [h]
    refine And.intro rfl ⟨upd r 12 1, RS_2 σ T r 12 1, ?_, upd_ne (by decide)⟩
    have hz : ndF B m f w b = f := by
      unfold ndF
      cases w <;> cases b <;> first | rfl | exact absurd h (by decide)
    rw [hz]
    exact Q12 q true rfl
  have e12 := q.2.2.2.1
  cases hw : w with
  | true =>
    rw [hw] at e12
    refine br_f (show ¬ r 12 = 0 from by rw [e12]; decide) ?_
    rw [hw] at W
    exact W rfl
  | false =>
    rw [hw] at e12
    refine br_t (show r 12 = 0 from e12) ?_
    cases hb : b with
    | false =>
      rw [hb, hw] at W
      refine br_t (by decide) ?_
      exact W rfl
    | true =>
      refine br_f (by decide) ?_
      have K : X 17 [(0, .ref 45), (1, .int 1)] [.int 0, .ref 45] (RS σ T r) := by
        refine go.1 [] 40 _ _ _ _ ?_
        refine And.intro ⟨rfl, rfl⟩ ?_
        refine br_t (show up2 (RS σ T r) 45 12 0 45 12 = 0 from up2_at _ _ _ _) ?_
        have q' := Q12 (x := 0) q false rfl
        have ct := ct_token (τ := RS σ T (upd r 12 0)) (B := B) (m := m) (e := tE B m f) tb q'.1 q'.2.2.1 (tE_le hf).2
        rw [← RS_2 σ T r 12 0] at ct
        refine clG ct (fun x τ hr => ?_)
        obtain ⟨rfl, r', rfl, a9, a10, aj⟩ := hr
        rw [hw, hb]
        refine And.intro rfl ⟨r', ?_, Qn q' a9 a10 (fun j h1 h2 => (aj j h1 h2).trans (show up2 (RS σ T r) 45 12 0 45 j = upd r 12 0 j from rfl)), (aj 11 (by decide) (by decide)).trans (show up2 (RS σ T r) 45 12 0 45 11 = r 11 from up2_ne (by decide))⟩
        rw [RS_2]
        exact RS_upr σ T _ r'
      exact K
