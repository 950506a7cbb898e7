-- deps: 37 38 39 50
/-! ===== the class: things ===== -/
def gDu (D : Nat → Nat) (o k : Nat) : Nat → Nat := fun i => if i = o then k else D i
def gxu (x : Nat → Nat → Int32) (o : Nat) (f : Nat → Int32) : Nat → Nat → Int32 := fun i => if i = o then f else x i
def gzu (z : Nat → Nat) (o v : Nat) : Nat → Nat := fun i => if i = o then v else z i
def gthn (g k s e : Int32) : Nat → Int32 := fun j => if j = 8 then -1 else if j = 4 then 0 else if j = 3 then e else if j = 2 then s else if j = 1 then k else if j = 0 then g else 0
def cTs (q : Nat → Nat → Option Nat) (D : Nat → Nat) (N : Nat) (o : Nat → Nat) : Prop := (∀ t, t < N → q 1 t = some (o t) ∧ gisT D (o t)) ∧ ∀ t, t < N → ∀ t', o t' = o t → t' = t
theorem gDu_s {D : Nat → Nat} {o k : Nat} : gDu D o k o = k := if_pos rfl
section GC1
variable {w a : Nat → Nat → Int32} {b : Nat → Nat → Int64} {r : Nat → Nat → Nat} {q : Nat → Nat → Option Nat} {y : gH} {n u : Nat} {d : Nat}
variable {D : Nat → Nat} {x : Nat → Nat → Int32} {z : Nat → Nat}
theorem r_newT {k pc : Nat} {L : gL} {st : List Value} {Q : Option Value → gS → Prop} {row : gR} (hk : gMT[k]? = some row) {idx len ps : Nat} {w0 : Value} (hq : glook row.2.2.2.2 pc = some (.new idx, len, [7, ps], w0)) (h84 : 84 ≤ n) (hn : n < 1000000) (h : gX d k (pc + 3) L (.ref n :: st) (n + 1, u + 9, HP w a b r q (gY (gDu D n 1) (gxu x n (fun _ => 0)) z y)) Q) : gX d k pc L st (n, u, HP w a b r q (gY D x z y)) Q := by
  refine r_new hk hq rfl hn ?_
  have e : gset (HP w a b r q (gY D x z y)) n (.inr (7, gdv 7 9)) = HP w a b r q (gY (gDu D n 1) (gxu x n (fun _ => 0)) z y) := by
    rw [HP_y h84, gY_new (k := 1) (f := fun _ => 0) (v := z n) (by rfl)]
    have ez : (fun i => if i = n then z n else z i) = z := by funext i; split <;> simp_all
    rw [ez]; rfl
  show gX d k (pc + 3) L (.ref n :: st) (n + 1, u + 9, gset (HP w a b r q (gY D x z y)) n (.inr (7, gdv 7 9))) Q
  rw [e]; exact h
theorem c_within (d : Nat) (S : gS) (v : Int32) (M : Nat) (hM : M < 2 ^ 31) : gE d 9 [.int v, .int (nI M)] S (gbo (gin v M) S) := by
  have hk : gMT[9]? = some gro_9 := rfl
  refine r_in hk [some (.int v), some (.int (nI M))] (Nat.le_of_ble_eq_true rfl) rfl ?_
  iterate 2 refine r_step hk rfl rfl rfl ?_
  refine r_lt (fun h1 => ?_) (fun h1 => ?_)
  · refine r_step hk rfl rfl rfl ?_
    refine r_iret hk rfl (Or.inl rfl) ?_
    first | exact gbo_t (gin_of (by assumption) (by assumption) hM) | exact gbo_f (gin_lt (by assumption) hM) | exact gbo_f (gin_ge (by assumption) hM)
  · iterate 3 refine r_step hk rfl rfl rfl ?_
    refine r_ge (fun h6 => ?_) (fun h6 => ?_)
    · refine r_step hk rfl rfl rfl ?_
      refine r_iret hk rfl (Or.inl rfl) ?_
      first | exact gbo_t (gin_of (by assumption) (by assumption) hM) | exact gbo_f (gin_lt (by assumption) hM) | exact gbo_f (gin_ge (by assumption) hM)
    · iterate 2 refine r_step hk rfl rfl rfl ?_
      refine r_iret hk rfl (Or.inr rfl) ?_
      first | exact gbo_t (gin_of (by assumption) (by assumption) hM) | exact gbo_f (gin_lt (by assumption) hM) | exact gbo_f (gin_ge (by assumption) hM)
theorem c_liesOnShelf (hd : 1 ≤ d) {N : Nat} {o : Nat → Nat} (hN : w 0 1 = nI N) (hN1 : N ≤ 100) (hT : cTs q D N o) (v : Int32) : gE d 56 [.ref 0, .int v] (n, u, HP w a b r q (gY D x z y)) (gbo (∃ t, t < N ∧ v = nI t ∧ x (o t) 4 = 1) (n, u, HP w a b r q (gY D x z y))) := by
  have hk : gMT[56]? = some gro_56 := rfl
  refine r_in hk [some (.ref 0), some (.int v)] (Nat.le_of_ble_eq_true rfl) rfl ?_
  iterate 3 refine r_step hk rfl rfl rfl ?_
  refine r_callS hk [.int v, .int (w 0 1)] [] rfl rfl rfl rfl rfl hd (by rw [hN]; exact c_within _ _ _ _ (by omega)) ?_
  rintro _ _ ⟨⟨⟨t, ht, rfl⟩, rfl⟩ | ⟨hs, rfl⟩, rfl⟩
  · refine r_step hk rfl rfl rfl ?_
    refine r_eq (fun hq9 => absurd hq9 (by decide)) (fun _ => ?_)
    iterate 3 refine r_step hk rfl rfl rfl ?_
    refine r_qa hk (t) (o t) rfl rfl rfl (by omega) rfl (hT.1 t ht).1 ?_
    refine r_getT hk rfl (hT.1 t ht).2 rfl ?_
    iterate 2 refine r_step hk rfl rfl rfl ?_
    refine r_ne (fun h21 => ?_) (fun h21 => ?_)
    · refine r_step hk rfl rfl rfl ?_
      refine r_iret hk rfl (Or.inl rfl) ?_
      first | exact gbo_t ⟨t, ht, rfl, by assumption⟩ | exact gbo_f (fun ⟨t2, h2, e2, h3⟩ => h21 (by rw [nI_inj e2 (by omega) (by omega)]; exact h3)) | exact gbo_f (fun ⟨t, ht, e, _⟩ => hs ⟨t, ht, e⟩)
    · iterate 2 refine r_step hk rfl rfl rfl ?_
      refine r_iret hk rfl (Or.inr rfl) ?_
      first | exact gbo_t ⟨t, ht, rfl, by assumption⟩ | exact gbo_f (fun ⟨t2, h2, e2, h3⟩ => h21 (by rw [nI_inj e2 (by omega) (by omega)]; exact h3)) | exact gbo_f (fun ⟨t, ht, e, _⟩ => hs ⟨t, ht, e⟩)
  · refine r_step hk rfl rfl rfl ?_
    refine r_eq (fun _ => ?_) (fun hq9 => absurd (by decide) hq9)
    refine r_step hk rfl rfl rfl ?_
    refine r_iret hk rfl (Or.inl rfl) ?_
    first | exact gbo_t ⟨t, ht, rfl, by assumption⟩ | exact gbo_f (fun ⟨t2, h2, e2, h3⟩ => h21 (by rw [nI_inj e2 (by omega) (by omega)]; exact h3)) | exact gbo_f (fun ⟨t, ht, e, _⟩ => hs ⟨t, ht, e⟩)
theorem c_seasonNow {T : Nat} (hT : w 0 16 = nI T) (hT1 : T < 1000) : gE d 41 [.ref 0] (n, u, HP w a b r q y) (gre (nI (T / 13 % 4)) (n, u, HP w a b r q y)) := by
  have hk : gMT[41]? = some gro_41 := rfl
  refine r_in hk [some (.ref 0)] (Nat.le_of_ble_eq_true rfl) rfl ?_
  have e1 : w 0 16 / 13 = nI (T / 13) := by rw [hT]; exact pk_div (d := 13) (by omega) (by decide) (by decide)
  iterate 3 refine r_step hk rfl rfl rfl ?_
  refine r_div hk rfl (by decide) ?_
  refine r_step hk rfl rfl rfl ?_
  refine r_rem hk rfl (by decide) ?_
  refine r_iret hk rfl trivial ?_
  refine ⟨congrArg (fun z => some (Value.int z)) ?_, rfl⟩
  show w 0 16 / 13 - w 0 16 / 13 / 4 * 4 = _
  rw [e1]
  exact pk_rem (d := 4) (by omega) (by decide) (by decide)
theorem c_hasRoom {s : Nat} (hs : s < 5) : gE d 45 [.ref (4 + 3 * s)] (n, u, HP w a b r q y) (gbo (w (4 + 3 * s) 1 < w (4 + 3 * s) 0) (n, u, HP w a b r q y)) := by
  have hk : gMT[45]? = some gro_45 := rfl
  refine r_in hk [some (.ref (4 + 3 * s))] (Nat.le_of_ble_eq_true rfl) rfl ?_
  refine r_step hk rfl rfl rfl ?_
  refine r_getSh hk rfl hs rfl ?_
  refine r_step hk rfl rfl rfl ?_
  refine r_getSh hk rfl hs rfl ?_
  refine r_step hk rfl rfl rfl ?_
  refine r_ge (fun h8 => ?_) (fun h8 => ?_)
  · refine r_step hk rfl rfl rfl ?_
    refine r_iret hk rfl (Or.inl rfl) ?_
    first | exact gbo_t (Int32.not_le.mp h8) | exact gbo_f (Int32.not_lt.mpr h8)
  · iterate 2 refine r_step hk rfl rfl rfl ?_
    refine r_iret hk rfl (Or.inr rfl) ?_
    first | exact gbo_t (Int32.not_le.mp h8) | exact gbo_f (Int32.not_lt.mpr h8)
theorem c_firstShopWithRoom (hd : 1 ≤ d) : gE d 54 [.ref 0] (n, u, HP w a b r q y) (fun v S' => S' = (n, u, HP w a b r q y) ∧
    ((∃ s, s < 5 ∧ v = some (.int (nI s)) ∧ w (4 + 3 * s) 1 < w (4 + 3 * s) 0 ∧ ∀ s', s' < s → ¬ w (4 + 3 * s') 1 < w (4 + 3 * s') 0) ∨ ((∀ s', s' < 5 → ¬ w (4 + 3 * s') 1 < w (4 + 3 * s') 0) ∧ v = some (.int 0)))) := by
  have hk : gMT[54]? = some gro_54 := rfl
  refine r_inQ hk [some (.ref 0), none] (Nat.le_of_ble_eq_true rfl) rfl ?_
  intro Q hQ
  have loop : ∀ s, s ≤ 5 → ∀ z : Int32, z = nI s → (∀ s', s' < s → ¬ w (4 + 3 * s') 1 < w (4 + 3 * s') 0) → gX d 54 2 [some (.ref 0), some (.int z)] [] (n, u, HP w a b r q y) Q := by
    refine g_down ?_ ?_
    · intro z hz hall
      iterate 3 refine r_step hk rfl rfl rfl ?_
      refine r_ge (fun _ => ?_) (fun hq9 => absurd (show (5 : Int32) ≤ z by rw [hz]; decide) hq9)
      refine r_step hk rfl rfl rfl ?_
      refine r_iret hk rfl trivial ?_
      exact hQ _ _ ⟨rfl, Or.inr ⟨hall, rfl⟩⟩
    · intro s hs ih z hz hall
      subst hz
      iterate 3 refine r_step hk rfl rfl rfl ?_
      refine r_ge (fun hq9 => absurd hq9 (show ¬ (5 : Int32) ≤ nI s by exact nI_ge (b := 5) hs (by decide))) (fun _ => ?_)
      iterate 3 refine r_step hk rfl rfl rfl ?_
      refine r_qa hk (s) (4 + 3 * s) rfl rfl rfl hs rfl (gshops_at hs) ?_
      refine r_callV hk [.ref (4 + 3 * s)] [] rfl rfl rfl rfl rfl rfl (grcv_sh hs _) (by omega) (c_hasRoom hs) ?_
      rintro _ _ ⟨⟨hr, rfl⟩ | ⟨hr, rfl⟩, rfl⟩
      · refine r_step hk rfl rfl rfl ?_
        refine r_eq (fun hq9 => absurd hq9 (by decide)) (fun _ => ?_)
        refine r_step hk rfl rfl rfl ?_
        refine r_iret hk rfl trivial ?_
        exact hQ _ _ ⟨rfl, Or.inl ⟨s, hs, rfl, hr, hall⟩⟩
      · refine r_step hk rfl rfl rfl ?_
        refine r_eq (fun _ => ?_) (fun hq9 => absurd (by decide) hq9)
        iterate 2 refine r_step hk rfl rfl rfl ?_
        exact ih _ (nI_1 s) (fun s' h' => if e : s' = s then by rw [e]; exact hr else hall s' (by omega))
  iterate 2 refine r_step hk rfl rfl rfl ?_
  exact loop 0 (by omega) _ rfl (fun _ h => absurd h (by omega))
theorem c_comeOnShelf {s o : Nat} (ho : gisT D o) (hs : s < 5) (v : Int32) : gE d 46 [.ref 0, .ref o, .int (nI s), .int v] (n, u, HP w a b r q (gY D x z y)) (fun v' S' => v' = none ∧ S' = (n, u, HP (upd2 w (4 + 3 * s) 1 (w (4 + 3 * s) 1 + 1)) a b r q (gY D (upd2 (upd2 (upd2 x o 4 1) o 5 (nI s)) o 6 v) z y))) := by
  have hk : gMT[46]? = some gro_46 := rfl
  refine r_in hk [some (.ref 0), some (.ref o), some (.int (nI s)), some (.int v)] (Nat.le_of_ble_eq_true rfl) rfl ?_
  iterate 2 refine r_step hk rfl rfl rfl ?_
  refine r_putT hk rfl ho rfl ?_
  iterate 2 refine r_step hk rfl rfl rfl ?_
  refine r_putT hk rfl ho rfl ?_
  iterate 2 refine r_step hk rfl rfl rfl ?_
  refine r_putT hk rfl ho rfl ?_
  iterate 3 refine r_step hk rfl rfl rfl ?_
  refine r_qa hk (s) (4 + 3 * s) rfl rfl rfl hs rfl (gshops_at hs) ?_
  refine r_step hk rfl rfl rfl ?_
  refine r_getSh hk rfl hs rfl ?_
  iterate 2 refine r_step hk rfl rfl rfl ?_
  refine r_putSh hk rfl hs rfl ?_
  refine r_ret hk rfl rfl ?_
  exact ⟨rfl, rfl⟩
theorem c_leaveShelf {s o : Nat} (ho : gisT D o) (hs : s < 5) (hso : x o 5 = nI s) (v : Int32) : gE d 52 [.ref 0, .ref o, .int v] (n, u, HP w a b r q (gY D x z y)) (fun v' S' => v' = none ∧ S' = (n, u, HP (upd2 w (4 + 3 * s) 1 (w (4 + 3 * s) 1 - 1)) a b r q (gY D (upd2 x o 4 v) z y))) := by
  have hk : gMT[52]? = some gro_52 := rfl
  refine r_in hk [some (.ref 0), some (.ref o), some (.int v)] (Nat.le_of_ble_eq_true rfl) rfl ?_
  iterate 3 refine r_step hk rfl rfl rfl ?_
  refine r_getT hk rfl ho rfl ?_
  refine r_qa hk (s) (4 + 3 * s) rfl rfl hso hs rfl (gshops_at hs) ?_
  refine r_step hk rfl rfl rfl ?_
  refine r_getSh hk rfl hs rfl ?_
  iterate 2 refine r_step hk rfl rfl rfl ?_
  refine r_putSh hk rfl hs rfl ?_
  iterate 2 refine r_step hk rfl rfl rfl ?_
  refine r_putT hk rfl ho rfl ?_
  refine r_ret hk rfl rfl ?_
  exact ⟨rfl, rfl⟩
theorem c_objInit {k pc : Nat} {L : gL} {st : List Value} {S : gS} {Q : Option Value → gS → Prop} {row : gR} (hk : gMT[k]? = some row) (hd : 10 ≤ d) {i : Instr} {len : Nat} {ax : List Nat} {w0 : Value} {o : Nat} (hq : glook row.2.2.2.2 pc = some (i, len, 1000 :: 1 :: ax, w0)) (hc : gcls i = 3) (hcat : Nat.ble (gcat st) 8 = true) (h : gX d k (pc + 3) L st S Q) : gX d k pc L (.ref o :: st) S Q :=
  r_bi hk [.ref o] st (v1 := none) hq hc rfl rfl rfl (Nat.ble_eq.mp hcat) hd ⟨rfl, Or.inl ⟨rfl, ⟨o, rfl⟩, rfl⟩⟩ h
theorem c_Thing (hd : 10 ≤ d) {o : Nat} (ho : gisT D o) (g k s e : Int32) (hx : x o = fun _ => 0) : gE d 10 [.ref o, .int g, .int k, .int s, .int e] (n, u, HP w a b r q (gY D x z y)) (fun v' S' => v' = none ∧ S' = (n, u, HP w a b r q (gY D (gxu x o (gthn g k s e)) z y))) := by
  have hk : gMT[10]? = some gro_10 := rfl
  refine r_in hk [some (.ref o), some (.int g), some (.int k), some (.int s), some (.int e)] (Nat.le_of_ble_eq_true rfl) rfl ?_
  have ex : upd2 (upd2 (upd2 (upd2 (upd2 (upd2 x o 0 g) o 1 k) o 2 s) o 3 e) o 4 0) o 8 (-1) = gxu x o (gthn g k s e) := by
    funext i j
    by_cases hi : i = o
    · subst hi; simp [upd2, gxu, gthn, hx]
    · simp [upd2, gxu, hi]
  refine r_step hk rfl rfl rfl ?_
  refine c_objInit hk hd rfl rfl rfl ?_
  iterate 2 refine r_step hk rfl rfl rfl ?_
  refine r_putT hk rfl ho rfl ?_
  iterate 2 refine r_step hk rfl rfl rfl ?_
  refine r_putT hk rfl ho rfl ?_
  iterate 2 refine r_step hk rfl rfl rfl ?_
  refine r_putT hk rfl ho rfl ?_
  iterate 2 refine r_step hk rfl rfl rfl ?_
  refine r_putT hk rfl ho rfl ?_
  iterate 2 refine r_step hk rfl rfl rfl ?_
  refine r_putT hk rfl ho rfl ?_
  iterate 2 refine r_step hk rfl rfl rfl ?_
  refine r_putT hk rfl ho rfl ?_
  refine r_ret hk rfl rfl ?_
  rw [ex]
  exact ⟨rfl, rfl⟩
theorem c_give (hd : 11 ≤ d) {N : Nat} (hN : w 0 1 = nI N) (hN1 : N ≤ 100) (h84 : 84 ≤ n) (hn : n < 1000000) (x1 x2 x3 x4 : Int32) : gE d 8 [.ref 0, .int x1, .int x2, .int x3, .int x4] (n, u, HP w a b r q (gY D x z y)) (fun v S' =>
    (∃ j1 j2 j3 j4, j1 < 20 ∧ j2 < 8 ∧ j3 < 10 ∧ j4 < 5 ∧ N < 100 ∧ x1 = nI j1 ∧ x2 = nI j2 ∧ x3 = nI j3 ∧ x4 = nI j4 ∧ v = some (.int (nI N)) ∧ S' = (n + 1, u + 9, HP (upd2 w 0 1 (nI (N + 1))) a b r (upd2 q 1 N (some n)) (gY (gDu D n 1) (gxu x n (gthn x1 x2 x3 x4)) z y)))
    ∨ (¬ (gin x1 20 ∧ gin x2 8 ∧ gin x3 10 ∧ gin x4 5 ∧ N < 100) ∧ v = some (.int (-1)) ∧ S' = (n, u, HP w a b r q (gY D x z y)))) := by
  have hk : gMT[8]? = some gro_8 := rfl
  refine r_in hk [some (.ref 0), some (.int x1), some (.int x2), some (.int x3), some (.int x4), none] (Nat.le_of_ble_eq_true rfl) rfl ?_
  have e100 : w 0 1 < 100 ↔ N < 100 := by rw [hN]; exact nI_ltI (a := N) (b := 100) (by omega) (by omega)
  have e1 : w 0 1 + 1 = nI (N + 1) := by rw [hN]; exact nI_1 N
  have e2 : w 0 1 + 1 - 1 = nI N := by rw [e1]; exact nI_pred N
  have ex : gxu (gxu x n (fun _ => 0)) n (gthn x1 x2 x3 x4) = gxu x n (gthn x1 x2 x3 x4) := by
    funext i; by_cases hi : i = n <;> simp [gxu, hi]
  iterate 2 refine r_step hk rfl rfl rfl ?_
  refine r_callS hk [.int x1, .int 20] [] rfl rfl rfl rfl rfl (by omega) (c_within _ _ x1 20 (by decide)) ?_
  rintro _ _ ⟨⟨⟨j1, hj1, rfl⟩, rfl⟩ | ⟨hs, rfl⟩, rfl⟩
  · refine r_step hk rfl rfl rfl ?_
    refine r_eq (fun hq9 => absurd hq9 (by decide)) (fun _ => ?_)
    iterate 2 refine r_step hk rfl rfl rfl ?_
    refine r_callS hk [.int x2, .int 8] [] rfl rfl rfl rfl rfl (by omega) (c_within _ _ x2 8 (by decide)) ?_
    rintro _ _ ⟨⟨⟨j2, hj2, rfl⟩, rfl⟩ | ⟨hs, rfl⟩, rfl⟩
    · refine r_step hk rfl rfl rfl ?_
      refine r_eq (fun hq9 => absurd hq9 (by decide)) (fun _ => ?_)
      iterate 2 refine r_step hk rfl rfl rfl ?_
      refine r_callS hk [.int x3, .int 10] [] rfl rfl rfl rfl rfl (by omega) (c_within _ _ x3 10 (by decide)) ?_
      rintro _ _ ⟨⟨⟨j3, hj3, rfl⟩, rfl⟩ | ⟨hs, rfl⟩, rfl⟩
      · refine r_step hk rfl rfl rfl ?_
        refine r_eq (fun hq9 => absurd hq9 (by decide)) (fun _ => ?_)
        iterate 2 refine r_step hk rfl rfl rfl ?_
        refine r_callS hk [.int x4, .int 5] [] rfl rfl rfl rfl rfl (by omega) (c_within _ _ x4 5 (by decide)) ?_
        rintro _ _ ⟨⟨⟨j4, hj4, rfl⟩, rfl⟩ | ⟨hs, rfl⟩, rfl⟩
        · refine r_step hk rfl rfl rfl ?_
          refine r_eq (fun hq9 => absurd hq9 (by decide)) (fun _ => ?_)
          iterate 5 refine r_step hk rfl rfl rfl ?_
          refine r_eq (fun hq9 => absurd hq9 (by decide)) (fun _ => ?_)
          iterate 4 refine r_step hk rfl rfl rfl ?_
          refine r_lt (fun h54 => ?_) (fun h54 => ?_)
          · iterate 4 refine r_step hk rfl rfl rfl ?_
            refine r_newT hk rfl h84 hn ?_
            iterate 5 refine r_step hk rfl rfl rfl ?_
            refine r_callI hk n [.int _, .int _, .int _, .int _] [.ref n, .int (w 0 1), .ref 1] rfl rfl rfl rfl rfl (by omega) (c_Thing (by omega) ⟨h84, gDu_s⟩ _ _ _ _ (by simp [gxu])) ?_
            rintro _ _ ⟨rfl, rfl⟩
            rw [ex]
            refine r_qs hk N rfl rfl (by show HP w a b r q (gY (gDu D n 1) (gxu x n (gthn (nI j1) (nI j2) (nI j3) (nI j4))) z y) n = _; rw [HP_dyn h84, gY_T gDu_s]; rfl) rfl rfl hN (by have := e100.mp h54; omega) rfl ?_
            iterate 5 refine r_step hk rfl rfl rfl ?_
            refine r_putI hk rfl rfl rfl rfl ?_
            iterate 4 refine r_step hk rfl rfl rfl ?_
            refine r_iret hk rfl trivial ?_
            exact Or.inl ⟨j1, j2, j3, j4, hj1, hj2, hj3, hj4, e100.mp h54, rfl, rfl, rfl, rfl, congrArg (fun z => some (Value.int z)) e2, by rw [← e1]⟩
          · refine r_step hk rfl rfl rfl ?_
            refine r_iret hk rfl trivial ?_
            first | exact Or.inr ⟨fun h => h54 (e100.mpr h.2.2.2.2), rfl, rfl⟩ | exact Or.inr ⟨fun h => hs h.2.2.2.1, rfl, rfl⟩ | exact Or.inr ⟨fun h => hs h.2.2.1, rfl, rfl⟩ | exact Or.inr ⟨fun h => hs h.2.1, rfl, rfl⟩ | exact Or.inr ⟨fun h => hs h.1, rfl, rfl⟩
        · refine r_step hk rfl rfl rfl ?_
          refine r_eq (fun _ => ?_) (fun hq9 => absurd (by decide) hq9)
          iterate 4 refine r_step hk rfl rfl rfl ?_
          refine r_eq (fun _ => ?_) (fun hq9 => absurd (by decide) hq9)
          refine r_step hk rfl rfl rfl ?_
          refine r_iret hk rfl trivial ?_
          first | exact Or.inr ⟨fun h => h54 (e100.mpr h.2.2.2.2), rfl, rfl⟩ | exact Or.inr ⟨fun h => hs h.2.2.2.1, rfl, rfl⟩ | exact Or.inr ⟨fun h => hs h.2.2.1, rfl, rfl⟩ | exact Or.inr ⟨fun h => hs h.2.1, rfl, rfl⟩ | exact Or.inr ⟨fun h => hs h.1, rfl, rfl⟩
      · refine r_step hk rfl rfl rfl ?_
        refine r_eq (fun _ => ?_) (fun hq9 => absurd (by decide) hq9)
        iterate 4 refine r_step hk rfl rfl rfl ?_
        refine r_eq (fun _ => ?_) (fun hq9 => absurd (by decide) hq9)
        refine r_step hk rfl rfl rfl ?_
        refine r_iret hk rfl trivial ?_
        first | exact Or.inr ⟨fun h => h54 (e100.mpr h.2.2.2.2), rfl, rfl⟩ | exact Or.inr ⟨fun h => hs h.2.2.2.1, rfl, rfl⟩ | exact Or.inr ⟨fun h => hs h.2.2.1, rfl, rfl⟩ | exact Or.inr ⟨fun h => hs h.2.1, rfl, rfl⟩ | exact Or.inr ⟨fun h => hs h.1, rfl, rfl⟩
    · refine r_step hk rfl rfl rfl ?_
      refine r_eq (fun _ => ?_) (fun hq9 => absurd (by decide) hq9)
      iterate 4 refine r_step hk rfl rfl rfl ?_
      refine r_eq (fun _ => ?_) (fun hq9 => absurd (by decide) hq9)
      refine r_step hk rfl rfl rfl ?_
      refine r_iret hk rfl trivial ?_
      first | exact Or.inr ⟨fun h => h54 (e100.mpr h.2.2.2.2), rfl, rfl⟩ | exact Or.inr ⟨fun h => hs h.2.2.2.1, rfl, rfl⟩ | exact Or.inr ⟨fun h => hs h.2.2.1, rfl, rfl⟩ | exact Or.inr ⟨fun h => hs h.2.1, rfl, rfl⟩ | exact Or.inr ⟨fun h => hs h.1, rfl, rfl⟩
  · refine r_step hk rfl rfl rfl ?_
    refine r_eq (fun _ => ?_) (fun hq9 => absurd (by decide) hq9)
    iterate 4 refine r_step hk rfl rfl rfl ?_
    refine r_eq (fun _ => ?_) (fun hq9 => absurd (by decide) hq9)
    refine r_step hk rfl rfl rfl ?_
    refine r_iret hk rfl trivial ?_
    first | exact Or.inr ⟨fun h => h54 (e100.mpr h.2.2.2.2), rfl, rfl⟩ | exact Or.inr ⟨fun h => hs h.2.2.2.1, rfl, rfl⟩ | exact Or.inr ⟨fun h => hs h.2.2.1, rfl, rfl⟩ | exact Or.inr ⟨fun h => hs h.2.1, rfl, rfl⟩ | exact Or.inr ⟨fun h => hs h.1, rfl, rfl⟩
theorem c_shelf (hd : 1 ≤ d) (v1 v2 : Int32) : gE d 11 [.ref 0, .int v1, .int v2] (n, u, HP w a b r q y) (fun v S' => (∃ s j, s < 5 ∧ j < 41 ∧ v1 = nI s ∧ v2 = nI j ∧ v = some (.int 1) ∧ S' = (n, u, HP (upd2 w (4 + 3 * s) 0 v2) a b r q y)) ∨ (¬ (gin v1 5 ∧ gin v2 41) ∧ v = some (.int 0) ∧ S' = (n, u, HP w a b r q y))) := by
  have hk : gMT[11]? = some gro_11 := rfl
  refine r_in hk [some (.ref 0), some (.int v1), some (.int v2)] (Nat.le_of_ble_eq_true rfl) rfl ?_
  iterate 2 refine r_step hk rfl rfl rfl ?_
  refine r_callS hk [.int v1, .int 5] [] rfl rfl rfl rfl rfl hd (c_within _ _ v1 5 (by decide)) ?_
  rintro _ _ ⟨⟨⟨s, hs, rfl⟩, rfl⟩ | ⟨hs, rfl⟩, rfl⟩
  · refine r_step hk rfl rfl rfl ?_
    refine r_eq (fun hq9 => absurd hq9 (by decide)) (fun _ => ?_)
    iterate 2 refine r_step hk rfl rfl rfl ?_
    refine r_callS hk [.int v2, .int 41] [] rfl rfl rfl rfl rfl hd (c_within _ _ v2 41 (by decide)) ?_
    rintro _ _ ⟨⟨⟨j, hj, rfl⟩, rfl⟩ | ⟨hz, rfl⟩, rfl⟩
    · refine r_step hk rfl rfl rfl ?_
      refine r_ne (fun _ => ?_) (fun hq9 => absurd hq9 (by decide))
      iterate 3 refine r_step hk rfl rfl rfl ?_
      refine r_qa hk (s) (4 + 3 * s) rfl rfl rfl hs rfl (gshops_at hs) ?_
      refine r_step hk rfl rfl rfl ?_
      refine r_putSh hk rfl hs rfl ?_
      refine r_step hk rfl rfl rfl ?_
      refine r_iret hk rfl (Or.inr rfl) ?_
      first | exact Or.inl ⟨s, j, hs, hj, rfl, rfl, rfl, rfl⟩ | exact Or.inr ⟨fun h => hz h.2, rfl, rfl⟩ | exact Or.inr ⟨fun h => hs h.1, rfl, rfl⟩
    · refine r_step hk rfl rfl rfl ?_
      refine r_ne (fun hq9 => absurd (by decide) hq9) (fun _ => ?_)
      refine r_step hk rfl rfl rfl ?_
      refine r_iret hk rfl (Or.inl rfl) ?_
      first | exact Or.inl ⟨s, j, hs, hj, rfl, rfl, rfl, rfl⟩ | exact Or.inr ⟨fun h => hz h.2, rfl, rfl⟩ | exact Or.inr ⟨fun h => hs h.1, rfl, rfl⟩
  · refine r_step hk rfl rfl rfl ?_
    refine r_eq (fun _ => ?_) (fun hq9 => absurd (by decide) hq9)
    refine r_step hk rfl rfl rfl ?_
    refine r_iret hk rfl (Or.inl rfl) ?_
    first | exact Or.inl ⟨s, j, hs, hj, rfl, rfl, rfl, rfl⟩ | exact Or.inr ⟨fun h => hz h.2, rfl, rfl⟩ | exact Or.inr ⟨fun h => hs h.1, rfl, rfl⟩
theorem c_base (hd : 1 ≤ d) (v1 v2 : Int32) : gE d 12 [.ref 0, .int v1, .int v2] (n, u, HP w a b r q y) (fun v S' => (∃ s j, s < 8 ∧ 1 ≤ j ∧ j < 10001 ∧ v1 = nI s ∧ v2 = nI j ∧ v = some (.int 1) ∧ S' = (n, u, HP w (upd2 a 19 s v2) b r q y)) ∨ (¬ (gin v1 8 ∧ ∃ j, 1 ≤ j ∧ j < 10001 ∧ v2 = nI j) ∧ v = some (.int 0) ∧ S' = (n, u, HP w a b r q y))) := by
  have hk : gMT[12]? = some gro_12 := rfl
  refine r_in hk [some (.ref 0), some (.int v1), some (.int v2)] (Nat.le_of_ble_eq_true rfl) rfl ?_
  have key1 : v2 < 1 → ¬ ∃ j, 1 ≤ j ∧ j < 10001 ∧ v2 = nI j := by
    rintro h ⟨j, h1, h2, rfl⟩
    have := (nI_ltI (a := j) (b := 1) (by omega) (by omega)).mp h
    omega
  have key2 : ¬ v2 ≤ (10000 : Int32) → ¬ ∃ j, 1 ≤ j ∧ j < 10001 ∧ v2 = nI j := by
    rintro h ⟨j, h1, h2, rfl⟩
    exact h ((nI_leI (a := j) (b := 10000) (by omega) (by omega)).mpr (by omega))
  have key3 : ¬ v2 < 1 → v2 ≤ (10000 : Int32) → ∃ j, 1 ≤ j ∧ j < 10001 ∧ v2 = nI j := by
    intro h1 h2
    have h0 : ¬ v2 < 0 := fun h => h1 (by
      have e1 : v2.toInt < (0 : Int32).toInt := Int32.lt_iff_toInt_lt.mp h
      refine Int32.lt_iff_toInt_lt.mpr ?_
      have e2 : (0 : Int32).toInt = 0 := by decide
      have e3 : (1 : Int32).toInt = 1 := by decide
      omega)
    obtain ⟨j, hj, rfl⟩ := gin_of' (M := 10000) h0 (Int32.not_lt.mpr h2) (by decide)
    refine ⟨j, ?_, hj, rfl⟩
    rcases Nat.lt_or_ge j 1 with h | h
    · exact absurd ((nI_ltI (a := j) (b := 1) (by omega) (by omega)).mpr h) h1
    · exact h
  iterate 2 refine r_step hk rfl rfl rfl ?_
  refine r_callS hk [.int v1, .int 8] [] rfl rfl rfl rfl rfl hd (c_within _ _ v1 8 (by decide)) ?_
  rintro _ _ ⟨⟨⟨s, hs, rfl⟩, rfl⟩ | ⟨hs, rfl⟩, rfl⟩
  · refine r_step hk rfl rfl rfl ?_
    refine r_eq (fun hq9 => absurd hq9 (by decide)) (fun _ => ?_)
    iterate 3 refine r_step hk rfl rfl rfl ?_
    refine r_lt (fun h11 => ?_) (fun h11 => ?_)
    · refine r_step hk rfl rfl rfl ?_
      refine r_iret hk rfl (Or.inl rfl) ?_
      first | exact Or.inr ⟨fun h => key2 h18 h.2, rfl, rfl⟩ | exact Or.inr ⟨fun h => key1 h11 h.2, rfl, rfl⟩ | exact Or.inr ⟨fun h => hs h.1, rfl, rfl⟩
    · iterate 3 refine r_step hk rfl rfl rfl ?_
      refine r_le (fun h18 => ?_) (fun h18 => ?_)
      · iterate 4 refine r_step hk rfl rfl rfl ?_
        refine r_is hk (s) rfl rfl rfl rfl hs rfl rfl ?_
        refine r_step hk rfl rfl rfl ?_
        refine r_iret hk rfl (Or.inr rfl) ?_
        obtain ⟨j, h1, hj, rfl⟩ := key3 h11 h18
        exact Or.inl ⟨s, j, hs, h1, hj, rfl, rfl, rfl, rfl⟩
      · refine r_step hk rfl rfl rfl ?_
        refine r_iret hk rfl (Or.inl rfl) ?_
        first | exact Or.inr ⟨fun h => key2 h18 h.2, rfl, rfl⟩ | exact Or.inr ⟨fun h => key1 h11 h.2, rfl, rfl⟩ | exact Or.inr ⟨fun h => hs h.1, rfl, rfl⟩
  · refine r_step hk rfl rfl rfl ?_
    refine r_eq (fun _ => ?_) (fun hq9 => absurd (by decide) hq9)
    refine r_step hk rfl rfl rfl ?_
    refine r_iret hk rfl (Or.inl rfl) ?_
    first | exact Or.inr ⟨fun h => key2 h18 h.2, rfl, rfl⟩ | exact Or.inr ⟨fun h => key1 h11 h.2, rfl, rfl⟩ | exact Or.inr ⟨fun h => hs h.1, rfl, rfl⟩
theorem c_van (hd : 1 ≤ d) (v1 : Int32) : gE d 69 [.ref 0, .int v1] (n, u, HP w a b r q y) (fun v S' => (gin v1 1001 ∧ v = some (.int 1) ∧ S' = (n, u, HP (upd2 w 0 17 v1) a b r q y)) ∨ (¬ gin v1 1001 ∧ v = some (.int 0) ∧ S' = (n, u, HP w a b r q y))) := by
  have hk : gMT[69]? = some gro_69 := rfl
  refine r_in hk [some (.ref 0), some (.int v1)] (Nat.le_of_ble_eq_true rfl) rfl ?_
  iterate 2 refine r_step hk rfl rfl rfl ?_
  refine r_callS hk [.int v1, .int 1001] [] rfl rfl rfl rfl rfl hd (c_within _ _ v1 1001 (by decide)) ?_
  rintro _ _ ⟨⟨hs, rfl⟩ | ⟨hs, rfl⟩, rfl⟩
  · refine r_step hk rfl rfl rfl ?_
    refine r_ne (fun _ => ?_) (fun hq9 => absurd hq9 (by decide))
    iterate 2 refine r_step hk rfl rfl rfl ?_
    refine r_putI hk rfl rfl rfl rfl ?_
    refine r_step hk rfl rfl rfl ?_
    refine r_iret hk rfl (Or.inr rfl) ?_
    first | exact Or.inl ⟨hs, rfl, rfl⟩ | exact Or.inr ⟨hs, rfl, rfl⟩
  · refine r_step hk rfl rfl rfl ?_
    refine r_ne (fun hq9 => absurd (by decide) hq9) (fun _ => ?_)
    refine r_step hk rfl rfl rfl ?_
    refine r_iret hk rfl (Or.inl rfl) ?_
    first | exact Or.inl ⟨hs, rfl, rfl⟩ | exact Or.inr ⟨hs, rfl, rfl⟩
theorem c_habit (hd : 1 ≤ d) (v1 : Int32) (ho : ∀ j, j < 10 → ¬ a 35 j < 0) : gE d 48 [.ref 0, .int v1] (n, u, HP w a b r q y) (fun v S' => S' = (n, u, HP w a b r q y) ∧
    ((∃ j, j < 10 ∧ v1 = nI j ∧ ¬ a 35 j = 0 ∧ v = some (.int ((a 36 j).toInt64 * 1000 / (a 35 j).toInt64).toInt32)) ∨ ((¬ ∃ j, j < 10 ∧ v1 = nI j ∧ ¬ a 35 j = 0) ∧ v = some (.int (-1))))) := by
  have hk : gMT[48]? = some gro_48 := rfl
  refine r_in hk [some (.ref 0), some (.int v1)] (Nat.le_of_ble_eq_true rfl) rfl ?_
  have hz : ∀ v : Int32, ¬ v ≤ 0 → ¬ v.toInt64 = 0 := by
    intro v hv h
    apply hv
    have e1 : v.toInt64.toInt = v.toInt := Int32.toInt_toInt64 v
    rw [h] at e1
    refine Int32.le_iff_toInt_le.mpr ?_
    rw [← e1]; decide
  iterate 2 refine r_step hk rfl rfl rfl ?_
  refine r_callS hk [.int v1, .int 10] [] rfl rfl rfl rfl rfl hd (c_within _ _ v1 10 (by decide)) ?_
  rintro _ _ ⟨⟨⟨j, hj, rfl⟩, rfl⟩ | ⟨hs, rfl⟩, rfl⟩
  · refine r_step hk rfl rfl rfl ?_
    refine r_eq (fun hq9 => absurd hq9 (by decide)) (fun _ => ?_)
    iterate 3 refine r_step hk rfl rfl rfl ?_
    refine r_ia hk (j) rfl rfl rfl hj rfl ?_
    refine r_step hk rfl rfl rfl ?_
    refine r_gt (fun h15 => ?_) (fun h15 => ?_)
    · iterate 3 refine r_step hk rfl rfl rfl ?_
      refine r_ia hk (j) rfl rfl rfl hj rfl ?_
      iterate 6 refine r_step hk rfl rfl rfl ?_
      refine r_ia hk (j) rfl rfl rfl hj rfl ?_
      refine r_step hk rfl rfl rfl ?_
      refine r_ldiv hk rfl (hz _ (Int32.not_le.mpr h15)) ?_
      refine r_step hk rfl rfl rfl ?_
      refine r_iret hk rfl trivial ?_
      first | exact ⟨rfl, Or.inl ⟨j, hj, rfl, fun e => (Int32.not_le.mpr h15) (by rw [e]; decide), rfl⟩⟩ | exact ⟨rfl, Or.inr ⟨fun ⟨j2, h2, e2, h3⟩ => h3 (by rw [← nI_inj e2 (by omega) (by omega)]; exact Int32.le_antisymm (Int32.not_lt.mp h15) (Int32.not_lt.mp (ho j hj))), rfl⟩⟩ | exact ⟨rfl, Or.inr ⟨fun ⟨j2, h2, e2, h3⟩ => hs ⟨j2, h2, e2⟩, rfl⟩⟩
    · refine r_step hk rfl rfl rfl ?_
      refine r_iret hk rfl trivial ?_
      first | exact ⟨rfl, Or.inl ⟨j, hj, rfl, fun e => (Int32.not_le.mpr h15) (by rw [e]; decide), rfl⟩⟩ | exact ⟨rfl, Or.inr ⟨fun ⟨j2, h2, e2, h3⟩ => h3 (by rw [← nI_inj e2 (by omega) (by omega)]; exact Int32.le_antisymm (Int32.not_lt.mp h15) (Int32.not_lt.mp (ho j hj))), rfl⟩⟩ | exact ⟨rfl, Or.inr ⟨fun ⟨j2, h2, e2, h3⟩ => hs ⟨j2, h2, e2⟩, rfl⟩⟩
  · refine r_step hk rfl rfl rfl ?_
    refine r_eq (fun _ => ?_) (fun hq9 => absurd (by decide) hq9)
    refine r_step hk rfl rfl rfl ?_
    refine r_iret hk rfl trivial ?_
    first | exact ⟨rfl, Or.inl ⟨j, hj, rfl, fun e => (Int32.not_le.mpr h15) (by rw [e]; decide), rfl⟩⟩ | exact ⟨rfl, Or.inr ⟨fun ⟨j2, h2, e2, h3⟩ => h3 (by rw [← nI_inj e2 (by omega) (by omega)]; exact Int32.le_antisymm (Int32.not_lt.mp h15) (Int32.not_lt.mp (ho j hj))), rfl⟩⟩ | exact ⟨rfl, Or.inr ⟨fun ⟨j2, h2, e2, h3⟩ => hs ⟨j2, h2, e2⟩, rfl⟩⟩
theorem c_priceNow (hd : 10 ≤ d) {o k : Nat} (ho : gisT D o) (hk8 : k < 8) (hkd : x o 1 = nI k) : gE d 57 [.ref 0, .ref o] (n, u, HP w a b r q (gY D x z y)) (gre (gpr (a 19 k) (w 0 16) (x o 6)) (n, u, HP w a b r q (gY D x z y))) := by
  have hk : gMT[57]? = some gro_57 := rfl
  refine r_in hk [some (.ref 0), some (.ref o), none] (Nat.le_of_ble_eq_true rfl) rfl ?_
  iterate 3 refine r_step hk rfl rfl rfl ?_
  refine r_getT hk rfl ho rfl ?_
  iterate 6 refine r_step hk rfl rfl rfl ?_
  refine r_getT hk rfl ho rfl ?_
  refine r_ia hk (k) rfl rfl hkd hk8 rfl ?_
  iterate 7 refine r_step hk rfl rfl rfl ?_
  refine r_div hk rfl (by decide) ?_
  refine r_bi hk [.int 1, .int _] [] rfl rfl rfl rfl rfl (by decide) hd ⟨rfl, Or.inr (Or.inr (Or.inr (Or.inl ⟨rfl, 1, _, rfl, rfl⟩)))⟩ ?_
  refine r_iret hk rfl trivial ?_
  refine ⟨congrArg (fun z => some (Value.int z)) ?_, rfl⟩
  show (if (1 : Int32) < _ then _ else (1 : Int32)) = _
  exact gpr_max _ _ _
theorem c_price (hd : 11 ≤ d) {N : Nat} {o : Nat → Nat} (hN : w 0 1 = nI N) (hN1 : N ≤ 100) (hT : cTs q D N o) (hkd : ∀ t, t < N → gin (x (o t) 1) 8) (v1 : Int32) : gE d 55 [.ref 0, .int v1] (n, u, HP w a b r q (gY D x z y)) (fun v S' => S' = (n, u, HP w a b r q (gY D x z y)) ∧
    ((∃ t k, t < N ∧ k < 8 ∧ v1 = nI t ∧ x (o t) 4 = 1 ∧ x (o t) 1 = nI k ∧ v = some (.int (gpr (a 19 k) (w 0 16) (x (o t) 6)))) ∨ ((¬ ∃ t, t < N ∧ v1 = nI t ∧ x (o t) 4 = 1) ∧ v = some (.int (-1))))) := by
  have hk : gMT[55]? = some gro_55 := rfl
  refine r_in hk [some (.ref 0), some (.int v1)] (Nat.le_of_ble_eq_true rfl) rfl ?_
  iterate 2 refine r_step hk rfl rfl rfl ?_
  refine r_callV hk [.ref 0, .int v1] [] rfl rfl rfl rfl rfl rfl rfl (by omega) (c_liesOnShelf (by omega) hN hN1 hT v1) ?_
  rintro _ _ ⟨⟨⟨t, ht, rfl, hon⟩, rfl⟩ | ⟨hs, rfl⟩, rfl⟩
  · obtain ⟨k, hk8, hk1⟩ := hkd t ht
    refine r_step hk rfl rfl rfl ?_
    refine r_eq (fun hq9 => absurd hq9 (by decide)) (fun _ => ?_)
    iterate 4 refine r_step hk rfl rfl rfl ?_
    refine r_qa hk (t) (o t) rfl rfl rfl (by omega) rfl (hT.1 t ht).1 ?_
    refine r_callV hk [.ref 0, .ref (o t)] [] rfl rfl rfl rfl rfl rfl rfl (by omega) (c_priceNow (by omega) (hT.1 t ht).2 hk8 hk1) ?_
    rintro _ _ ⟨rfl, rfl⟩
    refine r_step hk rfl rfl rfl ?_
    refine r_iret hk rfl trivial ?_
    first | exact ⟨rfl, Or.inl ⟨t, k, ht, hk8, rfl, hon, hk1, rfl⟩⟩ | exact ⟨rfl, Or.inr ⟨hs, rfl⟩⟩
  · refine r_step hk rfl rfl rfl ?_
    refine r_eq (fun _ => ?_) (fun hq9 => absurd (by decide) hq9)
    refine r_step hk rfl rfl rfl ?_
    refine r_iret hk rfl trivial ?_
    first | exact ⟨rfl, Or.inl ⟨t, k, ht, hk8, rfl, hon, hk1, rfl⟩⟩ | exact ⟨rfl, Or.inr ⟨hs, rfl⟩⟩
theorem c_lose (hd : 2 ≤ d) {N : Nat} {o : Nat → Nat} (hN : w 0 1 = nI N) (hN1 : N ≤ 100) (hT : cTs q D N o) (hsh : ∀ t, t < N → gin (x (o t) 5) 5) (v1 : Int32) : gE d 61 [.ref 0, .int v1] (n, u, HP w a b r q (gY D x z y)) (fun v S' =>
    (∃ t s, t < N ∧ s < 5 ∧ v1 = nI t ∧ x (o t) 4 = 1 ∧ x (o t) 5 = nI s ∧ v = some (.int 1) ∧ S' = (n, u, HP (upd2 (upd2 w (4 + 3 * s) 2 (w (4 + 3 * s) 2 + 1)) (4 + 3 * s) 1 (w (4 + 3 * s) 1 - 1)) a b r q (gY D (upd2 x (o t) 4 6) z y)))
    ∨ ((¬ ∃ t, t < N ∧ v1 = nI t ∧ x (o t) 4 = 1) ∧ v = some (.int 0) ∧ S' = (n, u, HP w a b r q (gY D x z y)))) := by
  have hk : gMT[61]? = some gro_61 := rfl
  refine r_in hk [some (.ref 0), some (.int v1), none] (Nat.le_of_ble_eq_true rfl) rfl ?_
  iterate 2 refine r_step hk rfl rfl rfl ?_
  refine r_callV hk [.ref 0, .int v1] [] rfl rfl rfl rfl rfl rfl rfl (by omega) (c_liesOnShelf (by omega) hN hN1 hT v1) ?_
  rintro _ _ ⟨⟨⟨t, ht, rfl, hon⟩, rfl⟩ | ⟨hs, rfl⟩, rfl⟩
  · obtain ⟨s, hs5, hs1⟩ := hsh t ht
    refine r_step hk rfl rfl rfl ?_
    refine r_ne (fun _ => ?_) (fun hq9 => absurd hq9 (by decide))
    iterate 3 refine r_step hk rfl rfl rfl ?_
    refine r_qa hk (t) (o t) rfl rfl rfl (by omega) rfl (hT.1 t ht).1 ?_
    iterate 4 refine r_step hk rfl rfl rfl ?_
    refine r_getT hk rfl (hT.1 t ht).2 rfl ?_
    refine r_qa hk (s) (4 + 3 * s) rfl rfl hs1 hs5 rfl (gshops_at hs5) ?_
    refine r_step hk rfl rfl rfl ?_
    refine r_getSh hk rfl hs5 rfl ?_
    iterate 2 refine r_step hk rfl rfl rfl ?_
    refine r_putSh hk rfl hs5 rfl ?_
    iterate 3 refine r_step hk rfl rfl rfl ?_
    refine r_callV hk [.ref 0, .ref (o t), .int 6] [] rfl rfl rfl rfl rfl rfl rfl (by omega) (c_leaveShelf (hT.1 t ht).2 hs5 hs1 6) ?_
    rintro _ _ ⟨rfl, rfl⟩
    refine r_step hk rfl rfl rfl ?_
    refine r_iret hk rfl (Or.inr rfl) ?_
    first | (refine Or.inl ⟨t, s, ht, hs5, rfl, hon, hs1, rfl, ?_⟩; rw [upd2_col _ _ _ _ (by decide : (1 : Nat) ≠ 2)]) | exact Or.inr ⟨hs, rfl, rfl⟩
  · refine r_step hk rfl rfl rfl ?_
    refine r_ne (fun hq9 => absurd (by decide) hq9) (fun _ => ?_)
    refine r_step hk rfl rfl rfl ?_
    refine r_iret hk rfl (Or.inl rfl) ?_
    first | (refine Or.inl ⟨t, s, ht, hs5, rfl, hon, hs1, rfl, ?_⟩; rw [upd2_col _ _ _ _ (by decide : (1 : Nat) ≠ 2)]) | exact Or.inr ⟨hs, rfl, rfl⟩
theorem c_thefts (hd : 10 ≤ d) (v1 v2 : Int32) : gE d 62 [.ref 0, .int v1, .int v2] (n, u, HP w a b r q y) (fun v S' => S' = (n, u, HP w a b r q y) ∧
    ((∃ s, s < 5 ∧ v1 = nI s ∧ gin v2 101 ∧ v = some (.int (if 0 < w (4 + 3 * s) 2 - v2 then w (4 + 3 * s) 2 - v2 else 0))) ∨ (¬ (gin v1 5 ∧ gin v2 101) ∧ v = some (.int (-1))))) := by
  have hk : gMT[62]? = some gro_62 := rfl
  refine r_in hk [some (.ref 0), some (.int v1), some (.int v2)] (Nat.le_of_ble_eq_true rfl) rfl ?_
  iterate 2 refine r_step hk rfl rfl rfl ?_
  refine r_callS hk [.int v1, .int 5] [] rfl rfl rfl rfl rfl (by omega) (c_within _ _ v1 5 (by decide)) ?_
  rintro _ _ ⟨⟨⟨s, hs, rfl⟩, rfl⟩ | ⟨hs, rfl⟩, rfl⟩
  · refine r_step hk rfl rfl rfl ?_
    refine r_eq (fun hq9 => absurd hq9 (by decide)) (fun _ => ?_)
    iterate 2 refine r_step hk rfl rfl rfl ?_
    refine r_callS hk [.int v2, .int 101] [] rfl rfl rfl rfl rfl (by omega) (c_within _ _ v2 101 (by decide)) ?_
    rintro _ _ ⟨⟨hz, rfl⟩ | ⟨hz, rfl⟩, rfl⟩
    · refine r_step hk rfl rfl rfl ?_
      refine r_ne (fun _ => ?_) (fun hq9 => absurd hq9 (by decide))
      iterate 4 refine r_step hk rfl rfl rfl ?_
      refine r_qa hk (s) (4 + 3 * s) rfl rfl rfl hs rfl (gshops_at hs) ?_
      refine r_getSh hk rfl hs rfl ?_
      iterate 2 refine r_step hk rfl rfl rfl ?_
      refine r_bi hk [.int 0, .int _] [] rfl rfl rfl rfl rfl (by decide) hd ⟨rfl, Or.inr (Or.inr (Or.inr (Or.inl ⟨rfl, 0, _, rfl, rfl⟩)))⟩ ?_
      refine r_iret hk rfl trivial ?_
      first | exact ⟨rfl, Or.inl ⟨s, hs, rfl, hz, rfl⟩⟩ | exact ⟨rfl, Or.inr ⟨fun h => hz h.2, rfl⟩⟩ | exact ⟨rfl, Or.inr ⟨fun h => hs h.1, rfl⟩⟩
    · refine r_step hk rfl rfl rfl ?_
      refine r_ne (fun hq9 => absurd (by decide) hq9) (fun _ => ?_)
      refine r_step hk rfl rfl rfl ?_
      refine r_iret hk rfl trivial ?_
      first | exact ⟨rfl, Or.inl ⟨s, hs, rfl, hz, rfl⟩⟩ | exact ⟨rfl, Or.inr ⟨fun h => hz h.2, rfl⟩⟩ | exact ⟨rfl, Or.inr ⟨fun h => hs h.1, rfl⟩⟩
  · refine r_step hk rfl rfl rfl ?_
    refine r_eq (fun _ => ?_) (fun hq9 => absurd (by decide) hq9)
    refine r_step hk rfl rfl rfl ?_
    refine r_iret hk rfl trivial ?_
    first | exact ⟨rfl, Or.inl ⟨s, hs, rfl, hz, rfl⟩⟩ | exact ⟨rfl, Or.inr ⟨fun h => hz h.2, rfl⟩⟩ | exact ⟨rfl, Or.inr ⟨fun h => hs h.1, rfl⟩⟩
end GC1
