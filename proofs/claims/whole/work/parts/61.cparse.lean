-- deps: 37 38 39 43 44 45 49 50 51 52 59 60
/-! ===== the class: the parser ===== -/
theorem khd_ktl {f : Nat → Nat} {len p : Nat} (hp : p ≤ len) : khd (ktl f len p) = (ktk f len p).1 := by
  by_cases h : len ≤ kend kbl f len p
  · rw [ktl_e hp h, ktk_end h]; rfl
  · rw [ktl_c hp h]; rfl
theorem ktl_tl {f : Nat → Nat} {len p : Nat} (hp : p ≤ len) (h : (khd (ktl f len p)).1 ≠ 301) : (ktl f len p).tail = ktl f len (ktk f len p).2 ∧ (ktk f len p).2 ≤ len := by
  by_cases h2 : len ≤ kend kbl f len p
  · rw [ktl_e hp h2] at h; exact absurd rfl h
  · rw [ktl_c hp h2]; exact ⟨rfl, (ktk_ne hp h2).2.2⟩
theorem ktk_lt {f : Nat → Nat} {len p : Nat} (hp : p ≤ len) (hf : ∀ i, i < len → f i < 128) : (ktk f len p).1.1 < 303 := by
  obtain ⟨b1, b2, b3, b4⟩ := kend_b (P := kbl) (f := f) (len := len) (len - p) p rfl hp
  unfold ktk
  split
  · simp only; omega
  · rename_i h1
    have := hf (kend kbl f len p) (by omega)
    split
    · have := kword_r f (kend kbl f len p) (kend klt f len (kend kbl f len p))
      simp only; omega
    · split
      · simp only; split <;> omega
      · simp only; split <;> omega
def kPp (w a : Nat → Nat → Int32) (f : Nat → Nat) (len e base : Nat) (ts : List kTok) (cs : List Nat) : Prop := (∃ p, p ≤ len ∧ ts = ktl f len p ∧ csc w (ktk f len p).1 (ktk f len p).2) ∧ w 32 2 = 0 ∧ w (22 + 5 * e) 4 = nI (base + cs.length) ∧ gcP (a (23 + 5 * e)) base cs
def cfp (e base : Nat) (w a w' a' : Nat → Nat → Int32) : Prop := (∀ j, j ≠ 32 → j ≠ 33 → j ≠ 22 + 5 * e → w' j = w j) ∧ w' (22 + 5 * e) 5 = w (22 + 5 * e) 5 ∧ gag [23 + 5 * e] a a' ∧ ∀ i, i < base → a' (23 + 5 * e) i = a (23 + 5 * e) i
theorem cfp_rf {e base : Nat} {w a : Nat → Nat → Int32} : cfp e base w a w a := ⟨fun _ _ _ _ => rfl, rfl, gag_rf, fun _ _ => rfl⟩
theorem cfp_tr {e base : Nat} {w a w1 a1 w2 a2 : Nat → Nat → Int32} (h : cfp e base w a w1 a1) (k : cfp e base w1 a1 w2 a2) : cfp e base w a w2 a2 := ⟨fun j h1 h2 h3 => (k.1 j h1 h2 h3).trans (h.1 j h1 h2 h3), k.2.1.trans h.2.1, gag_tr h.2.2.1 k.2.2.1, fun i hi => (k.2.2.2 i hi).trans (h.2.2.2 i hi)⟩
theorem cfp_33 {e base : Nat} (he : e < 2) {w a w' : Nat → Nat → Int32} (h : cf33 w w') : cfp e base w a w' a := ⟨fun j _ h2 _ => h j h2, by rw [h (22 + 5 * e) (by omega)], gag_rf, fun _ _ => rfl⟩
theorem cfp_32 {e base : Nat} (he : e < 2) {w a : Nat → Nat → Int32} (s : Nat) (v : Int32) : cfp e base w a (upd2 w 32 s v) a := ⟨fun j h1 _ _ => upd2_row _ _ _ _ h1, by rw [upd2_row _ _ _ _ (by omega)], gag_rf, fun _ _ => rfl⟩
theorem cfp_add {e base k : Nat} {w a : Nat → Nat → Int32} (hk : base ≤ k) (v x : Int32) : cfp e base w a (upd2 w (22 + 5 * e) 4 v) (upd2 a (23 + 5 * e) k x) := ⟨fun j _ _ h3 => upd2_row _ _ _ _ h3, upd2_col _ _ _ _ (by decide), gag_up gag_rf (by simp), fun i hi => by rw [upd2_at, if_neg (by omega)]⟩
/-- what stays as a text is read -/
def kCx (w0 a0 : Nat → Nat → Int32) (r : Nat → Nat → Nat) (f : Nat → Nat) (len e base : Nat) (st0 : kSt) (ls : kLs) : Prop := cTap w0 a0 f len ∧ e < 2 ∧ r 32 1 = 22 + 5 * e ∧ kinv 601 st0 ∧ base = klen ls
def kQp (n u : Nat) (b : Nat → Nat → Int64) (r : Nat → Nat → Nat) (q : Nat → Nat → Option Nat) (y : gH) (f : Nat → Nat) (len e base : Nat) (st0 : kSt) (w0 a0 : Nat → Nat → Int32) (P : List kTok → List Nat → Prop) : Option Value → gS → Prop := fun v S' => ∃ w' a', cfp e base w0 a0 w' a' ∧ S' = (n, u, HP w' a' b r q y) ∧ ((v = some (.int 1) ∧ ∃ ts' cs', P ts' cs' ∧ kPp w' a' f len e base ts' cs') ∨ (v = some (.int 0) ∧ ∃ g, 1 ≤ g ∧ g < 10000 ∧ w' 32 2 = nI g ∧ kR st0 (kF g)))
section GC11
variable {w a : Nat → Nat → Int32} {b : Nat → Nat → Int64} {r : Nat → Nat → Nat} {q : Nat → Nat → Option Nat} {y : gH} {n u : Nat} {d : Nat} {f : Nat → Nat} {len e base : Nat} {ts : List kTok} {cs : List Nat}
theorem kPp_tok (h : kPp w a f len e base ts cs) (ht : cTap w a f len) : w 33 1 = nI (khd ts).1 ∧ (khd ts).1 < 303 ∧ w 33 2 = nI (khd ts).2.2 ∧ (khd ts).2.2 ≤ 600 ∧ ((khd ts).1 = 300 → w 33 4 = nI (khd ts).2.1) := by
  obtain ⟨⟨p, hp, rfl, h1, h2, h3, h4⟩, -⟩ := h
  rw [khd_ktl hp]
  refine ⟨h1, ktk_lt hp (fun i hi => (ht.2.2 i hi).2), h2, ?_, h4⟩
  have := ktk_pl (f := f) hp
  have := ht.2.1
  omega
theorem kPp_a {a' : Nat → Nat → Int32} (h : kPp w a f len e base ts cs) : kPp w a f len e base ts cs := h
theorem c_pnext (hd : 13 ≤ d) (he : e < 2) (ht : cTap w a f len) (h : kPp w a f len e base ts cs) (hne : (khd ts).1 ≠ 301) : gE d 19 [.ref 33] (n, u, HP w a b r q y) (fun v S' => v = none ∧ ∃ w', cfp e base w a w' a ∧ kPp w' a f len e base ts.tail cs ∧ S' = (n, u, HP w' a b r q y)) := by
  obtain ⟨⟨p, hp, rfl, h1, h2, h3, h4⟩, k1, k2, k3⟩ := h
  obtain ⟨g1, g2⟩ := ktl_tl hp hne
  refine gE_mono (Nat.le_refl _) (c_next hd ht h3 g2) ?_
  rintro v S' ⟨rfl, w', hf, hc, rfl⟩
  exact ⟨rfl, w', cfp_33 he hf, ⟨⟨_, g2, g1, hc⟩, by rw [hf 32 (by decide)]; exact k1, by rw [hf (22 + 5 * e) (by omega)]; exact k2, k3⟩, rfl⟩
theorem c_wrong {s k : Nat} (hs : w 33 2 = nI s) : gE d 27 [.ref 32, .int (nI k)] (n, u, HP w a b r q y) (fun v S' => v = some (.int 0) ∧ S' = (n, u, HP (upd2 w 32 2 (nI (k + 16 * s))) a b r q y)) := by
  have hk : gMT[27]? = some gro_27 := rfl
  refine r_in hk [some (.ref 32), some (.int (nI k))] (Nat.le_of_ble_eq_true rfl) rfl ?_
  have e1 : nI k + 16 * w 33 2 = nI (k + 16 * s) := by rw [hs, show (16 : Int32) = nI 16 from rfl, pk_mul, nI_add]
  iterate 8 refine r_step hk rfl rfl rfl ?_
  refine r_putI hk rfl rfl rfl rfl ?_
  refine r_step hk rfl rfl rfl ?_
  refine r_iret hk rfl (Or.inl rfl) ?_
  refine ⟨rfl, ?_⟩
  rw [← e1]
theorem c_take (hd : 14 ≤ d) (he : e < 2) (ht : cTap w a f len) (h : kPp w a f len e base ts cs) {c : Nat} (hc : c < 300) : gE d 29 [.ref 32, .int (nI c)] (n, u, HP w a b r q y) (fun v S' => (v = some (.int 1) ∧ (khd ts).1 = c ∧ ∃ w', cfp e base w a w' a ∧ kPp w' a f len e base ts.tail cs ∧ S' = (n, u, HP w' a b r q y)) ∨ (v = some (.int 0) ∧ ¬ (khd ts).1 = c ∧ S' = (n, u, HP (upd2 w 32 2 (nI (1 + 16 * (khd ts).2.2))) a b r q y))) := by
  have hk : gMT[29]? = some gro_29 := rfl
  refine r_in hk [some (.ref 32), some (.int (nI c))] (Nat.le_of_ble_eq_true rfl) rfl ?_
  obtain ⟨t1, t2, t3, t4, t5⟩ := kPp_tok h ht
  have e1 : w 33 1 = nI c ↔ (khd ts).1 = c := by rw [t1]; exact nI_eq (by omega) (by omega)
  iterate 5 refine r_step hk rfl rfl rfl ?_
  refine r_eq (fun h8 => ?_) (fun h8 => ?_)
  · iterate 2 refine r_step hk rfl rfl rfl ?_
    refine r_callV hk [.ref 33] [] rfl rfl rfl rfl rfl rfl rfl (by omega) (c_pnext (by omega) he ht h (by have := e1.mp h8; omega)) ?_
    rintro _ _ ⟨rfl, w', hf, hp, rfl⟩
    refine r_step hk rfl rfl rfl ?_
    refine r_iret hk rfl (Or.inr rfl) ?_
    first | exact Or.inl ⟨rfl, e1.mp h8, w', hf, hp, rfl⟩ | exact Or.inr ⟨rfl, mt e1.mpr h8, rfl⟩
  · iterate 2 refine r_step hk rfl rfl rfl ?_
    refine r_callV hk [.ref 32, .int 1] [] rfl rfl rfl rfl rfl rfl rfl (by omega) (c_wrong (k := 1) t3) ?_
    rintro _ _ ⟨rfl, rfl⟩
    refine r_iret hk rfl (Or.inl rfl) ?_
    first | exact Or.inl ⟨rfl, e1.mp h8, w', hf, hp, rfl⟩ | exact Or.inr ⟨rfl, mt e1.mpr h8, rfl⟩
theorem c_isFact {t : Nat} (ht : w 33 1 = nI t) (h3 : t < 303) : gE d 34 [.ref 33] (n, u, HP w a b r q y) (gbo (206 ≤ t ∧ t < 212) (n, u, HP w a b r q y)) := by
  have hk : gMT[34]? = some gro_34 := rfl
  refine r_in hk [some (.ref 33)] (Nat.le_of_ble_eq_true rfl) rfl ?_
  have e1 : w 33 1 < 206 ↔ t < 206 := by rw [ht]; exact nI_ltI (b := 206) (by omega) (by omega)
  have e2 : (212 : Int32) ≤ w 33 1 ↔ 212 ≤ t := by rw [ht]; exact nI_leI (a := 212) (by omega) (by omega)
  iterate 4 refine r_step hk rfl rfl rfl ?_
  refine r_lt (fun h7 => ?_) (fun h7 => ?_)
  · refine r_step hk rfl rfl rfl ?_
    refine r_iret hk rfl (Or.inl rfl) ?_
    first | (refine gbo_f ?_; intro hc; have := e1.mp h7; omega) | (refine gbo_f ?_; intro hc; have := e2.mp h17; omega) | exact gbo_t ⟨by have := mt e1.mpr h7; omega, by have := mt e2.mpr h17; omega⟩
  · iterate 4 refine r_step hk rfl rfl rfl ?_
    refine r_ge (fun h17 => ?_) (fun h17 => ?_)
    · refine r_step hk rfl rfl rfl ?_
      refine r_iret hk rfl (Or.inl rfl) ?_
      first | (refine gbo_f ?_; intro hc; have := e1.mp h7; omega) | (refine gbo_f ?_; intro hc; have := e2.mp h17; omega) | exact gbo_t ⟨by have := mt e1.mpr h7; omega, by have := mt e2.mpr h17; omega⟩
    · iterate 2 refine r_step hk rfl rfl rfl ?_
      refine r_iret hk rfl (Or.inr rfl) ?_
      first | (refine gbo_f ?_; intro hc; have := e1.mp h7; omega) | (refine gbo_f ?_; intro hc; have := e2.mp h17; omega) | exact gbo_t ⟨by have := mt e1.mpr h7; omega, by have := mt e2.mpr h17; omega⟩
theorem c_isWay {t : Nat} (ht : w 33 1 = nI t) (h3 : t < 303) : gE d 26 [.ref 33] (n, u, HP w a b r q y) (gbo (200 ≤ t ∧ t < 204) (n, u, HP w a b r q y)) := by
  have hk : gMT[26]? = some gro_26 := rfl
  refine r_in hk [some (.ref 33)] (Nat.le_of_ble_eq_true rfl) rfl ?_
  have e1 : w 33 1 < 200 ↔ t < 200 := by rw [ht]; exact nI_ltI (b := 200) (by omega) (by omega)
  have e2 : (204 : Int32) ≤ w 33 1 ↔ 204 ≤ t := by rw [ht]; exact nI_leI (a := 204) (by omega) (by omega)
  iterate 4 refine r_step hk rfl rfl rfl ?_
  refine r_lt (fun h7 => ?_) (fun h7 => ?_)
  · refine r_step hk rfl rfl rfl ?_
    refine r_iret hk rfl (Or.inl rfl) ?_
    first | (refine gbo_f ?_; intro hc; have := e1.mp h7; omega) | (refine gbo_f ?_; intro hc; have := e2.mp h17; omega) | exact gbo_t ⟨by have := mt e1.mpr h7; omega, by have := mt e2.mpr h17; omega⟩
  · iterate 4 refine r_step hk rfl rfl rfl ?_
    refine r_ge (fun h17 => ?_) (fun h17 => ?_)
    · refine r_step hk rfl rfl rfl ?_
      refine r_iret hk rfl (Or.inl rfl) ?_
      first | (refine gbo_f ?_; intro hc; have := e1.mp h7; omega) | (refine gbo_f ?_; intro hc; have := e2.mp h17; omega) | exact gbo_t ⟨by have := mt e1.mpr h7; omega, by have := mt e2.mpr h17; omega⟩
    · iterate 2 refine r_step hk rfl rfl rfl ?_
      refine r_iret hk rfl (Or.inr rfl) ?_
      first | (refine gbo_f ?_; intro hc; have := e1.mp h7; omega) | (refine gbo_f ?_; intro hc; have := e2.mp h17; omega) | exact gbo_t ⟨by have := mt e1.mpr h7; omega, by have := mt e2.mpr h17; omega⟩
theorem c_factTold {t : Nat} (ht : w 33 1 = nI t) (h6 : 206 ≤ t) : gE d 36 [.ref 33] (n, u, HP w a b r q y) (gre (nI (t - 206)) (n, u, HP w a b r q y)) := by
  have hk : gMT[36]? = some gro_36 := rfl
  refine r_in hk [some (.ref 33)] (Nat.le_of_ble_eq_true rfl) rfl ?_
  iterate 4 refine r_step hk rfl rfl rfl ?_
  refine r_iret hk rfl trivial ?_
  exact ⟨congrArg (fun z => some (Value.int z)) (by rw [ht]; exact pk_sub (b := 206) h6), rfl⟩
theorem c_wayTold {t : Nat} (ht : w 33 1 = nI t) (h6 : 200 ≤ t) : gE d 28 [.ref 33] (n, u, HP w a b r q y) (gre (nI (t - 199)) (n, u, HP w a b r q y)) := by
  have hk : gMT[28]? = some gro_28 := rfl
  refine r_in hk [some (.ref 33)] (Nat.le_of_ble_eq_true rfl) rfl ?_
  iterate 6 refine r_step hk rfl rfl rfl ?_
  refine r_iret hk rfl trivial ?_
  refine ⟨congrArg (fun z => some (Value.int z)) ?_, rfl⟩
  rw [ht, show nI t - 200 = nI (t - 200) from pk_sub (b := 200) h6, nI_1, show t - 200 + 1 = t - 199 by omega]
theorem c_add (he : e < 2) {s0 : Nat} (hs : w (22 + 5 * e) 4 = nI s0) (h6 : s0 < 600) (v : Int32) : gE d 35 [.ref (22 + 5 * e), .int v] (n, u, HP w a b r q y) (fun v' S' => v' = none ∧ S' = (n, u, HP (upd2 w (22 + 5 * e) 4 (nI (s0 + 1))) (upd2 a (23 + 5 * e) s0 v) b r q y)) := by
  have hk : gMT[35]? = some gro_35 := rfl
  refine r_in hk [some (.ref (22 + 5 * e)), some (.int v)] (Nat.le_of_ble_eq_true rfl) rfl ?_
  have e1 : w (22 + 5 * e) 4 + 1 = nI (s0 + 1) := by rw [hs]; exact nI_1 s0
  have h9 : ¬ nI 600 ≤ w (22 + 5 * e) 4 := by rw [hs]; exact nI_ge h6 (by decide)
  refine r_step hk rfl rfl rfl ?_
  refine r_getRu hk rfl he rfl ?_
  refine r_step hk rfl rfl rfl ?_
  refine r_getRA hk rfl he rfl ?_
  refine r_alen hk rfl (HP_rc he) ?_
  refine r_step hk rfl rfl rfl ?_
  refine r_ge (fun hq9 => absurd hq9 h9) (fun _ => ?_)
  refine r_step hk rfl rfl rfl ?_
  refine r_getRA hk rfl he rfl ?_
  refine r_step hk rfl rfl rfl ?_
  refine r_getRu hk rfl he rfl ?_
  refine r_step hk rfl rfl rfl ?_
  refine r_is hk s0 rfl (HP_rc he) (HP_rc he).symm hs h6 rfl (Nat.ble_eq.mpr (by omega)) ?_
  iterate 2 refine r_step hk rfl rfl rfl ?_
  refine r_getRu hk rfl he rfl ?_
  iterate 2 refine r_step hk rfl rfl rfl ?_
  rw [e1]
  refine r_putRu hk rfl he rfl ?_
  refine r_ret hk rfl rfl ?_
  exact ⟨rfl, rfl⟩
theorem kPp_add (he : e < 2) (h : kPp w a f len e base ts cs) {c : Nat} {v : Int32} (hv : v = gco c) : kPp (upd2 w (22 + 5 * e) 4 (nI (base + cs.length + 1))) (upd2 a (23 + 5 * e) (base + cs.length) v) f len e base ts (cs ++ [c]) := by
  obtain ⟨⟨p, hp, hts, h1, h2, h3, h4⟩, k1, k2, k3⟩ := h
  have e33 : upd2 w (22 + 5 * e) 4 (nI (base + cs.length + 1)) 33 = w 33 := upd2_row _ _ _ _ (by omega)
  refine ⟨⟨p, hp, hts, by rw [e33]; exact h1, by rw [e33]; exact h2, by rw [e33]; exact h3, by rw [e33]; exact h4⟩, by rw [upd2_row _ _ _ _ (by omega)]; exact k1, by rw [upd2_same, List.length_append, List.length_singleton, Nat.add_assoc], gcP_app cs _ (gcP_cg cs _ (fun j _ hj => by rw [upd2_at, if_neg (by omega)]) k3) (by rw [upd2_same]; exact hv)⟩
theorem cTap_cfp {w0 a0 : Nat → Nat → Int32} (he : e < 2) (ht : cTap w0 a0 f len) (hf : cfp e base w0 a0 w a) : cTap w a f len := ⟨by rw [hf.1 20 (by decide) (by decide) (by omega)]; exact ht.1, ht.2.1, fun i hi => by rw [hf.2.2.1 21 (by simp; omega)]; exact ht.2.2 i hi⟩
end GC11
