/-! ===== lines of a text as programs for a stack ===== -/
def gval (f : Nat → Int32) (e : Nat) : Int32 := if e < 10000 then nI e else f (e - 10000)
def gopv (o : Nat) (x y : Int32) : Int32 := match o with
  | 0 => x + y
  | 1 => x - y
  | 2 => if x < y then 1 else 0
  | 3 => if x = y then 1 else 0
  | _ => if ¬ x = 0 ∧ ¬ y = 0 then 1 else 0
def gev (f : Nat → Int32) : List Int32 → List Nat → List Int32
  | st, [] => st
  | st, e :: p => if e < 10006 then gev f (gval f e :: st) p else match st with
    | z :: x :: r => gev f (gopv (e - 10010) x z :: r) p
    | r => gev f r p
def gwf : Nat → List Nat → Prop
  | n, [] => n = 1
  | n, e :: p => (e < 10006 ∧ n < 16 ∧ gwf (n + 1) p) ∨ (10010 ≤ e ∧ e < 10015 ∧ 2 ≤ n ∧ gwf (n - 1) p)
def gevv (f : Nat → Int32) (p : List Nat) : Int32 := (gev f [] p).headD 0
/-- a stack in an array -/
def gstk (f : Nat → Int32) : List Int32 → Prop
  | [] => True
  | x :: r => f r.length = x ∧ gstk f r
theorem gstk_congr {f g : Nat → Int32} : ∀ (st : List Int32), (∀ j, j < st.length → g j = f j) → gstk f st → gstk g st := by
  intro st
  induction st with
  | nil => intro _ _; trivial
  | cons x r ih =>
    intro h hs
    exact ⟨(h r.length (by simp)).trans hs.1, ih (fun j hj => h j (by simp; omega)) hs.2⟩
theorem gev_congr {f g : Nat → Int32} (h : ∀ k, k < 6 → f k = g k) : ∀ (p : List Nat) (st : List Int32), gev f st p = gev g st p := by
  intro p
  induction p with
  | nil => intro st; rfl
  | cons e p ih =>
    intro st
    simp only [gev]
    by_cases he : e < 10006
    · have : gval f e = gval g e := by
        unfold gval
        by_cases h1 : e < 10000
        · simp [h1]
        · simp only [h1, if_false]; exact h _ (by omega)
      simp only [he, if_true, this]; exact ih _
    · simp only [he, if_false]
      split <;> exact ih _
theorem gevv_congr {f g : Nat → Int32} (h : ∀ k, k < 6 → f k = g k) (p : List Nat) : gevv f p = gevv g p := by
  unfold gevv; rw [gev_congr h]
def gway (f : Nat → Int32) : List (Nat × List Nat) → Nat
  | [] => 3
  | (z, p) :: t => if gevv f p = 0 then gway f t else z
theorem gway_congr {f g : Nat → Int32} (h : ∀ k, k < 6 → f k = g k) : ∀ ls, gway f ls = gway g ls := by
  intro ls
  induction ls with
  | nil => rfl
  | cons a t ih =>
    obtain ⟨z, p⟩ := a
    simp only [gway, gevv_congr h p, ih]
/-- the reference's codes -/
def gmo (e : Nat) : Int32 := if e < 10000 then 1 else if e < 10006 then 2 else nI (e - 10007)
def gme (e : Nat) : Int32 := if e < 10000 then nI e else if e < 10006 then nI (e - 10000) else 0
def gmP (op one : Nat → Int32) : Nat → List Nat → Prop
  | i, [] => op i = 0
  | i, e :: p => op i = gmo e ∧ (e < 10006 → one i = gme e) ∧ gmP op one (i + 1) p
def gag (X : List Nat) (a a' : Nat → Nat → Int32) : Prop := ∀ j, j ∉ X → a' j = a j
theorem gag_rf {X : List Nat} {a : Nat → Nat → Int32} : gag X a a := fun _ _ => rfl
theorem gag_tr {X : List Nat} {a a1 a2 : Nat → Nat → Int32} (h1 : gag X a a1) (h2 : gag X a1 a2) : gag X a a2 := fun j hj => (h2 j hj).trans (h1 j hj)
theorem gag_up {X : List Nat} {a a1 : Nat → Nat → Int32} (h1 : gag X a a1) {j s : Nat} {x : Int32} (hj : j ∈ X) : gag X a (upd2 a1 j s x) := fun i hi => by
  have : i ≠ j := fun e => hi (e ▸ hj)
  rw [upd2_row _ _ _ _ this]; exact h1 i hi
theorem gag_sub {X Y : List Nat} {a a1 : Nat → Nat → Int32} (h1 : gag X a a1) (h : ∀ j, j ∈ X → j ∈ Y) : gag Y a a1 := fun j hj => h1 j (fun z => hj (h j z))
theorem gstk_push {a : Nat → Nat → Int32} {j : Nat} {st : List Int32} {x : Int32} (h : gstk (a j) st) : gstk (upd2 a j st.length x j) (x :: st) :=
  ⟨upd2_same _ _ _ _, gstk_congr st (fun i hi => upd2_col _ _ _ _ (by omega)) h⟩
theorem gmo_op {e : Nat} (o : Nat) (h10 : 10010 ≤ e) (h15 : e < 10015) (ho : o < 5) : nI (e - 10007) = nI (o + 3) ↔ e - 10010 = o := by
  rw [nI_eq (by omega) (by omega)]
  omega
theorem gmo_ne {e : Nat} (o : Nat) (h10 : 10010 ≤ e) (h15 : e < 10015) (ho : o < 3) : ¬ nI (e - 10007) = nI o := by
  rw [nI_eq (by omega) (by omega)]
  omega
theorem gmo_last {e : Nat} (h10 : 10010 ≤ e) (h15 : e < 10015) (k3 : ¬ e - 10010 = 0) (k4 : ¬ e - 10010 = 1) (k5 : ¬ e - 10010 = 2) (k6 : ¬ e - 10010 = 3) : e - 10010 = 4 := by omega
section GM4
variable {w a : Nat → Nat → Int32} {b : Nat → Nat → Int64} {r : Nat → Nat → Nat} {q : Nat → Nat → Option Nat} {y : gH} {n u : Nat} {d : Nat}
theorem m_valueOf {i0 : Nat} {p : List Nat} (hp : gmP (a 53) (a 54) i0 p) (hb : i0 + p.length < 1320) (hw : gwf 0 p) : gE d 125 [.ref 44, .int (nI i0)] (n, u, HP w a b r q y) (fun v S' => ∃ a', gag [59] a a' ∧ v = some (.int (gevv (a 58) p)) ∧ S' = (n, u, HP w a' b r q y)) := by
  have hk : gMT[125]? = some gro_125 := rfl
  refine r_in hk [some (.ref 44), some (.int (nI i0)), none, none, none, none, none] (Nat.le_of_ble_eq_true rfl) rfl ?_
  have loop : ∀ (p2 : List Nat) (i : Nat) (st : List Int32) (a1 : Nat → Nat → Int32) (l4 l5 l6 : Option Value) (z t : Int32), gmP (a 53) (a 54) i p2 → i + p2.length < 1320 → gwf st.length p2 → st.length ≤ 16 → gag [59] a a1 → gstk (a1 59) st → gev (a 58) st p2 = gev (a 58) [] p → z = nI i → t = nI st.length →
      gX d 125 4 [some (.ref 44), some (.int (nI i0)), some (.int z), some (.int t), l4, l5, l6] [] (n, u, HP w a1 b r q y) (fun v S' => ∃ a', gag [59] a a' ∧ v = some (.int (gevv (a 58) p)) ∧ S' = (n, u, HP w a' b r q y)) := by
    intro p2
    induction p2 with
    | nil =>
      intro i st a1 l4 l5 l6 z t hp2 hb2 hw2 h16 hag hst hev hz ht
      have e53 : a1 53 = a 53 := hag 53 (by decide)
      cases st with
      | nil => cases hw2
      | cons x rs =>
        have hrs : rs.length = 0 := by simpa [gwf] using hw2
        have hx0 : a1 59 0 = x := by rw [← hrs]; exact hst.1
        have hop : a1 53 i = 0 := by rw [e53]; exact hp2
        iterate 3 refine r_step hk rfl rfl rfl ?_
        refine r_ia hk (i) rfl rfl hz (by simp at hb2; omega) rfl ?_
        refine r_step hk rfl rfl rfl ?_
        refine r_eq (fun _ => ?_) (fun h => absurd hop h)
        iterate 3 refine r_step hk rfl rfl rfl ?_
        refine r_ia hk (0) rfl rfl rfl (by decide) rfl ?_
        refine r_iret hk rfl trivial ?_
        exact ⟨a1, hag, by rw [hx0]; simp only [gevv, ← hev, gev, List.headD_cons], rfl⟩
    | cons e p2 ih =>
      intro i st a1 l4 l5 l6 z t hp2 hb2 hw2 h16 hag hst hev hz ht
      have e53 : a1 53 = a 53 := hag 53 (by decide)
      have e54 : a1 54 = a 54 := hag 54 (by decide)
      have e58 : a1 58 = a 58 := hag 58 (by decide)
      obtain ⟨ho, hone, hp3⟩ := hp2
      have hbi : i < 1320 := by simp at hb2; omega
      have hb3 : i + 1 + p2.length < 1320 := by simp at hb2; omega
      have hop : a1 53 i = gmo e := by rw [e53]; exact ho
      rcases hw2 with ⟨h6, hn, hw3⟩ | ⟨h10, h15, hn, hw3⟩
      · have hon : a1 54 i = gme e := by rw [e54]; exact hone h6
        have hev2 : gev (a 58) (gval (a 58) e :: st) p2 = gev (a 58) [] p := by rw [← hev]; simp only [gev, h6, if_true]
        by_cases h0 : e < 10000
        · have ho1 : a1 53 i = 1 := by rw [hop]; simp [gmo, h0]
          have ho2 : a1 54 i = gval (a 58) e := by rw [hon]; simp [gme, gval, h0]
          iterate 3 refine r_step hk rfl rfl rfl ?_
          refine r_ia hk (i) rfl rfl hz hbi rfl ?_
          refine r_step hk rfl rfl rfl ?_
          refine r_eq (fun h => absurd h (show ¬ a1 53 i = 0 by rw [ho1]; decide)) (fun _ => ?_)
          iterate 3 refine r_step hk rfl rfl rfl ?_
          refine r_ia hk (i) rfl rfl hz hbi rfl ?_
          iterate 4 refine r_step hk rfl rfl rfl ?_
          refine r_eq (fun _ => ?_) (fun h => absurd ho1 h)
          iterate 6 refine r_step hk rfl rfl rfl ?_
          refine r_ne (fun h => absurd ho1 h) (fun _ => ?_)
          iterate 3 refine r_step hk rfl rfl rfl ?_
          refine r_ia hk (i) rfl rfl hz hbi rfl ?_
          refine r_step hk rfl rfl rfl ?_
          refine r_is hk (st.length) rfl rfl rfl ht (by omega) rfl rfl ?_
          iterate 4 refine r_step hk rfl rfl rfl ?_
          exact ih (i + 1) (a1 54 i :: st) _ _ _ _ _ _ hp3 hb3 hw3 (by simp; omega) (gag_up hag (by decide)) (gstk_push hst) (by rw [ho2]; exact hev2) (nI_s hz) (by simp only [List.length_cons]; exact nI_s ht)
        · have ho1 : a1 53 i = 2 := by rw [hop]; simp [gmo, h0, h6]
          have hk6 : a1 54 i = nI (e - 10000) := by rw [hon]; simp [gme, h0, h6]
          have ho2 : a1 58 (e - 10000) = gval (a 58) e := by rw [e58]; simp [gval, h0]
          iterate 3 refine r_step hk rfl rfl rfl ?_
          refine r_ia hk (i) rfl rfl hz hbi rfl ?_
          refine r_step hk rfl rfl rfl ?_
          refine r_eq (fun h => absurd h (show ¬ a1 53 i = 0 by rw [ho1]; decide)) (fun _ => ?_)
          iterate 3 refine r_step hk rfl rfl rfl ?_
          refine r_ia hk (i) rfl rfl hz hbi rfl ?_
          iterate 4 refine r_step hk rfl rfl rfl ?_
          refine r_eq (fun h => absurd h (show ¬ a1 53 i = 1 by rw [ho1]; decide)) (fun _ => ?_)
          iterate 3 refine r_step hk rfl rfl rfl ?_
          refine r_ne (fun h => absurd ho1 h) (fun _ => ?_)
          iterate 6 refine r_step hk rfl rfl rfl ?_
          refine r_ne (fun _ => ?_) (fun h => absurd h (show ¬ a1 53 i = 1 by rw [ho1]; decide))
          iterate 5 refine r_step hk rfl rfl rfl ?_
          refine r_ia hk (i) rfl rfl hz hbi rfl ?_
          refine r_ia hk (e - 10000) rfl rfl hk6 (by omega) rfl ?_
          refine r_is hk (st.length) rfl rfl rfl ht (by omega) rfl rfl ?_
          iterate 4 refine r_step hk rfl rfl rfl ?_
          exact ih (i + 1) (a1 58 (e - 10000) :: st) _ _ _ _ _ _ hp3 hb3 hw3 (by simp; omega) (gag_up hag (by decide)) (gstk_push hst) (by rw [ho2]; exact hev2) (nI_s hz) (by simp only [List.length_cons]; exact nI_s ht)
      · match st, hn, hst, hev, hw3, ht, h16 with
        | [], hn, _, _, _, _, _ => simp at hn
        | [x], hn, _, _, _, _, _ => simp at hn
        | z1 :: x1 :: rs, hn, hst, hev, hw3, ht, h16 =>
          have hy : a1 59 (rs.length + 1) = z1 := hst.1
          have hx1 : a1 59 rs.length = x1 := hst.2.1
          have hrs : gstk (a1 59) rs := hst.2.2
          have hl16 : rs.length + 2 ≤ 16 := by simpa using h16
          have ht1 : t + -1 = nI (rs.length + 1) := by rw [ht]; exact pk_m1 (rs.length + 1)
          have ht2 : t + -1 - 1 = nI rs.length := by rw [ht1]; exact nI_pred _
          have hw4 : gwf (rs.length + 1) p2 := by simpa using hw3
          have hge : ¬ e < 10006 := by omega
          have hev2 : gev (a 58) (gopv (e - 10010) x1 z1 :: rs) p2 = gev (a 58) [] p := by rw [← hev]; simp only [gev, hge, if_false]
          have hopv : a1 53 i = nI (e - 10007) := by rw [hop]; simp [gmo, show ¬ e < 10000 by omega, hge]
          have n0 : ¬ a1 53 i = 0 := by rw [hopv]; exact gmo_ne 0 h10 h15 (by decide)
          have n1 : ¬ a1 53 i = 1 := by rw [hopv]; exact gmo_ne 1 h10 h15 (by decide)
          have n2 : ¬ a1 53 i = 2 := by rw [hopv]; exact gmo_ne 2 h10 h15 (by decide)
          have q3 : a1 53 i = 3 ↔ e - 10010 = 0 := by rw [hopv]; exact gmo_op 0 h10 h15 (by decide)
          have q4 : a1 53 i = 4 ↔ e - 10010 = 1 := by rw [hopv]; exact gmo_op 1 h10 h15 (by decide)
          have q5 : a1 53 i = 5 ↔ e - 10010 = 2 := by rw [hopv]; exact gmo_op 2 h10 h15 (by decide)
          have q6 : a1 53 i = 6 ↔ e - 10010 = 3 := by rw [hopv]; exact gmo_op 3 h10 h15 (by decide)
          have qA : ¬ a1 53 i = 3 → ¬ a1 53 i = 4 → ¬ a1 53 i = 5 → ¬ a1 53 i = 6 → e - 10010 = 4 := by
            intro k3 k4 k5 k6
            exact gmo_last h10 h15 (mt q3.mpr k3) (mt q4.mpr k4) (mt q5.mpr k5) (mt q6.mpr k6)
          have fin : ∀ (v : Int32) (c5 c6 : Option Value), v = gopv (e - 10010) x1 z1 → gX d 125 4 [some (.ref 44), some (.int (nI i0)), some (.int (z + 1)), some (.int (t + -1)), some (.int (a1 53 i)), c5, c6] [] (n, u, HP w (upd2 a1 59 rs.length v) b r q y) (fun v S' => ∃ a', gag [59] a a' ∧ v = some (.int (gevv (a 58) p)) ∧ S' = (n, u, HP w a' b r q y)) := by
            intro v c5 c6 hv
            exact ih (i + 1) (v :: rs) _ _ _ _ _ _ hp3 hb3 hw4 (by simp; omega) (gag_up hag (by decide)) (gstk_push hrs) (by rw [hv]; exact hev2) (nI_s hz) ht1
          iterate 3 refine r_step hk rfl rfl rfl ?_
          refine r_ia hk (i) rfl rfl hz hbi rfl ?_
          refine r_step hk rfl rfl rfl ?_
          refine r_eq (fun h => absurd h n0) (fun _ => ?_)
          iterate 3 refine r_step hk rfl rfl rfl ?_
          refine r_ia hk (i) rfl rfl hz hbi rfl ?_
          iterate 4 refine r_step hk rfl rfl rfl ?_
          refine r_eq (fun h => absurd h n1) (fun _ => ?_)
          iterate 3 refine r_step hk rfl rfl rfl ?_
          refine r_ne (fun _ => ?_) (fun h => absurd h n2)
          iterate 4 refine r_step hk rfl rfl rfl ?_
          refine r_ia hk (rs.length + 1) rfl rfl ht1 (by omega) rfl ?_
          iterate 6 refine r_step hk rfl rfl rfl ?_
          refine r_ia hk (rs.length) rfl rfl ht2 (by omega) rfl ?_
          iterate 9 refine r_step hk rfl rfl rfl ?_
          refine r_ne (fun h102 => ?_) (fun h102 => ?_)
          · iterate 3 refine r_step hk rfl rfl rfl ?_
            refine r_ne (fun h116 => ?_) (fun h116 => ?_)
            · iterate 3 refine r_step hk rfl rfl rfl ?_
              refine r_ne (fun h130 => ?_) (fun h130 => ?_)
              · iterate 3 refine r_step hk rfl rfl rfl ?_
                refine r_ne (fun h152 => ?_) (fun h152 => ?_)
                · iterate 2 refine r_step hk rfl rfl rfl ?_
                  refine r_eq (fun h172 => ?_) (fun h172 => ?_)
                  · refine r_step hk rfl rfl rfl ?_
                    refine r_is hk (rs.length) rfl rfl rfl ht2 (by omega) rfl rfl ?_
                    iterate 2 refine r_step hk rfl rfl rfl ?_
                    refine fin _ _ _ ?_
                    first | (rw [q3.mp h102, hx1, hy]; rfl) | (rw [q4.mp h116, hx1, hy]; rfl) | (rw [q5.mp h130]; exact (if_pos (by rw [← hx1, ← hy]; exact Int32.not_le.mp h137)).symm) | (rw [q5.mp h130]; exact (if_neg (by rw [← hx1, ← hy]; exact Int32.not_lt.mpr h137)).symm) | (rw [q6.mp h152]; exact (if_pos (by rw [← hx1, ← hy]; exact h159)).symm) | (rw [q6.mp h152]; exact (if_neg (by rw [← hx1, ← hy]; exact h159)).symm) | (rw [qA h102 h116 h130 h152]; exact (if_pos ⟨by rw [← hx1]; exact h172, by rw [← hy]; exact h177⟩).symm) | (rw [qA h102 h116 h130 h152]; exact (if_neg (fun h => h.2 (by rw [← hy]; exact h177))).symm) | (rw [qA h102 h116 h130 h152]; exact (if_neg (fun h => h.1 (by rw [← hx1]; exact h172))).symm)
                  · iterate 2 refine r_step hk rfl rfl rfl ?_
                    refine r_eq (fun h177 => ?_) (fun h177 => ?_)
                    · refine r_step hk rfl rfl rfl ?_
                      refine r_is hk (rs.length) rfl rfl rfl ht2 (by omega) rfl rfl ?_
                      iterate 2 refine r_step hk rfl rfl rfl ?_
                      refine fin _ _ _ ?_
                      first | (rw [q3.mp h102, hx1, hy]; rfl) | (rw [q4.mp h116, hx1, hy]; rfl) | (rw [q5.mp h130]; exact (if_pos (by rw [← hx1, ← hy]; exact Int32.not_le.mp h137)).symm) | (rw [q5.mp h130]; exact (if_neg (by rw [← hx1, ← hy]; exact Int32.not_lt.mpr h137)).symm) | (rw [q6.mp h152]; exact (if_pos (by rw [← hx1, ← hy]; exact h159)).symm) | (rw [q6.mp h152]; exact (if_neg (by rw [← hx1, ← hy]; exact h159)).symm) | (rw [qA h102 h116 h130 h152]; exact (if_pos ⟨by rw [← hx1]; exact h172, by rw [← hy]; exact h177⟩).symm) | (rw [qA h102 h116 h130 h152]; exact (if_neg (fun h => h.2 (by rw [← hy]; exact h177))).symm) | (rw [qA h102 h116 h130 h152]; exact (if_neg (fun h => h.1 (by rw [← hx1]; exact h172))).symm)
                    · iterate 2 refine r_step hk rfl rfl rfl ?_
                      refine r_is hk (rs.length) rfl rfl rfl ht2 (by omega) rfl rfl ?_
                      iterate 2 refine r_step hk rfl rfl rfl ?_
                      refine fin _ _ _ ?_
                      first | (rw [q3.mp h102, hx1, hy]; rfl) | (rw [q4.mp h116, hx1, hy]; rfl) | (rw [q5.mp h130]; exact (if_pos (by rw [← hx1, ← hy]; exact Int32.not_le.mp h137)).symm) | (rw [q5.mp h130]; exact (if_neg (by rw [← hx1, ← hy]; exact Int32.not_lt.mpr h137)).symm) | (rw [q6.mp h152]; exact (if_pos (by rw [← hx1, ← hy]; exact h159)).symm) | (rw [q6.mp h152]; exact (if_neg (by rw [← hx1, ← hy]; exact h159)).symm) | (rw [qA h102 h116 h130 h152]; exact (if_pos ⟨by rw [← hx1]; exact h172, by rw [← hy]; exact h177⟩).symm) | (rw [qA h102 h116 h130 h152]; exact (if_neg (fun h => h.2 (by rw [← hy]; exact h177))).symm) | (rw [qA h102 h116 h130 h152]; exact (if_neg (fun h => h.1 (by rw [← hx1]; exact h172))).symm)
                · iterate 3 refine r_step hk rfl rfl rfl ?_
                  refine r_ne (fun h159 => ?_) (fun h159 => ?_)
                  · iterate 2 refine r_step hk rfl rfl rfl ?_
                    refine r_is hk (rs.length) rfl rfl rfl ht2 (by omega) rfl rfl ?_
                    iterate 2 refine r_step hk rfl rfl rfl ?_
                    refine fin _ _ _ ?_
                    first | (rw [q3.mp h102, hx1, hy]; rfl) | (rw [q4.mp h116, hx1, hy]; rfl) | (rw [q5.mp h130]; exact (if_pos (by rw [← hx1, ← hy]; exact Int32.not_le.mp h137)).symm) | (rw [q5.mp h130]; exact (if_neg (by rw [← hx1, ← hy]; exact Int32.not_lt.mpr h137)).symm) | (rw [q6.mp h152]; exact (if_pos (by rw [← hx1, ← hy]; exact h159)).symm) | (rw [q6.mp h152]; exact (if_neg (by rw [← hx1, ← hy]; exact h159)).symm) | (rw [qA h102 h116 h130 h152]; exact (if_pos ⟨by rw [← hx1]; exact h172, by rw [← hy]; exact h177⟩).symm) | (rw [qA h102 h116 h130 h152]; exact (if_neg (fun h => h.2 (by rw [← hy]; exact h177))).symm) | (rw [qA h102 h116 h130 h152]; exact (if_neg (fun h => h.1 (by rw [← hx1]; exact h172))).symm)
                  · iterate 2 refine r_step hk rfl rfl rfl ?_
                    refine r_is hk (rs.length) rfl rfl rfl ht2 (by omega) rfl rfl ?_
                    iterate 2 refine r_step hk rfl rfl rfl ?_
                    refine fin _ _ _ ?_
                    first | (rw [q3.mp h102, hx1, hy]; rfl) | (rw [q4.mp h116, hx1, hy]; rfl) | (rw [q5.mp h130]; exact (if_pos (by rw [← hx1, ← hy]; exact Int32.not_le.mp h137)).symm) | (rw [q5.mp h130]; exact (if_neg (by rw [← hx1, ← hy]; exact Int32.not_lt.mpr h137)).symm) | (rw [q6.mp h152]; exact (if_pos (by rw [← hx1, ← hy]; exact h159)).symm) | (rw [q6.mp h152]; exact (if_neg (by rw [← hx1, ← hy]; exact h159)).symm) | (rw [qA h102 h116 h130 h152]; exact (if_pos ⟨by rw [← hx1]; exact h172, by rw [← hy]; exact h177⟩).symm) | (rw [qA h102 h116 h130 h152]; exact (if_neg (fun h => h.2 (by rw [← hy]; exact h177))).symm) | (rw [qA h102 h116 h130 h152]; exact (if_neg (fun h => h.1 (by rw [← hx1]; exact h172))).symm)
              · iterate 3 refine r_step hk rfl rfl rfl ?_
                refine r_ge (fun h137 => ?_) (fun h137 => ?_)
                · iterate 2 refine r_step hk rfl rfl rfl ?_
                  refine r_is hk (rs.length) rfl rfl rfl ht2 (by omega) rfl rfl ?_
                  iterate 2 refine r_step hk rfl rfl rfl ?_
                  refine fin _ _ _ ?_
                  first | (rw [q3.mp h102, hx1, hy]; rfl) | (rw [q4.mp h116, hx1, hy]; rfl) | (rw [q5.mp h130]; exact (if_pos (by rw [← hx1, ← hy]; exact Int32.not_le.mp h137)).symm) | (rw [q5.mp h130]; exact (if_neg (by rw [← hx1, ← hy]; exact Int32.not_lt.mpr h137)).symm) | (rw [q6.mp h152]; exact (if_pos (by rw [← hx1, ← hy]; exact h159)).symm) | (rw [q6.mp h152]; exact (if_neg (by rw [← hx1, ← hy]; exact h159)).symm) | (rw [qA h102 h116 h130 h152]; exact (if_pos ⟨by rw [← hx1]; exact h172, by rw [← hy]; exact h177⟩).symm) | (rw [qA h102 h116 h130 h152]; exact (if_neg (fun h => h.2 (by rw [← hy]; exact h177))).symm) | (rw [qA h102 h116 h130 h152]; exact (if_neg (fun h => h.1 (by rw [← hx1]; exact h172))).symm)
                · iterate 2 refine r_step hk rfl rfl rfl ?_
                  refine r_is hk (rs.length) rfl rfl rfl ht2 (by omega) rfl rfl ?_
                  iterate 2 refine r_step hk rfl rfl rfl ?_
                  refine fin _ _ _ ?_
                  first | (rw [q3.mp h102, hx1, hy]; rfl) | (rw [q4.mp h116, hx1, hy]; rfl) | (rw [q5.mp h130]; exact (if_pos (by rw [← hx1, ← hy]; exact Int32.not_le.mp h137)).symm) | (rw [q5.mp h130]; exact (if_neg (by rw [← hx1, ← hy]; exact Int32.not_lt.mpr h137)).symm) | (rw [q6.mp h152]; exact (if_pos (by rw [← hx1, ← hy]; exact h159)).symm) | (rw [q6.mp h152]; exact (if_neg (by rw [← hx1, ← hy]; exact h159)).symm) | (rw [qA h102 h116 h130 h152]; exact (if_pos ⟨by rw [← hx1]; exact h172, by rw [← hy]; exact h177⟩).symm) | (rw [qA h102 h116 h130 h152]; exact (if_neg (fun h => h.2 (by rw [← hy]; exact h177))).symm) | (rw [qA h102 h116 h130 h152]; exact (if_neg (fun h => h.1 (by rw [← hx1]; exact h172))).symm)
            · iterate 4 refine r_step hk rfl rfl rfl ?_
              refine r_is hk (rs.length) rfl rfl rfl ht2 (by omega) rfl rfl ?_
              iterate 2 refine r_step hk rfl rfl rfl ?_
              refine fin _ _ _ ?_
              first | (rw [q3.mp h102, hx1, hy]; rfl) | (rw [q4.mp h116, hx1, hy]; rfl) | (rw [q5.mp h130]; exact (if_pos (by rw [← hx1, ← hy]; exact Int32.not_le.mp h137)).symm) | (rw [q5.mp h130]; exact (if_neg (by rw [← hx1, ← hy]; exact Int32.not_lt.mpr h137)).symm) | (rw [q6.mp h152]; exact (if_pos (by rw [← hx1, ← hy]; exact h159)).symm) | (rw [q6.mp h152]; exact (if_neg (by rw [← hx1, ← hy]; exact h159)).symm) | (rw [qA h102 h116 h130 h152]; exact (if_pos ⟨by rw [← hx1]; exact h172, by rw [← hy]; exact h177⟩).symm) | (rw [qA h102 h116 h130 h152]; exact (if_neg (fun h => h.2 (by rw [← hy]; exact h177))).symm) | (rw [qA h102 h116 h130 h152]; exact (if_neg (fun h => h.1 (by rw [← hx1]; exact h172))).symm)
          · iterate 4 refine r_step hk rfl rfl rfl ?_
            refine r_is hk (rs.length) rfl rfl rfl ht2 (by omega) rfl rfl ?_
            iterate 2 refine r_step hk rfl rfl rfl ?_
            refine fin _ _ _ ?_
            first | (rw [q3.mp h102, hx1, hy]; rfl) | (rw [q4.mp h116, hx1, hy]; rfl) | (rw [q5.mp h130]; exact (if_pos (by rw [← hx1, ← hy]; exact Int32.not_le.mp h137)).symm) | (rw [q5.mp h130]; exact (if_neg (by rw [← hx1, ← hy]; exact Int32.not_lt.mpr h137)).symm) | (rw [q6.mp h152]; exact (if_pos (by rw [← hx1, ← hy]; exact h159)).symm) | (rw [q6.mp h152]; exact (if_neg (by rw [← hx1, ← hy]; exact h159)).symm) | (rw [qA h102 h116 h130 h152]; exact (if_pos ⟨by rw [← hx1]; exact h172, by rw [← hy]; exact h177⟩).symm) | (rw [qA h102 h116 h130 h152]; exact (if_neg (fun h => h.2 (by rw [← hy]; exact h177))).symm) | (rw [qA h102 h116 h130 h152]; exact (if_neg (fun h => h.1 (by rw [← hx1]; exact h172))).symm)
  iterate 4 refine r_step hk rfl rfl rfl ?_
  exact loop p i0 [] a _ _ _ _ _ hp hb hw (by decide) gag_rf trivial rfl rfl rfl
end GM4
