/-! ===== what sorting and weeks do, as both do it ===== -/
/-- places, shops, weeks of the things -/
abbrev gP3 : Type := (Nat → Int32) × (Nat → Int32) × (Nat → Int32)
def gu (f : Nat → Int32) (t : Nat) (x : Int32) : Nat → Int32 := fun i => if i = t then x else f i
theorem gu_row (a : Nat → Nat → Int32) (j t : Nat) (x : Int32) : upd2 a j t x j = gu (a j) t x := by
  funext i; simp [upd2, gu]
abbrev gOnP (X : gP3) (st s : Int32) : Nat → Prop := fun t => X.1 t = st ∧ X.2.1 t = s
abbrev gRoom (N : Nat) (rm : Nat → Int32) (X : gP3) (s : Nat) : Prop := nI (gcnt (gOnP X 1 (nI s)) N) < rm s
def gsrt (N : Nat) (rm : Nat → Int32) (now : Int32) (wy : Nat) (X : gP3) (t s : Nat) : gP3 :=
  if wy = 1 ∧ gRoom N rm X s then (gu X.1 t 1, gu X.2.1 t (nI s), gu X.2.2 t now) else (gu X.1 t (if wy ≤ 2 then 2 else nI wy), X.2.1, X.2.2)
/-- the first shop with room, 0 without any -/
def gFirst (N : Nat) (rm : Nat → Int32) (X : gP3) (s : Nat) : Prop := (s < 5 ∧ gRoom N rm X s ∧ ∀ s', s' < s → ¬ gRoom N rm X s') ∨ ((∀ s', s' < 5 → ¬ gRoom N rm X s') ∧ s = 0)
theorem gsrt_no {N : Nat} {rm : Nat → Int32} {now x : Int32} {wy t s : Nat} {a a1 : Nat → Nat → Int32} (e64 : a1 64 = a 64) (e65 : a1 65 = a 65) (e66 : a1 66 = a 66) (hn : ¬ (wy = 1 ∧ gRoom N rm (a 64, a 65, a 66) s)) (hx : x = if wy ≤ 2 then 2 else nI wy) : ((upd2 a1 64 t x 64, upd2 a1 64 t x 65, upd2 a1 64 t x 66) : gP3) = gsrt N rm now wy (a 64, a 65, a 66) t s := by
  unfold gsrt
  rw [if_neg hn, gu_row, upd2_row _ _ _ _ (by decide), upd2_row _ _ _ _ (by decide), e64, e65, e66, hx]
theorem gsrt_yes {N : Nat} {rm : Nat → Int32} {now : Int32} {wy t s : Nat} {a a1 : Nat → Nat → Int32} (e64 : a1 64 = a 64) (e65 : a1 65 = a 65) (e66 : a1 66 = a 66) (hn : wy = 1 ∧ gRoom N rm (a 64, a 65, a 66) s) : ((upd2 (upd2 (upd2 a1 64 t 1) 65 t (nI s)) 66 t now 64, upd2 (upd2 (upd2 a1 64 t 1) 65 t (nI s)) 66 t now 65, upd2 (upd2 (upd2 a1 64 t 1) 65 t (nI s)) 66 t now 66) : gP3) = gsrt N rm now wy (a 64, a 65, a 66) t s := by
  unfold gsrt
  rw [if_pos hn, upd2_row _ 66 t _ (by decide : (64 : Nat) ≠ 66), upd2_row _ 65 t _ (by decide : (64 : Nat) ≠ 65), gu_row, upd2_row _ 66 t _ (by decide : (65 : Nat) ≠ 66), gu_row, gu_row, upd2_row _ 64 t _ (by decide : (65 : Nat) ≠ 64), upd2_row _ 65 t _ (by decide : (66 : Nat) ≠ 65), upd2_row _ 64 t _ (by decide : (66 : Nat) ≠ 64), e64, e65, e66]
theorem gon_cnt {a a1 : Nat → Nat → Int32} {N : Nat} {st s : Int32} (e64 : a1 64 = a 64) (e65 : a1 65 = a 65) : gcnt (gOn a1 st s) N = gcnt (gOnP (a 64, a 65, a 66) st s) N :=
  gcnt_congr N (fun i _ => by show (a1 64 i = st ∧ a1 65 i = s) ↔ (a 64 i = st ∧ a 65 i = s); rw [e64, e65])
theorem gsrt_x4 {wy : Nat} (h : 1 ≤ wy ∧ wy ≤ 4) (h1 : ¬ wy = 1) (h2 : ¬ wy = 2) (h3 : ¬ wy = 3) : (4 : Int32) = if wy ≤ 2 then 2 else nI wy := by
  have e : wy = 4 := by omega
  subst e; rfl
theorem gsrt_x3 {wy : Nat} (h : wy = 3) : (3 : Int32) = if wy ≤ 2 then 2 else nI wy := by subst h; rfl
theorem gsrt_x2 {wy : Nat} (h : wy = 2) : (2 : Int32) = if wy ≤ 2 then 2 else nI wy := by subst h; rfl
theorem gsrt_x1 {wy : Nat} (h : wy = 1) : (2 : Int32) = if wy ≤ 2 then 2 else nI wy := by subst h; rfl
section GM6
variable {w a : Nat → Nat → Int32} {b : Nat → Nat → Int64} {r : Nat → Nat → Nat} {q : Nat → Nat → Option Nat} {y : gH} {n u : Nat} {d : Nat}
abbrev gXo (a : Nat → Nat → Int32) : gP3 := (a 64, a 65, a 66)
/-- as sorts leaves it -/
theorem m_sorts (hd : 3 ≤ d) {N T t k h s : Nat} (hN : w 44 25 = nI N) (hN1 : N ≤ 100) (hT : w 44 24 = nI T) (hT1 : T < 1000) (ht : t < 100) (hk8 : k < 8) (hkd : a 61 t = nI k) (hh : w 44 15 = nI h) (hh1 : h < 2) (hs : s < 5) {ls : List (Nat × List Nat)} (hls : gmText a h ls) : gE d 122 [.ref 44, .int (nI t), .int (nI s)] (n, u, HP w a b r q y) (fun v S' => v = none ∧ ∃ a', gag [58, 59, 64, 65, 66] a a' ∧ gXo a' = gsrt N (a 69) (nI T) (gway (gfa a T t k) ls) (gXo a) t s ∧ S' = (n, u, HP w a' b r q y)) := by
  have hk : gMT[122]? = some gro_122 := rfl
  refine r_in hk [some (.ref 44), some (.int (nI t)), some (.int (nI s)), none] (Nat.le_of_ble_eq_true rfl) rfl ?_
  have hrng := gway_rng (gfa a T t k) ls 0 hls.2.2
  generalize hwy : gway (gfa a T t k) ls = wy at hrng ⊢
  have q1 : nI wy = 1 ↔ wy = 1 := nI_eq (b := 1) (by omega) (by omega)
  have q2 : nI wy = 2 ↔ wy = 2 := nI_eq (b := 2) (by omega) (by omega)
  have q3 : nI wy = 3 ↔ wy = 3 := nI_eq (b := 3) (by omega) (by omega)
  iterate 2 refine r_step hk rfl rfl rfl ?_
  refine r_callV hk [.ref 44, .int (nI t)] [] rfl rfl rfl rfl rfl rfl rfl (by omega) (m_wayOf (by omega) hT hT1 ht hk8 hkd hh hh1 hls) ?_
  rw [hwy]
  rintro _ _ ⟨a1, hag, rfl, rfl⟩
  have e64 := hag 64 (by decide)
  have e65 := hag 65 (by decide)
  have e66 := hag 66 (by decide)
  have e69 := hag 69 (by decide)
  have hrm : gRoom N (a 69) (a 64, a 65, a 66) s ↔ nI (gcnt (gOn a1 1 (nI s)) N) < a1 69 s := by rw [gon_cnt e64 e65, e69]
  iterate 4 refine r_step hk rfl rfl rfl ?_
  refine r_ne (fun h8 => ?_) (fun h8 => ?_)
  · iterate 6 refine r_step hk rfl rfl rfl ?_
    refine r_eq (fun h35 => ?_) (fun h35 => ?_)
    · iterate 2 refine r_step hk rfl rfl rfl ?_
      refine r_is hk (t) rfl rfl rfl rfl ht rfl rfl ?_
      refine r_ret hk rfl rfl ?_
      refine ⟨rfl, _, ?_, ?_, rfl⟩
      first | exact gag_up (gag_sub hag (by decide)) (by decide) | exact gag_up (gag_up (gag_up (gag_sub hag (by decide)) (by decide)) (by decide)) (by decide)
      first | exact absurd h35 h8 | exact gsrt_no e64 e65 e66 (fun hc => h8 (q1.mpr hc.1)) (gsrt_x4 hrng (mt q1.mpr h8) (mt q2.mpr h40) (mt q3.mpr h49)) | exact gsrt_no e64 e65 e66 (fun hc => h8 (q1.mpr hc.1)) (gsrt_x3 (q3.mp h49)) | exact gsrt_no e64 e65 e66 (fun hc => h8 (q1.mpr hc.1)) (gsrt_x2 (q2.mp h40)) | (rw [← hT]; exact gsrt_yes e64 e65 e66 ⟨q1.mp h8, hrm.mpr hr⟩) | exact gsrt_no e64 e65 e66 (fun hc => hr (hrm.mp hc.2)) (gsrt_x1 (q1.mp h35)) | exact absurd h8 h35
    · iterate 3 refine r_step hk rfl rfl rfl ?_
      refine r_ne (fun h40 => ?_) (fun h40 => ?_)
      · iterate 3 refine r_step hk rfl rfl rfl ?_
        refine r_ne (fun h49 => ?_) (fun h49 => ?_)
        · refine r_step hk rfl rfl rfl ?_
          refine r_is hk (t) rfl rfl rfl rfl ht rfl rfl ?_
          refine r_ret hk rfl rfl ?_
          refine ⟨rfl, _, ?_, ?_, rfl⟩
          first | exact gag_up (gag_sub hag (by decide)) (by decide) | exact gag_up (gag_up (gag_up (gag_sub hag (by decide)) (by decide)) (by decide)) (by decide)
          first | exact absurd h35 h8 | exact gsrt_no e64 e65 e66 (fun hc => h8 (q1.mpr hc.1)) (gsrt_x4 hrng (mt q1.mpr h8) (mt q2.mpr h40) (mt q3.mpr h49)) | exact gsrt_no e64 e65 e66 (fun hc => h8 (q1.mpr hc.1)) (gsrt_x3 (q3.mp h49)) | exact gsrt_no e64 e65 e66 (fun hc => h8 (q1.mpr hc.1)) (gsrt_x2 (q2.mp h40)) | (rw [← hT]; exact gsrt_yes e64 e65 e66 ⟨q1.mp h8, hrm.mpr hr⟩) | exact gsrt_no e64 e65 e66 (fun hc => hr (hrm.mp hc.2)) (gsrt_x1 (q1.mp h35)) | exact absurd h8 h35
        · iterate 2 refine r_step hk rfl rfl rfl ?_
          refine r_is hk (t) rfl rfl rfl rfl ht rfl rfl ?_
          refine r_ret hk rfl rfl ?_
          refine ⟨rfl, _, ?_, ?_, rfl⟩
          first | exact gag_up (gag_sub hag (by decide)) (by decide) | exact gag_up (gag_up (gag_up (gag_sub hag (by decide)) (by decide)) (by decide)) (by decide)
          first | exact absurd h35 h8 | exact gsrt_no e64 e65 e66 (fun hc => h8 (q1.mpr hc.1)) (gsrt_x4 hrng (mt q1.mpr h8) (mt q2.mpr h40) (mt q3.mpr h49)) | exact gsrt_no e64 e65 e66 (fun hc => h8 (q1.mpr hc.1)) (gsrt_x3 (q3.mp h49)) | exact gsrt_no e64 e65 e66 (fun hc => h8 (q1.mpr hc.1)) (gsrt_x2 (q2.mp h40)) | (rw [← hT]; exact gsrt_yes e64 e65 e66 ⟨q1.mp h8, hrm.mpr hr⟩) | exact gsrt_no e64 e65 e66 (fun hc => hr (hrm.mp hc.2)) (gsrt_x1 (q1.mp h35)) | exact absurd h8 h35
      · iterate 2 refine r_step hk rfl rfl rfl ?_
        refine r_is hk (t) rfl rfl rfl rfl ht rfl rfl ?_
        refine r_ret hk rfl rfl ?_
        refine ⟨rfl, _, ?_, ?_, rfl⟩
        first | exact gag_up (gag_sub hag (by decide)) (by decide) | exact gag_up (gag_up (gag_up (gag_sub hag (by decide)) (by decide)) (by decide)) (by decide)
        first | exact absurd h35 h8 | exact gsrt_no e64 e65 e66 (fun hc => h8 (q1.mpr hc.1)) (gsrt_x4 hrng (mt q1.mpr h8) (mt q2.mpr h40) (mt q3.mpr h49)) | exact gsrt_no e64 e65 e66 (fun hc => h8 (q1.mpr hc.1)) (gsrt_x3 (q3.mp h49)) | exact gsrt_no e64 e65 e66 (fun hc => h8 (q1.mpr hc.1)) (gsrt_x2 (q2.mp h40)) | (rw [← hT]; exact gsrt_yes e64 e65 e66 ⟨q1.mp h8, hrm.mpr hr⟩) | exact gsrt_no e64 e65 e66 (fun hc => hr (hrm.mp hc.2)) (gsrt_x1 (q1.mp h35)) | exact absurd h8 h35
  · iterate 2 refine r_step hk rfl rfl rfl ?_
    refine r_callV hk [.ref 44, .int (nI s)] [] rfl rfl rfl rfl rfl rfl rfl (by omega) (m_hasRoom (by omega) hN hN1 hs) ?_
    rintro _ _ ⟨⟨hr, rfl⟩ | ⟨hr, rfl⟩, rfl⟩
    · refine r_step hk rfl rfl rfl ?_
      refine r_eq (fun hq9 => absurd hq9 (by decide)) (fun _ => ?_)
      iterate 3 refine r_step hk rfl rfl rfl ?_
      refine r_callV hk [.ref 44, .int (nI t), .int (nI s)] [] rfl rfl rfl rfl rfl rfl rfl (by omega) (m_comesOn ht _) ?_
      rintro _ _ ⟨rfl, rfl⟩
      refine r_step hk rfl rfl rfl ?_
      refine r_ret hk rfl rfl ?_
      refine ⟨rfl, _, ?_, ?_, rfl⟩
      first | exact gag_up (gag_sub hag (by decide)) (by decide) | exact gag_up (gag_up (gag_up (gag_sub hag (by decide)) (by decide)) (by decide)) (by decide)
      first | exact absurd h35 h8 | exact gsrt_no e64 e65 e66 (fun hc => h8 (q1.mpr hc.1)) (gsrt_x4 hrng (mt q1.mpr h8) (mt q2.mpr h40) (mt q3.mpr h49)) | exact gsrt_no e64 e65 e66 (fun hc => h8 (q1.mpr hc.1)) (gsrt_x3 (q3.mp h49)) | exact gsrt_no e64 e65 e66 (fun hc => h8 (q1.mpr hc.1)) (gsrt_x2 (q2.mp h40)) | (rw [← hT]; exact gsrt_yes e64 e65 e66 ⟨q1.mp h8, hrm.mpr hr⟩) | exact gsrt_no e64 e65 e66 (fun hc => hr (hrm.mp hc.2)) (gsrt_x1 (q1.mp h35)) | exact absurd h8 h35
    · refine r_step hk rfl rfl rfl ?_
      refine r_eq (fun _ => ?_) (fun hq9 => absurd (by decide) hq9)
      iterate 6 refine r_step hk rfl rfl rfl ?_
      refine r_eq (fun h35 => ?_) (fun h35 => ?_)
      · iterate 2 refine r_step hk rfl rfl rfl ?_
        refine r_is hk (t) rfl rfl rfl rfl ht rfl rfl ?_
        refine r_ret hk rfl rfl ?_
        refine ⟨rfl, _, ?_, ?_, rfl⟩
        first | exact gag_up (gag_sub hag (by decide)) (by decide) | exact gag_up (gag_up (gag_up (gag_sub hag (by decide)) (by decide)) (by decide)) (by decide)
        first | exact absurd h35 h8 | exact gsrt_no e64 e65 e66 (fun hc => h8 (q1.mpr hc.1)) (gsrt_x4 hrng (mt q1.mpr h8) (mt q2.mpr h40) (mt q3.mpr h49)) | exact gsrt_no e64 e65 e66 (fun hc => h8 (q1.mpr hc.1)) (gsrt_x3 (q3.mp h49)) | exact gsrt_no e64 e65 e66 (fun hc => h8 (q1.mpr hc.1)) (gsrt_x2 (q2.mp h40)) | (rw [← hT]; exact gsrt_yes e64 e65 e66 ⟨q1.mp h8, hrm.mpr hr⟩) | exact gsrt_no e64 e65 e66 (fun hc => hr (hrm.mp hc.2)) (gsrt_x1 (q1.mp h35)) | exact absurd h8 h35
      · iterate 3 refine r_step hk rfl rfl rfl ?_
        refine r_ne (fun h40 => ?_) (fun h40 => ?_)
        · iterate 3 refine r_step hk rfl rfl rfl ?_
          refine r_ne (fun h49 => ?_) (fun h49 => ?_)
          · refine r_step hk rfl rfl rfl ?_
            refine r_is hk (t) rfl rfl rfl rfl ht rfl rfl ?_
            refine r_ret hk rfl rfl ?_
            refine ⟨rfl, _, ?_, ?_, rfl⟩
            first | exact gag_up (gag_sub hag (by decide)) (by decide) | exact gag_up (gag_up (gag_up (gag_sub hag (by decide)) (by decide)) (by decide)) (by decide)
            first | exact absurd h35 h8 | exact gsrt_no e64 e65 e66 (fun hc => h8 (q1.mpr hc.1)) (gsrt_x4 hrng (mt q1.mpr h8) (mt q2.mpr h40) (mt q3.mpr h49)) | exact gsrt_no e64 e65 e66 (fun hc => h8 (q1.mpr hc.1)) (gsrt_x3 (q3.mp h49)) | exact gsrt_no e64 e65 e66 (fun hc => h8 (q1.mpr hc.1)) (gsrt_x2 (q2.mp h40)) | (rw [← hT]; exact gsrt_yes e64 e65 e66 ⟨q1.mp h8, hrm.mpr hr⟩) | exact gsrt_no e64 e65 e66 (fun hc => hr (hrm.mp hc.2)) (gsrt_x1 (q1.mp h35)) | exact absurd h8 h35
          · iterate 2 refine r_step hk rfl rfl rfl ?_
            refine r_is hk (t) rfl rfl rfl rfl ht rfl rfl ?_
            refine r_ret hk rfl rfl ?_
            refine ⟨rfl, _, ?_, ?_, rfl⟩
            first | exact gag_up (gag_sub hag (by decide)) (by decide) | exact gag_up (gag_up (gag_up (gag_sub hag (by decide)) (by decide)) (by decide)) (by decide)
            first | exact absurd h35 h8 | exact gsrt_no e64 e65 e66 (fun hc => h8 (q1.mpr hc.1)) (gsrt_x4 hrng (mt q1.mpr h8) (mt q2.mpr h40) (mt q3.mpr h49)) | exact gsrt_no e64 e65 e66 (fun hc => h8 (q1.mpr hc.1)) (gsrt_x3 (q3.mp h49)) | exact gsrt_no e64 e65 e66 (fun hc => h8 (q1.mpr hc.1)) (gsrt_x2 (q2.mp h40)) | (rw [← hT]; exact gsrt_yes e64 e65 e66 ⟨q1.mp h8, hrm.mpr hr⟩) | exact gsrt_no e64 e65 e66 (fun hc => hr (hrm.mp hc.2)) (gsrt_x1 (q1.mp h35)) | exact absurd h8 h35
        · iterate 2 refine r_step hk rfl rfl rfl ?_
          refine r_is hk (t) rfl rfl rfl rfl ht rfl rfl ?_
          refine r_ret hk rfl rfl ?_
          refine ⟨rfl, _, ?_, ?_, rfl⟩
          first | exact gag_up (gag_sub hag (by decide)) (by decide) | exact gag_up (gag_up (gag_up (gag_sub hag (by decide)) (by decide)) (by decide)) (by decide)
          first | exact absurd h35 h8 | exact gsrt_no e64 e65 e66 (fun hc => h8 (q1.mpr hc.1)) (gsrt_x4 hrng (mt q1.mpr h8) (mt q2.mpr h40) (mt q3.mpr h49)) | exact gsrt_no e64 e65 e66 (fun hc => h8 (q1.mpr hc.1)) (gsrt_x3 (q3.mp h49)) | exact gsrt_no e64 e65 e66 (fun hc => h8 (q1.mpr hc.1)) (gsrt_x2 (q2.mp h40)) | (rw [← hT]; exact gsrt_yes e64 e65 e66 ⟨q1.mp h8, hrm.mpr hr⟩) | exact gsrt_no e64 e65 e66 (fun hc => hr (hrm.mp hc.2)) (gsrt_x1 (q1.mp h35)) | exact absurd h8 h35
end GM6
