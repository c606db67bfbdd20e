/-! chance -/
def cs (q : PL) (u : Nat) : Nat := fb_ct (lgl q u) 21
def shm (q : PL) (u c : Nat) (f : Nat → Nat) : Nat → (Nat → Nat)
  | 0 => f
  | m + 1 => if lgl q u m then vu (shm q u c f m) (u ^^^ mk m) (shm q u c f m (u ^^^ mk m) + c) else shm q u c f m
def shr (q : PL) (P : Nat → Nat) (u : Nat) (f : Nat → Nat) : Nat → Nat := if P u = 0 then f else if cs q u = 0 then vu f u (f u + P u) else shm q u (P u / cs q u) f 21
def nxt (q : PL) (P : Nat → Nat) : Nat → (Nat → Nat)
  | 0 => fun _ => 0
  | k + 1 => shr q P k (nxt q P k)
def pts (q : PL) (st : Nat) : Nat → (Nat → Nat)
  | 0 => fun s => if s = st then 1000000 else 0
  | k + 1 => nxt q (pts q st k) (2 ^ q.2.1)
theorem sm_vu (f : Nat → Nat) (c : Nat) {t n : Nat} (h : t < n) : fb_sm (vu f t (f t + c)) n = fb_sm f n + c := by
  have := fb_sm_upd f (f t + c) h
  unfold vu
  omega
theorem sm_shm {q : PL} (hz : q.2.1 ≤ 10) {u : Nat} (hu : u < 2 ^ q.2.1) (c : Nat) (f : Nat → Nat) (k : Nat) : fb_sm (shm q u c f k) (2 ^ q.2.1) = fb_sm f (2 ^ q.2.1) + c * fb_ct (lgl q u) k := by
  induction k with
  | zero => rfl
  | succ k ih =>
    show fb_sm (if lgl q u k then vu (shm q u c f k) (u ^^^ mk k) (shm q u c f k (u ^^^ mk k) + c) else shm q u c f k) _ = _
    rw [fb_ct_succ (lgl q u) k]
    cases e : lgl q u k
    · rw [if_neg (by decide), if_neg (by decide), ih]
      rfl
    · rw [if_pos rfl, if_pos rfl, sm_vu _ _ (mvb_mk hz (mvb_of e) hu), ih, Nat.mul_add, Nat.mul_one]
      omega
theorem sm_shr {q : PL} (hz : q.2.1 ≤ 10) {u : Nat} (hu : u < 2 ^ q.2.1) (P f : Nat → Nat) : fb_sm (shr q P u f) (2 ^ q.2.1) ≤ fb_sm f (2 ^ q.2.1) + P u := by
  unfold shr
  by_cases h : P u = 0
  · rw [if_pos h]
    omega
  · rw [if_neg h]
    by_cases h2 : cs q u = 0
    · rw [if_pos h2, sm_vu _ _ hu]
      exact Nat.le_refl _
    · rw [if_neg h2, sm_shm hz hu]
      have := Nat.div_mul_le_self (P u) (cs q u)
      unfold cs at *
      omega
theorem sm_nxt {q : PL} (hz : q.2.1 ≤ 10) (P : Nat → Nat) (k : Nat) (hk : k ≤ 2 ^ q.2.1) : fb_sm (nxt q P k) (2 ^ q.2.1) ≤ fb_sm P k := by
  induction k with
  | zero =>
    show fb_sm (fun _ => 0) _ ≤ 0
    rw [fb_sm_const]
    exact Nat.le_refl _
  | succ k ih =>
    have h1 := ih (by omega)
    have h2 := sm_shr hz (show k < 2 ^ q.2.1 by omega) P (nxt q P k)
    have h3 := fb_sm_succ P k
    have h4 : nxt q P (k + 1) = shr q P k (nxt q P k) := rfl
    rw [h4, h3]
    omega
theorem sm_pts {q : PL} (hz : q.2.1 ≤ 10) {st : Nat} (hs : st < 2 ^ q.2.1) (k : Nat) : fb_sm (pts q st k) (2 ^ q.2.1) ≤ 1000000 := by
  induction k with
  | zero =>
    have h := fb_sm_upd (fun _ => 0) 1000000 hs
    rw [fb_sm_const] at h
    show fb_sm (fun s => if s = st then 1000000 else 0) _ ≤ _
    omega
  | succ k ih => exact Nat.le_trans (sm_nxt hz (pts q st k) _ (Nat.le_refl _)) ih
theorem pts_le {q : PL} (hz : q.2.1 ≤ 10) {st : Nat} (hs : st < 2 ^ q.2.1) (k : Nat) {s : Nat} (h : s < 2 ^ q.2.1) : pts q st k s ≤ 1000000 := by
  have h1 := sm_pts hz hs k
  have h2 := fb_sm_part (pts q st k) h
  omega
theorem cs_le (q : PL) (u : Nat) : cs q u ≤ 21 := fb_ct_le _ 21
def SeP (se : SE) (q : PL) (P f : Nat → Nat) : Prop := SeL se q ∧ (∀ s, s < 2 ^ q.2.1 → SE_parts se s = nI (P s)) ∧ ∀ s, s < 2 ^ q.2.1 → SE_nextParts se s = nI (f s)
theorem C_add {se : SE} {q : PL} (hz : q.2.1 ≤ 10) {P f : Nat → Nat} (h : SeP se q P f) {t : Nat} (ht : t < 2 ^ q.2.1) (c : Nat) : ∃ se', M_X2_addPart NN se (nI t) (nI c) = some se' ∧ SeP se' q P (vu f t (f t + c)) := by
  have h2 := p10 hz
  refine ⟨SE_s_nextParts se (upd (SE_nextParts se) t (SE_nextParts se t + nI c)), ?_, h.1, h.2.1, fun s hs => ?_⟩
  · unfold M_X2_addPart
    rw [C_isSet h.1 hz (by omega), Option.bind_some, decide_eq_true ht, if_neg (show ¬ oB true = 0 by decide), if_neg (nI_in (by omega) (by omega)), if_neg (nI_in (by omega) (by omega)), nI_clamp (by omega)]
  · show upd (SE_nextParts se) t (SE_nextParts se t + nI c) s = nI (vu f t (f t + c) s)
    unfold vu
    by_cases e : s = t
    · rw [e, upd_eq, if_pos rfl, h.2.2 t ht, nI_add]
    · rw [upd_ne e, if_neg e, h.2.2 s hs]
theorem shm_skip {q : PL} {u c : Nat} {f : Nat → Nat} {k : Nat} (d : Nat) (h : ∀ m, k ≤ m → m < k + d → lgl q u m = false) : shm q u c f (k + d) = shm q u c f k := by
  induction d with
  | zero => rfl
  | succ d ih =>
    show (if lgl q u (k + d) then _ else shm q u c f (k + d)) = _
    rw [h (k + d) (by omega) (by omega), if_neg (by decide), ih fun m h1 h2 => h m h1 (by omega)]
theorem C_share {se : SE} {q : PL} (hz : q.2.1 ≤ 10) {P f : Nat → Nat} (h : SeP se q P f) {u : Nat} (hu : u < 2 ^ q.2.1) (hP : P u < 2 ^ 31) : ∃ se', (if (nI (P u) : Int32) ≤ 0 then some se else M_X2_share NN se (nI u) (nI (P u))) = some se' ∧ SeP se' q P (shr q P u f) := by
  have h2 := p10 hz
  unfold shr
  by_cases e0 : P u = 0
  · rw [if_pos (by rw [q_le_0 hP]; omega), if_pos e0]
    exact ⟨_, rfl, h⟩
  · have hc := cs_le q u
    rw [if_neg (by rw [q_le_0 hP]; omega), if_neg e0]
    unfold M_X2_share
    rw [C_legalAt h.1 hz (by omega), Option.bind_some, if_pos hu, lg_cnt hz, Option.bind_some, show fb_ct (lgl q u) 21 = cs q u from rfl]
    by_cases e : cs q u = 0
    · obtain ⟨se', a1, a2⟩ := C_add hz h hu (P u)
      refine ⟨se', ?_, by rw [if_pos e]; exact a2⟩
      rw [if_neg (by rw [q_eq_0 (by omega)]; exact not_not_intro e), a1, Option.bind_some]
    · rw [if_pos (by rw [q_eq_0 (by omega)]; exact e), if_neg (show ¬ nI (cs q u) = 0 by rw [q_eq_0 (by omega)]; exact e), if_neg e]
      show ∃ se', lp (M_X2_share_l28 NN (nI u) (nI (P u))) NN (se, nI (P u) / nI (cs q u), 0) = _ ∧ _
      rw [pk_div hP (by omega) (by omega)]
      generalize P u / cs q u = c
      obtain ⟨o, hq, hl⟩ := lp_inv (body := M_X2_share_l28 NN (nI u) (nI (P u))) (N := NN) (P := fun j Z => ∃ se, Z = (se, nI c, nI j) ∧ SeP se q P (shm q u c f (if j ≤ q.2.1 then j else 21))) (Qr := fun o => SeP o q P (shm q u c f 21)) (q.2.1 + 1)
        (fun j Z hj hPj => by
          obtain ⟨se, rfl, hs⟩ := hPj
          rw [if_pos (by omega)] at hs
          have hm : (if j < q.2.1 then j else 20) < 10 ∨ (if j < q.2.1 then j else 20) = 20 := by split <;> omega
          have en : shm q u c f (if j + 1 ≤ q.2.1 then j + 1 else 21) = if lgl q u (if j < q.2.1 then j else 20) then vu (shm q u c f j) (u ^^^ mk (if j < q.2.1 then j else 20)) (shm q u c f j (u ^^^ mk (if j < q.2.1 then j else 20)) + c) else shm q u c f j := by
            by_cases l : j < q.2.1
            · rw [if_pos (by omega), if_pos l]
              rfl
            · rw [if_neg (by omega), if_neg l]
              have hsk : shm q u c f 20 = shm q u c f j := by
                rw [show 20 = j + (20 - j) by omega]
                refine shm_skip _ fun m g1 g2 => ?_
                cases g : lgl q u m
                · rfl
                · have := mvb_of g
                  unfold mvb at this
                  simp only [Bool.or_eq_true, Bool.and_eq_true, decide_eq_true_eq, beq_iff_eq] at this
                  omega
              show (if lgl q u 20 then vu (shm q u c f 20) (u ^^^ mk 20) (shm q u c f 20 (u ^^^ mk 20) + c) else shm q u c f 20) = _
              rw [hsk]
          rw [en]
          have ebody : ∀ rec, M_X2_share_l28 NN (nI u) (nI (P u)) rec (se, nI c, nI j) = if oB (lgl q u (if j < q.2.1 then j else 20)) = 0 then rec (se, nI c, nI (j + 1)) else ((M_X2_addPart NN se (nI (u ^^^ mk (if j < q.2.1 then j else 20))) (nI c)).bind fun r65 => rec (r65, nI c, nI (j + 1))) := by
            intro rec
            unfold M_X2_share_l28 M_X2_share_j68
            simp only []
            rw [hs.1.1, if_neg (by rw [nI_ltI (by omega) (by omega)]; omega), C_moveOf hs.1 hz (by omega), Option.bind_some, C_mayGo hs.1 hz hu (by omega), Option.bind_some, C_rings hm, Option.bind_some, fb_xorI, nI_1]
          generalize (if j < q.2.1 then j else 20) = m at hm ebody ⊢
          cases e : lgl q u m
          · refine Or.inl ⟨_, ⟨se, rfl, by rw [if_neg (by decide)]; exact hs⟩, fun rec => ?_⟩
            rw [ebody, e, if_pos (by decide)]
          · obtain ⟨se', a1, a2⟩ := C_add hz hs (mvb_mk hz (mvb_of e) hu) c
            refine Or.inl ⟨_, ⟨se', rfl, by rw [if_pos rfl]; exact a2⟩, fun rec => ?_⟩
            rw [ebody, e, if_neg (show ¬ oB true = 0 by decide), a1, Option.bind_some])
        (fun Z hPj => by
          obtain ⟨se, rfl, hs⟩ := hPj
          rw [if_neg (by omega)] at hs
          refine ⟨se, hs, fun rec => ?_⟩
          unfold M_X2_share_l28
          simp only []
          rw [hs.1.1, if_pos (by rw [nI_ltI (by omega) (by omega)]; omega)])
        (by show _ < 5000; omega) (z := (se, nI c, 0)) ⟨se, rfl, by rw [if_pos (Nat.zero_le _)]; exact h⟩
      exact ⟨o, hl, hq⟩
theorem C_round {se : SE} {q : PL} (hz : q.2.1 ≤ 10) {P f : Nat → Nat} (h : SeP se q P f) (hP : ∀ s, s < 2 ^ q.2.1 → P s ≤ 1000000) (p1 p2 p3 : Int32) (k : Nat) : ∃ se', SeP se' q (nxt q P (2 ^ q.2.1)) P ∧ ∀ rec, lp (M_X2_chanceOf_l54 NN p1 p2 p3 rec) NN (SE_s_nextParts se (fillf 1024 0 (SE_nextParts se)), nI k, 0) = rec (se', nI (k + 1)) := by
  have h2 := p10 hz
  have h0 : SeP (SE_s_nextParts se (fillf 1024 0 (SE_nextParts se))) q P (nxt q P 0) := ⟨h.1, h.2.1, fun s hs => if_pos (show s < 1024 by omega)⟩
  generalize SE_s_nextParts se (fillf 1024 0 (SE_nextParts se)) = se at h0
  obtain ⟨Z, ⟨se2, rfl, hs⟩, hl⟩ := lp_toF (I := (SE × Int32) → Option (Int32 × SE)) (body := fun rec => M_X2_chanceOf_l54 NN p1 p2 p3 rec) (P := fun i Z => ∃ se, Z = (se, nI k, nI i) ∧ SeP se q P (nxt q P i)) (2 ^ q.2.1)
    (fun i Z hi hPi => by
      obtain ⟨se, rfl, hs⟩ := hPi
      obtain ⟨se', a1, a2⟩ := C_share hz hs hi (by have := hP i hi; omega)
      refine ⟨_, ⟨se', rfl, a2⟩, fun rec rec2 => ?_⟩
      show M_X2_chanceOf_l54 NN p1 p2 p3 rec rec2 (se, nI k, nI i) = _
      unfold M_X2_chanceOf_l54 M_X2_chanceOf_j94
      simp only []
      rw [hs.1.2.1, if_neg (by rw [nI_leI (by omega) (by omega)]; omega), if_neg (by rw [q_ge_1024 (by omega)]; omega), if_neg (nI_in (by omega) (by omega)), if_neg (nI_in (by omega) (by omega)), nI_clamp (by omega), hs.2.1 i hi, nI_1]
      by_cases l : (nI (P i) : Int32) ≤ 0
      · rw [if_pos l] at a1
        cases a1
        rw [if_pos l]
      · rw [if_neg l] at a1
        rw [if_neg l, a1, Option.bind_some])
    (z := (se, nI k, 0)) ⟨se, rfl, h0⟩
  refine ⟨SE_swp se2, ⟨hs.1, hs.2.2, hs.2.1⟩, fun rec => ?_⟩
  obtain ⟨M, e⟩ := hl rec NN (by show _ < 5000; omega)
  refine e.trans ?_
  show M_X2_chanceOf_l54 NN p1 p2 p3 rec (lp (M_X2_chanceOf_l54 NN p1 p2 p3 rec) M) (se2, nI k, nI (2 ^ q.2.1)) = _
  generalize lp (M_X2_chanceOf_l54 NN p1 p2 p3 rec) M = rec2
  unfold M_X2_chanceOf_l54 M_X2_chanceOf_j100
  simp only []
  rw [hs.1.2.1, if_pos (by exact Int32.le_refl _), nI_1]
theorem C_chanceOf {se : SE} {q : PL} (hz : q.2.1 ≤ 10) (h : SeL se q) {u v n : Nat} (hu : u < 2 ^ q.2.1) (hv : v < 2 ^ q.2.1) (hn : n ≤ 20) : ∃ se', M_X2_chanceOf NN se (nI u) (nI v) (nI n) = some (nI (pts q u n v), se') := by
  have h2 := p10 hz
  unfold M_X2_chanceOf
  rw [C_isSet h hz (by omega), Option.bind_some, decide_eq_true hu, if_neg (show ¬ oB true = 0 by decide), C_isSet h hz (by omega), Option.bind_some, decide_eq_true hv, if_pos (show ¬ oB true = 0 by decide), if_neg (nI_in (by omega) (by omega)), nI_clamp (by omega)]
  have h0 : ∃ f, SeP (SE_s_parts (SE_s_parts se (fillf 1024 0 (SE_parts se))) (upd (SE_parts (SE_s_parts se (fillf 1024 0 (SE_parts se)))) u 1000000)) q (pts q u 0) f := by
    refine ⟨fun s => (SE_nextParts se s).toBitVec.toNat, h, fun s hs => ?_, fun s hs => ?_⟩
    · show upd (fillf 1024 0 (SE_parts se)) u 1000000 s = nI (if s = u then 1000000 else 0)
      by_cases e : s = u
      · rw [if_pos e, e, upd_eq]
        decide
      · rw [if_neg e, upd_ne e]
        exact if_pos (show s < 1024 by omega)
    · show SE_nextParts se s = nI (SE_nextParts se s).toBitVec.toNat
      exact Int32.toBitVec_inj.mp (BitVec.eq_of_toNat_eq (by rw [pk_tn (SE_nextParts se s).toBitVec.isLt]))
  generalize SE_s_parts (SE_s_parts se (fillf 1024 0 (SE_parts se))) (upd (SE_parts (SE_s_parts se (fillf 1024 0 (SE_parts se)))) u 1000000) = se0 at h0
  obtain ⟨o, ⟨se', hq⟩, hl⟩ := lp_inv (body := M_X2_chanceOf_l37 NN (nI u) (nI v) (nI n)) (N := NN) (P := fun i Z => ∃ se f, Z = (se, nI i) ∧ SeP se q (pts q u i) f) (Qr := fun o => ∃ se', o = (nI (pts q u n v), se')) n
    (fun i Z hi hPi => by
      obtain ⟨se, f, rfl, hs⟩ := hPi
      obtain ⟨se', a1, a2⟩ := C_round hz hs (fun s hs => pts_le hz hu i hs) (nI u) (nI v) (nI n) i
      refine Or.inl ⟨_, ⟨se', _, rfl, a1⟩, fun rec => ?_⟩
      unfold M_X2_chanceOf_l37
      simp only []
      rw [if_neg (by rw [nI_leI (by omega) (by omega)]; omega), a2])
    (fun Z hPi => by
      obtain ⟨se, f, rfl, hs⟩ := hPi
      refine ⟨_, ⟨se, rfl⟩, fun rec => ?_⟩
      unfold M_X2_chanceOf_l37
      simp only []
      rw [if_pos (by exact Int32.le_refl _), if_neg (nI_in (by omega) (by omega)), nI_clamp (by omega), hs.2.1 v hv])
    (by show _ < 5000; omega) (z := (se0, 0)) (by obtain ⟨f, h0⟩ := h0; exact ⟨se0, f, rfl, h0⟩)
  exact ⟨se', by rw [hl, hq]⟩
/-! the reference's chance -/
theorem Sg.pl {r r' : RM} (k : Sg r r') : RM_pl r' = RM_pl r := k.all.2.2.2.2.2.2.2.2.2.2.2.2.2.2.2.2.2.2
def RmP (rm r : RM) (q : PL) (P f : Nat → Nat) : Prop := Sg rm r ∧ (∀ s, s < 2 ^ q.2.1 → RM_parts1 r s = nI (P s)) ∧ ∀ s, s < 2 ^ q.2.1 → RM_parts2 r s = nI (f s)
theorem p12 (r : RM) (x : Nat → Int32) : RM_parts1 (RM_s_parts2 r x) = RM_parts1 r := rfl
theorem p22 (r : RM) (x : Nat → Int32) : RM_parts2 (RM_s_parts2 r x) = x := rfl
theorem p11 (r : RM) (x : Nat → Int32) : RM_parts1 (RM_s_parts1 r x) = x := rfl
theorem p21 (r : RM) (x : Nat → Int32) : RM_parts2 (RM_s_parts1 r x) = RM_parts2 r := rfl
theorem R_addp {rm r : RM} {q : PL} {P f : Nat → Nat} (h : RmP rm r q P f) {t : Nat} (ht : t < 2 ^ q.2.1) (c : Nat) : RmP rm (RM_s_parts2 r (upd (RM_parts2 r) t (RM_parts2 r t + nI c))) q P (vu f t (f t + c)) := by
  refine ⟨h.1.trans (sg_parts2 _ _), fun s hs => ?_, fun s hs => ?_⟩
  · rw [p12]
    exact h.2.1 s hs
  · rw [p22]
    unfold vu
    by_cases e : s = t
    · rw [e, upd_eq, if_pos rfl, h.2.2 t ht, nI_add]
    · rw [upd_ne e, if_neg e, h.2.2 s hs]
section CH
variable {rm : RM} {a : AE} {b : Nat}
theorem R_j46 (hpl : RM_pl rm = 1024) {q : PL} (hz : q.2.1 ≤ 10) {r : RM} {P f : Nat → Nat} (h : RmP rm r q P f) {u : Nat} (hu : u < 2 ^ q.2.1) (p1 : Int32) : ∃ r', M_X6_goesOn_j46 NN p1 (nI u) (r, 0) = some r' ∧ RmP rm r' q P (vu f u (f u + P u)) := by
  have h2 := p10 hz
  refine ⟨_, ?_, R_addp h hu (P u)⟩
  unfold M_X6_goesOn_j46
  simp only []
  rw [if_neg (show ¬ ¬ True from not_not_intro trivial), h.1.pl, hpl, if_neg (nI_in (by omega) (by omega)), if_neg (nI_in (by omega) (by omega)), if_neg (nI_in (by omega) (by omega)), nI_clamp (by omega), h.2.1 u hu]
theorem R_goes (h2 : RmA rm a) (ok : OkA a) (hb : b < aN a) (hpl : RM_pl rm = 1024) {r : RM} {P f : Nat → Nat} (h : RmP rm r (aL a b) P f) {u : Nat} (hu : u < 2 ^ aZ a b) (hP : P u ≤ 1000000) : ∃ r', M_X6_goesOn NN r (nI b) (nI u) = some r' ∧ RmP rm r' (aL a b) (P) (shr (aL a b) P u f) := by
  have hz := (ok.2 b hb).2.2.1
  have hp := p10 hz
  have hr := h2.sg h.1
  have hpr : RM_pl r = 1024 := h.1.pl.trans hpl
  unfold M_X6_goesOn shr
  by_cases e0 : P u = 0
  · rw [if_pos e0]
    obtain ⟨r', j1, j2⟩ := R_j46 hpl (q := aL a b) hz h hu (nI b)
    refine ⟨r', ?_, ?_⟩
    · refine lp_for (fun i => (r, 0, nI i)) 0 (fun i hi => absurd hi (Nat.not_lt_zero i)) (fun rec => ?_) (by decide)
      show M_X6_goesOn_l5 NN (nI b) (nI u) rec (r, 0, 0) = _
      unfold M_X6_goesOn_l5
      simp only []
      rw [if_neg (show ¬ (20 : Int32) < 0 by decide), hpr, if_neg (nI_in (by omega) (by omega)), nI_clamp (by omega), h.2.1 u hu, if_pos (by rw [q_le_0 (by omega)]; omega), j1]
    · rw [e0] at j2
      have ev : vu f u (f u + 0) = f := by
        funext j
        unfold vu
        by_cases e : j = u
        · rw [if_pos e, e]; rfl
        · rw [if_neg e]
      rw [ev] at j2
      exact j2
  · rw [if_neg e0]
    have hc := cs_le (aL a b) u
    have cnt : ∀ {Y}, M_X6_goesOn_j46 NN (nI b) (nI u) (r, nI (cs (aL a b) u)) = Y → lp (M_X6_goesOn_l5 NN (nI b) (nI u)) NN (r, 0, 0) = Y := by
      intro Y hY
      refine lp_for (fun i => (r, nI (fb_ct (lgl (aL a b) u) i), nI i)) 21 (fun i hi rec => ?_) (fun rec => ?_) (by decide)
      · show M_X6_goesOn_l5 NN (nI b) (nI u) rec (r, nI (fb_ct (lgl (aL a b) u) i), nI i) = _
        unfold M_X6_goesOn_l5 M_X6_goesOn_j38
        simp only []
        rw [if_neg (by rw [q_gt_20 (by omega)]; omega), hpr, if_neg (nI_in (by omega) (by omega)), nI_clamp (by omega), h.2.1 u hu, if_neg (by rw [q_le_0 (by omega)]; omega), R_may hr ok hb hu (by omega), Option.bind_some, fb_ct_succ (lgl (aL a b) u) i, nI_1, nI_1]
        cases lgl (aL a b) u i
        · rw [if_pos (by decide), if_neg (by decide), Int32.add_zero]
          rfl
        · rw [if_neg (by decide), if_pos rfl]
      · show M_X6_goesOn_l5 NN (nI b) (nI u) rec (r, nI (cs (aL a b) u), nI 21) = _
        unfold M_X6_goesOn_l5
        simp only []
        rw [if_pos (show (20 : Int32) < nI 21 by decide), hY]
    by_cases e : cs (aL a b) u = 0
    · obtain ⟨r', j1, j2⟩ := R_j46 hpl (q := aL a b) hz h hu (nI b)
      rw [if_pos e]
      refine ⟨r', cnt ?_, j2⟩
      rw [e]
      exact j1
    · rw [if_neg e]
      generalize hc0 : cs (aL a b) u = C at *
      obtain ⟨o, hq, hl⟩ := lp_inv (body := M_X6_goesOn_l69 NN (nI b) (nI u)) (N := NN) (P := fun j Z => ∃ r, Z = (r, nI C, nI j) ∧ RmP rm r (aL a b) P (shm (aL a b) u (P u / C) f j)) (Qr := fun o => RmP rm o (aL a b) P (shm (aL a b) u (P u / C) f 21)) 21
        (fun j Z hj hPj => by
          obtain ⟨r, rfl, h⟩ := hPj
          have hr := h2.sg h.1
          have hpr : RM_pl r = 1024 := h.1.pl.trans hpl
          have en : shm (aL a b) u (P u / C) f (j + 1) = if lgl (aL a b) u j then vu (shm (aL a b) u (P u / C) f j) (u ^^^ mk j) (shm (aL a b) u (P u / C) f j (u ^^^ mk j) + P u / C) else shm (aL a b) u (P u / C) f j := rfl
          rw [en]
          cases g : lgl (aL a b) u j
          · refine Or.inl ⟨_, ⟨r, rfl, by rw [if_neg (by decide)]; exact h⟩, fun rec => ?_⟩
            unfold M_X6_goesOn_l69 M_X6_goesOn_j110
            simp only []
            rw [if_neg (by rw [q_gt_20 (by omega)]; omega), R_may hr ok hb hu (by omega), Option.bind_some, g, if_pos (by decide), nI_1]
          · have ht : u ^^^ mk j < 2 ^ aZ a b := mvb_mk (q := aL a b) hz (mvb_of g) hu
            refine Or.inl ⟨_, ⟨_, rfl, by rw [if_pos rfl]; exact R_addp h ht (P u / C)⟩, fun rec => ?_⟩
            unfold M_X6_goesOn_l69 M_X6_goesOn_j110
            simp only []
            rw [if_neg (by rw [q_gt_20 (by omega)]; omega), R_may hr ok hb hu (by omega), Option.bind_some, g, if_neg (show ¬ oB true = 0 by decide), M_mask (by omega), Option.bind_some, fb_xorI, hpr, if_neg (nI_in (by omega) (by omega)), if_neg (nI_in (by omega) (by omega)), if_neg (by rw [q_eq_0 (by omega)]; exact e), if_neg (nI_in (by omega) (by omega)), nI_clamp (by omega), nI_clamp (by omega), h.2.1 u hu, pk_div (by omega) (by omega) (by omega), nI_1])
        (fun Z hPj => by
          obtain ⟨r, rfl, h⟩ := hPj
          refine ⟨_, h, fun rec => ?_⟩
          unfold M_X6_goesOn_l69
          simp only []
          rw [if_pos (show (20 : Int32) < nI 21 by decide)])
        (by decide) (z := (r, nI C, 0)) ⟨r, rfl, h⟩
      refine ⟨o, cnt ?_, hq⟩
      unfold M_X6_goesOn_j46
      simp only []
      rw [if_pos (by rw [q_eq_0 (by omega)]; exact e), hl]
theorem R_clear (h2 : RmA rm a) (ok : OkA a) (hb : b < aN a) (hpl : RM_pl rm = 1024) {r : RM} {P : Nat → Nat} (hs : Sg rm r) (h1 : ∀ s, s < 2 ^ aZ a b → RM_parts1 r s = nI (P s)) (p2 p3 : Int32) (k : Nat) : ∃ r', RmP rm r' (aL a b) P (fun _ => 0) ∧ ∀ rec, lp (M_X6_chance_l119 NN (nI b) p2 p3 rec) NN (r, nI k, 0) = lp (M_X6_chance_l146 NN (nI b) p2 p3 rec) NN (r', nI k, 0) := by
  have hz := (ok.2 b hb).2.2.1
  have hp := p10 hz
  have hp0 := Nat.two_pow_pos (aZ a b)
  obtain ⟨Z, ⟨r', rfl, k1, k2, k3⟩, hl⟩ := lp_toF (I := (RM × Int32) → Option (Int32 × RM)) (body := fun rec => M_X6_chance_l119 NN (nI b) p2 p3 rec) (P := fun i Z => ∃ r, Z = (r, nI k, nI i) ∧ Sg rm r ∧ (∀ s, s < 2 ^ aZ a b → RM_parts1 r s = nI (P s)) ∧ ∀ s, s < i → RM_parts2 r s = 0) (2 ^ aZ a b)
    (fun i Z hi hPi => by
      obtain ⟨r, rfl, k1, k2, k3⟩ := hPi
      refine ⟨_, ⟨RM_s_parts2 r (upd (RM_parts2 r) i 0), rfl, k1.trans (sg_parts2 _ _), fun s hs => by rw [p12]; exact k2 s hs, fun s hs => ?_⟩, fun rec rec2 => ?_⟩
      · rw [p22]
        by_cases e : s = i
        · rw [e, upd_eq]
        · rw [upd_ne e]
          exact k3 s (by omega)
      · show M_X6_chance_l119 NN (nI b) p2 p3 rec rec2 (r, nI k, nI i) = _
        unfold M_X6_chance_l119
        simp only []
        rw [R_alln (h2.sg k1) ok hb, Option.bind_some, if_neg (by rw [nI_ltI (by omega) (by omega)]; omega), k1.pl, hpl, if_neg (nI_in (by omega) (by omega)), nI_clamp (by omega), nI_1])
    (z := (r, nI k, 0)) ⟨r, rfl, hs, h1, fun s hs => absurd hs (Nat.not_lt_zero s)⟩
  refine ⟨r', ⟨k1, k2, k3⟩, fun rec => ?_⟩
  obtain ⟨M, e⟩ := hl rec NN (by show _ < 5000; omega)
  refine e.trans ?_
  show M_X6_chance_l119 NN (nI b) p2 p3 rec (lp (M_X6_chance_l119 NN (nI b) p2 p3 rec) M) (r', nI k, nI (2 ^ aZ a b)) = _
  generalize lp (M_X6_chance_l119 NN (nI b) p2 p3 rec) M = rec2
  unfold M_X6_chance_l119
  simp only []
  rw [R_alln (h2.sg k1) ok hb, Option.bind_some, if_pos (by rw [nI_ltI (by omega) (by omega)]; omega)]
theorem R_spreads (h2 : RmA rm a) (ok : OkA a) (hb : b < aN a) (hpl : RM_pl rm = 1024) {r : RM} {P : Nat → Nat} (h : RmP rm r (aL a b) P (fun _ => 0)) (hP : ∀ s, s < 2 ^ aZ a b → P s ≤ 1000000) (p2 p3 : Int32) (k : Nat) : ∃ r', RmP rm r' (aL a b) P (nxt (aL a b) P (2 ^ aZ a b)) ∧ ∀ rec, lp (M_X6_chance_l146 NN (nI b) p2 p3 rec) NN (r, nI k, 0) = lp (M_X6_chance_l172 NN (nI b) p2 p3 rec) NN (r', nI k, 0) := by
  have hz := (ok.2 b hb).2.2.1
  have hp := p10 hz
  have hp0 := Nat.two_pow_pos (aZ a b)
  obtain ⟨Z, ⟨r', rfl, k1⟩, hl⟩ := lp_toF (I := (RM × Int32) → Option (Int32 × RM)) (body := fun rec => M_X6_chance_l146 NN (nI b) p2 p3 rec) (P := fun i Z => ∃ r, Z = (r, nI k, nI i) ∧ RmP rm r (aL a b) P (nxt (aL a b) P i)) (2 ^ aZ a b)
    (fun i Z hi hPi => by
      obtain ⟨r, rfl, k1⟩ := hPi
      obtain ⟨r', g1, g2⟩ := R_goes h2 ok hb hpl k1 hi (hP i hi)
      refine ⟨_, ⟨r', rfl, g2⟩, fun rec rec2 => ?_⟩
      show M_X6_chance_l146 NN (nI b) p2 p3 rec rec2 (r, nI k, nI i) = _
      unfold M_X6_chance_l146
      simp only []
      rw [R_alln (h2.sg k1.1) ok hb, Option.bind_some, if_neg (by rw [nI_ltI (by omega) (by omega)]; omega), g1, Option.bind_some, nI_1])
    (z := (r, nI k, 0)) ⟨r, rfl, h⟩
  refine ⟨r', k1, fun rec => ?_⟩
  obtain ⟨M, e⟩ := hl rec NN (by show _ < 5000; omega)
  refine e.trans ?_
  show M_X6_chance_l146 NN (nI b) p2 p3 rec (lp (M_X6_chance_l146 NN (nI b) p2 p3 rec) M) (r', nI k, nI (2 ^ aZ a b)) = _
  generalize lp (M_X6_chance_l146 NN (nI b) p2 p3 rec) M = rec2
  unfold M_X6_chance_l146
  simp only []
  rw [R_alln (h2.sg k1.1) ok hb, Option.bind_some, if_pos (by rw [nI_ltI (by omega) (by omega)]; omega)]
theorem R_copies (h2 : RmA rm a) (ok : OkA a) (hb : b < aN a) (hpl : RM_pl rm = 1024) {r : RM} {P f : Nat → Nat} (h : RmP rm r (aL a b) P f) (p2 p3 : Int32) (k : Nat) : ∃ r', (Sg rm r' ∧ ∀ s, s < 2 ^ aZ a b → RM_parts1 r' s = nI (f s)) ∧ ∀ rec, lp (M_X6_chance_l172 NN (nI b) p2 p3 rec) NN (r, nI k, 0) = rec (r', nI (k + 1)) := by
  have hz := (ok.2 b hb).2.2.1
  have hp := p10 hz
  have hp0 := Nat.two_pow_pos (aZ a b)
  obtain ⟨Z, ⟨r', rfl, k1, k2, k3⟩, hl⟩ := lp_toF (I := (RM × Int32) → Option (Int32 × RM)) (body := fun rec => M_X6_chance_l172 NN (nI b) p2 p3 rec) (P := fun i Z => ∃ r, Z = (r, nI k, nI i) ∧ Sg rm r ∧ (∀ s, s < i → RM_parts1 r s = nI (f s)) ∧ ∀ s, s < 2 ^ aZ a b → RM_parts2 r s = nI (f s)) (2 ^ aZ a b)
    (fun i Z hi hPi => by
      obtain ⟨r, rfl, k1, k2, k3⟩ := hPi
      refine ⟨_, ⟨RM_s_parts1 r (upd (RM_parts1 r) i (nI (f i))), rfl, k1.trans (sg_parts1 _ _), fun s hs => ?_, fun s hs => by rw [p21]; exact k3 s hs⟩, fun rec rec2 => ?_⟩
      · rw [p11]
        by_cases e : s = i
        · rw [e, upd_eq]
        · rw [upd_ne e]
          exact k2 s (by omega)
      · show M_X6_chance_l172 NN (nI b) p2 p3 rec rec2 (r, nI k, nI i) = _
        unfold M_X6_chance_l172
        simp only []
        rw [R_alln (h2.sg k1) ok hb, Option.bind_some, if_neg (by rw [nI_ltI (by omega) (by omega)]; omega), k1.pl, hpl, if_neg (nI_in (by omega) (by omega)), if_neg (nI_in (by omega) (by omega)), nI_clamp (by omega), k3 i hi, nI_1])
    (z := (r, nI k, 0)) ⟨r, rfl, h.1, fun s hs => absurd hs (Nat.not_lt_zero s), h.2.2⟩
  refine ⟨r', ⟨k1, k2⟩, fun rec => ?_⟩
  obtain ⟨M, e⟩ := hl rec NN (by show _ < 5000; omega)
  refine e.trans ?_
  show M_X6_chance_l172 NN (nI b) p2 p3 rec (lp (M_X6_chance_l172 NN (nI b) p2 p3 rec) M) (r', nI k, nI (2 ^ aZ a b)) = _
  generalize lp (M_X6_chance_l172 NN (nI b) p2 p3 rec) M = rec2
  unfold M_X6_chance_l172
  simp only []
  rw [R_alln (h2.sg k1) ok hb, Option.bind_some, if_pos (by rw [nI_ltI (by omega) (by omega)]; omega), nI_1]
theorem R_chance (h2 : RmA rm a) (ok : OkA a) (hb : b < aN a) (hpl : RM_pl rm = 1024) {v n : Nat} (hv : v < 2 ^ aZ a b) (hn : n ≤ 20) : ∃ r', Sg rm r' ∧ M_X6_chance_j63 NN (nI b) (nI v) (nI n) rm = some (nI (pts (aL a b) (aO a b) n v), r') := by
  have hz := (ok.2 b hb).2.2.1
  have ho := (ok.2 b hb).2.2.2.1
  have hb4 : b < 4 := by have := ok.1; omega
  have hp := p10 hz
  have hp0 := Nat.two_pow_pos (aZ a b)
  have hL : ∀ i, i < n → ∀ s, s < 2 ^ aZ a b → pts (aL a b) (aO a b) i s ≤ 1000000 := fun i _ s hs => pts_le (q := aL a b) hz ho i hs
  have steps : ∀ r, Sg rm r → (∀ s, s < 2 ^ aZ a b → RM_parts1 r s = nI (pts (aL a b) (aO a b) 0 s)) → ∃ o, (∃ r', o = (nI (pts (aL a b) (aO a b) n v), r') ∧ Sg rm r') ∧ lp (M_X6_chance_l110 NN (nI b) (nI v) (nI n)) NN (r, 0) = some o := by
    intro r hs h1
    refine lp_inv (body := M_X6_chance_l110 NN (nI b) (nI v) (nI n)) (N := NN) (P := fun i Z => ∃ r, Z = (r, nI i) ∧ Sg rm r ∧ ∀ s, s < 2 ^ aZ a b → RM_parts1 r s = nI (pts (aL a b) (aO a b) i s)) (Qr := fun o => ∃ r', o = (nI (pts (aL a b) (aO a b) n v), r') ∧ Sg rm r') n
      (fun i Z hi hPi => by
        obtain ⟨r, rfl, k1, k2⟩ := hPi
        obtain ⟨r1, a1, a2⟩ := R_clear h2 ok hb hpl k1 k2 (nI v) (nI n) i
        obtain ⟨r2, b1, b2⟩ := R_spreads h2 ok hb hpl a1 (fun s hs => hL i hi s hs) (nI v) (nI n) i
        obtain ⟨r3, c1, c2⟩ := R_copies h2 ok hb hpl b1 (nI v) (nI n) i
        refine Or.inl ⟨_, ⟨r3, rfl, c1⟩, fun rec => ?_⟩
        unfold M_X6_chance_l110
        simp only []
        rw [if_neg (by rw [nI_leI (by omega) (by omega)]; omega), a2, b2, c2])
      (fun Z hPi => by
        obtain ⟨r, rfl, k1, k2⟩ := hPi
        refine ⟨_, ⟨r, rfl, k1⟩, fun rec => ?_⟩
        unfold M_X6_chance_l110
        simp only []
        rw [if_pos (by exact Int32.le_refl _), k1.pl, hpl, if_neg (nI_in (by omega) (by omega)), nI_clamp (by omega), k2 v hv])
      (by show _ < 5000; omega) (z := (r, 0)) ⟨r, rfl, hs, h1⟩
  unfold M_X6_chance_j63
  obtain ⟨o, ⟨r', q1, q2⟩, hl⟩ := lp_inv (body := M_X6_chance_l66 NN (nI b) (nI v) (nI n)) (N := NN) (P := fun i Z => ∃ r, Z = (r, nI i) ∧ Sg rm r ∧ ∀ s, s < i → RM_parts1 r s = nI (pts (aL a b) (aO a b) 0 s)) (Qr := fun o => ∃ r', o = (nI (pts (aL a b) (aO a b) n v), r') ∧ Sg rm r') (2 ^ aZ a b)
    (fun i Z hi hPi => by
      obtain ⟨r, rfl, k1, k2⟩ := hPi
      have hon : RM_on r b = nI (aO a b) := ((h2.sg k1).2.1 b hb4).2.2.1
      refine Or.inl ⟨_, ⟨RM_s_parts1 r (upd (RM_parts1 r) i (nI (pts (aL a b) (aO a b) 0 i))), rfl, k1.trans (sg_parts1 _ _), fun s hs => ?_⟩, fun rec => ?_⟩
      · rw [p11]
        by_cases e : s = i
        · rw [e, upd_eq]
        · rw [upd_ne e]
          exact k2 s (by omega)
      · unfold M_X6_chance_l66 M_X6_chance_j100
        simp only []
        rw [R_alln (h2.sg k1) ok hb, Option.bind_some, if_neg (by rw [nI_ltI (by omega) (by omega)]; omega), if_neg (E_in ok hb), E_cl ok hb, hon, k1.pl, hpl, nI_1]
        have ep : pts (aL a b) (aO a b) 0 i = if i = aO a b then 1000000 else 0 := rfl
        rw [ep]
        by_cases e : i = aO a b
        · rw [if_neg (by rw [nI_eq (by omega) (by omega)]; exact not_not_intro e), if_pos e, if_neg (nI_in (by omega) (by omega)), nI_clamp (by omega)]
          rfl
        · rw [if_pos (by rw [nI_eq (by omega) (by omega)]; exact e), if_neg e, if_neg (nI_in (by omega) (by omega)), nI_clamp (by omega)]
          rfl)
    (fun Z hPi => by
      obtain ⟨r, rfl, k1, k2⟩ := hPi
      obtain ⟨o, q1, q2⟩ := steps r k1 k2
      refine ⟨o, q1, fun rec => ?_⟩
      unfold M_X6_chance_l66
      simp only []
      rw [R_alln (h2.sg k1) ok hb, Option.bind_some, if_pos (by rw [nI_ltI (by omega) (by omega)]; omega)]
      exact q2)
    (by show _ < 5000; omega) (z := (rm, 0)) ⟨rm, rfl, Sg.rfl' rm, fun s hs => absurd hs (Nat.not_lt_zero s)⟩
  exact ⟨r', q2, by rw [hl, q1]⟩
end CH
theorem INV.pl {ro : RO} {nw kp dr : EV} {sh : SH} {tp : TP} {lw : LW} {se : SE} {rm : RM} {K T : Option RM} (h : INV ro nw kp dr sh tp lw se rm K T) : INV ro nw kp dr sh tp lw se (RM_s_pl rm 1024) K T := by
  obtain ⟨a, h1, h2, h3, h4, h5, h6, h7, h8⟩ := h
  exact ⟨a, h1, h2, h3, h4, h5, h6, h7, Or.inr rfl⟩
theorem INV.alloc {ro : RO} {nw kp dr : EV} {sh : SH} {tp : TP} {lw : LW} {se : SE} {rm : RM} {K T : Option RM} (h : INV ro nw kp dr sh tp lw se rm K T) : INV ro nw kp dr sh tp lw se (RM_alloc rm) K T := by
  unfold RM_alloc
  exact (INV.sg (dr' := dr) (lw' := lw) (se' := se) (T' := T) h ((show Sg rm (RM_s_parts1 rm (fun _ => 0)) from sg_parts1 _ _).trans (sg_parts2 _ _))).pl
theorem RmA.plo {rm : RM} {a : AE} (n : Nat) (h : RmA rm a) : RmA (RM_s_pl rm n) a := ⟨h.1, h.2⟩
theorem RmA.alloc {rm : RM} {a : AE} (h : RmA rm a) : RmA (RM_alloc rm) a := by
  unfold RM_alloc
  exact (h.sg ((show Sg rm (RM_s_parts1 rm (fun _ => 0)) from sg_parts1 _ _).trans (sg_parts2 _ _))).plo 1024
theorem al_pl (r : RM) : RM_pl (RM_alloc r) = 1024 := rfl
theorem pS_chance : S_chance INV := by
  intro ro nw kp dr sh tp lw se rm K T hI p1 p2 p3
  obtain ⟨a, h1, h2, h3, h4, h5, h6, h7, h8⟩ := id hI
  have hn := h3.1
  have ej : M_X5_chance_j23 NN nw p1 p2 p3 (ro, lw, se) = some (-2, xRf ro 0, lw, se) := by
    unfold M_X5_chance_j23
    rw [xRf_ok.1]
    rfl
  have ej2 : M_X6_chance_j30 NN p1 p2 p3 rm = some (-2, mRf rm 0) := by
    unfold M_X6_chance_j30
    rw [mRf_ok.1]
    rfl
  unfold M_X5_chance M_X6_chance
  rw [ej, ej2]
  rcases p_set_cases a p1 p2 with ⟨b, v, hb, rfl, hv, rfl⟩ | hno
  · rw [E_setI h1 h3 hb hv, Option.bind_some, if_neg n10, R_bar h2 h3 hb, Option.bind_some, if_neg n10, R_setI h2 h3 hb hv, Option.bind_some, if_neg n10]
    by_cases hc : 0 ≤ p3.toInt ∧ p3.toInt ≤ 20
    · obtain ⟨n, hn2, rfl⟩ := of_int (p := p3) (by omega)
      rw [nI_toInt hn2] at hc
      have hn20 : n ≤ 20 := by omega
      obtain ⟨lw', se1, c1, c2⟩ := C_study (ro := ro) h1 h3 hb lw se
      have hz := (h3.2 b hb).2.2.1
      have ho := (h3.2 b hb).2.2.2.1
      obtain ⟨se2, d⟩ := C_chanceOf (q := aL a b) hz c2 ho hv hn20
      rw [if_neg (nI_pos hn2), if_pos (by rw [q_le_20 hn2]; exact hn20), c1, Option.bind_some, E_on h1 h3 hb, Option.bind_some, d, Option.bind_some, R_k1 (l := 0) (z := 20) (by rw [nI_toInt hn2]; exact hc.1) (by rw [nI_toInt hn2]; exact hc.2), Option.bind_some, if_pos n10]
      have fin : ∀ r, INV ro nw kp dr sh tp lw se r K T → RmA r a → RM_pl r = 1024 → ∃ o1, some (nI (pts (aL a b) (aO a b) n v), ro, lw', se2) = some o1 ∧ ∃ o2, M_X6_chance_j63 NN (nI b) (nI v) (nI n) r = some o2 ∧ o1.1 = o2.1 ∧ INV o1.2.1 nw kp dr sh tp o1.2.2.1 o1.2.2.2 o2.2 K T := by
        intro r hr ha hp
        obtain ⟨r', s1, s2⟩ := R_chance ha h3 hb hp hv hn20
        exact ⟨_, rfl, _, s2, rfl, hr.sg s1⟩
      have hA := INV.alloc hI
      have hB := h2.alloc
      have hC := al_pl rm
      generalize RM_alloc rm = R at hA hB hC ⊢
      rcases h8 with hp | hp
      · rw [hp, if_neg (show ¬ ¬ nI 0 = 0 from not_not_intro rfl)]
        exact fin R hA hB hC
      · rw [if_pos (show ¬ nI (RM_pl rm) = 0 by rw [hp]; decide)]
        exact fin rm hI h2 hp
    · rw [R_k0 (l := 0) (z := 20) hc, Option.bind_some, if_neg n00]
      refine ⟨(-2, xRf ro 0, lw, se), ?_, (-2, mRf rm 0), rfl, rfl, hI.rf 0⟩
      by_cases l : p3 < 0
      · rw [if_pos l]
      · rw [if_neg l, if_neg]
        rw [lt_toInt, t_0] at l
        rw [le_toInt, show (20 : Int32).toInt = 20 from rfl]
        omega
  · rw [E_nosetI h1 h3 hno]
    refine ⟨(-2, xRf ro 0, lw, se), rfl, (-2, mRf rm 0), ?_, rfl, hI.rf 0⟩
    rcases R_setnot (N := NN) h2 h3 hno with e | ⟨e, e'⟩
    · rw [e]; rfl
    · rw [e, Option.bind_some, if_neg (by decide), e']; rfl
