/-! the tape: the reference's look -/
def Lk (r r' : RM) : Prop := Sg r r' ∧ RM_told r' = RM_told r ∧ RM_statements r' = RM_statements r
theorem Lk.refl (r : RM) : Lk r r := ⟨Sg.rfl' r, rfl, rfl⟩
theorem Lk.trans {r1 r2 r3 : RM} (h : Lk r1 r2) (k : Lk r2 r3) : Lk r1 r3 := ⟨h.1.trans k.1, k.2.1.trans h.2.1, k.2.2.trans h.2.2⟩
theorem lk_at (r : RM) (v : Int32) : Lk r (RM_s_at r v) := ⟨sg_at r v, rfl, rfl⟩
theorem lk_token (r : RM) (v : Int32) : Lk r (RM_s_token r v) := ⟨sg_token r v, rfl, rfl⟩
theorem lk_from (r : RM) (v : Int32) : Lk r (RM_s_from r v) := ⟨sg_from r v, rfl, rfl⟩
theorem lk_figures (r : RM) (v : Int32) : Lk r (RM_s_figures r v) := ⟨sg_figures r v, rfl, rfl⟩
theorem Sg.tape {r r' : RM} (k : Sg r r') : RM_tape r' = RM_tape r ∧ RM_tapeSize r' = RM_tapeSize r := by
  have h : sg r' = sg r := k
  unfold sg at h
  simp only [Prod.mk.injEq] at h
  exact ⟨h.2.2.2.2.2.1, h.2.2.2.2.2.2.1⟩
section LOOK
variable {c : Nat → Nat} {z : Nat}
theorem RpC.sg {r r' : RM} (h : RpC r c z) (k : Sg r r') : RpC r' c z := by
  unfold RpC
  rw [k.tape.1, k.tape.2]
  exact h
def RT (r : RM) (c : Nat → Nat) (z s : Nat) : Prop := RpC r c z ∧ RM_from r = nI s ∧ RM_token r = nI (ty c z s) ∧ (ty c z s ≠ 4 → RM_at r = nI (te c z s)) ∧ (ty c z s = 2 → RM_figures r = if te c z s - s ≤ 4 then vI' c s (te c z s - s) else 100000)
theorem RT.mk {r : RM} {s y k : Nat} (h : RpC r c z) (h1 : RM_from r = nI s) (e1 : ty c z s = y) (e2 : te c z s = k) (h2 : RM_token r = nI y) (h3 : y ≠ 4 → RM_at r = nI k) (h4 : y = 2 → RM_figures r = if k - s ≤ 4 then vI' c s (k - s) else 100000) : RT r c z s := by
  subst e1
  subst e2
  exact ⟨h, h1, h2, h3, h4⟩
def LI (r Z : RM) (k : Nat) (f : Int32) : Prop := Lk r Z ∧ RM_from Z = RM_from r ∧ RM_token Z = RM_token r ∧ RM_at Z = nI k ∧ RM_figures Z = f
theorem LI.next {r Z : RM} {k : Nat} {f : Int32} (h : LI r Z k f) : LI r (RM_s_at Z (RM_at Z + 1)) (k + 1) f := by
  obtain ⟨p1, p2, p3, p4, p5⟩ := h
  refine ⟨p1.trans (lk_at _ _), ?_, ?_, ?_, ?_⟩
  · rw [RM_from_s_at]; exact p2
  · rw [RM_token_s_at]; exact p3
  · rw [RM_at_s_at, p4, nI_1]
  · rw [RM_figures_s_at]; exact p5
theorem LI.fig {r Z : RM} {k : Nat} {f : Int32} (h : LI r Z k f) (v : Int32) : LI r (RM_s_figures Z v) k v := by
  obtain ⟨p1, p2, p3, p4, p5⟩ := h
  refine ⟨p1.trans (lk_figures _ _), ?_, ?_, ?_, ?_⟩
  · rw [RM_from_s_figures]; exact p2
  · rw [RM_token_s_figures]; exact p3
  · rw [RM_at_s_figures, p4]
  · rw [RM_figures_s_figures]
theorem R_wstep (b : Bt c z) {r Z : RM} (h : RpC r c z) {k : Nat} {f : Int32} (p : LI r Z k f) (hk : k < z) (rec : RM → Option RM) : M_X6_look_l90 NN rec Z = if isL (c k) = true then rec (RM_s_at Z (RM_at Z + 1)) else some Z := by
  have hz := b.1
  obtain ⟨p1, p2, p3, p4, p5⟩ := p
  have q := h.sg p1.1
  unfold M_X6_look_l90
  generalize hG : RM_s_at Z (RM_at Z + 1) = G
  rw [q.1, p4, if_neg (by rw [nI_leI (by omega) (by omega)]; omega), if_neg (nI_in (by omega) (by omega)), nI_clamp (by omega), q.2 k hk, R_isL _ (b.2 _), Option.bind_some]
  cases isL (c k)
  · rw [if_pos (show oB false = 0 by decide), if_neg (by decide)]
  · rw [if_neg (show ¬ oB true = 0 by decide), if_pos rfl]
theorem R_wend {r Z : RM} (b : Bt c z) (h : RpC r c z) {f : Int32} (p : LI r Z z f) (rec : RM → Option RM) : M_X6_look_l90 NN rec Z = some Z := by
  obtain ⟨p1, p2, p3, p4, p5⟩ := p
  have q := h.sg p1.1
  unfold M_X6_look_l90
  rw [q.1, p4, if_pos (by exact Int32.le_refl _)]
theorem R_word (b : Bt c z) {r : RM} (h : RpC r c z) {s : Nat} (hs : s ≤ z) {f : Int32} (h0 : LI r r s f) : ∃ r', lp (M_X6_look_l90 NN) NN r = some r' ∧ LI r r' (sk isL c z s) f := by
  have hz := b.1
  obtain ⟨k1, k2⟩ := sk_le isL c hs
  obtain ⟨o, hq, hl⟩ := lp_inv (body := M_X6_look_l90 NN) (N := NN) (P := fun i Z => LI r Z (s + i) f) (Qr := fun o => LI r o (sk isL c z s) f) (sk isL c z s - s)
    (fun i Z hi hP => Or.inl ⟨RM_s_at Z (RM_at Z + 1), LI.next hP, fun rec => by
      rw [R_wstep b h hP (by omega), if_pos (sk_in (P := isL) (c := c) (z := z) (p := s) (i := s + i) (by omega) (by omega))]⟩)
    (fun Z hP => by
      have hP : LI r Z (s + (sk isL c z s - s)) f := hP
      rw [show s + (sk isL c z s - s) = sk isL c z s by omega] at hP
      refine ⟨Z, hP, fun rec => ?_⟩
      by_cases e : sk isL c z s = z
      · rw [e] at hP
        exact R_wend b h hP rec
      · rw [R_wstep b h hP (by omega), if_neg (by rw [sk_at (P := isL) (c := c) (z := z) (p := s) (by omega)]; decide)])
    (by show _ < 5000; omega) (z := r) h0
  exact ⟨o, hl, hq⟩
theorem R_fstep (b : Bt c z) {r Z : RM} (h : RpC r c z) {s i : Nat} (hf : RM_from r = nI s) {f : Int32} (p : LI r Z (s + i) f) (hk : s + i < z) (rec : RM → Option RM) : M_X6_look_l149 NN rec Z = if isD (c (s + i)) = true then rec (RM_s_at (RM_s_figures Z (if 4 ≤ i then 100000 else f * 10 + nI (c (s + i)) - 48)) (RM_at (RM_s_figures Z (if 4 ≤ i then 100000 else f * 10 + nI (c (s + i)) - 48)) + 1)) else some Z := by
  have hz := b.1
  obtain ⟨p1, p2, p3, p4, p5⟩ := p
  have q := h.sg p1.1
  unfold M_X6_look_l149
  have ej : ∀ v, M_X6_look_j214 NN rec (Z, v) = rec (RM_s_at (RM_s_figures Z v) (RM_at (RM_s_figures Z v) + 1)) := fun v => rfl
  rw [ej, ej]
  have hG : ∃ G : Int32 → RM, ∀ v, RM_s_at (RM_s_figures Z v) (RM_at (RM_s_figures Z v) + 1) = G v := ⟨_, fun v => rfl⟩
  obtain ⟨G, hG⟩ := hG
  rw [hG, hG, hG]
  rw [q.1, p2, hf, p4, if_neg (by rw [nI_leI (by omega) (by omega)]; omega), if_neg (nI_in (by omega) (by omega)), nI_clamp (by omega), q.2 (s + i) (by omega), R_isD _ (b.2 _), Option.bind_some, pk_sub (by omega), show s + i - s = i by omega, p5, if_neg (show ¬ (nI (s + i) < 0 ∨ 250 ≤ s + i) from fun w => w.elim (nI_pos (by omega)) (by omega))]
  cases isD (c (s + i))
  · rw [if_pos (show oB false = 0 by decide), if_neg (by decide)]
  · rw [if_neg (show ¬ oB true = 0 by decide), if_pos rfl]
    by_cases l : 4 ≤ i
    · rw [if_pos (show (4 : Int32) ≤ nI i from (nI_leI (a := 4) (by omega) (by omega)).mpr l), if_pos l]
    · rw [if_neg (show ¬ (4 : Int32) ≤ nI i from fun w => l ((nI_leI (a := 4) (by omega) (by omega)).mp w)), if_neg l]
theorem R_fend {r Z : RM} (b : Bt c z) (h : RpC r c z) {f : Int32} (p : LI r Z z f) (rec : RM → Option RM) : M_X6_look_l149 NN rec Z = some Z := by
  obtain ⟨p1, p2, p3, p4, p5⟩ := p
  have q := h.sg p1.1
  unfold M_X6_look_l149
  rw [q.1, p4, if_pos (by exact Int32.le_refl _)]
def vF (c : Nat → Nat) (s i : Nat) : Int32 := if i ≤ 4 then vI' c s i else 100000
theorem vF_s (c : Nat → Nat) (s i : Nat) : vF c s (i + 1) = if 4 ≤ i then 100000 else vF c s i * 10 + nI (c (s + i)) - 48 := by
  unfold vF
  by_cases l : 4 ≤ i
  · rw [if_pos l, if_neg (by omega)]
  · rw [if_neg l, if_pos (by omega), if_pos (by omega)]
    rfl
theorem R_figs (b : Bt c z) {r : RM} (h : RpC r c z) {s : Nat} (hs : s ≤ z) (hf : RM_from r = nI s) (h0 : LI r r s 0) : ∃ r', lp (M_X6_look_l149 NN) NN r = some r' ∧ LI r r' (sk isD c z s) (vF c s (sk isD c z s - s)) := by
  have hz := b.1
  obtain ⟨k1, k2⟩ := sk_le isD c hs
  obtain ⟨o, hq, hl⟩ := lp_inv (body := M_X6_look_l149 NN) (N := NN) (P := fun i Z => LI r Z (s + i) (vF c s i)) (Qr := fun o => LI r o (sk isD c z s) (vF c s (sk isD c z s - s))) (sk isD c z s - s)
    (fun i Z hi hP => Or.inl ⟨RM_s_at (RM_s_figures Z (vF c s (i + 1))) (RM_at (RM_s_figures Z (vF c s (i + 1))) + 1), LI.next (LI.fig hP (vF c s (i + 1))), fun rec => by
      rw [R_fstep b h hf hP (by omega), if_pos (sk_in (P := isD) (c := c) (z := z) (p := s) (i := s + i) (by omega) (by omega)), ← vF_s]⟩)
    (fun Z hP => by
      have hP : LI r Z (s + (sk isD c z s - s)) (vF c s (sk isD c z s - s)) := hP
      by_cases e : sk isD c z s = z
      · rw [show s + (sk isD c z s - s) = sk isD c z s by omega] at hP
        refine ⟨Z, hP, fun rec => ?_⟩
        have hP2 : LI r Z z (vF c s (sk isD c z s - s)) := by rw [e] at hP ⊢; exact hP
        exact R_fend b h hP2 rec
      · refine ⟨Z, by rw [show s + (sk isD c z s - s) = sk isD c z s by omega] at hP; exact hP, fun rec => ?_⟩
        rw [R_fstep b h hf hP (by omega), if_neg (by rw [show s + (sk isD c z s - s) = sk isD c z s by omega, sk_at (P := isD) (c := c) (z := z) (p := s) (by omega)]; decide)])
    (by show _ < 5000; omega) (z := r) h0
  exact ⟨o, hl, hq⟩
theorem R_j38 (b : Bt c z) {r : RM} (h : RpC r c z) {s : Nat} (hs : s ≤ z) (ha : RM_at r = nI s) : ∃ r', M_X6_look_j38 NN r = some r' ∧ Lk r r' ∧ RT r' c z s := by
  have hz := b.1
  unfold M_X6_look_j38
  rw [ha]
  have k0 : Lk r (RM_s_figures (RM_s_from r (nI s)) 0) := (lk_from r (nI s)).trans (lk_figures _ _)
  have a0 : RM_at (RM_s_figures (RM_s_from r (nI s)) 0) = nI s := (RM_at_s_figures _ _).trans ((RM_at_s_from _ _).trans ha)
  have s0 : RM_from (RM_s_figures (RM_s_from r (nI s)) 0) = nI s := (RM_from_s_figures _ _).trans (RM_from_s_from _ _)
  have v0 : RM_figures (RM_s_figures (RM_s_from r (nI s)) 0) = 0 := RM_figures_s_figures _ _
  generalize RM_s_figures (RM_s_from r (nI s)) 0 = t at k0 a0 s0 v0
  have h0 := h.sg k0.1
  have hT : ∀ v, ∃ T, T = RM_s_token t v ∧ Lk r T ∧ RpC T c z ∧ RM_from T = nI s ∧ RM_token T = v ∧ RM_at T = nI s ∧ RM_figures T = 0 := fun v => ⟨_, rfl, k0.trans (lk_token _ _), h0.sg (sg_token _ _), (RM_from_s_token _ _).trans s0, RM_token_s_token _ _, (RM_at_s_token _ _).trans a0, (RM_figures_s_token _ _).trans v0⟩
  rw [a0, h0.1]
  by_cases e : s = z
  · subst e
    obtain ⟨y1, y2⟩ := ty_z c s
    rw [if_neg (show ¬ ¬ nI s = nI s from not_not_intro rfl)]
    obtain ⟨T, e0, t1, t2, t3, t4, t5, t6⟩ := hT 0
    rw [← e0]
    exact ⟨T, rfl, t1, RT.mk t2 t3 y1 y2 t4 (fun _ => t5) (fun w => by cases w)⟩
  · have hb := b.2 s
    rw [if_pos (show ¬ nI s = nI z by rw [nI_eq (by omega) (by omega)]; exact e)]
    have hin : ¬ (nI s < 0 ∨ 250 ≤ (nI s).toNatClampNeg) := nI_in (by omega) (by omega)
    simp only [if_neg hin]
    rw [nI_clamp (by omega), h0.2 s (by omega), R_isL _ hb, Option.bind_some, R_isD _ hb]
    cases g1 : isL (c s)
    · rw [if_pos (show oB false = 0 by decide), Option.bind_some]
      cases g2 : isD (c s)
      · rw [if_pos (show oB false = 0 by decide)]
        have ej : ∀ v, M_X6_look_j250 NN (t, v) = some (RM_s_at (RM_s_token t v) (RM_at (RM_s_token t v) + 1)) := fun v => rfl
        rw [ej, ej]
        by_cases g : c s = 59
        · obtain ⟨y1, y2⟩ := ty_S (z := z) e g
          rw [if_neg (not_not_intro ((x59 _ hb).mpr g))]
          obtain ⟨T, e0, t1, t2, t3, t4, t5, t6⟩ := hT 3
          rw [← e0]
          refine ⟨_, rfl, t1.trans (lk_at _ _), RT.mk (t2.sg (sg_at _ _)) ((RM_from_s_at _ _).trans t3) y1 y2 ((RM_token_s_at _ _).trans t4) (fun _ => (RM_at_s_at _ _).trans ?_) (fun w => by cases w)⟩
          rw [t5, nI_1]
        · obtain ⟨y1, y2⟩ := ty_O e g1 g2 g
          rw [if_pos (fun w => g ((x59 _ hb).mp w))]
          obtain ⟨T, e0, t1, t2, t3, t4, t5, t6⟩ := hT 4
          rw [← e0]
          exact ⟨_, rfl, t1.trans (lk_at _ _), RT.mk (t2.sg (sg_at _ _)) ((RM_from_s_at _ _).trans t3) y1 y2 ((RM_token_s_at _ _).trans t4) (fun w => absurd rfl w) (fun w => by cases w)⟩
      · obtain ⟨y1, y2⟩ := ty_D e g1 g2
        rw [if_neg (show ¬ oB true = 0 by decide)]
        obtain ⟨T, e0, t1, t2, t3, t4, t5, t6⟩ := hT 2
        rw [← e0]
        obtain ⟨t', w1, w2, w3, w4, w5, w6⟩ := R_figs b t2 hs t3 ⟨Lk.refl T, rfl, rfl, t5, t6⟩
        exact ⟨t', w1, t1.trans w2, RT.mk (t2.sg w2.1) (w3.trans t3) y1 y2 (w4.trans t4) (fun _ => w5) (fun _ => w6)⟩
    · obtain ⟨y1, y2⟩ := ty_L e g1
      rw [if_neg (show ¬ oB true = 0 by decide)]
      obtain ⟨T, e0, t1, t2, t3, t4, t5, t6⟩ := hT 1
      rw [← e0]
      obtain ⟨t', w1, w2, w3, w4, w5, w6⟩ := R_word b t2 hs ⟨Lk.refl T, rfl, rfl, t5, t6⟩
      exact ⟨t', w1, t1.trans w2, RT.mk (t2.sg w2.1) (w3.trans t3) y1 y2 (w4.trans t4) (fun _ => w5) (fun w => by cases w)⟩
theorem R_lstep (b : Bt c z) {r Z : RM} (h : RpC r c z) {k : Nat} (p1 : Lk r Z) (p4 : RM_at Z = nI k) (hk : k < z) (rec : RM → Option RM) : M_X6_look_l0 NN rec Z = if c k = 32 then rec (RM_s_at Z (RM_at Z + 1)) else M_X6_look_j38 NN Z := by
  have hz := b.1
  have q := h.sg p1.1
  unfold M_X6_look_l0
  generalize hG : RM_s_at Z (RM_at Z + 1) = G
  rw [q.1, p4, if_neg (by rw [nI_leI (by omega) (by omega)]; omega), if_neg (nI_in (by omega) (by omega)), nI_clamp (by omega), q.2 _ (by omega)]
  by_cases e : c k = 32
  · rw [if_neg (not_not_intro ((x32 _ (b.2 k)).mpr e)), if_pos e]
  · rw [if_pos (show ¬ nI (c k) = (32 : Int32) from fun w => e ((x32 _ (b.2 k)).mp w)), if_neg e]
theorem R_lend (b : Bt c z) {r Z : RM} (h : RpC r c z) (p1 : Lk r Z) (p4 : RM_at Z = nI z) (rec : RM → Option RM) : M_X6_look_l0 NN rec Z = M_X6_look_j38 NN Z := by
  have q := h.sg p1.1
  unfold M_X6_look_l0
  rw [q.1, p4, if_pos (by exact Int32.le_refl _)]
theorem lk_next {r Z : RM} {k : Nat} (h : Lk r Z ∧ RM_at Z = nI k) : Lk r (RM_s_at Z (RM_at Z + 1)) ∧ RM_at (RM_s_at Z (RM_at Z + 1)) = nI (k + 1) := ⟨h.1.trans (lk_at _ _), by rw [RM_at_s_at, h.2, nI_1]⟩
theorem R_look (b : Bt c z) {r : RM} (h : RpC r c z) {p : Nat} (hp : p ≤ z) (ha : RM_at r = nI p) : ∃ r', M_X6_look NN r = some r' ∧ Lk r r' ∧ RT r' c z (ts c z p) := by
  have hz := b.1
  obtain ⟨k1, k2⟩ := sk_le (fun x => x == 32) c hp
  unfold M_X6_look
  have hts : sk (fun x => x == 32) c z p = ts c z p := rfl
  have hin : ∀ i, p ≤ i → i < ts c z p → c i = 32 := fun i g1 g2 => beq_iff_eq.mp (sk_in (P := fun x => x == 32) (c := c) (z := z) (p := p) g1 g2)
  have hat : ts c z p < z → ¬ c (ts c z p) = 32 := fun g w => by
    have hx := sk_at (P := fun x => x == 32) (c := c) (z := z) (p := p) g
    rw [hts, w] at hx
    cases hx
  rw [hts] at k1 k2
  generalize ts c z p = S at *
  obtain ⟨o, hq, hl⟩ := lp_inv (body := M_X6_look_l0 NN) (N := NN) (P := fun i Z => Lk r Z ∧ RM_at Z = nI (p + i)) (Qr := fun o => Lk r o ∧ RT o c z S) (S - p)
    (fun i Z hi hP => Or.inl ⟨RM_s_at Z (RM_at Z + 1), lk_next hP, fun rec => by
      rw [R_lstep b h hP.1 hP.2 (by omega), if_pos (hin _ (by omega) (by omega))]⟩)
    (fun Z hP => by
      obtain ⟨p1, p4⟩ := hP
      rw [show p + (S - p) = S by omega] at p4
      obtain ⟨t', w1, w2, w3⟩ := R_j38 b (h.sg p1.1) k2 p4
      refine ⟨t', ⟨p1.trans w2, w3⟩, fun rec => ?_⟩
      by_cases e : S = z
      · rw [R_lend b h p1 (by rw [p4, e]), w1]
      · rw [R_lstep b h p1 p4 (by omega), if_neg (hat (by omega)), w1])
    (by show _ < 5000; omega) (z := r) ⟨Lk.refl r, ha⟩
  exact ⟨o, hl, hq⟩
end LOOK
