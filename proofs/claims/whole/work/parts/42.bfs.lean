/-! a spread over sets: far (0: not found, d + 1: d moves away), queue, how many are found -/
abbrev BB : Type := (Nat → Nat) × (Nat → Nat) × Nat
def vu (f : Nat → Nat) (i v : Nat) : Nat → Nat := fun j => if j = i then v else f j
theorem vu_at (f : Nat → Nat) (i v : Nat) : vu f i v i = v := if_pos rfl
theorem vu_no {f : Nat → Nat} {i v j : Nat} (h : j ≠ i) : vu f i v j = f j := if_neg h
def ins (v d : Nat) (B : BB) : BB := (vu B.1 v d, vu B.2.1 B.2.2 v, B.2.2 + 1)
def bst (op : Nat → Nat → Bool) (u d : Nat) (B : BB) (m : Nat) : BB := if op u m = true ∧ B.1 (u ^^^ mk m) = 0 then ins (u ^^^ mk m) d B else B
def brow (op : Nat → Nat → Bool) (u d : Nat) : Nat → BB → BB
  | 0, B => B
  | n + 1, B => bst op u d (brow op u d n B) n
def bfs (op : Nat → Nat → Bool) : Nat → Nat → BB → BB
  | 0, _, B => B
  | f + 1, i, B => if i < B.2.2 then bfs op f (i + 1) (brow op (B.2.1 i) (B.1 (B.2.1 i) + 1) 21 B) else B
def OpOk (op : Nat → Nat → Bool) (n : Nat) : Prop := ∀ u m, u < n → op u m = true → u ^^^ mk m < n
def BI (n : Nat) (B : BB) : Prop := (∀ i, i < B.2.2 → B.2.1 i < n ∧ B.1 (B.2.1 i) ≠ 0) ∧ ∀ f : Nat → Nat, fb_sm (fun i => f (B.2.1 i)) B.2.2 = fb_sm (fun s => if B.1 s = 0 then 0 else f s) n
theorem BI_0 {n : Nat} {B : BB} (h : B.2.2 = 0) (h2 : ∀ s, s < n → B.1 s = 0) : BI n B := by
  refine ⟨fun i hi => by omega, fun f => ?_⟩
  rw [h, fb_sm_cong (g := fun _ => 0) (fun k hk => if_pos (h2 k hk)), fb_sm_const]
  rfl
theorem BI_ins {n v d : Nat} {B : BB} (h : BI n B) (hv : v < n) (h0 : B.1 v = 0) (hd : d ≠ 0) : BI n (ins v d B) := by
  refine ⟨fun i hi => ?_, fun f => ?_⟩
  · show vu B.2.1 B.2.2 v i < n ∧ vu B.1 v d (vu B.2.1 B.2.2 v i) ≠ 0
    have hi : i < B.2.2 + 1 := hi
    by_cases e : i = B.2.2
    · subst e
      rw [vu_at, vu_at]
      exact ⟨hv, hd⟩
    · rw [vu_no e]
      have := h.1 i (by omega)
      refine ⟨this.1, ?_⟩
      rw [vu_no (fun g => this.2 (by rw [g]; exact h0))]
      exact this.2
  · show fb_sm (fun i => f (vu B.2.1 B.2.2 v i)) (B.2.2 + 1) = fb_sm (fun s => if vu B.1 v d s = 0 then 0 else f s) n
    have e1 : fb_sm (fun i => f (vu B.2.1 B.2.2 v i)) (B.2.2 + 1) = fb_sm (fun i => f (B.2.1 i)) B.2.2 + f v := by
      rw [fb_sm_succ, vu_at, fb_sm_cong (fun k hk => by rw [vu_no (show k ≠ B.2.2 by omega)])]
    have e2 := fb_sm_upd (fun s => if B.1 s = 0 then 0 else f s) (f v) hv
    have e3 : (fun k => if k = v then f v else (fun s => if B.1 s = 0 then 0 else f s) k) = fun s => if vu B.1 v d s = 0 then 0 else f s := by
      funext k
      by_cases e : k = v
      · subst e
        rw [if_pos rfl, vu_at, if_neg hd]
      · rw [if_neg e, vu_no e]
    rw [e3] at e2
    rw [e1, h.2 f]
    simp only [if_pos h0] at e2
    omega
theorem BI_le {n : Nat} {B : BB} (h : BI n B) : B.2.2 ≤ n := by
  have h1 := h.2 (fun _ => 1)
  rw [fb_sm_const] at h1
  have h2 : fb_sm (fun s => if B.1 s = 0 then 0 else 1) n ≤ fb_sm (fun _ => 1) n := fb_sm_le fun k _ => by split <;> omega
  rw [fb_sm_const] at h2
  omega
theorem BI_lt {n v : Nat} {B : BB} (h : BI n B) (hv : v < n) (h0 : B.1 v = 0) : B.2.2 < n := BI_le (BI_ins h hv h0 (d := 1) (by omega))
theorem BI_mem {n s : Nat} {B : BB} (h : BI n B) (hs : s < n) (h0 : B.1 s ≠ 0) : ∃ i, i < B.2.2 ∧ B.2.1 i = s := by
  have h1 := h.2 (fun v => if v = s then 1 else 0)
  have h2 := fb_sm_part (fun v => if B.1 v = 0 then 0 else if v = s then 1 else 0) hs
  simp only [if_neg h0, if_true] at h2
  have h3 : ¬ ∀ i, i < B.2.2 → ¬ B.2.1 i = s := by
    intro h3
    rw [fb_sm_cong (g := fun _ => 0) (fun k hk => if_neg (h3 k hk)), fb_sm_const] at h1
    omega
  by_cases g : ∃ i, i < B.2.2 ∧ B.2.1 i = s
  · exact g
  · exact absurd (fun i hi e => g ⟨i, hi, e⟩) h3
theorem bst_cases {P : BB → Prop} {op : Nat → Nat → Bool} {u d m : Nat} {B : BB} (h1 : P B) (h2 : op u m = true → B.1 (u ^^^ mk m) = 0 → P (ins (u ^^^ mk m) d B)) : P (bst op u d B m) := by
  unfold bst
  by_cases e : op u m = true ∧ B.1 (u ^^^ mk m) = 0
  · rw [if_pos e]; exact h2 e.1 e.2
  · rw [if_neg e]; exact h1
theorem bst_BI {op : Nat → Nat → Bool} {n u d m : Nat} {B : BB} (ho : OpOk op n) (hu : u < n) (hd : d ≠ 0) (h : BI n B) : BI n (bst op u d B m) :=
  bst_cases h fun h1 h2 => BI_ins h (ho u m hu h1) h2 hd
theorem brow_BI {op : Nat → Nat → Bool} {n u d : Nat} (ho : OpOk op n) (hu : u < n) (hd : d ≠ 0) : ∀ (k : Nat) {B : BB}, BI n B → BI n (brow op u d k B)
  | 0, _, h => h
  | k + 1, _, h => bst_BI ho hu hd (brow_BI ho hu hd k h)
/-- what was found stays -/
def Bup (B C : BB) : Prop := B.2.2 ≤ C.2.2 ∧ (∀ i, i < B.2.2 → C.2.1 i = B.2.1 i) ∧ ∀ s, B.1 s ≠ 0 → C.1 s = B.1 s
theorem Bup.rfl' (B : BB) : Bup B B := ⟨Nat.le_refl _, fun _ _ => rfl, fun _ _ => rfl⟩
theorem Bup.trans {A B C : BB} (h : Bup A B) (k : Bup B C) : Bup A C :=
  ⟨Nat.le_trans h.1 k.1, fun i hi => (k.2.1 i (Nat.lt_of_lt_of_le hi h.1)).trans (h.2.1 i hi), fun s hs => (k.2.2 s (by rw [h.2.2 s hs]; exact hs)).trans (h.2.2 s hs)⟩
theorem Bup_ins {v d : Nat} {B : BB} (h0 : B.1 v = 0) : Bup B (ins v d B) :=
  ⟨Nat.le_succ _, fun i hi => vu_no (by omega), fun s hs => vu_no fun e => hs (by rw [e]; exact h0)⟩
theorem Bup_bst {op : Nat → Nat → Bool} {u d m : Nat} {B : BB} : Bup B (bst op u d B m) := bst_cases (Bup.rfl' B) fun _ h => Bup_ins h
theorem Bup_brow {op : Nat → Nat → Bool} {u d : Nat} : ∀ (k : Nat) {B : BB}, Bup B (brow op u d k B)
  | 0, B => Bup.rfl' B
  | k + 1, _ => (Bup_brow k).trans Bup_bst
theorem brow_skip {op : Nat → Nat → Bool} {u d : Nat} {B : BB} {k : Nat} : ∀ (j : Nat), (∀ m, k ≤ m → m < k + j → op u m = false) → brow op u d (k + j) B = brow op u d k B
  | 0, _ => rfl
  | j + 1, h => by
    show bst op u d (brow op u d (k + j) B) (k + j) = _
    rw [brow_skip j (fun m h1 h2 => h m h1 (by omega))]
    unfold bst
    rw [if_neg]
    rw [h (k + j) (by omega) (by omega)]
    intro g
    cases g.1
theorem bfs_BI {op : Nat → Nat → Bool} {n : Nat} (ho : OpOk op n) : ∀ (f i : Nat) {B : BB}, BI n B → BI n (bfs op f i B)
  | 0, _, _, h => h
  | f + 1, i, B, h => by
    unfold bfs
    by_cases e : i < B.2.2
    · rw [if_pos e]
      exact bfs_BI ho f (i + 1) (brow_BI ho (h.1 i e).1 (Nat.succ_ne_zero _) 21 h)
    · rw [if_neg e]; exact h
theorem Bup_bfs {op : Nat → Nat → Bool} : ∀ (f i : Nat) {B : BB}, Bup B (bfs op f i B)
  | 0, _, B => Bup.rfl' B
  | f + 1, i, B => by
    unfold bfs
    by_cases e : i < B.2.2
    · rw [if_pos e]; exact (Bup_brow 21).trans (Bup_bfs f (i + 1))
    · rw [if_neg e]; exact Bup.rfl' B
/-! how far they are -/
def BJ (op : Nat → Nat → Bool) (n st i c : Nat) (B : BB) : Prop :=
  BI n B ∧ (∀ j k, j ≤ k → k < B.2.2 → B.1 (B.2.1 j) ≤ B.1 (B.2.1 k)) ∧ (∀ k, k < B.2.2 → B.1 (B.2.1 k) ≤ c) ∧ (∀ j, j < i → ∀ m, m < 21 → op (B.2.1 j) m = true → B.1 (B.2.1 j ^^^ mk m) ≠ 0 ∧ B.1 (B.2.1 j ^^^ mk m) ≤ B.1 (B.2.1 j) + 1) ∧ (∀ v d, B.1 v = d + 2 → ∃ u m, m < 21 ∧ op u m = true ∧ v = u ^^^ mk m ∧ B.1 u = d + 1) ∧ (∀ v, B.1 v = 1 ↔ v = st) ∧ ∀ v, B.1 v ≠ 0 → v < n
theorem BJ_ins {op : Nat → Nat → Bool} {n st i u m : Nat} {B : BB} (h : BJ op n st i (B.1 u + 1) B) (hi : i ≤ B.2.2) (hu : u < n) (hm : m < 21) (h1 : op u m = true) (hv : u ^^^ mk m < n) (h0 : B.1 (u ^^^ mk m) = 0) (hn : B.1 u ≠ 0) : BJ op n st i (B.1 u + 1) (ins (u ^^^ mk m) (B.1 u + 1) B) := by
  obtain ⟨a1, a2, a3, a4, a5, a6, a7⟩ := h
  have up := Bup_ins (d := B.1 u + 1) h0
  have at1 : (ins (u ^^^ mk m) (B.1 u + 1) B).1 (u ^^^ mk m) = B.1 u + 1 := vu_at _ _ _
  have q1 : (ins (u ^^^ mk m) (B.1 u + 1) B).2.1 B.2.2 = u ^^^ mk m := vu_at _ _ _
  have far' : ∀ j, j < B.2.2 → (ins (u ^^^ mk m) (B.1 u + 1) B).1 ((ins (u ^^^ mk m) (B.1 u + 1) B).2.1 j) = B.1 (B.2.1 j) := fun j hj => by
    rw [up.2.1 j hj, up.2.2 _ (a1.1 j hj).2]
  refine ⟨BI_ins a1 hv h0 (Nat.succ_ne_zero _), ?_, ?_, ?_, ?_, ?_, ?_⟩
  · intro j k hjk hk
    have hk : k < B.2.2 + 1 := hk
    by_cases e : k = B.2.2
    · subst e
      rw [q1, at1]
      by_cases e2 : j = B.2.2
      · subst e2; rw [q1, at1]; exact Nat.le_refl _
      · rw [far' j (by omega)]
        exact a3 j (by omega)
    · rw [far' k (by omega), far' j (by omega)]
      exact a2 j k hjk (by omega)
  · intro k hk
    have hk : k < B.2.2 + 1 := hk
    by_cases e : k = B.2.2
    · subst e
      rw [q1, at1]
      exact Nat.le_refl _
    · rw [far' k (by omega)]
      exact a3 k (by omega)
  · intro j hj x hx ho
    have hj2 : j < B.2.2 := by omega
    rw [up.2.1 j hj2] at ho ⊢
    have := a4 j hj x hx ho
    rw [up.2.2 _ this.1, up.2.2 _ (a1.1 j hj2).2]
    exact this
  · intro v d hv2
    by_cases e : v = u ^^^ mk m
    · subst e
      rw [at1] at hv2
      exact ⟨u, m, hm, h1, rfl, by rw [up.2.2 u hn]; omega⟩
    · rw [show (ins (u ^^^ mk m) (B.1 u + 1) B).1 v = B.1 v from vu_no e] at hv2
      obtain ⟨w, x, b1, b2, b3, b4⟩ := a5 v d hv2
      exact ⟨w, x, b1, b2, b3, by rw [up.2.2 w (by omega)]; exact b4⟩
  · intro v
    by_cases e : v = u ^^^ mk m
    · subst e
      rw [at1]
      constructor
      · intro g; omega
      · intro g
        have := (a6 _).mpr g
        omega
    · rw [show (ins (u ^^^ mk m) (B.1 u + 1) B).1 v = B.1 v from vu_no e]
      exact a6 v
  · intro v hv2
    by_cases e : v = u ^^^ mk m
    · rw [e]; exact hv
    · rw [show (ins (u ^^^ mk m) (B.1 u + 1) B).1 v = B.1 v from vu_no e] at hv2
      exact a7 v hv2
theorem BJ_row {op : Nat → Nat → Bool} {n st i u d : Nat} {B : BB} (ho : OpOk op n) (h : BJ op n st i d B) (hi : i < B.2.2) (hu : B.2.1 i = u) (hd : B.1 u + 1 = d) : ∀ k, k ≤ 21 → BJ op n st i d (brow op u d k B) ∧ ∀ m, m < k → op u m = true → (brow op u d k B).1 (u ^^^ mk m) ≠ 0 ∧ (brow op u d k B).1 (u ^^^ mk m) ≤ d := by
  intro k
  have hu2 := h.1.1 i hi
  rw [hu] at hu2
  induction k with
  | zero => exact fun _ => ⟨h, fun m hm => absurd hm (Nat.not_lt_zero m)⟩
  | succ k ih =>
    intro hk
    obtain ⟨g1, g2⟩ := ih (by omega)
    have up := Bup_brow (op := op) (u := u) (d := d) k (B := B)
    have fu : (brow op u d k B).1 u = B.1 u := up.2.2 u hu2.2
    show BJ op n st i d (bst op u d (brow op u d k B) k) ∧ ∀ m, m < k + 1 → op u m = true → (bst op u d (brow op u d k B) k).1 (u ^^^ mk m) ≠ 0 ∧ (bst op u d (brow op u d k B) k).1 (u ^^^ mk m) ≤ d
    have up2 := Bup_bst (op := op) (u := u) (d := d) (m := k) (B := brow op u d k B)
    have old : ∀ m, m < k → op u m = true → (bst op u d (brow op u d k B) k).1 (u ^^^ mk m) ≠ 0 ∧ (bst op u d (brow op u d k B) k).1 (u ^^^ mk m) ≤ d := fun m hm h1 => by
      have := g2 m hm h1
      rw [up2.2.2 _ this.1]
      exact this
    by_cases e : op u k = true ∧ (brow op u d k B).1 (u ^^^ mk k) = 0
    · have eb : bst op u d (brow op u d k B) k = ins (u ^^^ mk k) d (brow op u d k B) := if_pos e
      refine ⟨?_, fun m hm h1 => ?_⟩
      · rw [eb]
        have := BJ_ins (op := op) (n := n) (st := st) (i := i) (u := u) (m := k) (B := brow op u d k B) (by rw [fu, hd]; exact g1) (Nat.le_trans (Nat.le_of_lt hi) up.1) hu2.1 (by omega) e.1 (ho u k hu2.1 e.1) e.2 (by rw [fu]; exact hu2.2)
        rw [fu, hd] at this
        exact this
      · by_cases e2 : m = k
        · subst e2
          rw [eb, show (ins (u ^^^ mk m) d (brow op u d m B)).1 (u ^^^ mk m) = d from vu_at _ _ _]
          omega
        · exact old m (by omega) h1
    · have eb : bst op u d (brow op u d k B) k = brow op u d k B := if_neg e
      refine ⟨by rw [eb]; exact g1, fun m hm h1 => ?_⟩
      by_cases e2 : m = k
      · subst e2
        rw [eb]
        have hne : (brow op u d m B).1 (u ^^^ mk m) ≠ 0 := fun z => e ⟨h1, z⟩
        refine ⟨hne, ?_⟩
        obtain ⟨j, hj, ej⟩ := BI_mem g1.1 (g1.2.2.2.2.2.2 _ hne) hne
        rw [← ej]
        exact g1.2.2.1 j hj
      · exact old m (by omega) h1
theorem BJ_bfs {op : Nat → Nat → Bool} {n st : Nat} (ho : OpOk op n) : ∀ (f i c : Nat) {B : BB}, BJ op n st i c B → i ≤ B.2.2 → (i < B.2.2 → c ≤ B.1 (B.2.1 i) + 1) → n < f + i → ∃ c', BJ op n st (bfs op f i B).2.2 c' (bfs op f i B)
  | 0, i, c, B, h, hi, hc, hf => by
    have := BI_le h.1
    omega
  | f + 1, i, c, B, h, hi, hc, hf => by
    unfold bfs
    by_cases e : i < B.2.2
    · rw [if_pos e]
      have h' : BJ op n st i (B.1 (B.2.1 i) + 1) B := ⟨h.1, h.2.1, fun k hk => Nat.le_trans (h.2.2.1 k hk) (hc e), h.2.2.2⟩
      obtain ⟨g1, g2⟩ := BJ_row ho h' e rfl rfl 21 (Nat.le_refl _)
      have up := Bup_brow (op := op) (u := B.2.1 i) (d := B.1 (B.2.1 i) + 1) 21 (B := B)
      have hq := up.2.1 i e
      have hfq := up.2.2 _ (h.1.1 i e).2
      refine BJ_bfs ho f (i + 1) (B.1 (B.2.1 i) + 1) ⟨g1.1, g1.2.1, g1.2.2.1, ?_, g1.2.2.2.2⟩ (Nat.lt_of_lt_of_le e up.1) (fun e2 => ?_) (by omega)
      · intro j hj m hm h1
        by_cases e2 : j = i
        · subst e2
          rw [hq] at h1 ⊢
          rw [hfq]
          exact g2 m hm h1
        · exact g1.2.2.2.1 j (by omega) m hm h1
      · have := g1.2.1 i (i + 1) (by omega) e2
        rw [hq, hfq] at this
        omega
    · rw [if_neg e]
      have : i = B.2.2 := by omega
      subst this
      exact ⟨c, h⟩
/-- a spread from one set, nothing found before -/
def sp1 (op : Nat → Nat → Bool) (st : Nat) : BB := bfs op 1025 0 (ins st 1 (fun _ => 0, fun _ => 0, 0))
theorem sp1_BJ {op : Nat → Nat → Bool} {n st : Nat} (ho : OpOk op n) (hn : n ≤ 1024) (hs : st < n) : ∃ c, BJ op n st (sp1 op st).2.2 c (sp1 op st) := by
  refine BJ_bfs ho 1025 0 1 ⟨BI_ins (BI_0 rfl fun _ _ => rfl) hs rfl (by omega), ?_, ?_, fun j hj => absurd hj (Nat.not_lt_zero j), ?_, ?_, ?_⟩ (Nat.zero_le _) (fun _ => Nat.succ_le_succ (Nat.zero_le _)) (by omega)
  · intro j k hjk hk
    have hk : k < 0 + 1 := hk
    obtain rfl : k = 0 := by omega
    obtain rfl : j = 0 := by omega
    exact Nat.le_refl _
  · intro k hk
    have hk : k < 0 + 1 := hk
    obtain rfl : k = 0 := by omega
    show vu (fun _ => 0) st 1 (vu (fun _ => 0) 0 st 0) ≤ 1
    rw [vu_at, vu_at]
    exact Nat.le_refl _
  · intro v d hv
    have hv : vu (fun _ => 0) st 1 v = d + 2 := hv
    by_cases e : v = st
    · subst e; rw [vu_at] at hv; omega
    · rw [vu_no e] at hv; omega
  · intro v
    show vu (fun _ => 0) st 1 v = 1 ↔ v = st
    by_cases e : v = st
    · subst e; simp [vu_at]
    · rw [vu_no e]; simp [e]
  · intro v hv
    have hv : vu (fun _ => 0) st 1 v ≠ 0 := hv
    by_cases e : v = st
    · rw [e]; exact hs
    · rw [vu_no e] at hv; exact absurd rfl hv
def Wk (op : Nat → Nat → Bool) : Nat → Nat → Nat → Prop
  | 0, u, v => u = v
  | d + 1, u, v => ∃ w m, Wk op d u w ∧ m < 21 ∧ op w m = true ∧ v = w ^^^ mk m
theorem Wk_far {op : Nat → Nat → Bool} {n st c : Nat} {B : BB} (h : BJ op n st B.2.2 c B) : ∀ (d v : Nat), Wk op d st v → B.1 v ≠ 0 ∧ B.1 v ≤ d + 1
  | 0, v, hw => by
    have : B.1 v = 1 := (h.2.2.2.2.2.1 v).mpr hw.symm
    omega
  | d + 1, v, hw => by
    obtain ⟨w, m, h1, h2, h3, rfl⟩ := hw
    obtain ⟨g1, g2⟩ := Wk_far h d w h1
    obtain ⟨j, hj, rfl⟩ := BI_mem h.1 (h.2.2.2.2.2.2 w g1) g1
    have := h.2.2.2.1 j hj m h2 h3
    omega
theorem far_Wk {op : Nat → Nat → Bool} {n st i c : Nat} {B : BB} (h : BJ op n st i c B) : ∀ (d v : Nat), B.1 v = d + 1 → Wk op d st v
  | 0, v, hv => ((h.2.2.2.2.2.1 v).mp hv).symm
  | d + 1, v, hv => by
    obtain ⟨u, m, h1, h2, h3, h4⟩ := h.2.2.2.2.1 v d hv
    exact ⟨u, m, far_Wk h d u h4, h1, h2, h3⟩
def rev (op : Nat → Nat → Bool) : Nat → Nat → Bool := fun u m => op (u ^^^ mk m) m
theorem rev_rev (op : Nat → Nat → Bool) : rev (rev op) = op := by
  funext u m
  unfold rev
  rw [xor_xor]
theorem Wk_pre {op : Nat → Nat → Bool} {u m : Nat} (hm : m < 21) (h : op u m = true) : ∀ (d v : Nat), Wk op d (u ^^^ mk m) v → Wk op (d + 1) u v
  | 0, v, hw => ⟨u, m, rfl, hm, h, hw.symm⟩
  | d + 1, v, hw => by
    obtain ⟨w, x, h1, h2, h3, h4⟩ := hw
    exact ⟨w, x, Wk_pre hm h d w h1, h2, h3, h4⟩
theorem Wk_rev {op : Nat → Nat → Bool} : ∀ (d u v : Nat), Wk op d u v → Wk (rev op) d v u
  | 0, _, _, h => Eq.symm h
  | d + 1, u, v, h => by
    obtain ⟨w, m, h1, h2, h3, rfl⟩ := h
    refine Wk_pre h2 ?_ d u ?_
    · unfold rev; rw [xor_xor]; exact h3
    · rw [xor_xor]; exact Wk_rev d u w h1
theorem far_sym {op : Nat → Nat → Bool} {n u v : Nat} (ho : OpOk op n) (hr : OpOk (rev op) n) (hn : n ≤ 1024) (hu : u < n) (hv : v < n) : (sp1 op u).1 v = (sp1 (rev op) v).1 u := by
  obtain ⟨c, h1⟩ := sp1_BJ ho hn hu
  obtain ⟨c2, h2⟩ := sp1_BJ hr hn hv
  have k1 : ∀ d, (sp1 op u).1 v = d + 1 → (sp1 (rev op) v).1 u ≠ 0 ∧ (sp1 (rev op) v).1 u ≤ d + 1 := fun d e => Wk_far h2 d u (Wk_rev d u v (far_Wk h1 d v e))
  have k2 : ∀ d, (sp1 (rev op) v).1 u = d + 1 → (sp1 op u).1 v ≠ 0 ∧ (sp1 op u).1 v ≤ d + 1 := fun d e => by
    have := Wk_rev d v u (far_Wk h2 d u e)
    rw [rev_rev] at this
    exact Wk_far h1 d v this
  generalize (sp1 op u).1 v = x at k1 k2
  generalize (sp1 (rev op) v).1 u = y at k1 k2
  cases x with
  | zero =>
    cases y with
    | zero => rfl
    | succ y => exact absurd rfl (k2 y rfl).1
  | succ x =>
    have a1 := k1 x rfl
    cases y with
    | zero => exact absurd rfl a1.1
    | succ y =>
      have a2 := k2 y rfl
      omega
theorem lgl_ok {q : PL} (hz : q.2.1 ≤ 10) : OpOk (lgl q) (2 ^ q.2.1) := fun _ _ hu h => mvb_mk hz (mvb_of h) hu
theorem lgl_rok {q : PL} (hz : q.2.1 ≤ 10) : OpOk (rev (lgl q)) (2 ^ q.2.1) := fun _ _ hu h => mvb_mk hz (mvb_of h) hu
