theorem kf_J0_38 : Cond.fieldLink "java/lang/String" 38 "java/lang/String" "COMPACT_STRINGS" "Z" ∈ lwG := lw_in (i := 731) (by decide +kernel) rfl
theorem kf_J0_1053 : Cond.fieldLink "java/lang/String" 1053 "jdk/internal/util/Preconditions" "SIOOBE_FORMATTER" "Ljava/util/function/BiFunction;" ∈ lwG := lw_in (i := 747) (by decide +kernel) rfl
theorem kf_J2_44 : Cond.fieldLink "java/lang/StringUTF16" 44 "java/lang/StringUTF16" "$assertionsDisabled" "Z" ∈ lwG := lw_in (i := 765) (by decide +kernel) rfl
theorem kf_J2_59 : Cond.fieldLink "java/lang/StringUTF16" 59 "java/lang/StringUTF16" "HI_BYTE_SHIFT" "I" ∈ lwG := lw_in (i := 767) (by decide +kernel) rfl
theorem kf_J2_63 : Cond.fieldLink "java/lang/StringUTF16" 63 "java/lang/StringUTF16" "LO_BYTE_SHIFT" "I" ∈ lwG := lw_in (i := 769) (by decide +kernel) rfl
theorem kf_J0_9 : Cond.fieldLink "java/lang/String" 9 "java/lang/String" "value" "[B" ∈ lwG := lw_in (i := 1664) (by decide +kernel) rfl
theorem kf_J0_15 : Cond.fieldLink "java/lang/String" 15 "java/lang/String" "coder" "B" ∈ lwG := lw_in (i := 1665) (by decide +kernel) rfl
section G3
variable {p : Program} {l : Launch} {e : Env} {R : Room} {s : State} {m : MethodId} {args : Array Value} {below : List Frame} {meth : Method} {c : Code} {H : Heap} {locs : List Loc} {cells slots : Nat} {Q : State → Prop}
variable {cc : ByteArray} {pc : Nat} {ls : Array Slot} {rest st : List Value} {own : String} {nL : Nat} {g : gG} {A : Nat → Prop} {gs : List va_W}
variable {y : MethodName} {b : ByteArray} {n na index : Nat} {r : Option FieldType} {rm : Room} {As : List Value} {gc : gG → List va_W} {Qq : gQ} {isC : List Nat} {b0 : Nat} {av : gG → List Value}
/-- a call on one of the tape's words -/
theorem g_runK {i : Nat} (hi : i < 6) (X : gC p s m meth c args own cc nL g A) (hw : gW g A s.heap gs H locs) (hM : gM l y b n r rm av gc Qq) (hav : av g = .ref (gK g i) :: As) (hy : y.cls = "java/lang/String") (hk : kM y b n r na) (hki : Cond.instanceMethod y ∈ lwG) (hks : Cond.selects y.cls y y ∈ lwG) (hlk : Cond.methodLink own index y ∈ lwG)
    (hR : rm.frames + 1 ≤ R.frames ∧ 8 + (n + 11) + rm.locals ≤ R.locals) (hcs : cells + rm.cells ≤ R.cells ∧ slots + rm.slots ≤ R.slots) (hC : isC.map (fun i => gs[i]?) = (gc g).map some) (hnd : va_nd isC = true) (hna : As.length = na) (hls : ls.size = nL) (hst : st = As.reverse ++ .ref (gK g i) :: rest) (hrest : (rest.map fun v => v.category).sum ≤ 8) (hd : decode cc pc = .ok (.invokevirtual index, 3)) :
    va_Run p l e R s m args below meth c H locs cells slots rm.cells rm.slots (F0 m pc ls st) rest (Qq g (gA (gc g) H.size) (Value.ref (gK g i) :: As).toArray) (gA (gc g) H.size) :=
  va_runV X.1 (by have h9 := hM g H.size; rw [hav] at h9; exact h9) ⟨g_B X hk hR hlk, gK1 X _ hki, gK1 X _ hks⟩ ⟨gPc.blind, by rw [hy]; exact vk_recv X.2.2.2.2.1 hi hw.2.2.1, fun U hU hW => g_pre X hw hC hnd U hU hW⟩ rfl hna hls hst (lv_room hrest) hd hcs
theorem g_nret {S : Type} {v : S → Int32} {gs' : gG → S → List va_W} {ty : FieldType} (X : gC p s m meth c args own cc nL g A) (hr : meth.sig.returnType = some ty) (u : S) {x : Int32} (hn : narrow ty (.int x) = .int x) (hx : x = v u) (hw : gW g A s.heap gs H locs) (hg : gs = gs' g u) (hd : decode cc pc = .ok (.ireturn, 1)) : W p l e R s m args below meth c H locs cells slots (MQ below (gQi v gs' g A) args s cells slots A) (F0 m pc ls [.int x]) := by
  subst hg
  exact W.zret X.1.1 X.1.2.1 hr hn (fun t ht hW => ⟨⟨x, u, rfl, hx, by rw [ht]; exact hw.1, hw.2.1⟩, hw.2.2.1.F ht⟩) hw.2.2.1.2.2 hd X.2.1
end G3
abbrev R0 : Room := { frames := 0, cells := 0, slots := 0, locals := 0 }
abbrev R1 : Room := { frames := 1, cells := 0, slots := 0, locals := 40 }
abbrev R2 : Room := { frames := 2, cells := 0, slots := 0, locals := 80 }
abbrev R3 : Room := { frames := 3, cells := 0, slots := 0, locals := 120 }
abbrev R4 : Room := { frames := 4, cells := 0, slots := 0, locals := 160 }
theorem kM_J0_coder : kM yJ0_coder_7d493 cJ0_coder_7d493 1 (some .byte) 0 := ⟨kc_J0_coder_7d493, kn_java_lang_String, by decide +kernel⟩
theorem kM_J0_isLatin1 : kM yJ0_isLatin1_aae02 cJ0_isLatin1_aae02 1 (some .boolean) 0 := ⟨kc_J0_isLatin1_aae02, kn_java_lang_String, by decide +kernel⟩
theorem kM_J0_length : kM yJ0_length_8abf5 cJ0_length_8abf5 1 (some .int) 0 := ⟨kc_J0_length_8abf5, kn_java_lang_String, by decide +kernel⟩
theorem kM_J0_charAt : kM yJ0_charAt_5068e cJ0_charAt_5068e 2 (some .char) 1 := ⟨kc_J0_charAt_5068e, kn_java_lang_String, by decide +kernel⟩
theorem kM_J1_charAt : kM yJ1_charAt_3b067 cJ1_charAt_3b067 2 (some .char) 2 := ⟨kc_J1_charAt_3b067, kn_java_lang_StringLatin1, by decide +kernel⟩
theorem kM_J0_checkIndex : kM yJ0_checkIndex_df160 cJ0_checkIndex_df160 2 none 2 := ⟨kc_J0_checkIndex_df160, kn_java_lang_String, by decide +kernel⟩
theorem kM_J3_checkIndex : kM yJ3_checkIndex_8e157 cJ3_checkIndex_8e157 3 (some .int) 3 := ⟨kc_J3_checkIndex_8e157, kn_jdk_internal_util_Preconditions, by decide +kernel⟩
set_option maxRecDepth 100000 in
theorem c_J0_coder (l : Launch) {i : Nat} (hi : i < 6) : gM l yJ0_coder_7d493 cJ0_coder_7d493 1 (some .byte) R0 (fun g => [.ref (gK g i)]) (fun _ => []) (gQi (fun _ : Unit => 0) (fun _ _ => [])) := by
  refine gM.of (by decide +kernel) (fun _ => Nat.le_of_ble_eq_true rfl) (fun g p e s m below meth c A ls X hr _ hw hl => ?_)
  have hx := X.1.1
  have hb := X.1.2.1
  have hl : lv_has ls 1 [(0, .ref (gK g i))] := hl
  obtain ⟨-, h2, -, -⟩ := X.2.2.2.2.1.1 i hi
  refine va_gets hx hb X.2.2.2.2.2.1 hw.2.2.1 X.1.2.2.2.1 (gK1 X _ kf_J0_38) (fun _ h => h) dJ0_coder_7d493_0 ?_
  refine lv_if_eq (tgt := 13) hx hb dJ0_coder_7d493_3 (by decide) (fun k => absurd k (by decide)) (fun _ => ?_)
  refine lv_aload_n hx hb dJ0_coder_7d493_6 rfl (lv_at hl 0 rfl) ?_
  refine vk_getf hx hb h2 hw.2.2.1 X.1.2.2.2.1 (gK1 X _ kf_J0_15) (fun _ h => h) dJ0_coder_7d493_7 ?_
  refine lv_goto (tgt := 14) hx hb dJ0_coder_7d493_10 (by decide) ?_
  exact g_nret X hr () rfl rfl hw rfl dJ0_coder_7d493_14
set_option maxRecDepth 100000 in
theorem c_J0_isLatin1 (l : Launch) {i : Nat} (hi : i < 6) : gM l yJ0_isLatin1_aae02 cJ0_isLatin1_aae02 1 (some .boolean) R0 (fun g => [.ref (gK g i)]) (fun _ => []) (gQi (fun _ : Unit => 1) (fun _ _ => [])) := by
  refine gM.of (by decide +kernel) (fun _ => Nat.le_of_ble_eq_true rfl) (fun g p e s m below meth c A ls X hr _ hw hl => ?_)
  have hx := X.1.1
  have hb := X.1.2.1
  have hl : lv_has ls 1 [(0, .ref (gK g i))] := hl
  obtain ⟨-, h2, -, -⟩ := X.2.2.2.2.1.1 i hi
  refine va_gets hx hb X.2.2.2.2.2.1 hw.2.2.1 X.1.2.2.2.1 (gK1 X _ kf_J0_38) (fun _ h => h) dJ0_isLatin1_aae02_0 ?_
  refine lv_if_eq (tgt := 17) hx hb dJ0_isLatin1_aae02_3 (by decide) (fun k => absurd k (by decide)) (fun _ => ?_)
  refine lv_aload_n hx hb dJ0_isLatin1_aae02_6 rfl (lv_at hl 0 rfl) ?_
  refine vk_getf hx hb h2 hw.2.2.1 X.1.2.2.2.1 (gK1 X _ kf_J0_15) (fun _ h => h) dJ0_isLatin1_aae02_7 ?_
  refine lv_if_ne (tgt := 17) hx hb dJ0_isLatin1_aae02_10 (by decide) (fun k => absurd rfl k) (fun _ => ?_)
  refine lv_iconst (v := 1) hx hb dJ0_isLatin1_aae02_13 (by decide) ?_
  refine lv_goto (tgt := 18) hx hb dJ0_isLatin1_aae02_14 (by decide) ?_
  exact g_nret X hr () rfl rfl hw rfl dJ0_isLatin1_aae02_18
set_option maxRecDepth 100000 in
theorem c_J0_length (l : Launch) {i : Nat} (hi : i < 6) : gM l yJ0_length_8abf5 cJ0_length_8abf5 1 (some .int) R1 (fun g => [.ref (gK g i)]) (fun _ => []) (gQi (fun _ : Unit => nI (kLen.getD i 0)) (fun _ _ => [])) := by
  refine gM.ofi (by decide +kernel) (fun _ => Nat.le_of_ble_eq_true rfl) (fun g p e s m args below meth c A ls Q X hret hw hl => ?_)
  have hx := X.1.1
  have hb := X.1.2.1
  have hl : lv_has ls 1 [(0, .ref (gK g i))] := hl
  obtain ⟨-, -, h3, h4⟩ := X.2.2.2.2.1.1 i hi
  refine lv_aload_n hx hb dJ0_length_8abf5_0 rfl (lv_at hl 0 rfl) ?_
  refine vk_getf hx hb h3 hw.2.2.1 X.1.2.2.2.1 (gK1 X _ kf_J0_9) (fun _ h => h) dJ0_length_8abf5_1 ?_
  refine va_tlen hx hb h4 hw.2.2.1 (v := nI (kLen.getD i 0)) rfl dJ0_length_8abf5_4 ?_
  refine lv_aload_n hx hb dJ0_length_8abf5_5 rfl (lv_at hl 0 rfl) ?_
  refine g_calli0 (isC := []) (gn := fun _ => []) (g_runK hi (isC := []) (rest := [.int (nI (kLen.getD i 0))]) (As := []) X hw (c_J0_coder l hi) rfl rfl kM_J0_coder ki_J0_coder_7d493 ks_J0_coder_7d493 km_J0_335 ⟨(Nat.le_of_ble_eq_true rfl), (Nat.le_of_ble_eq_true rfl)⟩ ⟨(Nat.le_of_ble_eq_true rfl), (Nat.le_of_ble_eq_true rfl)⟩ rfl rfl rfl hl.1 rfl (Nat.le_of_ble_eq_true rfl) dJ0_length_8abf5_6) hw rfl rfl (fun _ => (Nat.le_of_ble_eq_true rfl)) (fun _ => rfl) rfl rfl (fun _ H locs hw => ?_)
  refine lv_ishr hx hb dJ0_length_8abf5_9 ?_
  refine W.eq (g2 := F0 m 10 ls [.int (nI (kLen.getD i 0) >>> ((0 : Int32) &&& 31))]) rfl ?_
  rw [sc_shr0 (show kLen.getD i 0 < 2 ^ 31 by rcases (show i = 0 ∨ i = 1 ∨ i = 2 ∨ i = 3 ∨ i = 4 ∨ i = 5 by omega) with rfl | rfl | rfl | rfl | rfl | rfl <;> decide)]
  exact hret () dJ0_length_8abf5_10 rfl hw
set_option maxRecDepth 100000 in
theorem c_J3_checkIndex (l : Launch) {k n : Nat} (hk : k < n) (hn : n < 2 ^ 31) (o : Option Nat) : gM l yJ3_checkIndex_8e157 cJ3_checkIndex_8e157 3 (some .int) R0 (fun _ => [.int (nI k), .int (nI n), va_rf o]) (fun _ => []) (gQi (fun _ : Unit => nI k) (fun _ _ => [])) := by
  refine gM.ofi (by decide +kernel) (fun _ => by cases o <;> exact Nat.le_of_ble_eq_true rfl) (fun g p e s m args below meth c A ls Q X hret hw hl => ?_)
  have hx := X.1.1
  have hb := X.1.2.1
  have hl : lv_has ls 3 [(0, .int (nI k)), (1, .int (nI n))] := lv_sub hl [0, 1] rfl
  refine lv_iload_n hx hb dJ3_checkIndex_8e157_0 rfl (lv_at hl 0 rfl) ?_
  refine lv_if_lt (tgt := 9) hx hb dJ3_checkIndex_8e157_1 (by decide) (fun q => absurd q (nI_pos (by omega))) (fun _ => ?_)
  refine lv_iload_n hx hb dJ3_checkIndex_8e157_4 rfl (lv_at hl 0 rfl) ?_
  refine lv_iload_n hx hb dJ3_checkIndex_8e157_5 rfl (lv_at hl 1 rfl) ?_
  refine lv_icmp_lt (tgt := 16) hx hb dJ3_checkIndex_8e157_6 (by decide) (fun _ => ?_) (fun q => absurd (nI_lt hk hn) q)
  refine lv_iload_n hx hb dJ3_checkIndex_8e157_16 rfl (lv_at hl 0 rfl) ?_
  exact hret () dJ3_checkIndex_8e157_17 rfl hw
set_option maxRecDepth 100000 in
theorem c_J0_checkIndex (l : Launch) {k n : Nat} (hk : k < n) (hn : n < 2 ^ 31) : gM l yJ0_checkIndex_df160 cJ0_checkIndex_df160 2 (none : Option FieldType) R1 (fun _ => [.int (nI k), .int (nI n)]) (fun _ => []) (gQv (fun _ (_ : Unit) => [])) := by
  refine gM.ofv (by decide +kernel) (fun _ => Nat.le_of_ble_eq_true rfl) (fun g p e s m args below meth c A ls Q X hret hw hl => ?_)
  have hx := X.1.1
  have hb := X.1.2.1
  have hl : lv_has ls 2 [(0, .int (nI k)), (1, .int (nI n))] := hl
  have step : ∀ o : Option Nat, va_Z "jdk/internal/util/Preconditions" "SIOOBE_FORMATTER" "Ljava/util/function/BiFunction;" (va_rf o) A s s.heap → W p l e R1 s m args below meth c s.heap [] 0 0 Q (F0 m 0 ls []) := by
    intro o hZ
    refine lv_iload_n hx hb dJ0_checkIndex_df160_0 rfl (lv_at hl 0 rfl) ?_
    refine lv_iload_n hx hb dJ0_checkIndex_df160_1 rfl (lv_at hl 1 rfl) ?_
    refine va_gets hx hb hZ hw.2.2.1 X.1.2.2.2.1 (gK1 X _ kf_J0_1053) (fun _ h => h) dJ0_checkIndex_df160_2 ?_
    refine g_calli0 (isC := []) (gn := fun _ => []) (g_runS (isC := []) (rest := []) (As := [.int (nI k), .int (nI n), va_rf o]) X hw (c_J3_checkIndex l hk hn o) rfl kM_J3_checkIndex kt_J3_checkIndex_8e157 km_J0_1059 ⟨(Nat.le_of_ble_eq_true rfl), (Nat.le_of_ble_eq_true rfl)⟩ ⟨(Nat.le_of_ble_eq_true rfl), (Nat.le_of_ble_eq_true rfl)⟩ rfl rfl rfl hl.1 rfl (Nat.le_of_ble_eq_true rfl) dJ0_checkIndex_df160_5) hw rfl rfl (fun _ => (Nat.le_of_ble_eq_true rfl)) (fun _ => rfl) rfl rfl (fun _ H locs hw => ?_)
    refine lv_pop hx hb dJ0_checkIndex_df160_8 rfl ?_
    exact hret () dJ0_checkIndex_df160_9 hw
  rcases X.2.2.2.2.2.2.1 with h | ⟨t, h⟩
  · exact step none h
  · exact step (some t) h
/-- the sign at k -/
def kCh (i k : Nat) : Int32 := (kByt.getD i []).getD k 0
theorem kCh_fix : ∀ i, i < 6 → ∀ k, k < kLen.getD i 0 → (((kByt.getD i []).getD k 0 &&& 255).toUInt32 % 65536).toInt32 = kCh i k ∧ narrow .char (.int (kCh i k)) = .int (kCh i k) := by
  have h : ∀ i, i < 6 → ∀ k, k < kLen.getD i 0 → (((kByt.getD i []).getD k 0 &&& 255).toUInt32 % 65536).toInt32 = kCh i k ∧ ((kCh i k).toUInt32 % 65536).toInt32 = kCh i k := by decide +kernel
  intro i hi k hk
  refine ⟨(h i hi k hk).1, ?_⟩
  rw [← (h i hi k hk).2]
  exact pk_nc _
set_option maxRecDepth 100000 in
theorem c_J1_charAt (l : Launch) {i k : Nat} (hi : i < 6) (hk : k < kLen.getD i 0) : gM l yJ1_charAt_3b067 cJ1_charAt_3b067 2 (some .char) R2 (fun g => [.ref (gV g i), .int (nI k)]) (fun _ => []) (gQi (fun _ : Unit => kCh i k) (fun _ _ => [])) := by
  have hn : kLen.getD i 0 < 2 ^ 31 := by rcases (show i = 0 ∨ i = 1 ∨ i = 2 ∨ i = 3 ∨ i = 4 ∨ i = 5 by omega) with rfl | rfl | rfl | rfl | rfl | rfl <;> decide
  refine gM.of (by decide +kernel) (fun _ => Nat.le_of_ble_eq_true rfl) (fun g p e s m below meth c A ls X hr _ hw hl => ?_)
  have hx := X.1.1
  have hb := X.1.2.1
  have hl : lv_has ls 2 [(0, .ref (gV g i)), (1, .int (nI k))] := hl
  obtain ⟨-, -, -, h4⟩ := X.2.2.2.2.1.1 i hi
  refine lv_iload_n hx hb dJ1_charAt_3b067_0 rfl (lv_at hl 1 rfl) ?_
  refine lv_aload_n hx hb dJ1_charAt_3b067_1 rfl (lv_at hl 0 rfl) ?_
  refine va_tlen hx hb h4 hw.2.2.1 (v := nI (kLen.getD i 0)) rfl dJ1_charAt_3b067_2 ?_
  refine g_callv0 (isC := []) (gn := fun _ => []) (g_runS (isC := []) (rest := []) (As := [.int (nI k), .int (nI (kLen.getD i 0))]) X hw (c_J0_checkIndex l hk hn) rfl kM_J0_checkIndex kt_J0_checkIndex_df160 km_J1_9 ⟨(Nat.le_of_ble_eq_true rfl), (Nat.le_of_ble_eq_true rfl)⟩ ⟨(Nat.le_of_ble_eq_true rfl), (Nat.le_of_ble_eq_true rfl)⟩ rfl rfl rfl hl.1 rfl (Nat.le_of_ble_eq_true rfl) dJ1_charAt_3b067_3) hw rfl rfl (fun _ => (Nat.le_of_ble_eq_true rfl)) (fun _ => rfl) rfl rfl (fun _ H locs hw => ?_)
  refine lv_aload_n hx hb dJ1_charAt_3b067_6 rfl (lv_at hl 0 rfl) ?_
  refine lv_iload_n hx hb dJ1_charAt_3b067_7 rfl (lv_at hl 1 rfl) ?_
  refine va_tb hx hb h4 hw.2.2.1 (vp_in_nI hk hn) (v := .int ((kByt.getD i []).getD k 0)) (by rw [nI_clamp (by omega)]) dJ1_charAt_3b067_8 ?_
  refine lv_sipush (v := 255) hx hb dJ1_charAt_3b067_9 (by decide) ?_
  refine lv_iand hx hb dJ1_charAt_3b067_12 ?_
  refine lv_i2c (v := kCh i k) hx hb dJ1_charAt_3b067_13 (kCh_fix i hi k hk).1 ?_
  exact g_nret X hr () (kCh_fix i hi k hk).2 rfl hw rfl dJ1_charAt_3b067_14
set_option maxRecDepth 100000 in
theorem c_J0_charAt (l : Launch) {i k : Nat} (hi : i < 6) (hk : k < kLen.getD i 0) : gM l yJ0_charAt_5068e cJ0_charAt_5068e 2 (some .char) R3 (fun g => [.ref (gK g i), .int (nI k)]) (fun _ => []) (gQi (fun _ : Unit => kCh i k) (fun _ _ => [])) := by
  refine gM.of (by decide +kernel) (fun _ => Nat.le_of_ble_eq_true rfl) (fun g p e s m below meth c A ls X hr _ hw hl => ?_)
  have hx := X.1.1
  have hb := X.1.2.1
  have hl : lv_has ls 2 [(0, .ref (gK g i)), (1, .int (nI k))] := hl
  obtain ⟨-, -, h3, -⟩ := X.2.2.2.2.1.1 i hi
  refine lv_aload_n hx hb dJ0_charAt_5068e_0 rfl (lv_at hl 0 rfl) ?_
  refine g_calli0 (isC := []) (gn := fun _ => []) (g_runK hi (isC := []) (rest := []) (As := []) X hw (c_J0_isLatin1 l hi) rfl rfl kM_J0_isLatin1 ki_J0_isLatin1_aae02 ks_J0_isLatin1_aae02 km_J0_492 ⟨(Nat.le_of_ble_eq_true rfl), (Nat.le_of_ble_eq_true rfl)⟩ ⟨(Nat.le_of_ble_eq_true rfl), (Nat.le_of_ble_eq_true rfl)⟩ rfl rfl rfl hl.1 rfl (Nat.le_of_ble_eq_true rfl) dJ0_charAt_5068e_1) hw rfl rfl (fun _ => (Nat.le_of_ble_eq_true rfl)) (fun _ => rfl) rfl rfl (fun _ H locs hw => ?_)
  refine lv_if_eq (tgt := 16) hx hb dJ0_charAt_5068e_4 (by decide) (fun k => absurd k (by decide)) (fun _ => ?_)
  refine lv_aload_n hx hb dJ0_charAt_5068e_7 rfl (lv_at hl 0 rfl) ?_
  refine vk_getf hx hb h3 hw.2.2.1 X.1.2.2.2.1 (gK1 X _ kf_J0_9) (fun _ h => h) dJ0_charAt_5068e_8 ?_
  refine lv_iload_n hx hb dJ0_charAt_5068e_11 rfl (lv_at hl 1 rfl) ?_
  refine g_calli0 (isC := []) (gn := fun _ => []) (g_runS (isC := []) (rest := []) (As := [.ref (gV g i), .int (nI k)]) X hw (c_J1_charAt l hi hk) rfl kM_J1_charAt kt_J1_charAt_3b067 km_J0_495 ⟨(Nat.le_of_ble_eq_true rfl), (Nat.le_of_ble_eq_true rfl)⟩ ⟨(Nat.le_of_ble_eq_true rfl), (Nat.le_of_ble_eq_true rfl)⟩ rfl rfl rfl hl.1 rfl (Nat.le_of_ble_eq_true rfl) dJ0_charAt_5068e_12) hw rfl rfl (fun _ => (Nat.le_of_ble_eq_true rfl)) (fun _ => rfl) rfl rfl (fun _ H locs hw => ?_)
  exact g_nret X hr () (kCh_fix i hi k hk).2 rfl hw rfl dJ0_charAt_5068e_15
theorem c_charAt (l : Launch) {i : Nat} {t : Int32} (hi : i < 6) (hin : vp_in t (kLen.getD i 0)) : gM l yJ0_charAt_5068e cJ0_charAt_5068e 2 (some .char) R3 (fun g => [.ref (gK g i), .int t]) (fun _ => []) (gQi (fun _ : Unit => kCh i t.toNatClampNeg) (fun _ _ => [])) := by
  have hn : kLen.getD i 0 < 2 ^ 31 := by rcases (show i = 0 ∨ i = 1 ∨ i = 2 ∨ i = 3 ∨ i = 4 ∨ i = 5 by omega) with rfl | rfl | rfl | rfl | rfl | rfl <;> decide
  obtain ⟨j, hj, rfl⟩ := vp_in_of hin hn
  have h := c_J0_charAt l hi hj
  rw [nI_clamp (by omega)]
  exact h
