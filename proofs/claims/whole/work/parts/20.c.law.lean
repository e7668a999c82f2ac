set_option maxHeartbeats 4000000 in
set_option maxRecDepth 100000 in
theorem law_loop {p : Program} {l : Launch} {e : Env} {s : State} {m : MethodId} {below : List Frame} {meth : Method} {c : Code} {dC : Nat → ClassId} {dI : Nat → Nat → Nat} {cB cI cL : ClassId} {a b : Nat → Nat} {b0 L : Nat} {xs : Nat → Int32} {Rel : Nat → SC → SM → Prop} (PP : Pairs Rel l) (hL : L ≤ 2560) (C0 : lw_At p s m meth c b0 L xs) (hK : va_K (dC, dI) vwCl (tyS cB cI cL) s) :
    ∀ (n k : Nat) (S : SC) (M : SM), 5 * k ≤ L → L < 5 * k + n → Rel k S M → ∀ (H : Heap) (locs : List Loc), va_P (dC, dI) vwCl (vS a cB cI cL S ++ vM b cB cI cL M) H → va_D (fun q : Nat => s.heap.size ≤ q) (vS a cB cI cL S ++ vM b cB cI cL M) → va_S (fun q : Nat => s.heap.size ≤ q) s.heap H locs → ∀ (ls : Array Slot), lv_has ls 4 [(0, .ref b0), (1, .ref (a 0)), (2, .ref (b 0)), (3, .int (nI (5 * k)))] → W p l e room_1 s m #[Value.ref b0] below meth c H locs 29 22128 (lw_Z below #[Value.ref b0] s) (F0 m 18 ls []) := by
  obtain ⟨hx, hb, hr, hml, hown, hts, hX, hbl, hlocks, hgv⟩ := C0
  have hA : ∀ q : Nat, s.heap.size ≤ q → (fun q : Nat => s.heap.size ≤ q) q := fun _ h => h
  have hbA : ¬ (fun q : Nat => s.heap.size ≤ q) b0 := Nat.not_le.mpr hbl
  have hown : s.vm.findClass RL = some m.cls := hown
  have hN : Nst s := nst_of hts
  intro n
  induction n with
  | zero => intro k S M h1 h2; exact absurd h2 (by omega)
  | succ n ih =>
    intro k S M hk hkn hR H locs hP hD hS ls hl
    refine lv_iload_n hx hb dL_18 rfl (lv_at hl 3 rfl) ?_
    refine lv_aload_n hx hb dL_19 rfl (lv_at hl 0 rfl) ?_
    refine va_slen hx hb hX hbl hbA hS dL_20 ?_
    refine lv_iconst (v := nI 5) hx hb dL_21 (by decide) ?_
    refine lv_isub hx hb dL_22 ?_
    refine lv_icmp_gt (tgt := 672) hx hb dL_23 (by decide) (fun c23 => ?_) (fun c23 => ?_)
    · refine lv_iconst (v := 1) hx hb dL_672 (by decide) ?_
      refine va_forget (fun q hq => hS.2.2 q hq) ?_
      exact lw_ret hx hb hr hlocks dL_673
    have hk5 : 5 * k + 5 ≤ L := j_gt (by omega) (by omega) c23
    have hk9 : k < 512 := by omega
    have L666 : ∀ (S : SC) (M : SM), Rel (k + 1) S M → ∀ (H : Heap) (locs : List Loc), va_P (dC, dI) vwCl (vS a cB cI cL S ++ vM b cB cI cL M) H → va_D (fun q : Nat => s.heap.size ≤ q) (vS a cB cI cL S ++ vM b cB cI cL M) → va_S (fun q : Nat => s.heap.size ≤ q) s.heap H locs → W p l e room_1 s m #[Value.ref b0] below meth c H locs 29 22128 (lw_Z below #[Value.ref b0] s) (F0 m 666 ls []) := by
      intro S M hR H locs hP hD hS
      refine lv_iinc (v := nI (5 * k + 5)) (lv' := [(3, .int (nI (5 * k + 5))), (0, .ref b0), (1, .ref (a 0)), (2, .ref (b 0))]) hx hb dL_666 hl (k := 3) rfl (x_incK _ _ (by decide)) (by decide) rfl (fun ls hl => ?_)
      refine lv_goto (tgt := 18) hx hb dL_669 (by decide) ?_
      exact ih (k + 1) S M (by omega) (by omega) hR H locs hP hD hS ls (lv_sub hl [1, 2, 3, 0] rfl)
    refine lv_aload_n hx hb dL_26 rfl (lv_at hl 0 rfl) ?_
    refine lv_iload_n hx hb dL_27 rfl (lv_at hl 3 rfl) ?_
    refine j_sld hx hb hX hbl hbA hS (show 5 * k < L by omega) (by omega) dL_28 ?_
    refine lv_bipush (v := nI 31) hx hb dL_29 (by decide) ?_
    refine lv_iand hx hb dL_31 ?_
    by_cases h0 : (xs (5 * k) &&& nI 31) = nI 0
    · refine x_tabEq (tgt := 120) hx hb dL_32 h0 (by decide) (by decide) (by decide) rfl (by decide) ?_
      refine lv_aload_n hx hb dL_120 rfl (lv_at hl 1 rfl) ?_
      refine lv_aload_n hx hb dL_121 rfl (lv_at hl 0 rfl) ?_
      refine lv_iload_n hx hb dL_122 rfl (lv_at hl 3 rfl) ?_
      refine lv_iconst (v := nI 1) hx hb dL_123 (by decide) ?_
      refine x_iadd hx hb dL_124 ?_
      refine j_sld hx hb hX hbl hbA hS (show 5 * k + 1 < L by omega) (by omega) dL_125 ?_
      obtain ⟨S', M', r, hR1, hm1, hm2⟩ := (PP.2.1) (xs (5 * k + 1)) dC dI cB cI cL a b k S M hk9 hR
      refine jS_I hP hD hS hA (fun A hP hD => va_runV (As := [.int (xs (5 * k + 1))]) (rest := []) ⟨hx, hb, hml, hown, hts⟩ (hm1 A) (cwV 1 hts (tbVL tw_241 tw_242 tw_243 tw_84 tw_244) rfl rfl rfl (by decide +kernel) ⟨Nat.le_of_ble_eq_true rfl, Nat.le_of_ble_eq_true rfl⟩) ⟨x_blind, va_recv hK hP (ci := 5) (q0 := 0) rfl rfl, x_pre hK hP hD hN⟩ rfl rfl hl.1 rfl (lv_room (Nat.le_of_ble_eq_true rfl)) dL_126 ⟨Nat.le_of_ble_eq_true rfl, Nat.le_of_ble_eq_true rfl⟩) (fun H locs hP hD hS => ?_)
      refine lv_aload_n hx hb dL_129 rfl (lv_at hl 2 rfl) ?_
      refine lv_aload_n hx hb dL_130 rfl (lv_at hl 0 rfl) ?_
      refine lv_iload_n hx hb dL_131 rfl (lv_at hl 3 rfl) ?_
      refine lv_iconst (v := nI 1) hx hb dL_132 (by decide) ?_
      refine x_iadd hx hb dL_133 ?_
      refine j_sld hx hb hX hbl hbA hS (show 5 * k + 1 < L by omega) (by omega) dL_134 ?_
      refine jM_I hP hD hS hA (fun A hP hD => va_runV (As := [.int (xs (5 * k + 1))]) (rest := [.int (r)]) ⟨hx, hb, hml, hown, hts⟩ (hm2 A) (cwV 1 hts (tbVL tw_673 tw_594 tw_595 tw_91 tw_596) rfl rfl rfl (by decide +kernel) ⟨Nat.le_of_ble_eq_true rfl, Nat.le_of_ble_eq_true rfl⟩) ⟨y_blind, va_recv hK hP (ci := 6) (q0 := 0) rfl rfl, y_pre hK hP hD⟩ rfl rfl hl.1 rfl (lv_room (Nat.le_of_ble_eq_true rfl)) dL_135 ⟨Nat.le_of_ble_eq_true rfl, Nat.le_of_ble_eq_true rfl⟩) (fun H locs hP hD hS => ?_)
      refine lv_icmp_eq (tgt := 666) hx hb dL_138 (by decide) (fun _ => ?_) (fun h => absurd rfl h)
      exact L666 S' M' hR1 H locs hP hD hS
    by_cases h1 : (xs (5 * k) &&& nI 31) = nI 1
    · refine x_tabEq (tgt := 143) hx hb dL_32 h1 (by decide) (by decide) (by decide) rfl (by decide) ?_
      refine lv_aload_n hx hb dL_143 rfl (lv_at hl 1 rfl) ?_
      refine lv_aload_n hx hb dL_144 rfl (lv_at hl 0 rfl) ?_
      refine lv_iload_n hx hb dL_145 rfl (lv_at hl 3 rfl) ?_
      refine lv_iconst (v := nI 1) hx hb dL_146 (by decide) ?_
      refine x_iadd hx hb dL_147 ?_
      refine j_sld hx hb hX hbl hbA hS (show 5 * k + 1 < L by omega) (by omega) dL_148 ?_
      refine lv_i2l hx hb dL_149 rfl ?_
      refine lv_bipush (v := nI 32) hx hb dL_150 (by decide) ?_
      refine lv_lshl hx hb dL_152 rfl ?_
      refine lv_aload_n hx hb dL_153 rfl (lv_at hl 0 rfl) ?_
      refine lv_iload_n hx hb dL_154 rfl (lv_at hl 3 rfl) ?_
      refine lv_iconst (v := nI 2) hx hb dL_155 (by decide) ?_
      refine x_iadd hx hb dL_156 ?_
      refine j_sld hx hb hX hbl hbA hS (show 5 * k + 2 < L by omega) (by omega) dL_157 ?_
      refine lv_i2l hx hb dL_158 rfl ?_
      refine lv_ldc2 (v := 4294967295) hx hb hown (hts _ (tbIn tw_844)) dL_159 ?_
      refine lv_land hx hb dL_162 ?_
      refine lv_lor hx hb dL_163 ?_
      refine lv_aload_n hx hb dL_164 rfl (lv_at hl 0 rfl) ?_
      refine lv_iload_n hx hb dL_165 rfl (lv_at hl 3 rfl) ?_
      refine lv_iconst (v := nI 3) hx hb dL_166 (by decide) ?_
      refine x_iadd hx hb dL_167 ?_
      refine j_sld hx hb hX hbl hbA hS (show 5 * k + 3 < L by omega) (by omega) dL_168 ?_
      refine lv_i2l hx hb dL_169 rfl ?_
      refine lv_bipush (v := nI 32) hx hb dL_170 (by decide) ?_
      refine lv_lshl hx hb dL_172 rfl ?_
      refine lv_aload_n hx hb dL_173 rfl (lv_at hl 0 rfl) ?_
      refine lv_iload_n hx hb dL_174 rfl (lv_at hl 3 rfl) ?_
      refine lv_iconst (v := nI 4) hx hb dL_175 (by decide) ?_
      refine x_iadd hx hb dL_176 ?_
      refine j_sld hx hb hX hbl hbA hS (show 5 * k + 4 < L by omega) (by omega) dL_177 ?_
      refine lv_i2l hx hb dL_178 rfl ?_
      refine lv_ldc2 (v := 4294967295) hx hb hown (hts _ (tbIn tw_844)) dL_179 ?_
      refine lv_land hx hb dL_182 ?_
      refine lv_lor hx hb dL_183 ?_
      obtain ⟨S', M', r, hR1, hm1, hm2⟩ := (PP.2.2.1) ((((xs (5 * k + 1)).toInt64) <<< ((nI 32).toInt64 &&& 63)) ||| ((xs (5 * k + 2)).toInt64 &&& 4294967295)) ((((xs (5 * k + 3)).toInt64) <<< ((nI 32).toInt64 &&& 63)) ||| ((xs (5 * k + 4)).toInt64 &&& 4294967295)) dC dI cB cI cL a b k S M hk9 hR
      refine jS_I hP hD hS hA (fun A hP hD => va_runV (As := [.long (((((xs (5 * k + 1)).toInt64) <<< ((nI 32).toInt64 &&& 63)) ||| ((xs (5 * k + 2)).toInt64 &&& 4294967295))), .long (((((xs (5 * k + 3)).toInt64) <<< ((nI 32).toInt64 &&& 63)) ||| ((xs (5 * k + 4)).toInt64 &&& 4294967295)))]) (rest := []) ⟨hx, hb, hml, hown, hts⟩ (hm1 A) (cwV 2 hts (tbVL tw_275 tw_276 tw_277 tw_84 tw_278) rfl rfl rfl (by decide +kernel) ⟨Nat.le_of_ble_eq_true rfl, Nat.le_of_ble_eq_true rfl⟩) ⟨x_blind, va_recv hK hP (ci := 5) (q0 := 0) rfl rfl, x_pre hK hP hD hN⟩ rfl rfl hl.1 rfl (lv_room (Nat.le_of_ble_eq_true rfl)) dL_184 ⟨Nat.le_of_ble_eq_true rfl, Nat.le_of_ble_eq_true rfl⟩) (fun H locs hP hD hS => ?_)
      refine lv_aload_n hx hb dL_187 rfl (lv_at hl 2 rfl) ?_
      refine lv_aload_n hx hb dL_188 rfl (lv_at hl 0 rfl) ?_
      refine lv_iload_n hx hb dL_189 rfl (lv_at hl 3 rfl) ?_
      refine lv_iconst (v := nI 1) hx hb dL_190 (by decide) ?_
      refine x_iadd hx hb dL_191 ?_
      refine j_sld hx hb hX hbl hbA hS (show 5 * k + 1 < L by omega) (by omega) dL_192 ?_
      refine lv_i2l hx hb dL_193 rfl ?_
      refine lv_bipush (v := nI 32) hx hb dL_194 (by decide) ?_
      refine lv_lshl hx hb dL_196 rfl ?_
      refine lv_aload_n hx hb dL_197 rfl (lv_at hl 0 rfl) ?_
      refine lv_iload_n hx hb dL_198 rfl (lv_at hl 3 rfl) ?_
      refine lv_iconst (v := nI 2) hx hb dL_199 (by decide) ?_
      refine x_iadd hx hb dL_200 ?_
      refine j_sld hx hb hX hbl hbA hS (show 5 * k + 2 < L by omega) (by omega) dL_201 ?_
      refine lv_i2l hx hb dL_202 rfl ?_
      refine lv_ldc2 (v := 4294967295) hx hb hown (hts _ (tbIn tw_844)) dL_203 ?_
      refine lv_land hx hb dL_206 ?_
      refine lv_lor hx hb dL_207 ?_
      refine lv_aload_n hx hb dL_208 rfl (lv_at hl 0 rfl) ?_
      refine lv_iload_n hx hb dL_209 rfl (lv_at hl 3 rfl) ?_
      refine lv_iconst (v := nI 3) hx hb dL_210 (by decide) ?_
      refine x_iadd hx hb dL_211 ?_
      refine j_sld hx hb hX hbl hbA hS (show 5 * k + 3 < L by omega) (by omega) dL_212 ?_
      refine lv_i2l hx hb dL_213 rfl ?_
      refine lv_bipush (v := nI 32) hx hb dL_214 (by decide) ?_
      refine lv_lshl hx hb dL_216 rfl ?_
      refine lv_aload_n hx hb dL_217 rfl (lv_at hl 0 rfl) ?_
      refine lv_iload_n hx hb dL_218 rfl (lv_at hl 3 rfl) ?_
      refine lv_iconst (v := nI 4) hx hb dL_219 (by decide) ?_
      refine x_iadd hx hb dL_220 ?_
      refine j_sld hx hb hX hbl hbA hS (show 5 * k + 4 < L by omega) (by omega) dL_221 ?_
      refine lv_i2l hx hb dL_222 rfl ?_
      refine lv_ldc2 (v := 4294967295) hx hb hown (hts _ (tbIn tw_844)) dL_223 ?_
      refine lv_land hx hb dL_226 ?_
      refine lv_lor hx hb dL_227 ?_
      refine jM_I hP hD hS hA (fun A hP hD => va_runV (As := [.long (((((xs (5 * k + 1)).toInt64) <<< ((nI 32).toInt64 &&& 63)) ||| ((xs (5 * k + 2)).toInt64 &&& 4294967295))), .long (((((xs (5 * k + 3)).toInt64) <<< ((nI 32).toInt64 &&& 63)) ||| ((xs (5 * k + 4)).toInt64 &&& 4294967295)))]) (rest := [.int (r)]) ⟨hx, hb, hml, hown, hts⟩ (hm2 A) (cwV 2 hts (tbVL tw_674 tw_675 tw_676 tw_91 tw_677) rfl rfl rfl (by decide +kernel) ⟨Nat.le_of_ble_eq_true rfl, Nat.le_of_ble_eq_true rfl⟩) ⟨y_blind, va_recv hK hP (ci := 6) (q0 := 0) rfl rfl, y_pre hK hP hD⟩ rfl rfl hl.1 rfl (lv_room (Nat.le_of_ble_eq_true rfl)) dL_228 ⟨Nat.le_of_ble_eq_true rfl, Nat.le_of_ble_eq_true rfl⟩) (fun H locs hP hD hS => ?_)
      refine lv_icmp_eq (tgt := 666) hx hb dL_231 (by decide) (fun _ => ?_) (fun h => absurd rfl h)
      exact L666 S' M' hR1 H locs hP hD hS
    by_cases h2 : (xs (5 * k) &&& nI 31) = nI 2
    · refine x_tabEq (tgt := 236) hx hb dL_32 h2 (by decide) (by decide) (by decide) rfl (by decide) ?_
      refine lv_aload_n hx hb dL_236 rfl (lv_at hl 1 rfl) ?_
      obtain ⟨S', M', r, hR1, hm1, hm2⟩ := (PP.2.2.2.1) dC dI cB cI cL a b k S M hk9 hR
      refine jS_I hP hD hS hA (fun A hP hD => va_runV (As := []) (rest := []) ⟨hx, hb, hml, hown, hts⟩ (hm1 A) (cwV 0 hts (tbVL tw_349 tw_350 tw_351 tw_84 tw_352) rfl rfl rfl (by decide +kernel) ⟨Nat.le_of_ble_eq_true rfl, Nat.le_of_ble_eq_true rfl⟩) ⟨x_blind, va_recv hK hP (ci := 5) (q0 := 0) rfl rfl, x_pre hK hP hD hN⟩ rfl rfl hl.1 rfl (lv_room (Nat.le_of_ble_eq_true rfl)) dL_237 ⟨Nat.le_of_ble_eq_true rfl, Nat.le_of_ble_eq_true rfl⟩) (fun H locs hP hD hS => ?_)
      refine lv_aload_n hx hb dL_240 rfl (lv_at hl 2 rfl) ?_
      refine jM_I hP hD hS hA (fun A hP hD => va_runV (As := []) (rest := [.int (r)]) ⟨hx, hb, hml, hown, hts⟩ (hm2 A) (cwV 0 hts (tbVL tw_710 tw_711 tw_712 tw_91 tw_713) rfl rfl rfl (by decide +kernel) ⟨Nat.le_of_ble_eq_true rfl, Nat.le_of_ble_eq_true rfl⟩) ⟨y_blind, va_recv hK hP (ci := 6) (q0 := 0) rfl rfl, y_pre hK hP hD⟩ rfl rfl hl.1 rfl (lv_room (Nat.le_of_ble_eq_true rfl)) dL_241 ⟨Nat.le_of_ble_eq_true rfl, Nat.le_of_ble_eq_true rfl⟩) (fun H locs hP hD hS => ?_)
      refine lv_icmp_eq (tgt := 666) hx hb dL_244 (by decide) (fun _ => ?_) (fun h => absurd rfl h)
      exact L666 S' M' hR1 H locs hP hD hS
    by_cases h3 : (xs (5 * k) &&& nI 31) = nI 3
    · refine x_tabEq (tgt := 249) hx hb dL_32 h3 (by decide) (by decide) (by decide) rfl (by decide) ?_
      refine lv_aload_n hx hb dL_249 rfl (lv_at hl 1 rfl) ?_
      obtain ⟨S', M', r, hR1, hm1, hm2⟩ := (PP.2.2.2.2.1) dC dI cB cI cL a b k S M hk9 hR
      refine jS_I hP hD hS hA (fun A hP hD => va_runV (As := []) (rest := []) ⟨hx, hb, hml, hown, hts⟩ (hm1 A) (cwV 0 hts (tbVL tw_353 tw_354 tw_355 tw_84 tw_356) rfl rfl rfl (by decide +kernel) ⟨Nat.le_of_ble_eq_true rfl, Nat.le_of_ble_eq_true rfl⟩) ⟨x_blind, va_recv hK hP (ci := 5) (q0 := 0) rfl rfl, x_pre hK hP hD hN⟩ rfl rfl hl.1 rfl (lv_room (Nat.le_of_ble_eq_true rfl)) dL_250 ⟨Nat.le_of_ble_eq_true rfl, Nat.le_of_ble_eq_true rfl⟩) (fun H locs hP hD hS => ?_)
      refine lv_aload_n hx hb dL_253 rfl (lv_at hl 2 rfl) ?_
      refine jM_I hP hD hS hA (fun A hP hD => va_runV (As := []) (rest := [.int (r)]) ⟨hx, hb, hml, hown, hts⟩ (hm2 A) (cwV 0 hts (tbVL tw_714 tw_715 tw_716 tw_91 tw_717) rfl rfl rfl (by decide +kernel) ⟨Nat.le_of_ble_eq_true rfl, Nat.le_of_ble_eq_true rfl⟩) ⟨y_blind, va_recv hK hP (ci := 6) (q0 := 0) rfl rfl, y_pre hK hP hD⟩ rfl rfl hl.1 rfl (lv_room (Nat.le_of_ble_eq_true rfl)) dL_254 ⟨Nat.le_of_ble_eq_true rfl, Nat.le_of_ble_eq_true rfl⟩) (fun H locs hP hD hS => ?_)
      refine lv_icmp_eq (tgt := 666) hx hb dL_257 (by decide) (fun _ => ?_) (fun h => absurd rfl h)
      exact L666 S' M' hR1 H locs hP hD hS
    by_cases h4 : (xs (5 * k) &&& nI 31) = nI 4
    · refine x_tabEq (tgt := 262) hx hb dL_32 h4 (by decide) (by decide) (by decide) rfl (by decide) ?_
      refine lv_aload_n hx hb dL_262 rfl (lv_at hl 1 rfl) ?_
      refine lv_aload_n hx hb dL_263 rfl (lv_at hl 0 rfl) ?_
      refine lv_iload_n hx hb dL_264 rfl (lv_at hl 3 rfl) ?_
      refine lv_iconst (v := nI 1) hx hb dL_265 (by decide) ?_
      refine x_iadd hx hb dL_266 ?_
      refine j_sld hx hb hX hbl hbA hS (show 5 * k + 1 < L by omega) (by omega) dL_267 ?_
      obtain ⟨S', M', r, hR1, hm1, hm2⟩ := (PP.2.2.2.2.2.1) (xs (5 * k + 1)) dC dI cB cI cL a b k S M hk9 hR
      refine jS_I hP hD hS hA (fun A hP hD => va_runV (As := [.int (xs (5 * k + 1))]) (rest := []) ⟨hx, hb, hml, hown, hts⟩ (hm1 A) (cwV 1 hts (tbVL tw_368 tw_369 tw_370 tw_84 tw_371) rfl rfl rfl (by decide +kernel) ⟨Nat.le_of_ble_eq_true rfl, Nat.le_of_ble_eq_true rfl⟩) ⟨x_blind, va_recv hK hP (ci := 5) (q0 := 0) rfl rfl, x_pre hK hP hD hN⟩ rfl rfl hl.1 rfl (lv_room (Nat.le_of_ble_eq_true rfl)) dL_268 ⟨Nat.le_of_ble_eq_true rfl, Nat.le_of_ble_eq_true rfl⟩) (fun H locs hP hD hS => ?_)
      refine lv_aload_n hx hb dL_271 rfl (lv_at hl 2 rfl) ?_
      refine lv_aload_n hx hb dL_272 rfl (lv_at hl 0 rfl) ?_
      refine lv_iload_n hx hb dL_273 rfl (lv_at hl 3 rfl) ?_
      refine lv_iconst (v := nI 1) hx hb dL_274 (by decide) ?_
      refine x_iadd hx hb dL_275 ?_
      refine j_sld hx hb hX hbl hbA hS (show 5 * k + 1 < L by omega) (by omega) dL_276 ?_
      refine jM_I hP hD hS hA (fun A hP hD => va_runV (As := [.int (xs (5 * k + 1))]) (rest := [.int (r)]) ⟨hx, hb, hml, hown, hts⟩ (hm2 A) (cwV 1 hts (tbVL tw_722 tw_723 tw_724 tw_91 tw_725) rfl rfl rfl (by decide +kernel) ⟨Nat.le_of_ble_eq_true rfl, Nat.le_of_ble_eq_true rfl⟩) ⟨y_blind, va_recv hK hP (ci := 6) (q0 := 0) rfl rfl, y_pre hK hP hD⟩ rfl rfl hl.1 rfl (lv_room (Nat.le_of_ble_eq_true rfl)) dL_277 ⟨Nat.le_of_ble_eq_true rfl, Nat.le_of_ble_eq_true rfl⟩) (fun H locs hP hD hS => ?_)
      refine lv_icmp_eq (tgt := 666) hx hb dL_280 (by decide) (fun _ => ?_) (fun h => absurd rfl h)
      exact L666 S' M' hR1 H locs hP hD hS
    by_cases h5 : (xs (5 * k) &&& nI 31) = nI 5
    · refine x_tabEq (tgt := 285) hx hb dL_32 h5 (by decide) (by decide) (by decide) rfl (by decide) ?_
      refine lv_aload_n hx hb dL_285 rfl (lv_at hl 1 rfl) ?_
      refine lv_aload_n hx hb dL_286 rfl (lv_at hl 0 rfl) ?_
      refine lv_iload_n hx hb dL_287 rfl (lv_at hl 3 rfl) ?_
      refine lv_iconst (v := nI 1) hx hb dL_288 (by decide) ?_
      refine x_iadd hx hb dL_289 ?_
      refine j_sld hx hb hX hbl hbA hS (show 5 * k + 1 < L by omega) (by omega) dL_290 ?_
      obtain ⟨S', M', r, hR1, hm1, hm2⟩ := (PP.2.2.2.2.2.2.1) (xs (5 * k + 1)) dC dI cB cI cL a b k S M hk9 hR
      refine jS_I hP hD hS hA (fun A hP hD => va_runV (As := [.int (xs (5 * k + 1))]) (rest := []) ⟨hx, hb, hml, hown, hts⟩ (hm1 A) (cwV 1 hts (tbVL tw_429 tw_430 tw_431 tw_84 tw_432) rfl rfl rfl (by decide +kernel) ⟨Nat.le_of_ble_eq_true rfl, Nat.le_of_ble_eq_true rfl⟩) ⟨x_blind, va_recv hK hP (ci := 5) (q0 := 0) rfl rfl, x_pre hK hP hD hN⟩ rfl rfl hl.1 rfl (lv_room (Nat.le_of_ble_eq_true rfl)) dL_291 ⟨Nat.le_of_ble_eq_true rfl, Nat.le_of_ble_eq_true rfl⟩) (fun H locs hP hD hS => ?_)
      refine lv_aload_n hx hb dL_294 rfl (lv_at hl 2 rfl) ?_
      refine lv_aload_n hx hb dL_295 rfl (lv_at hl 0 rfl) ?_
      refine lv_iload_n hx hb dL_296 rfl (lv_at hl 3 rfl) ?_
      refine lv_iconst (v := nI 1) hx hb dL_297 (by decide) ?_
      refine x_iadd hx hb dL_298 ?_
      refine j_sld hx hb hX hbl hbA hS (show 5 * k + 1 < L by omega) (by omega) dL_299 ?_
      refine jM_I hP hD hS hA (fun A hP hD => va_runV (As := [.int (xs (5 * k + 1))]) (rest := [.int (r)]) ⟨hx, hb, hml, hown, hts⟩ (hm2 A) (cwV 1 hts (tbVL tw_748 tw_749 tw_750 tw_91 tw_751) rfl rfl rfl (by decide +kernel) ⟨Nat.le_of_ble_eq_true rfl, Nat.le_of_ble_eq_true rfl⟩) ⟨y_blind, va_recv hK hP (ci := 6) (q0 := 0) rfl rfl, y_pre hK hP hD⟩ rfl rfl hl.1 rfl (lv_room (Nat.le_of_ble_eq_true rfl)) dL_300 ⟨Nat.le_of_ble_eq_true rfl, Nat.le_of_ble_eq_true rfl⟩) (fun H locs hP hD hS => ?_)
      refine lv_icmp_eq (tgt := 666) hx hb dL_303 (by decide) (fun _ => ?_) (fun h => absurd rfl h)
      exact L666 S' M' hR1 H locs hP hD hS
    by_cases h6 : (xs (5 * k) &&& nI 31) = nI 6
    · refine x_tabEq (tgt := 308) hx hb dL_32 h6 (by decide) (by decide) (by decide) rfl (by decide) ?_
      refine lv_aload_n hx hb dL_308 rfl (lv_at hl 1 rfl) ?_
      obtain ⟨S', M', r, hR1, hm1, hm2⟩ := (PP.2.2.2.2.2.2.2.1) dC dI cB cI cL a b k S M hk9 hR
      refine jS_I hP hD hS hA (fun A hP hD => va_runV (As := []) (rest := []) ⟨hx, hb, hml, hown, hts⟩ (hm1 A) (cwV 0 hts (tbVL tw_433 tw_434 tw_435 tw_84 tw_436) rfl rfl rfl (by decide +kernel) ⟨Nat.le_of_ble_eq_true rfl, Nat.le_of_ble_eq_true rfl⟩) ⟨x_blind, va_recv hK hP (ci := 5) (q0 := 0) rfl rfl, x_pre hK hP hD hN⟩ rfl rfl hl.1 rfl (lv_room (Nat.le_of_ble_eq_true rfl)) dL_309 ⟨Nat.le_of_ble_eq_true rfl, Nat.le_of_ble_eq_true rfl⟩) (fun H locs hP hD hS => ?_)
      refine lv_aload_n hx hb dL_312 rfl (lv_at hl 2 rfl) ?_
      refine jM_I hP hD hS hA (fun A hP hD => va_runV (As := []) (rest := [.int (r)]) ⟨hx, hb, hml, hown, hts⟩ (hm2 A) (cwV 0 hts (tbVL tw_752 tw_753 tw_754 tw_91 tw_755) rfl rfl rfl (by decide +kernel) ⟨Nat.le_of_ble_eq_true rfl, Nat.le_of_ble_eq_true rfl⟩) ⟨y_blind, va_recv hK hP (ci := 6) (q0 := 0) rfl rfl, y_pre hK hP hD⟩ rfl rfl hl.1 rfl (lv_room (Nat.le_of_ble_eq_true rfl)) dL_313 ⟨Nat.le_of_ble_eq_true rfl, Nat.le_of_ble_eq_true rfl⟩) (fun H locs hP hD hS => ?_)
      refine lv_icmp_eq (tgt := 666) hx hb dL_316 (by decide) (fun _ => ?_) (fun h => absurd rfl h)
      exact L666 S' M' hR1 H locs hP hD hS
    by_cases h7 : (xs (5 * k) &&& nI 31) = nI 7
    · refine x_tabEq (tgt := 321) hx hb dL_32 h7 (by decide) (by decide) (by decide) rfl (by decide) ?_
      refine lv_aload_n hx hb dL_321 rfl (lv_at hl 1 rfl) ?_
      obtain ⟨S', M', r, hR1, hm1, hm2⟩ := (PP.2.2.2.2.2.2.2.2.1) dC dI cB cI cL a b k S M hk9 hR
      refine jS_I hP hD hS hA (fun A hP hD => va_runV (As := []) (rest := []) ⟨hx, hb, hml, hown, hts⟩ (hm1 A) (cwV 0 hts (tbVL tw_515 tw_516 tw_517 tw_84 tw_518) rfl rfl rfl (by decide +kernel) ⟨Nat.le_of_ble_eq_true rfl, Nat.le_of_ble_eq_true rfl⟩) ⟨x_blind, va_recv hK hP (ci := 5) (q0 := 0) rfl rfl, x_pre hK hP hD hN⟩ rfl rfl hl.1 rfl (lv_room (Nat.le_of_ble_eq_true rfl)) dL_322 ⟨Nat.le_of_ble_eq_true rfl, Nat.le_of_ble_eq_true rfl⟩) (fun H locs hP hD hS => ?_)
      refine lv_aload_n hx hb dL_325 rfl (lv_at hl 2 rfl) ?_
      refine jM_I hP hD hS hA (fun A hP hD => va_runV (As := []) (rest := [.int (r)]) ⟨hx, hb, hml, hown, hts⟩ (hm2 A) (cwV 0 hts (tbVL tw_793 tw_794 tw_795 tw_91 tw_796) rfl rfl rfl (by decide +kernel) ⟨Nat.le_of_ble_eq_true rfl, Nat.le_of_ble_eq_true rfl⟩) ⟨y_blind, va_recv hK hP (ci := 6) (q0 := 0) rfl rfl, y_pre hK hP hD⟩ rfl rfl hl.1 rfl (lv_room (Nat.le_of_ble_eq_true rfl)) dL_326 ⟨Nat.le_of_ble_eq_true rfl, Nat.le_of_ble_eq_true rfl⟩) (fun H locs hP hD hS => ?_)
      refine lv_icmp_eq (tgt := 666) hx hb dL_329 (by decide) (fun _ => ?_) (fun h => absurd rfl h)
      exact L666 S' M' hR1 H locs hP hD hS
    by_cases h8 : (xs (5 * k) &&& nI 31) = nI 8
    · refine x_tabEq (tgt := 334) hx hb dL_32 h8 (by decide) (by decide) (by decide) rfl (by decide) ?_
      refine lv_aload_n hx hb dL_334 rfl (lv_at hl 1 rfl) ?_
      refine lv_aload_n hx hb dL_335 rfl (lv_at hl 0 rfl) ?_
      refine lv_iload_n hx hb dL_336 rfl (lv_at hl 3 rfl) ?_
      refine lv_iconst (v := nI 1) hx hb dL_337 (by decide) ?_
      refine x_iadd hx hb dL_338 ?_
      refine j_sld hx hb hX hbl hbA hS (show 5 * k + 1 < L by omega) (by omega) dL_339 ?_
      refine lv_i2l hx hb dL_340 rfl ?_
      refine lv_bipush (v := nI 32) hx hb dL_341 (by decide) ?_
      refine lv_lshl hx hb dL_343 rfl ?_
      refine lv_aload_n hx hb dL_344 rfl (lv_at hl 0 rfl) ?_
      refine lv_iload_n hx hb dL_345 rfl (lv_at hl 3 rfl) ?_
      refine lv_iconst (v := nI 2) hx hb dL_346 (by decide) ?_
      refine x_iadd hx hb dL_347 ?_
      refine j_sld hx hb hX hbl hbA hS (show 5 * k + 2 < L by omega) (by omega) dL_348 ?_
      refine lv_i2l hx hb dL_349 rfl ?_
      refine lv_ldc2 (v := 4294967295) hx hb hown (hts _ (tbIn tw_844)) dL_350 ?_
      refine lv_land hx hb dL_353 ?_
      refine lv_lor hx hb dL_354 ?_
      obtain ⟨S', M', r, hR1, hm1, hm2⟩ := (PP.2.2.2.2.2.2.2.2.2.1) ((((xs (5 * k + 1)).toInt64) <<< ((nI 32).toInt64 &&& 63)) ||| ((xs (5 * k + 2)).toInt64 &&& 4294967295)) dC dI cB cI cL a b k S M hk9 hR
      refine jS_J hP hD hS hA (fun A hP hD => va_runV (As := [.long (((((xs (5 * k + 1)).toInt64) <<< ((nI 32).toInt64 &&& 63)) ||| ((xs (5 * k + 2)).toInt64 &&& 4294967295)))]) (rest := []) ⟨hx, hb, hml, hown, hts⟩ (hm1 A) (cwV 1 hts (tbVL tw_519 tw_520 tw_521 tw_84 tw_522) rfl rfl rfl (by decide +kernel) ⟨Nat.le_of_ble_eq_true rfl, Nat.le_of_ble_eq_true rfl⟩) ⟨x_blind, va_recv hK hP (ci := 5) (q0 := 0) rfl rfl, x_pre hK hP hD hN⟩ rfl rfl hl.1 rfl (lv_room (Nat.le_of_ble_eq_true rfl)) dL_355 ⟨Nat.le_of_ble_eq_true rfl, Nat.le_of_ble_eq_true rfl⟩) (fun H locs hP hD hS => ?_)
      refine lv_aload_n hx hb dL_358 rfl (lv_at hl 2 rfl) ?_
      refine lv_aload_n hx hb dL_359 rfl (lv_at hl 0 rfl) ?_
      refine lv_iload_n hx hb dL_360 rfl (lv_at hl 3 rfl) ?_
      refine lv_iconst (v := nI 1) hx hb dL_361 (by decide) ?_
      refine x_iadd hx hb dL_362 ?_
      refine j_sld hx hb hX hbl hbA hS (show 5 * k + 1 < L by omega) (by omega) dL_363 ?_
      refine lv_i2l hx hb dL_364 rfl ?_
      refine lv_bipush (v := nI 32) hx hb dL_365 (by decide) ?_
      refine lv_lshl hx hb dL_367 rfl ?_
      refine lv_aload_n hx hb dL_368 rfl (lv_at hl 0 rfl) ?_
      refine lv_iload_n hx hb dL_369 rfl (lv_at hl 3 rfl) ?_
      refine lv_iconst (v := nI 2) hx hb dL_370 (by decide) ?_
      refine x_iadd hx hb dL_371 ?_
      refine j_sld hx hb hX hbl hbA hS (show 5 * k + 2 < L by omega) (by omega) dL_372 ?_
      refine lv_i2l hx hb dL_373 rfl ?_
      refine lv_ldc2 (v := 4294967295) hx hb hown (hts _ (tbIn tw_844)) dL_374 ?_
      refine lv_land hx hb dL_377 ?_
      refine lv_lor hx hb dL_378 ?_
      refine jM_J hP hD hS hA (fun A hP hD => va_runV (As := [.long (((((xs (5 * k + 1)).toInt64) <<< ((nI 32).toInt64 &&& 63)) ||| ((xs (5 * k + 2)).toInt64 &&& 4294967295)))]) (rest := [.long (r)]) ⟨hx, hb, hml, hown, hts⟩ (hm2 A) (cwV 1 hts (tbVL tw_801 tw_802 tw_803 tw_91 tw_804) rfl rfl rfl (by decide +kernel) ⟨Nat.le_of_ble_eq_true rfl, Nat.le_of_ble_eq_true rfl⟩) ⟨y_blind, va_recv hK hP (ci := 6) (q0 := 0) rfl rfl, y_pre hK hP hD⟩ rfl rfl hl.1 rfl (lv_room (Nat.le_of_ble_eq_true rfl)) dL_379 ⟨Nat.le_of_ble_eq_true rfl, Nat.le_of_ble_eq_true rfl⟩) (fun H locs hP hD hS => ?_)
      refine W.lcmp hx hb dL_382 ?_
      refine x_lif_eq (tgt := 666) hx hb dL_383 (by decide) (fun _ => ?_) (fun h => absurd rfl h)
      exact L666 S' M' hR1 H locs hP hD hS
    by_cases h9 : (xs (5 * k) &&& nI 31) = nI 9
    · refine x_tabEq (tgt := 388) hx hb dL_32 h9 (by decide) (by decide) (by decide) rfl (by decide) ?_
      refine lv_aload_n hx hb dL_388 rfl (lv_at hl 1 rfl) ?_
      refine lv_aload_n hx hb dL_389 rfl (lv_at hl 0 rfl) ?_
      refine lv_iload_n hx hb dL_390 rfl (lv_at hl 3 rfl) ?_
      refine lv_iconst (v := nI 1) hx hb dL_391 (by decide) ?_
      refine x_iadd hx hb dL_392 ?_
      refine j_sld hx hb hX hbl hbA hS (show 5 * k + 1 < L by omega) (by omega) dL_393 ?_
      refine lv_i2l hx hb dL_394 rfl ?_
      refine lv_bipush (v := nI 32) hx hb dL_395 (by decide) ?_
      refine lv_lshl hx hb dL_397 rfl ?_
      refine lv_aload_n hx hb dL_398 rfl (lv_at hl 0 rfl) ?_
      refine lv_iload_n hx hb dL_399 rfl (lv_at hl 3 rfl) ?_
      refine lv_iconst (v := nI 2) hx hb dL_400 (by decide) ?_
      refine x_iadd hx hb dL_401 ?_
      refine j_sld hx hb hX hbl hbA hS (show 5 * k + 2 < L by omega) (by omega) dL_402 ?_
      refine lv_i2l hx hb dL_403 rfl ?_
      refine lv_ldc2 (v := 4294967295) hx hb hown (hts _ (tbIn tw_844)) dL_404 ?_
      refine lv_land hx hb dL_407 ?_
      refine lv_lor hx hb dL_408 ?_
      obtain ⟨S', M', r, hR1, hm1, hm2⟩ := (PP.2.2.2.2.2.2.2.2.2.2.1) ((((xs (5 * k + 1)).toInt64) <<< ((nI 32).toInt64 &&& 63)) ||| ((xs (5 * k + 2)).toInt64 &&& 4294967295)) dC dI cB cI cL a b k S M hk9 hR
      refine jS_I hP hD hS hA (fun A hP hD => va_runV (As := [.long (((((xs (5 * k + 1)).toInt64) <<< ((nI 32).toInt64 &&& 63)) ||| ((xs (5 * k + 2)).toInt64 &&& 4294967295)))]) (rest := []) ⟨hx, hb, hml, hown, hts⟩ (hm1 A) (cwV 1 hts (tbVL tw_528 tw_529 tw_530 tw_84 tw_531) rfl rfl rfl (by decide +kernel) ⟨Nat.le_of_ble_eq_true rfl, Nat.le_of_ble_eq_true rfl⟩) ⟨x_blind, va_recv hK hP (ci := 5) (q0 := 0) rfl rfl, x_pre hK hP hD hN⟩ rfl rfl hl.1 rfl (lv_room (Nat.le_of_ble_eq_true rfl)) dL_409 ⟨Nat.le_of_ble_eq_true rfl, Nat.le_of_ble_eq_true rfl⟩) (fun H locs hP hD hS => ?_)
      refine lv_aload_n hx hb dL_412 rfl (lv_at hl 2 rfl) ?_
      refine lv_aload_n hx hb dL_413 rfl (lv_at hl 0 rfl) ?_
      refine lv_iload_n hx hb dL_414 rfl (lv_at hl 3 rfl) ?_
      refine lv_iconst (v := nI 1) hx hb dL_415 (by decide) ?_
      refine x_iadd hx hb dL_416 ?_
      refine j_sld hx hb hX hbl hbA hS (show 5 * k + 1 < L by omega) (by omega) dL_417 ?_
      refine lv_i2l hx hb dL_418 rfl ?_
      refine lv_bipush (v := nI 32) hx hb dL_419 (by decide) ?_
      refine lv_lshl hx hb dL_421 rfl ?_
      refine lv_aload_n hx hb dL_422 rfl (lv_at hl 0 rfl) ?_
      refine lv_iload_n hx hb dL_423 rfl (lv_at hl 3 rfl) ?_
      refine lv_iconst (v := nI 2) hx hb dL_424 (by decide) ?_
      refine x_iadd hx hb dL_425 ?_
      refine j_sld hx hb hX hbl hbA hS (show 5 * k + 2 < L by omega) (by omega) dL_426 ?_
      refine lv_i2l hx hb dL_427 rfl ?_
      refine lv_ldc2 (v := 4294967295) hx hb hown (hts _ (tbIn tw_844)) dL_428 ?_
      refine lv_land hx hb dL_431 ?_
      refine lv_lor hx hb dL_432 ?_
      refine jM_I hP hD hS hA (fun A hP hD => va_runV (As := [.long (((((xs (5 * k + 1)).toInt64) <<< ((nI 32).toInt64 &&& 63)) ||| ((xs (5 * k + 2)).toInt64 &&& 4294967295)))]) (rest := [.int (r)]) ⟨hx, hb, hml, hown, hts⟩ (hm2 A) (cwV 1 hts (tbVL tw_805 tw_806 tw_807 tw_91 tw_808) rfl rfl rfl (by decide +kernel) ⟨Nat.le_of_ble_eq_true rfl, Nat.le_of_ble_eq_true rfl⟩) ⟨y_blind, va_recv hK hP (ci := 6) (q0 := 0) rfl rfl, y_pre hK hP hD⟩ rfl rfl hl.1 rfl (lv_room (Nat.le_of_ble_eq_true rfl)) dL_433 ⟨Nat.le_of_ble_eq_true rfl, Nat.le_of_ble_eq_true rfl⟩) (fun H locs hP hD hS => ?_)
      refine lv_icmp_eq (tgt := 666) hx hb dL_436 (by decide) (fun _ => ?_) (fun h => absurd rfl h)
      exact L666 S' M' hR1 H locs hP hD hS
    by_cases h10 : (xs (5 * k) &&& nI 31) = nI 10
    · refine x_tabEq (tgt := 441) hx hb dL_32 h10 (by decide) (by decide) (by decide) rfl (by decide) ?_
      refine lv_aload_n hx hb dL_441 rfl (lv_at hl 1 rfl) ?_
      refine lv_aload_n hx hb dL_442 rfl (lv_at hl 0 rfl) ?_
      refine lv_iload_n hx hb dL_443 rfl (lv_at hl 3 rfl) ?_
      refine lv_iconst (v := nI 1) hx hb dL_444 (by decide) ?_
      refine x_iadd hx hb dL_445 ?_
      refine j_sld hx hb hX hbl hbA hS (show 5 * k + 1 < L by omega) (by omega) dL_446 ?_
      refine lv_aload_n hx hb dL_447 rfl (lv_at hl 0 rfl) ?_
      refine lv_iload_n hx hb dL_448 rfl (lv_at hl 3 rfl) ?_
      refine lv_iconst (v := nI 2) hx hb dL_449 (by decide) ?_
      refine x_iadd hx hb dL_450 ?_
      refine j_sld hx hb hX hbl hbA hS (show 5 * k + 2 < L by omega) (by omega) dL_451 ?_
      obtain ⟨S', M', r, hR1, hm1, hm2⟩ := (PP.2.2.2.2.2.2.2.2.2.2.2.1) (xs (5 * k + 1)) (xs (5 * k + 2)) dC dI cB cI cL a b k S M hk9 hR
      refine jS_J hP hD hS hA (fun A hP hD => va_runV (As := [.int (xs (5 * k + 1)), .int (xs (5 * k + 2))]) (rest := []) ⟨hx, hb, hml, hown, hts⟩ (hm1 A) (cwV 2 hts (tbVL tw_532 tw_533 tw_534 tw_84 tw_535) rfl rfl rfl (by decide +kernel) ⟨Nat.le_of_ble_eq_true rfl, Nat.le_of_ble_eq_true rfl⟩) ⟨x_blind, va_recv hK hP (ci := 5) (q0 := 0) rfl rfl, x_pre hK hP hD hN⟩ rfl rfl hl.1 rfl (lv_room (Nat.le_of_ble_eq_true rfl)) dL_452 ⟨Nat.le_of_ble_eq_true rfl, Nat.le_of_ble_eq_true rfl⟩) (fun H locs hP hD hS => ?_)
      refine lv_aload_n hx hb dL_455 rfl (lv_at hl 2 rfl) ?_
      refine lv_aload_n hx hb dL_456 rfl (lv_at hl 0 rfl) ?_
      refine lv_iload_n hx hb dL_457 rfl (lv_at hl 3 rfl) ?_
      refine lv_iconst (v := nI 1) hx hb dL_458 (by decide) ?_
      refine x_iadd hx hb dL_459 ?_
      refine j_sld hx hb hX hbl hbA hS (show 5 * k + 1 < L by omega) (by omega) dL_460 ?_
      refine lv_aload_n hx hb dL_461 rfl (lv_at hl 0 rfl) ?_
      refine lv_iload_n hx hb dL_462 rfl (lv_at hl 3 rfl) ?_
      refine lv_iconst (v := nI 2) hx hb dL_463 (by decide) ?_
      refine x_iadd hx hb dL_464 ?_
      refine j_sld hx hb hX hbl hbA hS (show 5 * k + 2 < L by omega) (by omega) dL_465 ?_
      refine jM_J hP hD hS hA (fun A hP hD => va_runV (As := [.int (xs (5 * k + 1)), .int (xs (5 * k + 2))]) (rest := [.long (r)]) ⟨hx, hb, hml, hown, hts⟩ (hm2 A) (cwV 2 hts (tbVL tw_809 tw_810 tw_811 tw_91 tw_812) rfl rfl rfl (by decide +kernel) ⟨Nat.le_of_ble_eq_true rfl, Nat.le_of_ble_eq_true rfl⟩) ⟨y_blind, va_recv hK hP (ci := 6) (q0 := 0) rfl rfl, y_pre hK hP hD⟩ rfl rfl hl.1 rfl (lv_room (Nat.le_of_ble_eq_true rfl)) dL_466 ⟨Nat.le_of_ble_eq_true rfl, Nat.le_of_ble_eq_true rfl⟩) (fun H locs hP hD hS => ?_)
      refine W.lcmp hx hb dL_469 ?_
      refine x_lif_eq (tgt := 666) hx hb dL_470 (by decide) (fun _ => ?_) (fun h => absurd rfl h)
      exact L666 S' M' hR1 H locs hP hD hS
    by_cases h11 : (xs (5 * k) &&& nI 31) = nI 11
    · refine x_tabEq (tgt := 475) hx hb dL_32 h11 (by decide) (by decide) (by decide) rfl (by decide) ?_
      refine lv_aload_n hx hb dL_475 rfl (lv_at hl 1 rfl) ?_
      refine lv_aload_n hx hb dL_476 rfl (lv_at hl 0 rfl) ?_
      refine lv_iload_n hx hb dL_477 rfl (lv_at hl 3 rfl) ?_
      refine lv_iconst (v := nI 1) hx hb dL_478 (by decide) ?_
      refine x_iadd hx hb dL_479 ?_
      refine j_sld hx hb hX hbl hbA hS (show 5 * k + 1 < L by omega) (by omega) dL_480 ?_
      refine lv_aload_n hx hb dL_481 rfl (lv_at hl 0 rfl) ?_
      refine lv_iload_n hx hb dL_482 rfl (lv_at hl 3 rfl) ?_
      refine lv_iconst (v := nI 2) hx hb dL_483 (by decide) ?_
      refine x_iadd hx hb dL_484 ?_
      refine j_sld hx hb hX hbl hbA hS (show 5 * k + 2 < L by omega) (by omega) dL_485 ?_
      obtain ⟨S', M', r, hR1, hm1, hm2⟩ := (PP.2.2.2.2.2.2.2.2.2.2.2.2.1) (xs (5 * k + 1)) (xs (5 * k + 2)) dC dI cB cI cL a b k S M hk9 hR
      refine jS_I hP hD hS hA (fun A hP hD => va_runV (As := [.int (xs (5 * k + 1)), .int (xs (5 * k + 2))]) (rest := []) ⟨hx, hb, hml, hown, hts⟩ (hm1 A) (cwV 2 hts (tbVL tw_541 tw_542 tw_543 tw_84 tw_544) rfl rfl rfl (by decide +kernel) ⟨Nat.le_of_ble_eq_true rfl, Nat.le_of_ble_eq_true rfl⟩) ⟨x_blind, va_recv hK hP (ci := 5) (q0 := 0) rfl rfl, x_pre hK hP hD hN⟩ rfl rfl hl.1 rfl (lv_room (Nat.le_of_ble_eq_true rfl)) dL_486 ⟨Nat.le_of_ble_eq_true rfl, Nat.le_of_ble_eq_true rfl⟩) (fun H locs hP hD hS => ?_)
      refine lv_aload_n hx hb dL_489 rfl (lv_at hl 2 rfl) ?_
      refine lv_aload_n hx hb dL_490 rfl (lv_at hl 0 rfl) ?_
      refine lv_iload_n hx hb dL_491 rfl (lv_at hl 3 rfl) ?_
      refine lv_iconst (v := nI 1) hx hb dL_492 (by decide) ?_
      refine x_iadd hx hb dL_493 ?_
      refine j_sld hx hb hX hbl hbA hS (show 5 * k + 1 < L by omega) (by omega) dL_494 ?_
      refine lv_aload_n hx hb dL_495 rfl (lv_at hl 0 rfl) ?_
      refine lv_iload_n hx hb dL_496 rfl (lv_at hl 3 rfl) ?_
      refine lv_iconst (v := nI 2) hx hb dL_497 (by decide) ?_
      refine x_iadd hx hb dL_498 ?_
      refine j_sld hx hb hX hbl hbA hS (show 5 * k + 2 < L by omega) (by omega) dL_499 ?_
      refine jM_I hP hD hS hA (fun A hP hD => va_runV (As := [.int (xs (5 * k + 1)), .int (xs (5 * k + 2))]) (rest := [.int (r)]) ⟨hx, hb, hml, hown, hts⟩ (hm2 A) (cwV 2 hts (tbVL tw_813 tw_814 tw_815 tw_91 tw_816) rfl rfl rfl (by decide +kernel) ⟨Nat.le_of_ble_eq_true rfl, Nat.le_of_ble_eq_true rfl⟩) ⟨y_blind, va_recv hK hP (ci := 6) (q0 := 0) rfl rfl, y_pre hK hP hD⟩ rfl rfl hl.1 rfl (lv_room (Nat.le_of_ble_eq_true rfl)) dL_500 ⟨Nat.le_of_ble_eq_true rfl, Nat.le_of_ble_eq_true rfl⟩) (fun H locs hP hD hS => ?_)
      refine lv_icmp_eq (tgt := 666) hx hb dL_503 (by decide) (fun _ => ?_) (fun h => absurd rfl h)
      exact L666 S' M' hR1 H locs hP hD hS
    by_cases h12 : (xs (5 * k) &&& nI 31) = nI 12
    · refine x_tabEq (tgt := 508) hx hb dL_32 h12 (by decide) (by decide) (by decide) rfl (by decide) ?_
      refine lv_aload_n hx hb dL_508 rfl (lv_at hl 1 rfl) ?_
      refine lv_aload_n hx hb dL_509 rfl (lv_at hl 0 rfl) ?_
      refine lv_iload_n hx hb dL_510 rfl (lv_at hl 3 rfl) ?_
      refine lv_iconst (v := nI 1) hx hb dL_511 (by decide) ?_
      refine x_iadd hx hb dL_512 ?_
      refine j_sld hx hb hX hbl hbA hS (show 5 * k + 1 < L by omega) (by omega) dL_513 ?_
      obtain ⟨S', M', r, hR1, hm1, hm2⟩ := (PP.2.2.2.2.2.2.2.2.2.2.2.2.2.1) (xs (5 * k + 1)) dC dI cB cI cL a b k S M hk9 hR
      refine jS_I hP hD hS hA (fun A hP hD => va_runV (As := [.int (xs (5 * k + 1))]) (rest := []) ⟨hx, hb, hml, hown, hts⟩ (hm1 A) (cwV 1 hts (tbVL tw_545 tw_546 tw_547 tw_84 tw_548) rfl rfl rfl (by decide +kernel) ⟨Nat.le_of_ble_eq_true rfl, Nat.le_of_ble_eq_true rfl⟩) ⟨x_blind, va_recv hK hP (ci := 5) (q0 := 0) rfl rfl, x_pre hK hP hD hN⟩ rfl rfl hl.1 rfl (lv_room (Nat.le_of_ble_eq_true rfl)) dL_514 ⟨Nat.le_of_ble_eq_true rfl, Nat.le_of_ble_eq_true rfl⟩) (fun H locs hP hD hS => ?_)
      refine lv_aload_n hx hb dL_517 rfl (lv_at hl 2 rfl) ?_
      refine lv_aload_n hx hb dL_518 rfl (lv_at hl 0 rfl) ?_
      refine lv_iload_n hx hb dL_519 rfl (lv_at hl 3 rfl) ?_
      refine lv_iconst (v := nI 1) hx hb dL_520 (by decide) ?_
      refine x_iadd hx hb dL_521 ?_
      refine j_sld hx hb hX hbl hbA hS (show 5 * k + 1 < L by omega) (by omega) dL_522 ?_
      refine jM_I hP hD hS hA (fun A hP hD => va_runV (As := [.int (xs (5 * k + 1))]) (rest := [.int (r)]) ⟨hx, hb, hml, hown, hts⟩ (hm2 A) (cwV 1 hts (tbVL tw_817 tw_818 tw_819 tw_91 tw_820) rfl rfl rfl (by decide +kernel) ⟨Nat.le_of_ble_eq_true rfl, Nat.le_of_ble_eq_true rfl⟩) ⟨y_blind, va_recv hK hP (ci := 6) (q0 := 0) rfl rfl, y_pre hK hP hD⟩ rfl rfl hl.1 rfl (lv_room (Nat.le_of_ble_eq_true rfl)) dL_523 ⟨Nat.le_of_ble_eq_true rfl, Nat.le_of_ble_eq_true rfl⟩) (fun H locs hP hD hS => ?_)
      refine lv_icmp_eq (tgt := 666) hx hb dL_526 (by decide) (fun _ => ?_) (fun h => absurd rfl h)
      exact L666 S' M' hR1 H locs hP hD hS
    by_cases h13 : (xs (5 * k) &&& nI 31) = nI 13
    · refine x_tabEq (tgt := 531) hx hb dL_32 h13 (by decide) (by decide) (by decide) rfl (by decide) ?_
      refine lv_aload_n hx hb dL_531 rfl (lv_at hl 1 rfl) ?_
      refine lv_aload_n hx hb dL_532 rfl (lv_at hl 0 rfl) ?_
      refine lv_iload_n hx hb dL_533 rfl (lv_at hl 3 rfl) ?_
      refine lv_iconst (v := nI 1) hx hb dL_534 (by decide) ?_
      refine x_iadd hx hb dL_535 ?_
      refine j_sld hx hb hX hbl hbA hS (show 5 * k + 1 < L by omega) (by omega) dL_536 ?_
      refine lv_aload_n hx hb dL_537 rfl (lv_at hl 0 rfl) ?_
      refine lv_iload_n hx hb dL_538 rfl (lv_at hl 3 rfl) ?_
      refine lv_iconst (v := nI 2) hx hb dL_539 (by decide) ?_
      refine x_iadd hx hb dL_540 ?_
      refine j_sld hx hb hX hbl hbA hS (show 5 * k + 2 < L by omega) (by omega) dL_541 ?_
      obtain ⟨S', M', r, hR1, hm1, hm2⟩ := (PP.2.2.2.2.2.2.2.2.2.2.2.2.2.2.1) (xs (5 * k + 1)) (xs (5 * k + 2)) dC dI cB cI cL a b k S M hk9 hR
      refine jS_I hP hD hS hA (fun A hP hD => va_runV (As := [.int (xs (5 * k + 1)), .int (xs (5 * k + 2))]) (rest := []) ⟨hx, hb, hml, hown, hts⟩ (hm1 A) (cwV 2 hts (tbVL tw_549 tw_550 tw_551 tw_84 tw_552) rfl rfl rfl (by decide +kernel) ⟨Nat.le_of_ble_eq_true rfl, Nat.le_of_ble_eq_true rfl⟩) ⟨x_blind, va_recv hK hP (ci := 5) (q0 := 0) rfl rfl, x_pre hK hP hD hN⟩ rfl rfl hl.1 rfl (lv_room (Nat.le_of_ble_eq_true rfl)) dL_542 ⟨Nat.le_of_ble_eq_true rfl, Nat.le_of_ble_eq_true rfl⟩) (fun H locs hP hD hS => ?_)
      refine lv_aload_n hx hb dL_545 rfl (lv_at hl 2 rfl) ?_
      refine lv_aload_n hx hb dL_546 rfl (lv_at hl 0 rfl) ?_
      refine lv_iload_n hx hb dL_547 rfl (lv_at hl 3 rfl) ?_
      refine lv_iconst (v := nI 1) hx hb dL_548 (by decide) ?_
      refine x_iadd hx hb dL_549 ?_
      refine j_sld hx hb hX hbl hbA hS (show 5 * k + 1 < L by omega) (by omega) dL_550 ?_
      refine lv_aload_n hx hb dL_551 rfl (lv_at hl 0 rfl) ?_
      refine lv_iload_n hx hb dL_552 rfl (lv_at hl 3 rfl) ?_
      refine lv_iconst (v := nI 2) hx hb dL_553 (by decide) ?_
      refine x_iadd hx hb dL_554 ?_
      refine j_sld hx hb hX hbl hbA hS (show 5 * k + 2 < L by omega) (by omega) dL_555 ?_
      refine jM_I hP hD hS hA (fun A hP hD => va_runV (As := [.int (xs (5 * k + 1)), .int (xs (5 * k + 2))]) (rest := [.int (r)]) ⟨hx, hb, hml, hown, hts⟩ (hm2 A) (cwV 2 hts (tbVL tw_821 tw_822 tw_823 tw_91 tw_824) rfl rfl rfl (by decide +kernel) ⟨Nat.le_of_ble_eq_true rfl, Nat.le_of_ble_eq_true rfl⟩) ⟨y_blind, va_recv hK hP (ci := 6) (q0 := 0) rfl rfl, y_pre hK hP hD⟩ rfl rfl hl.1 rfl (lv_room (Nat.le_of_ble_eq_true rfl)) dL_556 ⟨Nat.le_of_ble_eq_true rfl, Nat.le_of_ble_eq_true rfl⟩) (fun H locs hP hD hS => ?_)
      refine lv_icmp_eq (tgt := 666) hx hb dL_559 (by decide) (fun _ => ?_) (fun h => absurd rfl h)
      exact L666 S' M' hR1 H locs hP hD hS
    by_cases h14 : (xs (5 * k) &&& nI 31) = nI 14
    · refine x_tabEq (tgt := 564) hx hb dL_32 h14 (by decide) (by decide) (by decide) rfl (by decide) ?_
      refine lv_aload_n hx hb dL_564 rfl (lv_at hl 1 rfl) ?_
      refine lv_aload_n hx hb dL_565 rfl (lv_at hl 0 rfl) ?_
      refine lv_iload_n hx hb dL_566 rfl (lv_at hl 3 rfl) ?_
      refine lv_iconst (v := nI 1) hx hb dL_567 (by decide) ?_
      refine x_iadd hx hb dL_568 ?_
      refine j_sld hx hb hX hbl hbA hS (show 5 * k + 1 < L by omega) (by omega) dL_569 ?_
      refine lv_aload_n hx hb dL_570 rfl (lv_at hl 0 rfl) ?_
      refine lv_iload_n hx hb dL_571 rfl (lv_at hl 3 rfl) ?_
      refine lv_iconst (v := nI 2) hx hb dL_572 (by decide) ?_
      refine x_iadd hx hb dL_573 ?_
      refine j_sld hx hb hX hbl hbA hS (show 5 * k + 2 < L by omega) (by omega) dL_574 ?_
      refine lv_aload_n hx hb dL_575 rfl (lv_at hl 0 rfl) ?_
      refine lv_iload_n hx hb dL_576 rfl (lv_at hl 3 rfl) ?_
      refine lv_iconst (v := nI 3) hx hb dL_577 (by decide) ?_
      refine x_iadd hx hb dL_578 ?_
      refine j_sld hx hb hX hbl hbA hS (show 5 * k + 3 < L by omega) (by omega) dL_579 ?_
      obtain ⟨S', M', r, hR1, hm1, hm2⟩ := (PP.2.2.2.2.2.2.2.2.2.2.2.2.2.2.2.1) (xs (5 * k + 1)) (xs (5 * k + 2)) (xs (5 * k + 3)) dC dI cB cI cL a b k S M hk9 hR
      refine jS_I hP hD hS hA (fun A hP hD => va_runV (As := [.int (xs (5 * k + 1)), .int (xs (5 * k + 2)), .int (xs (5 * k + 3))]) (rest := []) ⟨hx, hb, hml, hown, hts⟩ (hm1 A) (cwV 3 hts (tbVL tw_553 tw_554 tw_555 tw_84 tw_556) rfl rfl rfl (by decide +kernel) ⟨Nat.le_of_ble_eq_true rfl, Nat.le_of_ble_eq_true rfl⟩) ⟨x_blind, va_recv hK hP (ci := 5) (q0 := 0) rfl rfl, x_pre hK hP hD hN⟩ rfl rfl hl.1 rfl (lv_room (Nat.le_of_ble_eq_true rfl)) dL_580 ⟨Nat.le_of_ble_eq_true rfl, Nat.le_of_ble_eq_true rfl⟩) (fun H locs hP hD hS => ?_)
      refine lv_aload_n hx hb dL_583 rfl (lv_at hl 2 rfl) ?_
      refine lv_aload_n hx hb dL_584 rfl (lv_at hl 0 rfl) ?_
      refine lv_iload_n hx hb dL_585 rfl (lv_at hl 3 rfl) ?_
      refine lv_iconst (v := nI 1) hx hb dL_586 (by decide) ?_
      refine x_iadd hx hb dL_587 ?_
      refine j_sld hx hb hX hbl hbA hS (show 5 * k + 1 < L by omega) (by omega) dL_588 ?_
      refine lv_aload_n hx hb dL_589 rfl (lv_at hl 0 rfl) ?_
      refine lv_iload_n hx hb dL_590 rfl (lv_at hl 3 rfl) ?_
      refine lv_iconst (v := nI 2) hx hb dL_591 (by decide) ?_
      refine x_iadd hx hb dL_592 ?_
      refine j_sld hx hb hX hbl hbA hS (show 5 * k + 2 < L by omega) (by omega) dL_593 ?_
      refine lv_aload_n hx hb dL_594 rfl (lv_at hl 0 rfl) ?_
      refine lv_iload_n hx hb dL_595 rfl (lv_at hl 3 rfl) ?_
      refine lv_iconst (v := nI 3) hx hb dL_596 (by decide) ?_
      refine x_iadd hx hb dL_597 ?_
      refine j_sld hx hb hX hbl hbA hS (show 5 * k + 3 < L by omega) (by omega) dL_598 ?_
      refine jM_I hP hD hS hA (fun A hP hD => va_runV (As := [.int (xs (5 * k + 1)), .int (xs (5 * k + 2)), .int (xs (5 * k + 3))]) (rest := [.int (r)]) ⟨hx, hb, hml, hown, hts⟩ (hm2 A) (cwV 3 hts (tbVL tw_826 tw_827 tw_828 tw_91 tw_829) rfl rfl rfl (by decide +kernel) ⟨Nat.le_of_ble_eq_true rfl, Nat.le_of_ble_eq_true rfl⟩) ⟨y_blind, va_recv hK hP (ci := 6) (q0 := 0) rfl rfl, y_pre hK hP hD⟩ rfl rfl hl.1 rfl (lv_room (Nat.le_of_ble_eq_true rfl)) dL_599 ⟨Nat.le_of_ble_eq_true rfl, Nat.le_of_ble_eq_true rfl⟩) (fun H locs hP hD hS => ?_)
      refine lv_icmp_eq (tgt := 666) hx hb dL_602 (by decide) (fun _ => ?_) (fun h => absurd rfl h)
      exact L666 S' M' hR1 H locs hP hD hS
    by_cases h15 : (xs (5 * k) &&& nI 31) = nI 15
    · refine x_tabEq (tgt := 607) hx hb dL_32 h15 (by decide) (by decide) (by decide) rfl (by decide) ?_
      refine lv_aload_n hx hb dL_607 rfl (lv_at hl 1 rfl) ?_
      obtain ⟨S', M', r, hR1, hm1, hm2⟩ := (PP.2.2.2.2.2.2.2.2.2.2.2.2.2.2.2.2.1) dC dI cB cI cL a b k S M hk9 hR
      refine jS_I hP hD hS hA (fun A hP hD => va_runV (As := []) (rest := []) ⟨hx, hb, hml, hown, hts⟩ (hm1 A) (cwV 0 hts (tbVL tw_558 tw_559 tw_560 tw_84 tw_561) rfl rfl rfl (by decide +kernel) ⟨Nat.le_of_ble_eq_true rfl, Nat.le_of_ble_eq_true rfl⟩) ⟨x_blind, va_recv hK hP (ci := 5) (q0 := 0) rfl rfl, x_pre hK hP hD hN⟩ rfl rfl hl.1 rfl (lv_room (Nat.le_of_ble_eq_true rfl)) dL_608 ⟨Nat.le_of_ble_eq_true rfl, Nat.le_of_ble_eq_true rfl⟩) (fun H locs hP hD hS => ?_)
      refine lv_aload_n hx hb dL_611 rfl (lv_at hl 2 rfl) ?_
      refine jM_I hP hD hS hA (fun A hP hD => va_runV (As := []) (rest := [.int (r)]) ⟨hx, hb, hml, hown, hts⟩ (hm2 A) (cwV 0 hts (tbVL tw_831 tw_832 tw_833 tw_91 tw_834) rfl rfl rfl (by decide +kernel) ⟨Nat.le_of_ble_eq_true rfl, Nat.le_of_ble_eq_true rfl⟩) ⟨y_blind, va_recv hK hP (ci := 6) (q0 := 0) rfl rfl, y_pre hK hP hD⟩ rfl rfl hl.1 rfl (lv_room (Nat.le_of_ble_eq_true rfl)) dL_612 ⟨Nat.le_of_ble_eq_true rfl, Nat.le_of_ble_eq_true rfl⟩) (fun H locs hP hD hS => ?_)
      refine lv_icmp_eq (tgt := 666) hx hb dL_615 (by decide) (fun _ => ?_) (fun h => absurd rfl h)
      exact L666 S' M' hR1 H locs hP hD hS
    by_cases h16 : (xs (5 * k) &&& nI 31) = nI 16
    · refine x_tabEq (tgt := 620) hx hb dL_32 h16 (by decide) (by decide) (by decide) rfl (by decide) ?_
      refine lv_aload_n hx hb dL_620 rfl (lv_at hl 1 rfl) ?_
      refine lv_aload_n hx hb dL_621 rfl (lv_at hl 0 rfl) ?_
      refine lv_iload_n hx hb dL_622 rfl (lv_at hl 3 rfl) ?_
      refine lv_iconst (v := nI 1) hx hb dL_623 (by decide) ?_
      refine x_iadd hx hb dL_624 ?_
      refine j_sld hx hb hX hbl hbA hS (show 5 * k + 1 < L by omega) (by omega) dL_625 ?_
      obtain ⟨S', M', r, hR1, hm1, hm2⟩ := (PP.2.2.2.2.2.2.2.2.2.2.2.2.2.2.2.2.2.1) (xs (5 * k + 1)) dC dI cB cI cL a b k S M hk9 hR
      refine jS_I hP hD hS hA (fun A hP hD => va_runV (As := [.int (xs (5 * k + 1))]) (rest := []) ⟨hx, hb, hml, hown, hts⟩ (hm1 A) (cwV 1 hts (tbVL tw_570 tw_571 tw_572 tw_84 tw_573) rfl rfl rfl (by decide +kernel) ⟨Nat.le_of_ble_eq_true rfl, Nat.le_of_ble_eq_true rfl⟩) ⟨x_blind, va_recv hK hP (ci := 5) (q0 := 0) rfl rfl, x_pre hK hP hD hN⟩ rfl rfl hl.1 rfl (lv_room (Nat.le_of_ble_eq_true rfl)) dL_626 ⟨Nat.le_of_ble_eq_true rfl, Nat.le_of_ble_eq_true rfl⟩) (fun H locs hP hD hS => ?_)
      refine lv_aload_n hx hb dL_629 rfl (lv_at hl 2 rfl) ?_
      refine lv_aload_n hx hb dL_630 rfl (lv_at hl 0 rfl) ?_
      refine lv_iload_n hx hb dL_631 rfl (lv_at hl 3 rfl) ?_
      refine lv_iconst (v := nI 1) hx hb dL_632 (by decide) ?_
      refine x_iadd hx hb dL_633 ?_
      refine j_sld hx hb hX hbl hbA hS (show 5 * k + 1 < L by omega) (by omega) dL_634 ?_
      refine jM_I hP hD hS hA (fun A hP hD => va_runV (As := [.int (xs (5 * k + 1))]) (rest := [.int (r)]) ⟨hx, hb, hml, hown, hts⟩ (hm2 A) (cwV 1 hts (tbVL tw_835 tw_836 tw_837 tw_91 tw_838) rfl rfl rfl (by decide +kernel) ⟨Nat.le_of_ble_eq_true rfl, Nat.le_of_ble_eq_true rfl⟩) ⟨y_blind, va_recv hK hP (ci := 6) (q0 := 0) rfl rfl, y_pre hK hP hD⟩ rfl rfl hl.1 rfl (lv_room (Nat.le_of_ble_eq_true rfl)) dL_635 ⟨Nat.le_of_ble_eq_true rfl, Nat.le_of_ble_eq_true rfl⟩) (fun H locs hP hD hS => ?_)
      refine lv_icmp_eq (tgt := 666) hx hb dL_638 (by decide) (fun _ => ?_) (fun h => absurd rfl h)
      exact L666 S' M' hR1 H locs hP hD hS
    by_cases h17 : (xs (5 * k) &&& nI 31) = nI 17
    · refine x_tabEq (tgt := 643) hx hb dL_32 h17 (by decide) (by decide) (by decide) rfl (by decide) ?_
      refine lv_aload_n hx hb dL_643 rfl (lv_at hl 1 rfl) ?_
      refine lv_aload_n hx hb dL_644 rfl (lv_at hl 0 rfl) ?_
      refine lv_iload_n hx hb dL_645 rfl (lv_at hl 3 rfl) ?_
      refine lv_iconst (v := nI 1) hx hb dL_646 (by decide) ?_
      refine x_iadd hx hb dL_647 ?_
      refine j_sld hx hb hX hbl hbA hS (show 5 * k + 1 < L by omega) (by omega) dL_648 ?_
      obtain ⟨S', M', r, hR1, hm1, hm2⟩ := (PP.2.2.2.2.2.2.2.2.2.2.2.2.2.2.2.2.2.2) (xs (5 * k + 1)) dC dI cB cI cL a b k S M hk9 hR
      refine jS_I hP hD hS hA (fun A hP hD => va_runV (As := [.int (xs (5 * k + 1))]) (rest := []) ⟨hx, hb, hml, hown, hts⟩ (hm1 A) (cwV 1 hts (tbVL tw_575 tw_576 tw_577 tw_84 tw_578) rfl rfl rfl (by decide +kernel) ⟨Nat.le_of_ble_eq_true rfl, Nat.le_of_ble_eq_true rfl⟩) ⟨x_blind, va_recv hK hP (ci := 5) (q0 := 0) rfl rfl, x_pre hK hP hD hN⟩ rfl rfl hl.1 rfl (lv_room (Nat.le_of_ble_eq_true rfl)) dL_649 ⟨Nat.le_of_ble_eq_true rfl, Nat.le_of_ble_eq_true rfl⟩) (fun H locs hP hD hS => ?_)
      refine lv_aload_n hx hb dL_652 rfl (lv_at hl 2 rfl) ?_
      refine lv_aload_n hx hb dL_653 rfl (lv_at hl 0 rfl) ?_
      refine lv_iload_n hx hb dL_654 rfl (lv_at hl 3 rfl) ?_
      refine lv_iconst (v := nI 1) hx hb dL_655 (by decide) ?_
      refine x_iadd hx hb dL_656 ?_
      refine j_sld hx hb hX hbl hbA hS (show 5 * k + 1 < L by omega) (by omega) dL_657 ?_
      refine jM_I hP hD hS hA (fun A hP hD => va_runV (As := [.int (xs (5 * k + 1))]) (rest := [.int (r)]) ⟨hx, hb, hml, hown, hts⟩ (hm2 A) (cwV 1 hts (tbVL tw_839 tw_840 tw_841 tw_91 tw_842) rfl rfl rfl (by decide +kernel) ⟨Nat.le_of_ble_eq_true rfl, Nat.le_of_ble_eq_true rfl⟩) ⟨y_blind, va_recv hK hP (ci := 6) (q0 := 0) rfl rfl, y_pre hK hP hD⟩ rfl rfl hl.1 rfl (lv_room (Nat.le_of_ble_eq_true rfl)) dL_658 ⟨Nat.le_of_ble_eq_true rfl, Nat.le_of_ble_eq_true rfl⟩) (fun H locs hP hD hS => ?_)
      refine lv_icmp_eq (tgt := 666) hx hb dL_661 (by decide) (fun _ => ?_) (fun h => absurd rfl h)
      exact L666 S' M' hR1 H locs hP hD hS
    refine x_tabNo (tgt := 666) (lo := 0) (hi := 17) hx hb dL_32 (fun j q1 q2 q => by rcases (show j = 0 ∨ j = 1 ∨ j = 2 ∨ j = 3 ∨ j = 4 ∨ j = 5 ∨ j = 6 ∨ j = 7 ∨ j = 8 ∨ j = 9 ∨ j = 10 ∨ j = 11 ∨ j = 12 ∨ j = 13 ∨ j = 14 ∨ j = 15 ∨ j = 16 ∨ j = 17 by omega) with rfl | rfl | rfl | rfl | rfl | rfl | rfl | rfl | rfl | rfl | rfl | rfl | rfl | rfl | rfl | rfl | rfl | rfl <;> first | exact h0 q | exact h1 q | exact h2 q | exact h3 q | exact h4 q | exact h5 q | exact h6 q | exact h7 q | exact h8 q | exact h9 q | exact h10 q | exact h11 q | exact h12 q | exact h13 q | exact h14 q | exact h15 q | exact h16 q | exact h17 q) (by decide) (by decide) ?_
    exact L666 S M (PP.1 k S M hk9 hR) H locs hP hD hS
