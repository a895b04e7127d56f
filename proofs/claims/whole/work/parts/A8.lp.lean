-- ===== the law's loop =====
set_option maxRecDepth 100000 in
set_option maxHeartbeats 4000000 in
theorem w_law {p : Program} {l : Launch} {e : Env} {s : State} {m : MethodId} {below : List Frame} {meth : Method} {c : Code} {b Ln x0 : Nat} {xs : Nat → Int32} {D : va_G} {k : Nat → ClassId} (S : CallFix p m c code 4 s #[Value.ref b] G R_L) (hr : meth.sig.returnType = ret) (hlocks : meth.locks = false) (hX : va_X b Ln xs s s.heap) (hbl : b < s.heap.size) (hx0 : s.heap.size = x0) (hL : Ln ≤ 2560) :
    ∀ (d i : Nat) (f : Nat → va_E) (π : Nat → Nat) (st : Nat → Tb) (H : Heap) (locs : List Loc) (ls : Array Slot), Ln ≤ i + 5 * d → i ≤ Ln → CS (List.range' x0 787) (oN x0) k f x0 (x0 + 1) (x0 + 137) (x0 + 177) (x0 + 137 + 1) (fun τ => x0 + 2 + 15 * τ) (fun τ => x0 + 2 + 15 * τ + 1) (fun τ => x0 + 2 + 15 * τ + 2) (fun x => x0 + 137 + 2 + x) (fun i => some (x0 + 137 + 2 + 2 * i)) π st → RS (List.range' x0 787) (oN x0) k f (x0 + 178) (mR (x0 + 178)) (mA (x0 + 178)) st → (∀ j, j < 8 → okT (st j)) → lv_has ls 4 [(0, .ref b), (1, .ref x0), (2, .ref (x0 + 178)), (3, .int (nI i))] → gw D cls (tyl k) (List.range' x0 787) s s.heap f H locs → W p l e room_1 s m #[Value.ref b] below meth c H locs 787 95550 (lw_Z below #[Value.ref b] s) (F0 m 18 ls []) := by
  have hx := S.1
  have hb := S.2.1
  have hbA : b ∉ (List.range' x0 787) := fun h => by
    have := (rg_mem.mp h).1
    omega
  have hr9 : ∀ x : Int32, rI x.toInt := fun x => (zI_of x).2
  have r0 : rI ((Ln : Int) - 5) := ⟨by omega, by omega⟩
  -- the end
  have fin : ∀ (f : Nat → va_E) (H : Heap) (locs : List Loc) (ls : Array Slot), gw D cls (tyl k) (List.range' x0 787) s s.heap f H locs → W p l e room_1 s m #[Value.ref b] below meth c H locs 787 95550 (lw_Z below #[Value.ref b] s) (F0 m 577 ls []) := by
    intro f H locs ls hg
    refine lv_iconst (v := 1) hx hb d_L_law_577 (by decide) ?_
    refine va_forget (fun q hq => ?_) ?_
    · have := (rg_mem.mp (hg.2.2.2.2.2 q hq)).1
      omega
    · refine W.widen (k := 600000) (n := 7302250) (by decide) (by decide) ?_
      exact lw_ret hx hb hr hlocks d_L_law_578
  -- the loop's head
  have hd : ∀ (i : Nat) (f : Nat → va_E) (H : Heap) (locs : List Loc) (ls : Array Slot), i ≤ Ln → lv_has ls 4 [(0, .ref b), (1, .ref x0), (2, .ref (x0 + 178)), (3, .int (nI i))] → gw D cls (tyl k) (List.range' x0 787) s s.heap f H locs → (i + 5 ≤ Ln → W p l e room_1 s m #[Value.ref b] below meth c H locs 787 95550 (lw_Z below #[Value.ref b] s) (F0 m 26 ls [])) → W p l e room_1 s m #[Value.ref b] below meth c H locs 787 95550 (lw_Z below #[Value.ref b] s) (F0 m 18 ls []) := by
    intro i f H locs ls hi hl hg kx
    refine lv_iload_n hx hb d_L_law_18 rfl (lv_at hl 3 rfl) ?_
    refine lv_aload_n hx hb d_L_law_19 rfl (lv_at hl 0 rfl) ?_
    refine va_slen hx hb hX hbl hbA hg.2.2.2 d_L_law_20 ?_
    refine lv_iconst (v := 5) hx hb d_L_law_21 (by decide) ?_
    refine lv_isub hx hb d_L_law_22 ?_
    refine l_top (show Int32.ofNat Ln - 5 = zI ((Ln : Int) - 5) from zI_sub (Ln : Int) 5) ?_
    refine lv_icmp_gt (tgt := 577) hx hb d_L_law_23 (by decide) (fun hc => fin f H locs ls hg) (fun hc => kx ?_)
    have : ¬ (Ln : Int) - 5 < i := fun q => hc ((zI_lt r0 (rI_n (by omega))).mpr q)
    omega
  intro d
  induction d with
  | zero =>
    intro i f π st H locs ls h1 h2 hCS hRS hok hl hg
    exact hd i f H locs ls h2 hl hg (fun q => absurd q (by omega))
  | succ d ih =>
    intro i f π st H locs ls h1 h2 hCS hRS hok hl hg
    refine hd i f H locs ls h2 hl hg (fun h5 => ?_)
    have nxt : ∀ (f : Nat → va_E) (π : Nat → Nat) (st : Nat → Tb) (H : Heap) (locs : List Loc) (ls : Array Slot), CS (List.range' x0 787) (oN x0) k f x0 (x0 + 1) (x0 + 137) (x0 + 177) (x0 + 137 + 1) (fun τ => x0 + 2 + 15 * τ) (fun τ => x0 + 2 + 15 * τ + 1) (fun τ => x0 + 2 + 15 * τ + 2) (fun x => x0 + 137 + 2 + x) (fun i => some (x0 + 137 + 2 + 2 * i)) π st → RS (List.range' x0 787) (oN x0) k f (x0 + 178) (mR (x0 + 178)) (mA (x0 + 178)) st → (∀ j, j < 8 → okT (st j)) → lv_has ls 4 [(0, .ref b), (1, .ref x0), (2, .ref (x0 + 178)), (3, .int (nI i))] → gw D cls (tyl k) (List.range' x0 787) s s.heap f H locs → W p l e room_1 s m #[Value.ref b] below meth c H locs 787 95550 (lw_Z below #[Value.ref b] s) (F0 m 571 ls []) := by
      intro f π st H locs ls hCS hRS hok hl hg
      refine lv_iinc (k := 3) hx hb d_L_law_571 hl rfl (ii5 i) (by decide) rfl (fun ls hl => ?_)
      have hl := lv_sub hl [1, 2, 3, 0] rfl
      refine lv_goto (tgt := 18) hx hb d_L_law_574 (by decide) ?_
      exact ih (i + 5) f π st H locs ls (by omega) h5 hCS hRS hok hl hg
    refine lv_aload_n hx hb d_L_law_26 rfl (lv_at hl 0 rfl) ?_
    refine lv_iload_n hx hb d_L_law_27 rfl (lv_at hl 3 rfl) ?_
    refine va_sld hx hb hX hbl hbA hg.2.2.2 (vp_in_nI (by omega) (by omega)) d_L_law_28 ?_
    refine lv_bipush (v := 15) hx hb d_L_law_29 (by decide) ?_
    refine lv_iand hx hb d_L_law_31 ?_
    obtain ⟨n, hn, en⟩ := and15 (xs (nI i).toNatClampNeg)
    refine l_top en ?_
    rcases (show n = 0 ∨ n = 1 ∨ n = 2 ∨ n = 3 ∨ n = 4 ∨ n = 5 ∨ n = 6 ∨ n = 7 ∨ n = 8 ∨ n = 9 ∨ n = 10 ∨ 11 ≤ n by omega) with hn | hn | hn | hn | hn | hn | hn | hn | hn | hn | hn | hn
    · subst hn
      refine lv_tableIn (off := 60) (tgt := 92) hx hb d_L_law_32 (by decide) (by decide) (by decide) (by decide) ?_
      refine lv_aload_n hx hb d_L_law_92 rfl (lv_at hl 1 rfl) ?_
      refine l_arg hx hb hl hX hbl hbA hg.2.2.2 hL 1 (by omega) (by decide) d_L_law_93 d_L_law_94 d_L_law_95 d_L_law_96 d_L_law_97 ?_
      refine l_arg hx hb hl hX hbl hbA hg.2.2.2 hL 2 (by omega) (by decide) d_L_law_98 d_L_law_99 d_L_law_100 d_L_law_101 d_L_law_102 ?_
      refine l_arg hx hb hl hX hbl hbA hg.2.2.2 hL 3 (by omega) (by decide) d_L_law_103 d_L_law_104 d_L_law_105 d_L_law_106 d_L_law_107 ?_
      refine l_arg hx hb hl hX hbl hbA hg.2.2.2 hL 4 (by omega) (by decide) d_L_law_108 d_L_law_109 d_L_law_110 d_L_law_111 d_L_law_112 ?_
      refine g_oi (c_V (np := 4) S (m_A_begin l D hCS (hr9 _) (hr9 _) (hr9 _) (hr9 _)) hg (hCS.at.1) (hCS.at.2.choose_spec) rfl ml_L_13 im_A_begin se_A_A_begin in_A co_A_begin (by decide +kernel) rfl ⟨rfl, rfl, by decide, by decide⟩ hl.1 rfl (by simp [Value.category]) d_L_law_113 ⟨by decide, by decide⟩) hg (fun r1 f1 H locs hp hg => ?_)
      obtain ⟨st1, hCS1, ho1, hp1⟩ := hp
      have hRS := hRS.keep ho1 (by decide)
      have hok1 := ok_begin hok hp1
      refine lv_aload_n hx hb d_L_law_116 rfl (lv_at hl 2 rfl) ?_
      refine l_arg hx hb hl hX hbl hbA hg.2.2.2 hL 1 (by omega) (by decide) d_L_law_117 d_L_law_118 d_L_law_119 d_L_law_120 d_L_law_121 ?_
      refine l_arg hx hb hl hX hbl hbA hg.2.2.2 hL 2 (by omega) (by decide) d_L_law_122 d_L_law_123 d_L_law_124 d_L_law_125 d_L_law_126 ?_
      refine l_arg hx hb hl hX hbl hbA hg.2.2.2 hL 3 (by omega) (by decide) d_L_law_127 d_L_law_128 d_L_law_129 d_L_law_130 d_L_law_131 ?_
      refine l_arg hx hb hl hX hbl hbA hg.2.2.2 hL 4 (by omega) (by decide) d_L_law_132 d_L_law_133 d_L_law_134 d_L_law_135 d_L_law_136 ?_
      refine g_oi (c_V (np := 4) S (m_M_begin l D hRS hok (hr9 _) (hr9 _) (hr9 _) (hr9 _)) hg (hRS.at.1) (hRS.at.2.choose_spec) rfl ml_L_17 im_M_begin se_M_M_begin in_M co_M_begin (by decide +kernel) rfl ⟨rfl, rfl, by decide, by decide⟩ hl.1 rfl (by simp [Value.category]) d_L_law_137 ⟨by decide, by decide⟩) hg (fun r2 f2 H locs hp hg => ?_)
      obtain ⟨st2, hRS2, ho2, hp2⟩ := hp
      obtain ⟨u1, u2⟩ := un_begin hp1 hp2
      refine lv_icmp_eq (tgt := 571) hx hb d_L_law_140 (by decide) (fun hc => ?_) (fun hc => absurd u1 hc)
      exact nxt f2 π st1 H locs ls (hCS1.keep ho2) (RS_teq hRS2 u2 hok1) hok1 hl hg
    · subst hn
      refine lv_tableIn (off := 113) (tgt := 145) hx hb d_L_law_32 (by decide) (by decide) (by decide) (by decide) ?_
      refine lv_aload_n hx hb d_L_law_145 rfl (lv_at hl 1 rfl) ?_
      refine l_arg hx hb hl hX hbl hbA hg.2.2.2 hL 1 (by omega) (by decide) d_L_law_146 d_L_law_147 d_L_law_148 d_L_law_149 d_L_law_150 ?_
      refine l_arg hx hb hl hX hbl hbA hg.2.2.2 hL 2 (by omega) (by decide) d_L_law_151 d_L_law_152 d_L_law_153 d_L_law_154 d_L_law_155 ?_
      refine l_arg hx hb hl hX hbl hbA hg.2.2.2 hL 3 (by omega) (by decide) d_L_law_156 d_L_law_157 d_L_law_158 d_L_law_159 d_L_law_160 ?_
      refine l_arg hx hb hl hX hbl hbA hg.2.2.2 hL 4 (by omega) (by decide) d_L_law_161 d_L_law_162 d_L_law_163 d_L_law_164 d_L_law_165 ?_
      refine g_oi (c_V (np := 4) S (m_A_put l D hCS hok (hr9 _) (hr9 _) (hr9 _) (hr9 _)) hg (hCS.at.1) (hCS.at.2.choose_spec) rfl ml_L_18 im_A_put se_A_A_put in_A co_A_put (by decide +kernel) rfl ⟨rfl, rfl, by decide, by decide⟩ hl.1 rfl (by simp [Value.category]) d_L_law_166 ⟨by decide, by decide⟩) hg (fun r1 f1 H locs hp hg => ?_)
      obtain ⟨st1, hCS1, ho1, hp1⟩ := hp
      have hRS := hRS.keep ho1 (by decide)
      have hok1 := ok_put hok hp1
      refine lv_aload_n hx hb d_L_law_169 rfl (lv_at hl 2 rfl) ?_
      refine l_arg hx hb hl hX hbl hbA hg.2.2.2 hL 1 (by omega) (by decide) d_L_law_170 d_L_law_171 d_L_law_172 d_L_law_173 d_L_law_174 ?_
      refine l_arg hx hb hl hX hbl hbA hg.2.2.2 hL 2 (by omega) (by decide) d_L_law_175 d_L_law_176 d_L_law_177 d_L_law_178 d_L_law_179 ?_
      refine l_arg hx hb hl hX hbl hbA hg.2.2.2 hL 3 (by omega) (by decide) d_L_law_180 d_L_law_181 d_L_law_182 d_L_law_183 d_L_law_184 ?_
      refine l_arg hx hb hl hX hbl hbA hg.2.2.2 hL 4 (by omega) (by decide) d_L_law_185 d_L_law_186 d_L_law_187 d_L_law_188 d_L_law_189 ?_
      refine g_oi (c_V (np := 4) S (m_M_put l D hRS hok (hr9 _) (hr9 _) (hr9 _) (hr9 _)) hg (hRS.at.1) (hRS.at.2.choose_spec) rfl ml_L_21 im_M_put se_M_M_put in_M co_M_put (by decide +kernel) rfl ⟨rfl, rfl, by decide, by decide⟩ hl.1 rfl (by simp [Value.category]) d_L_law_190 ⟨by decide, by decide⟩) hg (fun r2 f2 H locs hp hg => ?_)
      obtain ⟨st2, hRS2, ho2, hp2⟩ := hp
      obtain ⟨u1, u2⟩ := un_put hp1 hp2
      refine lv_icmp_eq (tgt := 571) hx hb d_L_law_193 (by decide) (fun hc => ?_) (fun hc => absurd u1 hc)
      exact nxt f2 π st1 H locs ls (hCS1.keep ho2) (RS_teq hRS2 u2 hok1) hok1 hl hg
    · subst hn
      refine lv_tableIn (off := 166) (tgt := 198) hx hb d_L_law_32 (by decide) (by decide) (by decide) (by decide) ?_
      refine lv_aload_n hx hb d_L_law_198 rfl (lv_at hl 1 rfl) ?_
      refine l_arg hx hb hl hX hbl hbA hg.2.2.2 hL 1 (by omega) (by decide) d_L_law_199 d_L_law_200 d_L_law_201 d_L_law_202 d_L_law_203 ?_
      refine g_oi (c_V (np := 1) S (m_A_reduce l D hCS hok (hr9 _)) hg (hCS.at.1) (hCS.at.2.choose_spec) rfl ml_L_22 im_A_reduce se_A_A_reduce in_A co_A_reduce (by decide +kernel) rfl ⟨rfl, rfl, by decide, by decide⟩ hl.1 rfl (by simp [Value.category]) d_L_law_204 ⟨by decide, by decide⟩) hg (fun r1 f1 H locs hp hg => ?_)
      obtain ⟨st1, hCS1, ho1, hp1⟩ := hp
      have hRS := hRS.keep ho1 (by decide)
      have hok1 := ok_reduce hok hp1
      refine lv_aload_n hx hb d_L_law_207 rfl (lv_at hl 2 rfl) ?_
      refine l_arg hx hb hl hX hbl hbA hg.2.2.2 hL 1 (by omega) (by decide) d_L_law_208 d_L_law_209 d_L_law_210 d_L_law_211 d_L_law_212 ?_
      refine g_oi (c_V (np := 1) S (m_M_reduce l D hRS hok (hr9 _)) hg (hRS.at.1) (hRS.at.2.choose_spec) rfl ml_L_26 im_M_reduce se_M_M_reduce in_M co_M_reduce (by decide +kernel) rfl ⟨rfl, rfl, by decide, by decide⟩ hl.1 rfl (by simp [Value.category]) d_L_law_213 ⟨by decide, by decide⟩) hg (fun r2 f2 H locs hp hg => ?_)
      obtain ⟨st2, hRS2, ho2, hp2⟩ := hp
      obtain ⟨u1, u2⟩ := un_reduce hok hp1 hp2
      refine lv_icmp_eq (tgt := 571) hx hb d_L_law_216 (by decide) (fun hc => ?_) (fun hc => absurd u1 hc)
      exact nxt f2 π st1 H locs ls (hCS1.keep ho2) (RS_teq hRS2 u2 hok1) hok1 hl hg
    · subst hn
      refine lv_tableIn (off := 189) (tgt := 221) hx hb d_L_law_32 (by decide) (by decide) (by decide) (by decide) ?_
      refine lv_aload_n hx hb d_L_law_221 rfl (lv_at hl 1 rfl) ?_
      refine l_arg hx hb hl hX hbl hbA hg.2.2.2 hL 1 (by omega) (by decide) d_L_law_222 d_L_law_223 d_L_law_224 d_L_law_225 d_L_law_226 ?_
      refine l_arg hx hb hl hX hbl hbA hg.2.2.2 hL 2 (by omega) (by decide) d_L_law_227 d_L_law_228 d_L_law_229 d_L_law_230 d_L_law_231 ?_
      refine l_arg hx hb hl hX hbl hbA hg.2.2.2 hL 3 (by omega) (by decide) d_L_law_232 d_L_law_233 d_L_law_234 d_L_law_235 d_L_law_236 ?_
      refine g_oi (c_V (np := 3) S (m_A_turn l D hCS hok (hr9 _) (hr9 _) (hr9 _)) hg (hCS.at.1) (hCS.at.2.choose_spec) rfl ml_L_27 im_A_turn se_A_A_turn in_A co_A_turn (by decide +kernel) rfl ⟨rfl, rfl, by decide, by decide⟩ hl.1 rfl (by simp [Value.category]) d_L_law_237 ⟨by decide, by decide⟩) hg (fun r1 f1 H locs hp hg => ?_)
      obtain ⟨st1, hCS1, ho1, hp1⟩ := hp
      have hRS := hRS.keep ho1 (by decide)
      have hok1 := ok_turn hok hp1
      refine lv_aload_n hx hb d_L_law_240 rfl (lv_at hl 2 rfl) ?_
      refine l_arg hx hb hl hX hbl hbA hg.2.2.2 hL 1 (by omega) (by decide) d_L_law_241 d_L_law_242 d_L_law_243 d_L_law_244 d_L_law_245 ?_
      refine l_arg hx hb hl hX hbl hbA hg.2.2.2 hL 2 (by omega) (by decide) d_L_law_246 d_L_law_247 d_L_law_248 d_L_law_249 d_L_law_250 ?_
      refine l_arg hx hb hl hX hbl hbA hg.2.2.2 hL 3 (by omega) (by decide) d_L_law_251 d_L_law_252 d_L_law_253 d_L_law_254 d_L_law_255 ?_
      refine g_oi (c_V (np := 3) S (m_M_turn l D hRS hok (hr9 _) (hr9 _) (hr9 _)) hg (hRS.at.1) (hRS.at.2.choose_spec) rfl ml_L_31 im_M_turn se_M_M_turn in_M co_M_turn (by decide +kernel) rfl ⟨rfl, rfl, by decide, by decide⟩ hl.1 rfl (by simp [Value.category]) d_L_law_256 ⟨by decide, by decide⟩) hg (fun r2 f2 H locs hp hg => ?_)
      obtain ⟨st2, hRS2, ho2, hp2⟩ := hp
      obtain ⟨u1, u2⟩ := un_turn hok hp1 hp2
      refine lv_icmp_eq (tgt := 571) hx hb d_L_law_259 (by decide) (fun hc => ?_) (fun hc => absurd u1 hc)
      exact nxt f2 π st1 H locs ls (hCS1.keep ho2) (RS_teq hRS2 u2 hok1) hok1 hl hg
    · subst hn
      refine lv_tableIn (off := 232) (tgt := 264) hx hb d_L_law_32 (by decide) (by decide) (by decide) (by decide) ?_
      refine lv_aload_n hx hb d_L_law_264 rfl (lv_at hl 1 rfl) ?_
      refine l_arg hx hb hl hX hbl hbA hg.2.2.2 hL 1 (by omega) (by decide) d_L_law_265 d_L_law_266 d_L_law_267 d_L_law_268 d_L_law_269 ?_
      refine l_arg hx hb hl hX hbl hbA hg.2.2.2 hL 2 (by omega) (by decide) d_L_law_270 d_L_law_271 d_L_law_272 d_L_law_273 d_L_law_274 ?_
      refine g_oi (c_V (np := 2) S (m_A_dual l D hCS hok (hr9 _) (hr9 _)) hg (hCS.at.1) (hCS.at.2.choose_spec) rfl ml_L_32 im_A_dual se_A_A_dual in_A co_A_dual (by decide +kernel) rfl ⟨rfl, rfl, by decide, by decide⟩ hl.1 rfl (by simp [Value.category]) d_L_law_275 ⟨by decide, by decide⟩) hg (fun r1 f1 H locs hp hg => ?_)
      obtain ⟨π1, st1, hCS1, ho1, hp1⟩ := hp
      have hRS := hRS.keep ho1 (by decide)
      have hok1 := ok_dual hok hp1
      refine lv_aload_n hx hb d_L_law_278 rfl (lv_at hl 2 rfl) ?_
      refine l_arg hx hb hl hX hbl hbA hg.2.2.2 hL 1 (by omega) (by decide) d_L_law_279 d_L_law_280 d_L_law_281 d_L_law_282 d_L_law_283 ?_
      refine l_arg hx hb hl hX hbl hbA hg.2.2.2 hL 2 (by omega) (by decide) d_L_law_284 d_L_law_285 d_L_law_286 d_L_law_287 d_L_law_288 ?_
      refine g_oi (c_V (np := 2) S (m_M_dual l D hRS hok (hr9 _) (hr9 _)) hg (hRS.at.1) (hRS.at.2.choose_spec) rfl ml_L_36 im_M_dual se_M_M_dual in_M co_M_dual (by decide +kernel) rfl ⟨rfl, rfl, by decide, by decide⟩ hl.1 rfl (by simp [Value.category]) d_L_law_289 ⟨by decide, by decide⟩) hg (fun r2 f2 H locs hp hg => ?_)
      obtain ⟨st2, hRS2, ho2, hp2⟩ := hp
      obtain ⟨u1, u2⟩ := un_dual hok hp1 hp2
      refine lv_icmp_eq (tgt := 571) hx hb d_L_law_292 (by decide) (fun hc => ?_) (fun hc => absurd u1 hc)
      exact nxt f2 π1 st1 H locs ls (hCS1.keep ho2) (RS_teq hRS2 u2 hok1) hok1 hl hg
    · subst hn
      refine lv_tableIn (off := 265) (tgt := 297) hx hb d_L_law_32 (by decide) (by decide) (by decide) (by decide) ?_
      refine lv_aload_n hx hb d_L_law_297 rfl (lv_at hl 1 rfl) ?_
      refine l_arg hx hb hl hX hbl hbA hg.2.2.2 hL 1 (by omega) (by decide) d_L_law_298 d_L_law_299 d_L_law_300 d_L_law_301 d_L_law_302 ?_
      refine l_arg hx hb hl hX hbl hbA hg.2.2.2 hL 2 (by omega) (by decide) d_L_law_303 d_L_law_304 d_L_law_305 d_L_law_306 d_L_law_307 ?_
      refine l_arg hx hb hl hX hbl hbA hg.2.2.2 hL 3 (by omega) (by decide) d_L_law_308 d_L_law_309 d_L_law_310 d_L_law_311 d_L_law_312 ?_
      refine l_arg hx hb hl hX hbl hbA hg.2.2.2 hL 4 (by omega) (by decide) d_L_law_313 d_L_law_314 d_L_law_315 d_L_law_316 d_L_law_317 ?_
      refine l_flag hx hb d_L_law_318 d_L_law_321 d_L_law_322 d_L_law_325 ?_
      refine g_oi (c_V (np := 4) S (m_A_leave l D hCS hok (z := decide (zI (xs (i + 4)).toInt ≠ 0)) (hr9 _) (hr9 _) (hr9 _)) hg (hCS.at.1) (hCS.at.2.choose_spec) rfl ml_L_37 im_A_leave se_A_A_leave in_A co_A_leave (by decide +kernel) rfl ⟨rfl, rfl, by decide, by decide⟩ hl.1 rfl (by simp [Value.category]) d_L_law_326 ⟨by decide, by decide⟩) hg (fun r1 f1 H locs hp hg => ?_)
      obtain ⟨π1, st1, hCS1, ho1, hp1, hok1⟩ := hp
      have hRS := hRS.keep ho1 (by decide)
      refine lv_aload_n hx hb d_L_law_329 rfl (lv_at hl 2 rfl) ?_
      refine l_arg hx hb hl hX hbl hbA hg.2.2.2 hL 1 (by omega) (by decide) d_L_law_330 d_L_law_331 d_L_law_332 d_L_law_333 d_L_law_334 ?_
      refine l_arg hx hb hl hX hbl hbA hg.2.2.2 hL 2 (by omega) (by decide) d_L_law_335 d_L_law_336 d_L_law_337 d_L_law_338 d_L_law_339 ?_
      refine l_arg hx hb hl hX hbl hbA hg.2.2.2 hL 3 (by omega) (by decide) d_L_law_340 d_L_law_341 d_L_law_342 d_L_law_343 d_L_law_344 ?_
      refine l_arg hx hb hl hX hbl hbA hg.2.2.2 hL 4 (by omega) (by decide) d_L_law_345 d_L_law_346 d_L_law_347 d_L_law_348 d_L_law_349 ?_
      refine l_flag hx hb d_L_law_350 d_L_law_353 d_L_law_354 d_L_law_357 ?_
      refine g_oi (c_V (np := 4) S (m_M_leave l D hRS hok (z := decide (zI (xs (i + 4)).toInt ≠ 0)) (hr9 _) (hr9 _) (hr9 _)) hg (hRS.at.1) (hRS.at.2.choose_spec) rfl ml_L_41 im_M_leave se_M_M_leave in_M co_M_leave (by decide +kernel) rfl ⟨rfl, rfl, by decide, by decide⟩ hl.1 rfl (by simp [Value.category]) d_L_law_358 ⟨by decide, by decide⟩) hg (fun r2 f2 H locs hp hg => ?_)
      obtain ⟨st2, hRS2, ho2, hp2⟩ := hp
      obtain ⟨u1, u2⟩ := un_leave hok hp1 hp2
      refine lv_icmp_eq (tgt := 571) hx hb d_L_law_361 (by decide) (fun hc => ?_) (fun hc => absurd u1 hc)
      exact nxt f2 π1 st1 H locs ls (hCS1.keep ho2) (RS_teq hRS2 u2 hok1) hok1 hl hg
    · subst hn
      refine lv_tableIn (off := 334) (tgt := 366) hx hb d_L_law_32 (by decide) (by decide) (by decide) (by decide) ?_
      refine lv_aload_n hx hb d_L_law_366 rfl (lv_at hl 1 rfl) ?_
      refine l_arg hx hb hl hX hbl hbA hg.2.2.2 hL 1 (by omega) (by decide) d_L_law_367 d_L_law_368 d_L_law_369 d_L_law_370 d_L_law_371 ?_
      refine l_arg hx hb hl hX hbl hbA hg.2.2.2 hL 2 (by omega) (by decide) d_L_law_372 d_L_law_373 d_L_law_374 d_L_law_375 d_L_law_376 ?_
      refine l_arg hx hb hl hX hbl hbA hg.2.2.2 hL 3 (by omega) (by decide) d_L_law_377 d_L_law_378 d_L_law_379 d_L_law_380 d_L_law_381 ?_
      refine g_oi (c_V (np := 3) S (m_A_sum l D hCS hok (hr9 _) (hr9 _) (hr9 _)) hg (hCS.at.1) (hCS.at.2.choose_spec) rfl ml_L_42 im_A_sum se_A_A_sum in_A co_A_sum (by decide +kernel) rfl ⟨rfl, rfl, by decide, by decide⟩ hl.1 rfl (by simp [Value.category]) d_L_law_382 ⟨by decide, by decide⟩) hg (fun r1 f1 H locs hp hg => ?_)
      obtain ⟨π1, st1, hCS1, ho1, hp1⟩ := hp
      have hRS := hRS.keep ho1 (by decide)
      have hok1 := ok_sum hok hp1
      refine lv_aload_n hx hb d_L_law_385 rfl (lv_at hl 2 rfl) ?_
      refine l_arg hx hb hl hX hbl hbA hg.2.2.2 hL 1 (by omega) (by decide) d_L_law_386 d_L_law_387 d_L_law_388 d_L_law_389 d_L_law_390 ?_
      refine l_arg hx hb hl hX hbl hbA hg.2.2.2 hL 2 (by omega) (by decide) d_L_law_391 d_L_law_392 d_L_law_393 d_L_law_394 d_L_law_395 ?_
      refine l_arg hx hb hl hX hbl hbA hg.2.2.2 hL 3 (by omega) (by decide) d_L_law_396 d_L_law_397 d_L_law_398 d_L_law_399 d_L_law_400 ?_
      refine g_oi (c_V (np := 3) S (m_M_sum l D hRS hok (hr9 _) (hr9 _) (hr9 _)) hg (hRS.at.1) (hRS.at.2.choose_spec) rfl ml_L_45 im_M_sum se_M_M_sum in_M co_M_sum (by decide +kernel) rfl ⟨rfl, rfl, by decide, by decide⟩ hl.1 rfl (by simp [Value.category]) d_L_law_401 ⟨by decide, by decide⟩) hg (fun r2 f2 H locs hp hg => ?_)
      obtain ⟨st2, hRS2, ho2, hp2⟩ := hp
      obtain ⟨u1, u2⟩ := un_sum hok hp1 hp2
      refine lv_icmp_eq (tgt := 571) hx hb d_L_law_404 (by decide) (fun hc => ?_) (fun hc => absurd u1 hc)
      exact nxt f2 π1 st1 H locs ls (hCS1.keep ho2) (RS_teq hRS2 u2 hok1) hok1 hl hg
    · subst hn
      refine lv_tableIn (off := 377) (tgt := 409) hx hb d_L_law_32 (by decide) (by decide) (by decide) (by decide) ?_
      refine lv_aload_n hx hb d_L_law_409 rfl (lv_at hl 1 rfl) ?_
      refine l_arg hx hb hl hX hbl hbA hg.2.2.2 hL 1 (by omega) (by decide) d_L_law_410 d_L_law_411 d_L_law_412 d_L_law_413 d_L_law_414 ?_
      refine l_arg hx hb hl hX hbl hbA hg.2.2.2 hL 2 (by omega) (by decide) d_L_law_415 d_L_law_416 d_L_law_417 d_L_law_418 d_L_law_419 ?_
      refine g_oi (c_V (np := 2) S (m_A_of l D hCS (hr9 _) (hr9 _)) hg (hCS.at.1) (hCS.at.2.choose_spec) rfl ml_L_46 im_A_of se_A_A_of in_A co_A_of (by decide +kernel) rfl ⟨rfl, rfl, by decide, by decide⟩ hl.1 rfl (by simp [Value.category]) d_L_law_420 ⟨by decide, by decide⟩) hg (fun r1 f1 H locs hp hg => ?_)
      obtain ⟨e1, hp1⟩ := hp
      rw [e1] at hg
      refine lv_aload_n hx hb d_L_law_423 rfl (lv_at hl 2 rfl) ?_
      refine l_arg hx hb hl hX hbl hbA hg.2.2.2 hL 1 (by omega) (by decide) d_L_law_424 d_L_law_425 d_L_law_426 d_L_law_427 d_L_law_428 ?_
      refine l_arg hx hb hl hX hbl hbA hg.2.2.2 hL 2 (by omega) (by decide) d_L_law_429 d_L_law_430 d_L_law_431 d_L_law_432 d_L_law_433 ?_
      refine g_oi (c_V (np := 2) S (m_M_of l D hRS (hr9 _) (hr9 _)) hg (hRS.at.1) (hRS.at.2.choose_spec) rfl ml_L_49 im_M_of se_M_M_of in_M co_M_of (by decide +kernel) rfl ⟨rfl, rfl, by decide, by decide⟩ hl.1 rfl (by simp [Value.category]) d_L_law_434 ⟨by decide, by decide⟩) hg (fun r2 f2 H locs hp hg => ?_)
      obtain ⟨e2, hp2⟩ := hp
      rw [e2] at hg
      refine lv_icmp_eq (tgt := 571) hx hb d_L_law_437 (by decide) (fun hc => ?_) (fun hc => absurd (un_of hp1 hp2) hc)
      exact nxt f π st H locs ls hCS hRS hok hl hg
    · subst hn
      refine lv_tableIn (off := 410) (tgt := 442) hx hb d_L_law_32 (by decide) (by decide) (by decide) (by decide) ?_
      refine lv_aload_n hx hb d_L_law_442 rfl (lv_at hl 1 rfl) ?_
      refine l_arg hx hb hl hX hbl hbA hg.2.2.2 hL 1 (by omega) (by decide) d_L_law_443 d_L_law_444 d_L_law_445 d_L_law_446 d_L_law_447 ?_
      refine l_arg hx hb hl hX hbl hbA hg.2.2.2 hL 2 (by omega) (by decide) d_L_law_448 d_L_law_449 d_L_law_450 d_L_law_451 d_L_law_452 ?_
      refine g_oi (c_V (np := 2) S (m_A_place l D hCS hok (hr9 _) (hr9 _)) hg (hCS.at.1) (hCS.at.2.choose_spec) rfl ml_L_50 im_A_place se_A_A_place in_A co_A_place (by decide +kernel) rfl ⟨rfl, rfl, by decide, by decide⟩ hl.1 rfl (by simp [Value.category]) d_L_law_453 ⟨by decide, by decide⟩) hg (fun r1 f1 H locs hp hg => ?_)
      obtain ⟨e1, hp1⟩ := hp
      rw [e1] at hg
      refine lv_aload_n hx hb d_L_law_456 rfl (lv_at hl 2 rfl) ?_
      refine l_arg hx hb hl hX hbl hbA hg.2.2.2 hL 1 (by omega) (by decide) d_L_law_457 d_L_law_458 d_L_law_459 d_L_law_460 d_L_law_461 ?_
      refine l_arg hx hb hl hX hbl hbA hg.2.2.2 hL 2 (by omega) (by decide) d_L_law_462 d_L_law_463 d_L_law_464 d_L_law_465 d_L_law_466 ?_
      refine g_oi (c_V (np := 2) S (m_M_place l D hRS hok (hr9 _) (hr9 _)) hg (hRS.at.1) (hRS.at.2.choose_spec) rfl ml_L_53 im_M_place se_M_M_place in_M co_M_place (by decide +kernel) rfl ⟨rfl, rfl, by decide, by decide⟩ hl.1 rfl (by simp [Value.category]) d_L_law_467 ⟨by decide, by decide⟩) hg (fun r2 f2 H locs hp hg => ?_)
      obtain ⟨e2, hp2⟩ := hp
      rw [e2] at hg
      refine lv_icmp_eq (tgt := 571) hx hb d_L_law_470 (by decide) (fun hc => ?_) (fun hc => absurd (un_place hp1 hp2) hc)
      exact nxt f π st H locs ls hCS hRS hok hl hg
    · subst hn
      refine lv_tableIn (off := 443) (tgt := 475) hx hb d_L_law_32 (by decide) (by decide) (by decide) (by decide) ?_
      refine lv_aload_n hx hb d_L_law_475 rfl (lv_at hl 1 rfl) ?_
      refine l_arg hx hb hl hX hbl hbA hg.2.2.2 hL 1 (by omega) (by decide) d_L_law_476 d_L_law_477 d_L_law_478 d_L_law_479 d_L_law_480 ?_
      refine l_arg hx hb hl hX hbl hbA hg.2.2.2 hL 2 (by omega) (by decide) d_L_law_481 d_L_law_482 d_L_law_483 d_L_law_484 d_L_law_485 ?_
      refine l_arg hx hb hl hX hbl hbA hg.2.2.2 hL 3 (by omega) (by decide) d_L_law_486 d_L_law_487 d_L_law_488 d_L_law_489 d_L_law_490 ?_
      refine g_oi (c_V (np := 3) S (m_A_sign l D hCS hok (hr9 _) (hr9 _) (hr9 _)) hg (hCS.at.1) (hCS.at.2.choose_spec) rfl ml_L_54 im_A_sign se_A_A_sign in_A co_A_sign (by decide +kernel) rfl ⟨rfl, rfl, by decide, by decide⟩ hl.1 rfl (by simp [Value.category]) d_L_law_491 ⟨by decide, by decide⟩) hg (fun r1 f1 H locs hp hg => ?_)
      obtain ⟨e1, hp1⟩ := hp
      rw [e1] at hg
      refine lv_aload_n hx hb d_L_law_494 rfl (lv_at hl 2 rfl) ?_
      refine l_arg hx hb hl hX hbl hbA hg.2.2.2 hL 1 (by omega) (by decide) d_L_law_495 d_L_law_496 d_L_law_497 d_L_law_498 d_L_law_499 ?_
      refine l_arg hx hb hl hX hbl hbA hg.2.2.2 hL 2 (by omega) (by decide) d_L_law_500 d_L_law_501 d_L_law_502 d_L_law_503 d_L_law_504 ?_
      refine l_arg hx hb hl hX hbl hbA hg.2.2.2 hL 3 (by omega) (by decide) d_L_law_505 d_L_law_506 d_L_law_507 d_L_law_508 d_L_law_509 ?_
      refine g_oi (c_V (np := 3) S (m_M_sign l D hRS hok (hr9 _) (hr9 _) (hr9 _)) hg (hRS.at.1) (hRS.at.2.choose_spec) rfl ml_L_57 im_M_sign se_M_M_sign in_M co_M_sign (by decide +kernel) rfl ⟨rfl, rfl, by decide, by decide⟩ hl.1 rfl (by simp [Value.category]) d_L_law_510 ⟨by decide, by decide⟩) hg (fun r2 f2 H locs hp hg => ?_)
      obtain ⟨e2, hp2⟩ := hp
      rw [e2] at hg
      refine lv_icmp_eq (tgt := 571) hx hb d_L_law_513 (by decide) (fun hc => ?_) (fun hc => absurd (un_sign hp1 hp2) hc)
      exact nxt f π st H locs ls hCS hRS hok hl hg
    · subst hn
      refine lv_tableIn (off := 486) (tgt := 518) hx hb d_L_law_32 (by decide) (by decide) (by decide) (by decide) ?_
      refine lv_aload_n hx hb d_L_law_518 rfl (lv_at hl 1 rfl) ?_
      refine l_arg hx hb hl hX hbl hbA hg.2.2.2 hL 1 (by omega) (by decide) d_L_law_519 d_L_law_520 d_L_law_521 d_L_law_522 d_L_law_523 ?_
      refine l_arg hx hb hl hX hbl hbA hg.2.2.2 hL 2 (by omega) (by decide) d_L_law_524 d_L_law_525 d_L_law_526 d_L_law_527 d_L_law_528 ?_
      refine l_arg hx hb hl hX hbl hbA hg.2.2.2 hL 3 (by omega) (by decide) d_L_law_529 d_L_law_530 d_L_law_531 d_L_law_532 d_L_law_533 ?_
      refine l_arg hx hb hl hX hbl hbA hg.2.2.2 hL 4 (by omega) (by decide) d_L_law_534 d_L_law_535 d_L_law_536 d_L_law_537 d_L_law_538 ?_
      refine g_oi (c_V (np := 4) S (m_A_digit l D hCS hok (hr9 _) (hr9 _) (hr9 _) (hr9 _)) hg (hCS.at.1) (hCS.at.2.choose_spec) rfl ml_L_58 im_A_digit se_A_A_digit in_A co_A_digit (by decide +kernel) rfl ⟨rfl, rfl, by decide, by decide⟩ hl.1 rfl (by simp [Value.category]) d_L_law_539 ⟨by decide, by decide⟩) hg (fun r1 f1 H locs hp hg => ?_)
      obtain ⟨e1, hp1⟩ := hp
      rw [e1] at hg
      refine lv_aload_n hx hb d_L_law_542 rfl (lv_at hl 2 rfl) ?_
      refine l_arg hx hb hl hX hbl hbA hg.2.2.2 hL 1 (by omega) (by decide) d_L_law_543 d_L_law_544 d_L_law_545 d_L_law_546 d_L_law_547 ?_
      refine l_arg hx hb hl hX hbl hbA hg.2.2.2 hL 2 (by omega) (by decide) d_L_law_548 d_L_law_549 d_L_law_550 d_L_law_551 d_L_law_552 ?_
      refine l_arg hx hb hl hX hbl hbA hg.2.2.2 hL 3 (by omega) (by decide) d_L_law_553 d_L_law_554 d_L_law_555 d_L_law_556 d_L_law_557 ?_
      refine l_arg hx hb hl hX hbl hbA hg.2.2.2 hL 4 (by omega) (by decide) d_L_law_558 d_L_law_559 d_L_law_560 d_L_law_561 d_L_law_562 ?_
      refine g_oi (c_V (np := 4) S (m_M_digit l D hRS hok (hr9 _) (hr9 _) (hr9 _) (hr9 _)) hg (hRS.at.1) (hRS.at.2.choose_spec) rfl ml_L_62 im_M_digit se_M_M_digit in_M co_M_digit (by decide +kernel) rfl ⟨rfl, rfl, by decide, by decide⟩ hl.1 rfl (by simp [Value.category]) d_L_law_563 ⟨by decide, by decide⟩) hg (fun r2 f2 H locs hp hg => ?_)
      obtain ⟨hRS2, ho2, hp2⟩ := hp
      refine lv_icmp_eq (tgt := 571) hx hb d_L_law_566 (by decide) (fun hc => ?_) (fun hc => absurd (un_digit hp1 hp2) hc)
      exact nxt f2 π st H locs ls (hCS.keep ho2) hRS2 hok hl hg
    · refine lv_tableOut (tgt := 571) hx hb d_L_law_32 (Or.inr (by rw [nI_toInt (by omega)]; omega)) (by decide) ?_
      exact nxt f π st H locs ls hCS hRS hok hl hg
