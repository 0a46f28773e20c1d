/-! The law's body. -/
def okk (Inv : qI → Prop) (N d d' : Nat) (A B : qM) (as : List qV) (I : qI) : Prop :=
  ∃ (v : Int) (I1 I2 : qI), qT A d (.inr (some 1) :: as) N I (rI v N I1) ∧ qT B d' (.inr (some 44) :: as) N I1 (rI v N I2) ∧ Inv I2 ∧ I1 0 = I 0 ∧ I2 0 = I 0

/-- each call on both sides: the same answer, and the two stay alike -/
def oks (Inv : qI → Prop) (N : Nat) : Prop :=
  (∀ I, Inv I → okk Inv N 1 0 M_Q_begin M_M_begin [] I) ∧
  (∀ I, Inv I → ∀ x1 x2 : Int, okk Inv N 5 4 M_Q_read M_M_read [.inl x1, .inl x2] I) ∧
  (∀ I, Inv I → ∀ x1 x2 x3 : Int, okk Inv N 5 4 M_Q_write M_M_write [.inl x1, .inl x2, .inl x3] I) ∧
  (∀ I, Inv I → ∀ x1 x2 x3 x4 : Int, okk Inv N 5 4 M_Q_shift M_M_shift [.inl x1, .inl x2, .inl x3, .inl x4] I) ∧
  (∀ I, Inv I → ∀ x1 : Int, okk Inv N 2 2 M_Q_commit M_M_commit [.inl x1] I) ∧
  (∀ I, Inv I → ∀ x1 : Int, okk Inv N 3 3 M_Q_abort M_M_abort [.inl x1] I) ∧
  (∀ I, Inv I → ∀ x1 : Int, okk Inv N 1 1 M_Q_status M_M_status [.inl x1] I) ∧
  (∀ I, Inv I → ∀ x1 x2 : Int, okk Inv N 4 4 M_Q_deliver M_M_deliver [.inl x1, .inl x2] I) ∧
  (∀ I, Inv I → ∀ x1 x2 x3 : Int, okk Inv N 2 2 M_Q_gossip M_M_gossip [.inl x1, .inl x2, .inl x3] I) ∧
  (∀ I, Inv I → ∀ x1 x2 : Int, okk Inv N 4 4 M_Q_report M_M_report [.inl x1, .inl x2] I) ∧
  (∀ I, Inv I → ∀ x1 x2 x3 : Int, okk Inv N 3 1 M_Q_fault M_M_fault [.inl x1, .inl x2, .inl x3] I) ∧
  (∀ I, Inv I → okk Inv N 1 0 M_Q_crash M_M_crash [] I) ∧
  (∀ I, Inv I → okk Inv N 4 3 M_Q_recover M_M_recover [] I) ∧
  (∀ I, Inv I → ∀ x1 : Int, okk Inv N 3 2 M_Q_point M_M_point [.inl x1] I) ∧
  (∀ I, Inv I → ∀ x1 x2 x3 : Int, okk Inv N 1 2 M_Q_copy M_M_copy [.inl x1, .inl x2, .inl x3] I) ∧
  (∀ I, Inv I → ∀ x1 : Int, okk Inv N 1 0 M_Q_follow M_M_follow [.inl x1] I) ∧
  (∀ I, Inv I → ∀ x1 x2 : Int, okk Inv N 2 2 M_Q_view M_M_view [.inl x1, .inl x2] I) ∧
  (∀ I, Inv I → ∀ x1 x2 : Int, okk Inv N 2 2 M_Q_collect M_M_collect [.inl x1, .inl x2] I) ∧
  (∀ I, Inv I → ∀ x1 : Int, okk Inv N 1 1 M_Q_cached M_M_cached [.inl x1] I)
theorem lw_begin {N i : Nat} {Inv : qI → Prop} (ho : oks Inv N) (I : qI) (hI : Inv I) (hN : N ≤ 2560) (hi : i + 5 ≤ N) (P : qP) (K : ∀ J, Inv J → J 0 = I 0 → q_Ev M_W_law room_1 600000 7302250 57 7005 691 [some (.inr (some 0)), some (.inr (some 1)), some (.inr (some 44)), some (.inl ((i : Nat) : Int))] [] (S0 N) J P) : q_Ev M_W_law room_1 600000 7302250 57 7005 124 [some (.inr (some 0)), some (.inr (some 1)), some (.inr (some 44)), some (.inl ((i : Nat) : Int))] [] (S0 N) I P := by
  obtain ⟨v, I1, I2, hA, hB, hI2, e1, e2⟩ := ho.1 I hI 
  refine q_aload_n (pc := 124) dW_law_124 rfl ?_
  refine q_callV1 (pc := 125) dW_law_125 (hA) cd_Q_begin in_Q_begin se_Q_begin ml_W13 rfl (by decide) rfl rfl (Nat.le_of_ble_eq_true rfl) ⟨by decide, by decide⟩ ⟨by decide, by decide⟩ rfl ?_
  refine q_aload_n (pc := 128) dW_law_128 rfl ?_
  refine q_callV1 (pc := 129) dW_law_129 (hB) cd_M_begin in_M_begin se_M_begin ml_W17 rfl (by decide) rfl rfl (Nat.le_of_ble_eq_true rfl) ⟨by decide, by decide⟩ ⟨by decide, by decide⟩ rfl ?_
  refine q_icmp_eq (tgt := 691) (pc := 132) dW_law_132 (by decide) (fun _ => K I2 hI2 e2) (fun h => absurd rfl h)
theorem lw_read {N i : Nat} {Inv : qI → Prop} (ho : oks Inv N) (I : qI) (hI : Inv I) (hN : N ≤ 2560) (hi : i + 5 ≤ N) (P : qP) (K : ∀ J, Inv J → J 0 = I 0 → q_Ev M_W_law room_1 600000 7302250 57 7005 691 [some (.inr (some 0)), some (.inr (some 1)), some (.inr (some 44)), some (.inl ((i : Nat) : Int))] [] (S0 N) J P) : q_Ev M_W_law room_1 600000 7302250 57 7005 137 [some (.inr (some 0)), some (.inr (some 1)), some (.inr (some 44)), some (.inl ((i : Nat) : Int))] [] (S0 N) I P := by
  obtain ⟨v, I1, I2, hA, hB, hI2, e1, e2⟩ := ho.2.1 I hI (I 0 (i + 1)) (I 0 (i + 2))
  refine q_aload_n (pc := 137) dW_law_137 rfl ?_
  refine q_aload_n (pc := 138) dW_law_138 rfl ?_
  refine q_iload_n (pc := 139) dW_law_139 rfl ?_
  refine q_iconst (pc := 140) dW_law_140 (by decide) ?_
  refine q_iadd (pc := 141) dW_law_141 rfl ⟨by omega, by omega⟩ ?_
  refine q_sld (i := (i + 1)) (pc := 142) dW_law_142 rfl rfl (by omega) ?_
  refine q_aload_n (pc := 143) dW_law_143 rfl ?_
  refine q_iload_n (pc := 144) dW_law_144 rfl ?_
  refine q_iconst (pc := 145) dW_law_145 (by decide) ?_
  refine q_iadd (pc := 146) dW_law_146 rfl ⟨by omega, by omega⟩ ?_
  refine q_sld (i := (i + 2)) (pc := 147) dW_law_147 rfl rfl (by omega) ?_
  refine q_callV1 (pc := 148) dW_law_148 (hA) cd_Q_read in_Q_read se_Q_read ml_W18 rfl (by decide) rfl rfl (Nat.le_of_ble_eq_true rfl) ⟨by decide, by decide⟩ ⟨by decide, by decide⟩ rfl ?_
  have e1j : ∀ j, I1 0 j = I 0 j := fun j => by rw [e1]
  refine q_aload_n (pc := 151) dW_law_151 rfl ?_
  refine q_aload_n (pc := 152) dW_law_152 rfl ?_
  refine q_iload_n (pc := 153) dW_law_153 rfl ?_
  refine q_iconst (pc := 154) dW_law_154 (by decide) ?_
  refine q_iadd (pc := 155) dW_law_155 rfl ⟨by omega, by omega⟩ ?_
  refine q_sld (i := (i + 1)) (pc := 156) dW_law_156 rfl rfl (by omega) ?_
  rw [e1j]
  refine q_aload_n (pc := 157) dW_law_157 rfl ?_
  refine q_iload_n (pc := 158) dW_law_158 rfl ?_
  refine q_iconst (pc := 159) dW_law_159 (by decide) ?_
  refine q_iadd (pc := 160) dW_law_160 rfl ⟨by omega, by omega⟩ ?_
  refine q_sld (i := (i + 2)) (pc := 161) dW_law_161 rfl rfl (by omega) ?_
  rw [e1j]
  refine q_callV1 (pc := 162) dW_law_162 (hB) cd_M_read in_M_read se_M_read ml_W22 rfl (by decide) rfl rfl (Nat.le_of_ble_eq_true rfl) ⟨by decide, by decide⟩ ⟨by decide, by decide⟩ rfl ?_
  refine q_icmp_eq (tgt := 691) (pc := 165) dW_law_165 (by decide) (fun _ => K I2 hI2 e2) (fun h => absurd rfl h)
theorem lw_write {N i : Nat} {Inv : qI → Prop} (ho : oks Inv N) (I : qI) (hI : Inv I) (hN : N ≤ 2560) (hi : i + 5 ≤ N) (P : qP) (K : ∀ J, Inv J → J 0 = I 0 → q_Ev M_W_law room_1 600000 7302250 57 7005 691 [some (.inr (some 0)), some (.inr (some 1)), some (.inr (some 44)), some (.inl ((i : Nat) : Int))] [] (S0 N) J P) : q_Ev M_W_law room_1 600000 7302250 57 7005 170 [some (.inr (some 0)), some (.inr (some 1)), some (.inr (some 44)), some (.inl ((i : Nat) : Int))] [] (S0 N) I P := by
  obtain ⟨v, I1, I2, hA, hB, hI2, e1, e2⟩ := ho.2.2.1 I hI (I 0 (i + 1)) (I 0 (i + 2)) (I 0 (i + 3))
  refine q_aload_n (pc := 170) dW_law_170 rfl ?_
  refine q_aload_n (pc := 171) dW_law_171 rfl ?_
  refine q_iload_n (pc := 172) dW_law_172 rfl ?_
  refine q_iconst (pc := 173) dW_law_173 (by decide) ?_
  refine q_iadd (pc := 174) dW_law_174 rfl ⟨by omega, by omega⟩ ?_
  refine q_sld (i := (i + 1)) (pc := 175) dW_law_175 rfl rfl (by omega) ?_
  refine q_aload_n (pc := 176) dW_law_176 rfl ?_
  refine q_iload_n (pc := 177) dW_law_177 rfl ?_
  refine q_iconst (pc := 178) dW_law_178 (by decide) ?_
  refine q_iadd (pc := 179) dW_law_179 rfl ⟨by omega, by omega⟩ ?_
  refine q_sld (i := (i + 2)) (pc := 180) dW_law_180 rfl rfl (by omega) ?_
  refine q_aload_n (pc := 181) dW_law_181 rfl ?_
  refine q_iload_n (pc := 182) dW_law_182 rfl ?_
  refine q_iconst (pc := 183) dW_law_183 (by decide) ?_
  refine q_iadd (pc := 184) dW_law_184 rfl ⟨by omega, by omega⟩ ?_
  refine q_sld (i := (i + 3)) (pc := 185) dW_law_185 rfl rfl (by omega) ?_
  refine q_callV1 (pc := 186) dW_law_186 (hA) cd_Q_write in_Q_write se_Q_write ml_W23 rfl (by decide) rfl rfl (Nat.le_of_ble_eq_true rfl) ⟨by decide, by decide⟩ ⟨by decide, by decide⟩ rfl ?_
  have e1j : ∀ j, I1 0 j = I 0 j := fun j => by rw [e1]
  refine q_aload_n (pc := 189) dW_law_189 rfl ?_
  refine q_aload_n (pc := 190) dW_law_190 rfl ?_
  refine q_iload_n (pc := 191) dW_law_191 rfl ?_
  refine q_iconst (pc := 192) dW_law_192 (by decide) ?_
  refine q_iadd (pc := 193) dW_law_193 rfl ⟨by omega, by omega⟩ ?_
  refine q_sld (i := (i + 1)) (pc := 194) dW_law_194 rfl rfl (by omega) ?_
  rw [e1j]
  refine q_aload_n (pc := 195) dW_law_195 rfl ?_
  refine q_iload_n (pc := 196) dW_law_196 rfl ?_
  refine q_iconst (pc := 197) dW_law_197 (by decide) ?_
  refine q_iadd (pc := 198) dW_law_198 rfl ⟨by omega, by omega⟩ ?_
  refine q_sld (i := (i + 2)) (pc := 199) dW_law_199 rfl rfl (by omega) ?_
  rw [e1j]
  refine q_aload_n (pc := 200) dW_law_200 rfl ?_
  refine q_iload_n (pc := 201) dW_law_201 rfl ?_
  refine q_iconst (pc := 202) dW_law_202 (by decide) ?_
  refine q_iadd (pc := 203) dW_law_203 rfl ⟨by omega, by omega⟩ ?_
  refine q_sld (i := (i + 3)) (pc := 204) dW_law_204 rfl rfl (by omega) ?_
  rw [e1j]
  refine q_callV1 (pc := 205) dW_law_205 (hB) cd_M_write in_M_write se_M_write ml_W27 rfl (by decide) rfl rfl (Nat.le_of_ble_eq_true rfl) ⟨by decide, by decide⟩ ⟨by decide, by decide⟩ rfl ?_
  refine q_icmp_eq (tgt := 691) (pc := 208) dW_law_208 (by decide) (fun _ => K I2 hI2 e2) (fun h => absurd rfl h)
theorem lw_shift {N i : Nat} {Inv : qI → Prop} (ho : oks Inv N) (I : qI) (hI : Inv I) (hN : N ≤ 2560) (hi : i + 5 ≤ N) (P : qP) (K : ∀ J, Inv J → J 0 = I 0 → q_Ev M_W_law room_1 600000 7302250 57 7005 691 [some (.inr (some 0)), some (.inr (some 1)), some (.inr (some 44)), some (.inl ((i : Nat) : Int))] [] (S0 N) J P) : q_Ev M_W_law room_1 600000 7302250 57 7005 213 [some (.inr (some 0)), some (.inr (some 1)), some (.inr (some 44)), some (.inl ((i : Nat) : Int))] [] (S0 N) I P := by
  obtain ⟨v, I1, I2, hA, hB, hI2, e1, e2⟩ := ho.2.2.2.1 I hI (I 0 (i + 1)) (I 0 (i + 2)) (I 0 (i + 3)) (I 0 (i + 4))
  refine q_aload_n (pc := 213) dW_law_213 rfl ?_
  refine q_aload_n (pc := 214) dW_law_214 rfl ?_
  refine q_iload_n (pc := 215) dW_law_215 rfl ?_
  refine q_iconst (pc := 216) dW_law_216 (by decide) ?_
  refine q_iadd (pc := 217) dW_law_217 rfl ⟨by omega, by omega⟩ ?_
  refine q_sld (i := (i + 1)) (pc := 218) dW_law_218 rfl rfl (by omega) ?_
  refine q_aload_n (pc := 219) dW_law_219 rfl ?_
  refine q_iload_n (pc := 220) dW_law_220 rfl ?_
  refine q_iconst (pc := 221) dW_law_221 (by decide) ?_
  refine q_iadd (pc := 222) dW_law_222 rfl ⟨by omega, by omega⟩ ?_
  refine q_sld (i := (i + 2)) (pc := 223) dW_law_223 rfl rfl (by omega) ?_
  refine q_aload_n (pc := 224) dW_law_224 rfl ?_
  refine q_iload_n (pc := 225) dW_law_225 rfl ?_
  refine q_iconst (pc := 226) dW_law_226 (by decide) ?_
  refine q_iadd (pc := 227) dW_law_227 rfl ⟨by omega, by omega⟩ ?_
  refine q_sld (i := (i + 3)) (pc := 228) dW_law_228 rfl rfl (by omega) ?_
  refine q_aload_n (pc := 229) dW_law_229 rfl ?_
  refine q_iload_n (pc := 230) dW_law_230 rfl ?_
  refine q_iconst (pc := 231) dW_law_231 (by decide) ?_
  refine q_iadd (pc := 232) dW_law_232 rfl ⟨by omega, by omega⟩ ?_
  refine q_sld (i := (i + 4)) (pc := 233) dW_law_233 rfl rfl (by omega) ?_
  refine q_callV1 (pc := 234) dW_law_234 (hA) cd_Q_shift in_Q_shift se_Q_shift ml_W28 rfl (by decide) rfl rfl (Nat.le_of_ble_eq_true rfl) ⟨by decide, by decide⟩ ⟨by decide, by decide⟩ rfl ?_
  have e1j : ∀ j, I1 0 j = I 0 j := fun j => by rw [e1]
  refine q_aload_n (pc := 237) dW_law_237 rfl ?_
  refine q_aload_n (pc := 238) dW_law_238 rfl ?_
  refine q_iload_n (pc := 239) dW_law_239 rfl ?_
  refine q_iconst (pc := 240) dW_law_240 (by decide) ?_
  refine q_iadd (pc := 241) dW_law_241 rfl ⟨by omega, by omega⟩ ?_
  refine q_sld (i := (i + 1)) (pc := 242) dW_law_242 rfl rfl (by omega) ?_
  rw [e1j]
  refine q_aload_n (pc := 243) dW_law_243 rfl ?_
  refine q_iload_n (pc := 244) dW_law_244 rfl ?_
  refine q_iconst (pc := 245) dW_law_245 (by decide) ?_
  refine q_iadd (pc := 246) dW_law_246 rfl ⟨by omega, by omega⟩ ?_
  refine q_sld (i := (i + 2)) (pc := 247) dW_law_247 rfl rfl (by omega) ?_
  rw [e1j]
  refine q_aload_n (pc := 248) dW_law_248 rfl ?_
  refine q_iload_n (pc := 249) dW_law_249 rfl ?_
  refine q_iconst (pc := 250) dW_law_250 (by decide) ?_
  refine q_iadd (pc := 251) dW_law_251 rfl ⟨by omega, by omega⟩ ?_
  refine q_sld (i := (i + 3)) (pc := 252) dW_law_252 rfl rfl (by omega) ?_
  rw [e1j]
  refine q_aload_n (pc := 253) dW_law_253 rfl ?_
  refine q_iload_n (pc := 254) dW_law_254 rfl ?_
  refine q_iconst (pc := 255) dW_law_255 (by decide) ?_
  refine q_iadd (pc := 256) dW_law_256 rfl ⟨by omega, by omega⟩ ?_
  refine q_sld (i := (i + 4)) (pc := 257) dW_law_257 rfl rfl (by omega) ?_
  rw [e1j]
  refine q_callV1 (pc := 258) dW_law_258 (hB) cd_M_shift in_M_shift se_M_shift ml_W32 rfl (by decide) rfl rfl (Nat.le_of_ble_eq_true rfl) ⟨by decide, by decide⟩ ⟨by decide, by decide⟩ rfl ?_
  refine q_icmp_eq (tgt := 691) (pc := 261) dW_law_261 (by decide) (fun _ => K I2 hI2 e2) (fun h => absurd rfl h)
theorem lw_commit {N i : Nat} {Inv : qI → Prop} (ho : oks Inv N) (I : qI) (hI : Inv I) (hN : N ≤ 2560) (hi : i + 5 ≤ N) (P : qP) (K : ∀ J, Inv J → J 0 = I 0 → q_Ev M_W_law room_1 600000 7302250 57 7005 691 [some (.inr (some 0)), some (.inr (some 1)), some (.inr (some 44)), some (.inl ((i : Nat) : Int))] [] (S0 N) J P) : q_Ev M_W_law room_1 600000 7302250 57 7005 266 [some (.inr (some 0)), some (.inr (some 1)), some (.inr (some 44)), some (.inl ((i : Nat) : Int))] [] (S0 N) I P := by
  obtain ⟨v, I1, I2, hA, hB, hI2, e1, e2⟩ := ho.2.2.2.2.1 I hI (I 0 (i + 1))
  refine q_aload_n (pc := 266) dW_law_266 rfl ?_
  refine q_aload_n (pc := 267) dW_law_267 rfl ?_
  refine q_iload_n (pc := 268) dW_law_268 rfl ?_
  refine q_iconst (pc := 269) dW_law_269 (by decide) ?_
  refine q_iadd (pc := 270) dW_law_270 rfl ⟨by omega, by omega⟩ ?_
  refine q_sld (i := (i + 1)) (pc := 271) dW_law_271 rfl rfl (by omega) ?_
  refine q_callV1 (pc := 272) dW_law_272 (hA) cd_Q_commit in_Q_commit se_Q_commit ml_W33 rfl (by decide) rfl rfl (Nat.le_of_ble_eq_true rfl) ⟨by decide, by decide⟩ ⟨by decide, by decide⟩ rfl ?_
  have e1j : ∀ j, I1 0 j = I 0 j := fun j => by rw [e1]
  refine q_aload_n (pc := 275) dW_law_275 rfl ?_
  refine q_aload_n (pc := 276) dW_law_276 rfl ?_
  refine q_iload_n (pc := 277) dW_law_277 rfl ?_
  refine q_iconst (pc := 278) dW_law_278 (by decide) ?_
  refine q_iadd (pc := 279) dW_law_279 rfl ⟨by omega, by omega⟩ ?_
  refine q_sld (i := (i + 1)) (pc := 280) dW_law_280 rfl rfl (by omega) ?_
  rw [e1j]
  refine q_callV1 (pc := 281) dW_law_281 (hB) cd_M_commit in_M_commit se_M_commit ml_W37 rfl (by decide) rfl rfl (Nat.le_of_ble_eq_true rfl) ⟨by decide, by decide⟩ ⟨by decide, by decide⟩ rfl ?_
  refine q_icmp_eq (tgt := 691) (pc := 284) dW_law_284 (by decide) (fun _ => K I2 hI2 e2) (fun h => absurd rfl h)
theorem lw_abort {N i : Nat} {Inv : qI → Prop} (ho : oks Inv N) (I : qI) (hI : Inv I) (hN : N ≤ 2560) (hi : i + 5 ≤ N) (P : qP) (K : ∀ J, Inv J → J 0 = I 0 → q_Ev M_W_law room_1 600000 7302250 57 7005 691 [some (.inr (some 0)), some (.inr (some 1)), some (.inr (some 44)), some (.inl ((i : Nat) : Int))] [] (S0 N) J P) : q_Ev M_W_law room_1 600000 7302250 57 7005 289 [some (.inr (some 0)), some (.inr (some 1)), some (.inr (some 44)), some (.inl ((i : Nat) : Int))] [] (S0 N) I P := by
  obtain ⟨v, I1, I2, hA, hB, hI2, e1, e2⟩ := ho.2.2.2.2.2.1 I hI (I 0 (i + 1))
  refine q_aload_n (pc := 289) dW_law_289 rfl ?_
  refine q_aload_n (pc := 290) dW_law_290 rfl ?_
  refine q_iload_n (pc := 291) dW_law_291 rfl ?_
  refine q_iconst (pc := 292) dW_law_292 (by decide) ?_
  refine q_iadd (pc := 293) dW_law_293 rfl ⟨by omega, by omega⟩ ?_
  refine q_sld (i := (i + 1)) (pc := 294) dW_law_294 rfl rfl (by omega) ?_
  refine q_callV1 (pc := 295) dW_law_295 (hA) cd_Q_abort in_Q_abort se_Q_abort ml_W38 rfl (by decide) rfl rfl (Nat.le_of_ble_eq_true rfl) ⟨by decide, by decide⟩ ⟨by decide, by decide⟩ rfl ?_
  have e1j : ∀ j, I1 0 j = I 0 j := fun j => by rw [e1]
  refine q_aload_n (pc := 298) dW_law_298 rfl ?_
  refine q_aload_n (pc := 299) dW_law_299 rfl ?_
  refine q_iload_n (pc := 300) dW_law_300 rfl ?_
  refine q_iconst (pc := 301) dW_law_301 (by decide) ?_
  refine q_iadd (pc := 302) dW_law_302 rfl ⟨by omega, by omega⟩ ?_
  refine q_sld (i := (i + 1)) (pc := 303) dW_law_303 rfl rfl (by omega) ?_
  rw [e1j]
  refine q_callV1 (pc := 304) dW_law_304 (hB) cd_M_abort in_M_abort se_M_abort ml_W41 rfl (by decide) rfl rfl (Nat.le_of_ble_eq_true rfl) ⟨by decide, by decide⟩ ⟨by decide, by decide⟩ rfl ?_
  refine q_icmp_eq (tgt := 691) (pc := 307) dW_law_307 (by decide) (fun _ => K I2 hI2 e2) (fun h => absurd rfl h)
theorem lw_status {N i : Nat} {Inv : qI → Prop} (ho : oks Inv N) (I : qI) (hI : Inv I) (hN : N ≤ 2560) (hi : i + 5 ≤ N) (P : qP) (K : ∀ J, Inv J → J 0 = I 0 → q_Ev M_W_law room_1 600000 7302250 57 7005 691 [some (.inr (some 0)), some (.inr (some 1)), some (.inr (some 44)), some (.inl ((i : Nat) : Int))] [] (S0 N) J P) : q_Ev M_W_law room_1 600000 7302250 57 7005 312 [some (.inr (some 0)), some (.inr (some 1)), some (.inr (some 44)), some (.inl ((i : Nat) : Int))] [] (S0 N) I P := by
  obtain ⟨v, I1, I2, hA, hB, hI2, e1, e2⟩ := ho.2.2.2.2.2.2.1 I hI (I 0 (i + 1))
  refine q_aload_n (pc := 312) dW_law_312 rfl ?_
  refine q_aload_n (pc := 313) dW_law_313 rfl ?_
  refine q_iload_n (pc := 314) dW_law_314 rfl ?_
  refine q_iconst (pc := 315) dW_law_315 (by decide) ?_
  refine q_iadd (pc := 316) dW_law_316 rfl ⟨by omega, by omega⟩ ?_
  refine q_sld (i := (i + 1)) (pc := 317) dW_law_317 rfl rfl (by omega) ?_
  refine q_callV1 (pc := 318) dW_law_318 (hA) cd_Q_status in_Q_status se_Q_status ml_W42 rfl (by decide) rfl rfl (Nat.le_of_ble_eq_true rfl) ⟨by decide, by decide⟩ ⟨by decide, by decide⟩ rfl ?_
  have e1j : ∀ j, I1 0 j = I 0 j := fun j => by rw [e1]
  refine q_aload_n (pc := 321) dW_law_321 rfl ?_
  refine q_aload_n (pc := 322) dW_law_322 rfl ?_
  refine q_iload_n (pc := 323) dW_law_323 rfl ?_
  refine q_iconst (pc := 324) dW_law_324 (by decide) ?_
  refine q_iadd (pc := 325) dW_law_325 rfl ⟨by omega, by omega⟩ ?_
  refine q_sld (i := (i + 1)) (pc := 326) dW_law_326 rfl rfl (by omega) ?_
  rw [e1j]
  refine q_callV1 (pc := 327) dW_law_327 (hB) cd_M_status in_M_status se_M_status ml_W45 rfl (by decide) rfl rfl (Nat.le_of_ble_eq_true rfl) ⟨by decide, by decide⟩ ⟨by decide, by decide⟩ rfl ?_
  refine q_icmp_eq (tgt := 691) (pc := 330) dW_law_330 (by decide) (fun _ => K I2 hI2 e2) (fun h => absurd rfl h)
theorem lw_deliver {N i : Nat} {Inv : qI → Prop} (ho : oks Inv N) (I : qI) (hI : Inv I) (hN : N ≤ 2560) (hi : i + 5 ≤ N) (P : qP) (K : ∀ J, Inv J → J 0 = I 0 → q_Ev M_W_law room_1 600000 7302250 57 7005 691 [some (.inr (some 0)), some (.inr (some 1)), some (.inr (some 44)), some (.inl ((i : Nat) : Int))] [] (S0 N) J P) : q_Ev M_W_law room_1 600000 7302250 57 7005 335 [some (.inr (some 0)), some (.inr (some 1)), some (.inr (some 44)), some (.inl ((i : Nat) : Int))] [] (S0 N) I P := by
  obtain ⟨v, I1, I2, hA, hB, hI2, e1, e2⟩ := ho.2.2.2.2.2.2.2.1 I hI (I 0 (i + 1)) (I 0 (i + 2))
  refine q_aload_n (pc := 335) dW_law_335 rfl ?_
  refine q_aload_n (pc := 336) dW_law_336 rfl ?_
  refine q_iload_n (pc := 337) dW_law_337 rfl ?_
  refine q_iconst (pc := 338) dW_law_338 (by decide) ?_
  refine q_iadd (pc := 339) dW_law_339 rfl ⟨by omega, by omega⟩ ?_
  refine q_sld (i := (i + 1)) (pc := 340) dW_law_340 rfl rfl (by omega) ?_
  refine q_aload_n (pc := 341) dW_law_341 rfl ?_
  refine q_iload_n (pc := 342) dW_law_342 rfl ?_
  refine q_iconst (pc := 343) dW_law_343 (by decide) ?_
  refine q_iadd (pc := 344) dW_law_344 rfl ⟨by omega, by omega⟩ ?_
  refine q_sld (i := (i + 2)) (pc := 345) dW_law_345 rfl rfl (by omega) ?_
  refine q_callV1 (pc := 346) dW_law_346 (hA) cd_Q_deliver in_Q_deliver se_Q_deliver ml_W46 rfl (by decide) rfl rfl (Nat.le_of_ble_eq_true rfl) ⟨by decide, by decide⟩ ⟨by decide, by decide⟩ rfl ?_
  have e1j : ∀ j, I1 0 j = I 0 j := fun j => by rw [e1]
  refine q_aload_n (pc := 349) dW_law_349 rfl ?_
  refine q_aload_n (pc := 350) dW_law_350 rfl ?_
  refine q_iload_n (pc := 351) dW_law_351 rfl ?_
  refine q_iconst (pc := 352) dW_law_352 (by decide) ?_
  refine q_iadd (pc := 353) dW_law_353 rfl ⟨by omega, by omega⟩ ?_
  refine q_sld (i := (i + 1)) (pc := 354) dW_law_354 rfl rfl (by omega) ?_
  rw [e1j]
  refine q_aload_n (pc := 355) dW_law_355 rfl ?_
  refine q_iload_n (pc := 356) dW_law_356 rfl ?_
  refine q_iconst (pc := 357) dW_law_357 (by decide) ?_
  refine q_iadd (pc := 358) dW_law_358 rfl ⟨by omega, by omega⟩ ?_
  refine q_sld (i := (i + 2)) (pc := 359) dW_law_359 rfl rfl (by omega) ?_
  rw [e1j]
  refine q_callV1 (pc := 360) dW_law_360 (hB) cd_M_deliver in_M_deliver se_M_deliver ml_W49 rfl (by decide) rfl rfl (Nat.le_of_ble_eq_true rfl) ⟨by decide, by decide⟩ ⟨by decide, by decide⟩ rfl ?_
  refine q_icmp_eq (tgt := 691) (pc := 363) dW_law_363 (by decide) (fun _ => K I2 hI2 e2) (fun h => absurd rfl h)
theorem lw_gossip {N i : Nat} {Inv : qI → Prop} (ho : oks Inv N) (I : qI) (hI : Inv I) (hN : N ≤ 2560) (hi : i + 5 ≤ N) (P : qP) (K : ∀ J, Inv J → J 0 = I 0 → q_Ev M_W_law room_1 600000 7302250 57 7005 691 [some (.inr (some 0)), some (.inr (some 1)), some (.inr (some 44)), some (.inl ((i : Nat) : Int))] [] (S0 N) J P) : q_Ev M_W_law room_1 600000 7302250 57 7005 368 [some (.inr (some 0)), some (.inr (some 1)), some (.inr (some 44)), some (.inl ((i : Nat) : Int))] [] (S0 N) I P := by
  obtain ⟨v, I1, I2, hA, hB, hI2, e1, e2⟩ := ho.2.2.2.2.2.2.2.2.1 I hI (I 0 (i + 1)) (I 0 (i + 2)) (I 0 (i + 3))
  refine q_aload_n (pc := 368) dW_law_368 rfl ?_
  refine q_aload_n (pc := 369) dW_law_369 rfl ?_
  refine q_iload_n (pc := 370) dW_law_370 rfl ?_
  refine q_iconst (pc := 371) dW_law_371 (by decide) ?_
  refine q_iadd (pc := 372) dW_law_372 rfl ⟨by omega, by omega⟩ ?_
  refine q_sld (i := (i + 1)) (pc := 373) dW_law_373 rfl rfl (by omega) ?_
  refine q_aload_n (pc := 374) dW_law_374 rfl ?_
  refine q_iload_n (pc := 375) dW_law_375 rfl ?_
  refine q_iconst (pc := 376) dW_law_376 (by decide) ?_
  refine q_iadd (pc := 377) dW_law_377 rfl ⟨by omega, by omega⟩ ?_
  refine q_sld (i := (i + 2)) (pc := 378) dW_law_378 rfl rfl (by omega) ?_
  refine q_aload_n (pc := 379) dW_law_379 rfl ?_
  refine q_iload_n (pc := 380) dW_law_380 rfl ?_
  refine q_iconst (pc := 381) dW_law_381 (by decide) ?_
  refine q_iadd (pc := 382) dW_law_382 rfl ⟨by omega, by omega⟩ ?_
  refine q_sld (i := (i + 3)) (pc := 383) dW_law_383 rfl rfl (by omega) ?_
  refine q_callV1 (pc := 384) dW_law_384 (hA) cd_Q_gossip in_Q_gossip se_Q_gossip ml_W50 rfl (by decide) rfl rfl (Nat.le_of_ble_eq_true rfl) ⟨by decide, by decide⟩ ⟨by decide, by decide⟩ rfl ?_
  have e1j : ∀ j, I1 0 j = I 0 j := fun j => by rw [e1]
  refine q_aload_n (pc := 387) dW_law_387 rfl ?_
  refine q_aload_n (pc := 388) dW_law_388 rfl ?_
  refine q_iload_n (pc := 389) dW_law_389 rfl ?_
  refine q_iconst (pc := 390) dW_law_390 (by decide) ?_
  refine q_iadd (pc := 391) dW_law_391 rfl ⟨by omega, by omega⟩ ?_
  refine q_sld (i := (i + 1)) (pc := 392) dW_law_392 rfl rfl (by omega) ?_
  rw [e1j]
  refine q_aload_n (pc := 393) dW_law_393 rfl ?_
  refine q_iload_n (pc := 394) dW_law_394 rfl ?_
  refine q_iconst (pc := 395) dW_law_395 (by decide) ?_
  refine q_iadd (pc := 396) dW_law_396 rfl ⟨by omega, by omega⟩ ?_
  refine q_sld (i := (i + 2)) (pc := 397) dW_law_397 rfl rfl (by omega) ?_
  rw [e1j]
  refine q_aload_n (pc := 398) dW_law_398 rfl ?_
  refine q_iload_n (pc := 399) dW_law_399 rfl ?_
  refine q_iconst (pc := 400) dW_law_400 (by decide) ?_
  refine q_iadd (pc := 401) dW_law_401 rfl ⟨by omega, by omega⟩ ?_
  refine q_sld (i := (i + 3)) (pc := 402) dW_law_402 rfl rfl (by omega) ?_
  rw [e1j]
  refine q_callV1 (pc := 403) dW_law_403 (hB) cd_M_gossip in_M_gossip se_M_gossip ml_W53 rfl (by decide) rfl rfl (Nat.le_of_ble_eq_true rfl) ⟨by decide, by decide⟩ ⟨by decide, by decide⟩ rfl ?_
  refine q_icmp_eq (tgt := 691) (pc := 406) dW_law_406 (by decide) (fun _ => K I2 hI2 e2) (fun h => absurd rfl h)
theorem lw_report {N i : Nat} {Inv : qI → Prop} (ho : oks Inv N) (I : qI) (hI : Inv I) (hN : N ≤ 2560) (hi : i + 5 ≤ N) (P : qP) (K : ∀ J, Inv J → J 0 = I 0 → q_Ev M_W_law room_1 600000 7302250 57 7005 691 [some (.inr (some 0)), some (.inr (some 1)), some (.inr (some 44)), some (.inl ((i : Nat) : Int))] [] (S0 N) J P) : q_Ev M_W_law room_1 600000 7302250 57 7005 411 [some (.inr (some 0)), some (.inr (some 1)), some (.inr (some 44)), some (.inl ((i : Nat) : Int))] [] (S0 N) I P := by
  obtain ⟨v, I1, I2, hA, hB, hI2, e1, e2⟩ := ho.2.2.2.2.2.2.2.2.2.1 I hI (I 0 (i + 1)) (I 0 (i + 2))
  refine q_aload_n (pc := 411) dW_law_411 rfl ?_
  refine q_aload_n (pc := 412) dW_law_412 rfl ?_
  refine q_iload_n (pc := 413) dW_law_413 rfl ?_
  refine q_iconst (pc := 414) dW_law_414 (by decide) ?_
  refine q_iadd (pc := 415) dW_law_415 rfl ⟨by omega, by omega⟩ ?_
  refine q_sld (i := (i + 1)) (pc := 416) dW_law_416 rfl rfl (by omega) ?_
  refine q_aload_n (pc := 417) dW_law_417 rfl ?_
  refine q_iload_n (pc := 418) dW_law_418 rfl ?_
  refine q_iconst (pc := 419) dW_law_419 (by decide) ?_
  refine q_iadd (pc := 420) dW_law_420 rfl ⟨by omega, by omega⟩ ?_
  refine q_sld (i := (i + 2)) (pc := 421) dW_law_421 rfl rfl (by omega) ?_
  refine q_callV1 (pc := 422) dW_law_422 (hA) cd_Q_report in_Q_report se_Q_report ml_W54 rfl (by decide) rfl rfl (Nat.le_of_ble_eq_true rfl) ⟨by decide, by decide⟩ ⟨by decide, by decide⟩ rfl ?_
  have e1j : ∀ j, I1 0 j = I 0 j := fun j => by rw [e1]
  refine q_aload_n (pc := 425) dW_law_425 rfl ?_
  refine q_aload_n (pc := 426) dW_law_426 rfl ?_
  refine q_iload_n (pc := 427) dW_law_427 rfl ?_
  refine q_iconst (pc := 428) dW_law_428 (by decide) ?_
  refine q_iadd (pc := 429) dW_law_429 rfl ⟨by omega, by omega⟩ ?_
  refine q_sld (i := (i + 1)) (pc := 430) dW_law_430 rfl rfl (by omega) ?_
  rw [e1j]
  refine q_aload_n (pc := 431) dW_law_431 rfl ?_
  refine q_iload_n (pc := 432) dW_law_432 rfl ?_
  refine q_iconst (pc := 433) dW_law_433 (by decide) ?_
  refine q_iadd (pc := 434) dW_law_434 rfl ⟨by omega, by omega⟩ ?_
  refine q_sld (i := (i + 2)) (pc := 435) dW_law_435 rfl rfl (by omega) ?_
  rw [e1j]
  refine q_callV1 (pc := 436) dW_law_436 (hB) cd_M_report in_M_report se_M_report ml_W57 rfl (by decide) rfl rfl (Nat.le_of_ble_eq_true rfl) ⟨by decide, by decide⟩ ⟨by decide, by decide⟩ rfl ?_
  refine q_icmp_eq (tgt := 691) (pc := 439) dW_law_439 (by decide) (fun _ => K I2 hI2 e2) (fun h => absurd rfl h)
theorem lw_fault {N i : Nat} {Inv : qI → Prop} (ho : oks Inv N) (I : qI) (hI : Inv I) (hN : N ≤ 2560) (hi : i + 5 ≤ N) (P : qP) (K : ∀ J, Inv J → J 0 = I 0 → q_Ev M_W_law room_1 600000 7302250 57 7005 691 [some (.inr (some 0)), some (.inr (some 1)), some (.inr (some 44)), some (.inl ((i : Nat) : Int))] [] (S0 N) J P) : q_Ev M_W_law room_1 600000 7302250 57 7005 444 [some (.inr (some 0)), some (.inr (some 1)), some (.inr (some 44)), some (.inl ((i : Nat) : Int))] [] (S0 N) I P := by
  obtain ⟨v, I1, I2, hA, hB, hI2, e1, e2⟩ := ho.2.2.2.2.2.2.2.2.2.2.1 I hI (I 0 (i + 1)) (I 0 (i + 2)) (I 0 (i + 3))
  refine q_aload_n (pc := 444) dW_law_444 rfl ?_
  refine q_aload_n (pc := 445) dW_law_445 rfl ?_
  refine q_iload_n (pc := 446) dW_law_446 rfl ?_
  refine q_iconst (pc := 447) dW_law_447 (by decide) ?_
  refine q_iadd (pc := 448) dW_law_448 rfl ⟨by omega, by omega⟩ ?_
  refine q_sld (i := (i + 1)) (pc := 449) dW_law_449 rfl rfl (by omega) ?_
  refine q_aload_n (pc := 450) dW_law_450 rfl ?_
  refine q_iload_n (pc := 451) dW_law_451 rfl ?_
  refine q_iconst (pc := 452) dW_law_452 (by decide) ?_
  refine q_iadd (pc := 453) dW_law_453 rfl ⟨by omega, by omega⟩ ?_
  refine q_sld (i := (i + 2)) (pc := 454) dW_law_454 rfl rfl (by omega) ?_
  refine q_aload_n (pc := 455) dW_law_455 rfl ?_
  refine q_iload_n (pc := 456) dW_law_456 rfl ?_
  refine q_iconst (pc := 457) dW_law_457 (by decide) ?_
  refine q_iadd (pc := 458) dW_law_458 rfl ⟨by omega, by omega⟩ ?_
  refine q_sld (i := (i + 3)) (pc := 459) dW_law_459 rfl rfl (by omega) ?_
  refine q_callV1 (pc := 460) dW_law_460 (hA) cd_Q_fault in_Q_fault se_Q_fault ml_W58 rfl (by decide) rfl rfl (Nat.le_of_ble_eq_true rfl) ⟨by decide, by decide⟩ ⟨by decide, by decide⟩ rfl ?_
  have e1j : ∀ j, I1 0 j = I 0 j := fun j => by rw [e1]
  refine q_aload_n (pc := 463) dW_law_463 rfl ?_
  refine q_aload_n (pc := 464) dW_law_464 rfl ?_
  refine q_iload_n (pc := 465) dW_law_465 rfl ?_
  refine q_iconst (pc := 466) dW_law_466 (by decide) ?_
  refine q_iadd (pc := 467) dW_law_467 rfl ⟨by omega, by omega⟩ ?_
  refine q_sld (i := (i + 1)) (pc := 468) dW_law_468 rfl rfl (by omega) ?_
  rw [e1j]
  refine q_aload_n (pc := 469) dW_law_469 rfl ?_
  refine q_iload_n (pc := 470) dW_law_470 rfl ?_
  refine q_iconst (pc := 471) dW_law_471 (by decide) ?_
  refine q_iadd (pc := 472) dW_law_472 rfl ⟨by omega, by omega⟩ ?_
  refine q_sld (i := (i + 2)) (pc := 473) dW_law_473 rfl rfl (by omega) ?_
  rw [e1j]
  refine q_aload_n (pc := 474) dW_law_474 rfl ?_
  refine q_iload_n (pc := 475) dW_law_475 rfl ?_
  refine q_iconst (pc := 476) dW_law_476 (by decide) ?_
  refine q_iadd (pc := 477) dW_law_477 rfl ⟨by omega, by omega⟩ ?_
  refine q_sld (i := (i + 3)) (pc := 478) dW_law_478 rfl rfl (by omega) ?_
  rw [e1j]
  refine q_callV1 (pc := 479) dW_law_479 (hB) cd_M_fault in_M_fault se_M_fault ml_W62 rfl (by decide) rfl rfl (Nat.le_of_ble_eq_true rfl) ⟨by decide, by decide⟩ ⟨by decide, by decide⟩ rfl ?_
  refine q_icmp_eq (tgt := 691) (pc := 482) dW_law_482 (by decide) (fun _ => K I2 hI2 e2) (fun h => absurd rfl h)
theorem lw_crash {N i : Nat} {Inv : qI → Prop} (ho : oks Inv N) (I : qI) (hI : Inv I) (hN : N ≤ 2560) (hi : i + 5 ≤ N) (P : qP) (K : ∀ J, Inv J → J 0 = I 0 → q_Ev M_W_law room_1 600000 7302250 57 7005 691 [some (.inr (some 0)), some (.inr (some 1)), some (.inr (some 44)), some (.inl ((i : Nat) : Int))] [] (S0 N) J P) : q_Ev M_W_law room_1 600000 7302250 57 7005 487 [some (.inr (some 0)), some (.inr (some 1)), some (.inr (some 44)), some (.inl ((i : Nat) : Int))] [] (S0 N) I P := by
  obtain ⟨v, I1, I2, hA, hB, hI2, e1, e2⟩ := ho.2.2.2.2.2.2.2.2.2.2.2.1 I hI 
  refine q_aload_n (pc := 487) dW_law_487 rfl ?_
  refine q_callV1 (pc := 488) dW_law_488 (hA) cd_Q_crash in_Q_crash se_Q_crash ml_W63 rfl (by decide) rfl rfl (Nat.le_of_ble_eq_true rfl) ⟨by decide, by decide⟩ ⟨by decide, by decide⟩ rfl ?_
  refine q_aload_n (pc := 491) dW_law_491 rfl ?_
  refine q_callV1 (pc := 492) dW_law_492 (hB) cd_M_crash in_M_crash se_M_crash ml_W67 rfl (by decide) rfl rfl (Nat.le_of_ble_eq_true rfl) ⟨by decide, by decide⟩ ⟨by decide, by decide⟩ rfl ?_
  refine q_icmp_eq (tgt := 691) (pc := 495) dW_law_495 (by decide) (fun _ => K I2 hI2 e2) (fun h => absurd rfl h)
theorem lw_recover {N i : Nat} {Inv : qI → Prop} (ho : oks Inv N) (I : qI) (hI : Inv I) (hN : N ≤ 2560) (hi : i + 5 ≤ N) (P : qP) (K : ∀ J, Inv J → J 0 = I 0 → q_Ev M_W_law room_1 600000 7302250 57 7005 691 [some (.inr (some 0)), some (.inr (some 1)), some (.inr (some 44)), some (.inl ((i : Nat) : Int))] [] (S0 N) J P) : q_Ev M_W_law room_1 600000 7302250 57 7005 500 [some (.inr (some 0)), some (.inr (some 1)), some (.inr (some 44)), some (.inl ((i : Nat) : Int))] [] (S0 N) I P := by
  obtain ⟨v, I1, I2, hA, hB, hI2, e1, e2⟩ := ho.2.2.2.2.2.2.2.2.2.2.2.2.1 I hI 
  refine q_aload_n (pc := 500) dW_law_500 rfl ?_
  refine q_callV1 (pc := 501) dW_law_501 (hA) cd_Q_recover in_Q_recover se_Q_recover ml_W68 rfl (by decide) rfl rfl (Nat.le_of_ble_eq_true rfl) ⟨by decide, by decide⟩ ⟨by decide, by decide⟩ rfl ?_
  refine q_aload_n (pc := 504) dW_law_504 rfl ?_
  refine q_callV1 (pc := 505) dW_law_505 (hB) cd_M_recover in_M_recover se_M_recover ml_W71 rfl (by decide) rfl rfl (Nat.le_of_ble_eq_true rfl) ⟨by decide, by decide⟩ ⟨by decide, by decide⟩ rfl ?_
  refine q_icmp_eq (tgt := 691) (pc := 508) dW_law_508 (by decide) (fun _ => K I2 hI2 e2) (fun h => absurd rfl h)
theorem lw_point {N i : Nat} {Inv : qI → Prop} (ho : oks Inv N) (I : qI) (hI : Inv I) (hN : N ≤ 2560) (hi : i + 5 ≤ N) (P : qP) (K : ∀ J, Inv J → J 0 = I 0 → q_Ev M_W_law room_1 600000 7302250 57 7005 691 [some (.inr (some 0)), some (.inr (some 1)), some (.inr (some 44)), some (.inl ((i : Nat) : Int))] [] (S0 N) J P) : q_Ev M_W_law room_1 600000 7302250 57 7005 513 [some (.inr (some 0)), some (.inr (some 1)), some (.inr (some 44)), some (.inl ((i : Nat) : Int))] [] (S0 N) I P := by
  obtain ⟨v, I1, I2, hA, hB, hI2, e1, e2⟩ := ho.2.2.2.2.2.2.2.2.2.2.2.2.2.1 I hI (I 0 (i + 1))
  refine q_aload_n (pc := 513) dW_law_513 rfl ?_
  refine q_aload_n (pc := 514) dW_law_514 rfl ?_
  refine q_iload_n (pc := 515) dW_law_515 rfl ?_
  refine q_iconst (pc := 516) dW_law_516 (by decide) ?_
  refine q_iadd (pc := 517) dW_law_517 rfl ⟨by omega, by omega⟩ ?_
  refine q_sld (i := (i + 1)) (pc := 518) dW_law_518 rfl rfl (by omega) ?_
  refine q_callV1 (pc := 519) dW_law_519 (hA) cd_Q_point in_Q_point se_Q_point ml_W72 rfl (by decide) rfl rfl (Nat.le_of_ble_eq_true rfl) ⟨by decide, by decide⟩ ⟨by decide, by decide⟩ rfl ?_
  have e1j : ∀ j, I1 0 j = I 0 j := fun j => by rw [e1]
  refine q_aload_n (pc := 522) dW_law_522 rfl ?_
  refine q_aload_n (pc := 523) dW_law_523 rfl ?_
  refine q_iload_n (pc := 524) dW_law_524 rfl ?_
  refine q_iconst (pc := 525) dW_law_525 (by decide) ?_
  refine q_iadd (pc := 526) dW_law_526 rfl ⟨by omega, by omega⟩ ?_
  refine q_sld (i := (i + 1)) (pc := 527) dW_law_527 rfl rfl (by omega) ?_
  rw [e1j]
  refine q_callV1 (pc := 528) dW_law_528 (hB) cd_M_point in_M_point se_M_point ml_W75 rfl (by decide) rfl rfl (Nat.le_of_ble_eq_true rfl) ⟨by decide, by decide⟩ ⟨by decide, by decide⟩ rfl ?_
  refine q_icmp_eq (tgt := 691) (pc := 531) dW_law_531 (by decide) (fun _ => K I2 hI2 e2) (fun h => absurd rfl h)
theorem lw_copy {N i : Nat} {Inv : qI → Prop} (ho : oks Inv N) (I : qI) (hI : Inv I) (hN : N ≤ 2560) (hi : i + 5 ≤ N) (P : qP) (K : ∀ J, Inv J → J 0 = I 0 → q_Ev M_W_law room_1 600000 7302250 57 7005 691 [some (.inr (some 0)), some (.inr (some 1)), some (.inr (some 44)), some (.inl ((i : Nat) : Int))] [] (S0 N) J P) : q_Ev M_W_law room_1 600000 7302250 57 7005 536 [some (.inr (some 0)), some (.inr (some 1)), some (.inr (some 44)), some (.inl ((i : Nat) : Int))] [] (S0 N) I P := by
  obtain ⟨v, I1, I2, hA, hB, hI2, e1, e2⟩ := ho.2.2.2.2.2.2.2.2.2.2.2.2.2.2.1 I hI (I 0 (i + 1)) (I 0 (i + 2)) (I 0 (i + 3))
  refine q_aload_n (pc := 536) dW_law_536 rfl ?_
  refine q_aload_n (pc := 537) dW_law_537 rfl ?_
  refine q_iload_n (pc := 538) dW_law_538 rfl ?_
  refine q_iconst (pc := 539) dW_law_539 (by decide) ?_
  refine q_iadd (pc := 540) dW_law_540 rfl ⟨by omega, by omega⟩ ?_
  refine q_sld (i := (i + 1)) (pc := 541) dW_law_541 rfl rfl (by omega) ?_
  refine q_aload_n (pc := 542) dW_law_542 rfl ?_
  refine q_iload_n (pc := 543) dW_law_543 rfl ?_
  refine q_iconst (pc := 544) dW_law_544 (by decide) ?_
  refine q_iadd (pc := 545) dW_law_545 rfl ⟨by omega, by omega⟩ ?_
  refine q_sld (i := (i + 2)) (pc := 546) dW_law_546 rfl rfl (by omega) ?_
  refine q_aload_n (pc := 547) dW_law_547 rfl ?_
  refine q_iload_n (pc := 548) dW_law_548 rfl ?_
  refine q_iconst (pc := 549) dW_law_549 (by decide) ?_
  refine q_iadd (pc := 550) dW_law_550 rfl ⟨by omega, by omega⟩ ?_
  refine q_sld (i := (i + 3)) (pc := 551) dW_law_551 rfl rfl (by omega) ?_
  refine q_callV1 (pc := 552) dW_law_552 (hA) cd_Q_copy in_Q_copy se_Q_copy ml_W76 rfl (by decide) rfl rfl (Nat.le_of_ble_eq_true rfl) ⟨by decide, by decide⟩ ⟨by decide, by decide⟩ rfl ?_
  have e1j : ∀ j, I1 0 j = I 0 j := fun j => by rw [e1]
  refine q_aload_n (pc := 555) dW_law_555 rfl ?_
  refine q_aload_n (pc := 556) dW_law_556 rfl ?_
  refine q_iload_n (pc := 557) dW_law_557 rfl ?_
  refine q_iconst (pc := 558) dW_law_558 (by decide) ?_
  refine q_iadd (pc := 559) dW_law_559 rfl ⟨by omega, by omega⟩ ?_
  refine q_sld (i := (i + 1)) (pc := 560) dW_law_560 rfl rfl (by omega) ?_
  rw [e1j]
  refine q_aload_n (pc := 561) dW_law_561 rfl ?_
  refine q_iload_n (pc := 562) dW_law_562 rfl ?_
  refine q_iconst (pc := 563) dW_law_563 (by decide) ?_
  refine q_iadd (pc := 564) dW_law_564 rfl ⟨by omega, by omega⟩ ?_
  refine q_sld (i := (i + 2)) (pc := 565) dW_law_565 rfl rfl (by omega) ?_
  rw [e1j]
  refine q_aload_n (pc := 566) dW_law_566 rfl ?_
  refine q_iload_n (pc := 567) dW_law_567 rfl ?_
  refine q_iconst (pc := 568) dW_law_568 (by decide) ?_
  refine q_iadd (pc := 569) dW_law_569 rfl ⟨by omega, by omega⟩ ?_
  refine q_sld (i := (i + 3)) (pc := 570) dW_law_570 rfl rfl (by omega) ?_
  rw [e1j]
  refine q_callV1 (pc := 571) dW_law_571 (hB) cd_M_copy in_M_copy se_M_copy ml_W79 rfl (by decide) rfl rfl (Nat.le_of_ble_eq_true rfl) ⟨by decide, by decide⟩ ⟨by decide, by decide⟩ rfl ?_
  refine q_icmp_eq (tgt := 691) (pc := 574) dW_law_574 (by decide) (fun _ => K I2 hI2 e2) (fun h => absurd rfl h)
theorem lw_follow {N i : Nat} {Inv : qI → Prop} (ho : oks Inv N) (I : qI) (hI : Inv I) (hN : N ≤ 2560) (hi : i + 5 ≤ N) (P : qP) (K : ∀ J, Inv J → J 0 = I 0 → q_Ev M_W_law room_1 600000 7302250 57 7005 691 [some (.inr (some 0)), some (.inr (some 1)), some (.inr (some 44)), some (.inl ((i : Nat) : Int))] [] (S0 N) J P) : q_Ev M_W_law room_1 600000 7302250 57 7005 579 [some (.inr (some 0)), some (.inr (some 1)), some (.inr (some 44)), some (.inl ((i : Nat) : Int))] [] (S0 N) I P := by
  obtain ⟨v, I1, I2, hA, hB, hI2, e1, e2⟩ := ho.2.2.2.2.2.2.2.2.2.2.2.2.2.2.2.1 I hI (I 0 (i + 1))
  refine q_aload_n (pc := 579) dW_law_579 rfl ?_
  refine q_aload_n (pc := 580) dW_law_580 rfl ?_
  refine q_iload_n (pc := 581) dW_law_581 rfl ?_
  refine q_iconst (pc := 582) dW_law_582 (by decide) ?_
  refine q_iadd (pc := 583) dW_law_583 rfl ⟨by omega, by omega⟩ ?_
  refine q_sld (i := (i + 1)) (pc := 584) dW_law_584 rfl rfl (by omega) ?_
  refine q_callV1 (pc := 585) dW_law_585 (hA) cd_Q_follow in_Q_follow se_Q_follow ml_W80 rfl (by decide) rfl rfl (Nat.le_of_ble_eq_true rfl) ⟨by decide, by decide⟩ ⟨by decide, by decide⟩ rfl ?_
  have e1j : ∀ j, I1 0 j = I 0 j := fun j => by rw [e1]
  refine q_aload_n (pc := 588) dW_law_588 rfl ?_
  refine q_aload_n (pc := 589) dW_law_589 rfl ?_
  refine q_iload_n (pc := 590) dW_law_590 rfl ?_
  refine q_iconst (pc := 591) dW_law_591 (by decide) ?_
  refine q_iadd (pc := 592) dW_law_592 rfl ⟨by omega, by omega⟩ ?_
  refine q_sld (i := (i + 1)) (pc := 593) dW_law_593 rfl rfl (by omega) ?_
  rw [e1j]
  refine q_callV1 (pc := 594) dW_law_594 (hB) cd_M_follow in_M_follow se_M_follow ml_W83 rfl (by decide) rfl rfl (Nat.le_of_ble_eq_true rfl) ⟨by decide, by decide⟩ ⟨by decide, by decide⟩ rfl ?_
  refine q_icmp_eq (tgt := 691) (pc := 597) dW_law_597 (by decide) (fun _ => K I2 hI2 e2) (fun h => absurd rfl h)
theorem lw_view {N i : Nat} {Inv : qI → Prop} (ho : oks Inv N) (I : qI) (hI : Inv I) (hN : N ≤ 2560) (hi : i + 5 ≤ N) (P : qP) (K : ∀ J, Inv J → J 0 = I 0 → q_Ev M_W_law room_1 600000 7302250 57 7005 691 [some (.inr (some 0)), some (.inr (some 1)), some (.inr (some 44)), some (.inl ((i : Nat) : Int))] [] (S0 N) J P) : q_Ev M_W_law room_1 600000 7302250 57 7005 602 [some (.inr (some 0)), some (.inr (some 1)), some (.inr (some 44)), some (.inl ((i : Nat) : Int))] [] (S0 N) I P := by
  obtain ⟨v, I1, I2, hA, hB, hI2, e1, e2⟩ := ho.2.2.2.2.2.2.2.2.2.2.2.2.2.2.2.2.1 I hI (I 0 (i + 1)) (I 0 (i + 2))
  refine q_aload_n (pc := 602) dW_law_602 rfl ?_
  refine q_aload_n (pc := 603) dW_law_603 rfl ?_
  refine q_iload_n (pc := 604) dW_law_604 rfl ?_
  refine q_iconst (pc := 605) dW_law_605 (by decide) ?_
  refine q_iadd (pc := 606) dW_law_606 rfl ⟨by omega, by omega⟩ ?_
  refine q_sld (i := (i + 1)) (pc := 607) dW_law_607 rfl rfl (by omega) ?_
  refine q_aload_n (pc := 608) dW_law_608 rfl ?_
  refine q_iload_n (pc := 609) dW_law_609 rfl ?_
  refine q_iconst (pc := 610) dW_law_610 (by decide) ?_
  refine q_iadd (pc := 611) dW_law_611 rfl ⟨by omega, by omega⟩ ?_
  refine q_sld (i := (i + 2)) (pc := 612) dW_law_612 rfl rfl (by omega) ?_
  refine q_callV1 (pc := 613) dW_law_613 (hA) cd_Q_view in_Q_view se_Q_view ml_W84 rfl (by decide) rfl rfl (Nat.le_of_ble_eq_true rfl) ⟨by decide, by decide⟩ ⟨by decide, by decide⟩ rfl ?_
  have e1j : ∀ j, I1 0 j = I 0 j := fun j => by rw [e1]
  refine q_aload_n (pc := 616) dW_law_616 rfl ?_
  refine q_aload_n (pc := 617) dW_law_617 rfl ?_
  refine q_iload_n (pc := 618) dW_law_618 rfl ?_
  refine q_iconst (pc := 619) dW_law_619 (by decide) ?_
  refine q_iadd (pc := 620) dW_law_620 rfl ⟨by omega, by omega⟩ ?_
  refine q_sld (i := (i + 1)) (pc := 621) dW_law_621 rfl rfl (by omega) ?_
  rw [e1j]
  refine q_aload_n (pc := 622) dW_law_622 rfl ?_
  refine q_iload_n (pc := 623) dW_law_623 rfl ?_
  refine q_iconst (pc := 624) dW_law_624 (by decide) ?_
  refine q_iadd (pc := 625) dW_law_625 rfl ⟨by omega, by omega⟩ ?_
  refine q_sld (i := (i + 2)) (pc := 626) dW_law_626 rfl rfl (by omega) ?_
  rw [e1j]
  refine q_callV1 (pc := 627) dW_law_627 (hB) cd_M_view in_M_view se_M_view ml_W87 rfl (by decide) rfl rfl (Nat.le_of_ble_eq_true rfl) ⟨by decide, by decide⟩ ⟨by decide, by decide⟩ rfl ?_
  refine q_icmp_eq (tgt := 691) (pc := 630) dW_law_630 (by decide) (fun _ => K I2 hI2 e2) (fun h => absurd rfl h)
theorem lw_collect {N i : Nat} {Inv : qI → Prop} (ho : oks Inv N) (I : qI) (hI : Inv I) (hN : N ≤ 2560) (hi : i + 5 ≤ N) (P : qP) (K : ∀ J, Inv J → J 0 = I 0 → q_Ev M_W_law room_1 600000 7302250 57 7005 691 [some (.inr (some 0)), some (.inr (some 1)), some (.inr (some 44)), some (.inl ((i : Nat) : Int))] [] (S0 N) J P) : q_Ev M_W_law room_1 600000 7302250 57 7005 635 [some (.inr (some 0)), some (.inr (some 1)), some (.inr (some 44)), some (.inl ((i : Nat) : Int))] [] (S0 N) I P := by
  obtain ⟨v, I1, I2, hA, hB, hI2, e1, e2⟩ := ho.2.2.2.2.2.2.2.2.2.2.2.2.2.2.2.2.2.1 I hI (I 0 (i + 1)) (I 0 (i + 2))
  refine q_aload_n (pc := 635) dW_law_635 rfl ?_
  refine q_aload_n (pc := 636) dW_law_636 rfl ?_
  refine q_iload_n (pc := 637) dW_law_637 rfl ?_
  refine q_iconst (pc := 638) dW_law_638 (by decide) ?_
  refine q_iadd (pc := 639) dW_law_639 rfl ⟨by omega, by omega⟩ ?_
  refine q_sld (i := (i + 1)) (pc := 640) dW_law_640 rfl rfl (by omega) ?_
  refine q_aload_n (pc := 641) dW_law_641 rfl ?_
  refine q_iload_n (pc := 642) dW_law_642 rfl ?_
  refine q_iconst (pc := 643) dW_law_643 (by decide) ?_
  refine q_iadd (pc := 644) dW_law_644 rfl ⟨by omega, by omega⟩ ?_
  refine q_sld (i := (i + 2)) (pc := 645) dW_law_645 rfl rfl (by omega) ?_
  refine q_callV1 (pc := 646) dW_law_646 (hA) cd_Q_collect in_Q_collect se_Q_collect ml_W88 rfl (by decide) rfl rfl (Nat.le_of_ble_eq_true rfl) ⟨by decide, by decide⟩ ⟨by decide, by decide⟩ rfl ?_
  have e1j : ∀ j, I1 0 j = I 0 j := fun j => by rw [e1]
  refine q_aload_n (pc := 649) dW_law_649 rfl ?_
  refine q_aload_n (pc := 650) dW_law_650 rfl ?_
  refine q_iload_n (pc := 651) dW_law_651 rfl ?_
  refine q_iconst (pc := 652) dW_law_652 (by decide) ?_
  refine q_iadd (pc := 653) dW_law_653 rfl ⟨by omega, by omega⟩ ?_
  refine q_sld (i := (i + 1)) (pc := 654) dW_law_654 rfl rfl (by omega) ?_
  rw [e1j]
  refine q_aload_n (pc := 655) dW_law_655 rfl ?_
  refine q_iload_n (pc := 656) dW_law_656 rfl ?_
  refine q_iconst (pc := 657) dW_law_657 (by decide) ?_
  refine q_iadd (pc := 658) dW_law_658 rfl ⟨by omega, by omega⟩ ?_
  refine q_sld (i := (i + 2)) (pc := 659) dW_law_659 rfl rfl (by omega) ?_
  rw [e1j]
  refine q_callV1 (pc := 660) dW_law_660 (hB) cd_M_collect in_M_collect se_M_collect ml_W91 rfl (by decide) rfl rfl (Nat.le_of_ble_eq_true rfl) ⟨by decide, by decide⟩ ⟨by decide, by decide⟩ rfl ?_
  refine q_icmp_eq (tgt := 691) (pc := 663) dW_law_663 (by decide) (fun _ => K I2 hI2 e2) (fun h => absurd rfl h)
theorem lw_cached {N i : Nat} {Inv : qI → Prop} (ho : oks Inv N) (I : qI) (hI : Inv I) (hN : N ≤ 2560) (hi : i + 5 ≤ N) (P : qP) (K : ∀ J, Inv J → J 0 = I 0 → q_Ev M_W_law room_1 600000 7302250 57 7005 691 [some (.inr (some 0)), some (.inr (some 1)), some (.inr (some 44)), some (.inl ((i : Nat) : Int))] [] (S0 N) J P) : q_Ev M_W_law room_1 600000 7302250 57 7005 668 [some (.inr (some 0)), some (.inr (some 1)), some (.inr (some 44)), some (.inl ((i : Nat) : Int))] [] (S0 N) I P := by
  obtain ⟨v, I1, I2, hA, hB, hI2, e1, e2⟩ := ho.2.2.2.2.2.2.2.2.2.2.2.2.2.2.2.2.2.2 I hI (I 0 (i + 1))
  refine q_aload_n (pc := 668) dW_law_668 rfl ?_
  refine q_aload_n (pc := 669) dW_law_669 rfl ?_
  refine q_iload_n (pc := 670) dW_law_670 rfl ?_
  refine q_iconst (pc := 671) dW_law_671 (by decide) ?_
  refine q_iadd (pc := 672) dW_law_672 rfl ⟨by omega, by omega⟩ ?_
  refine q_sld (i := (i + 1)) (pc := 673) dW_law_673 rfl rfl (by omega) ?_
  refine q_callV1 (pc := 674) dW_law_674 (hA) cd_Q_cached in_Q_cached se_Q_cached ml_W92 rfl (by decide) rfl rfl (Nat.le_of_ble_eq_true rfl) ⟨by decide, by decide⟩ ⟨by decide, by decide⟩ rfl ?_
  have e1j : ∀ j, I1 0 j = I 0 j := fun j => by rw [e1]
  refine q_aload_n (pc := 677) dW_law_677 rfl ?_
  refine q_aload_n (pc := 678) dW_law_678 rfl ?_
  refine q_iload_n (pc := 679) dW_law_679 rfl ?_
  refine q_iconst (pc := 680) dW_law_680 (by decide) ?_
  refine q_iadd (pc := 681) dW_law_681 rfl ⟨by omega, by omega⟩ ?_
  refine q_sld (i := (i + 1)) (pc := 682) dW_law_682 rfl rfl (by omega) ?_
  rw [e1j]
  refine q_callV1 (pc := 683) dW_law_683 (hB) cd_M_cached in_M_cached se_M_cached ml_W95 rfl (by decide) rfl rfl (Nat.le_of_ble_eq_true rfl) ⟨by decide, by decide⟩ ⟨by decide, by decide⟩ rfl ?_
  refine q_icmp_eq (tgt := 691) (pc := 686) dW_law_686 (by decide) (fun _ => K I2 hI2 e2) (fun h => absurd rfl h)
def lwP : qP := fun r _ _ => r = some (.inl 1)
theorem lw_loop {N : Nat} {Inv : qI → Prop} (ho : oks Inv N) (hN : N ≤ 2560) : ∀ (f i : Nat) (I : qI), Inv I → N + 5 ≤ i + 5 * f + 4 → i ≤ N + 5 → q_Ev M_W_law room_1 600000 7302250 57 7005 18 [some (.inr (some 0)), some (.inr (some 1)), some (.inr (some 44)), some (.inl ((i : Nat) : Int))] [] (S0 N) I lwP := by
  intro f
  induction f with
  | zero =>
    intro i I hI hf hi
    refine q_iload_n (pc := 18) dW_law_18 rfl ?_
    refine q_aload_n (pc := 19) dW_law_19 rfl ?_
    refine q_slen (pc := 20) dW_law_20 rfl ⟨by omega, by omega⟩ ?_
    refine q_iconst (pc := 21) dW_law_21 (by decide) ?_
    refine q_isub (pc := 22) dW_law_22 rfl ⟨by omega, by omega⟩ ?_
    refine q_icmp_gt (tgt := 697) (pc := 23) dW_law_23 (by decide) (fun h23 => ?_) (fun h23 => ?_)
    · refine q_iconst (pc := 697) dW_law_697 (by decide) ?_
      refine q_widen (k' := 600000) (n' := 7302250) (by decide) (by decide) ?_
      refine q_zret rfl (by first | exact Or.inl rfl | exact Or.inr rfl) (pc := 698) dW_law_698 ?_
      exact rfl
    · omega
  | succ f ih =>
    intro i I hI hf hi
    refine q_iload_n (pc := 18) dW_law_18 rfl ?_
    refine q_aload_n (pc := 19) dW_law_19 rfl ?_
    refine q_slen (pc := 20) dW_law_20 rfl ⟨by omega, by omega⟩ ?_
    refine q_iconst (pc := 21) dW_law_21 (by decide) ?_
    refine q_isub (pc := 22) dW_law_22 rfl ⟨by omega, by omega⟩ ?_
    refine q_icmp_gt (tgt := 697) (pc := 23) dW_law_23 (by decide) (fun h23 => ?_) (fun h23 => ?_)
    · refine q_iconst (pc := 697) dW_law_697 (by decide) ?_
      refine q_widen (k' := 600000) (n' := 7302250) (by decide) (by decide) ?_
      refine q_zret rfl (by first | exact Or.inl rfl | exact Or.inr rfl) (pc := 698) dW_law_698 ?_
      exact rfl
    · have K : ∀ J, Inv J → q_Ev M_W_law room_1 600000 7302250 57 7005 691 [some (.inr (some 0)), some (.inr (some 1)), some (.inr (some 44)), some (.inl ((i : Nat) : Int))] [] (S0 N) J lwP := by
        intro J hJ
        refine q_iinc (pc := 691) dW_law_691 rfl (by decide) rfl ⟨by omega, by omega⟩ ?_
        refine q_goto (tgt := 18) (pc := 694) dW_law_694 (by decide) ?_
        exact ih (i + 5) J hJ (by omega) (by omega)
      have K2 : ∀ J, Inv J → J 0 = I 0 → _ := fun J hJ _ => K J hJ
      have h5 : i + 5 ≤ N := by omega
      refine q_aload_n (pc := 26) dW_law_26 rfl ?_
      refine q_iload_n (pc := 27) dW_law_27 rfl ?_
      refine q_sld (i := i) (pc := 28) dW_law_28 rfl rfl (by omega) ?_
      refine q_bipush (pc := 29) dW_law_29 (by decide) (by decide) ?_
      refine q_iand (pc := 31) dW_law_31 (fun z hz => ?_)
      by_cases hz : z < 0 ∨ 18 < z
      · refine q_tableOut (tgt := 691) (pc := 32) dW_law_32 hz (by decide) ?_
        exact K I hI
      · obtain ⟨w, rfl⟩ : ∃ w : Nat, z = (w : Int) := ⟨z.toNat, by omega⟩
        have hw : w < 19 := by omega
        match w, hw with
        | 0, _ => exact q_tableIn (tgt := 124) (pc := 32) dW_law_32 (by decide) (by decide) rfl (by decide) (lw_begin ho I hI hN h5 lwP K2)
        | 1, _ => exact q_tableIn (tgt := 137) (pc := 32) dW_law_32 (by decide) (by decide) rfl (by decide) (lw_read ho I hI hN h5 lwP K2)
        | 2, _ => exact q_tableIn (tgt := 170) (pc := 32) dW_law_32 (by decide) (by decide) rfl (by decide) (lw_write ho I hI hN h5 lwP K2)
        | 3, _ => exact q_tableIn (tgt := 213) (pc := 32) dW_law_32 (by decide) (by decide) rfl (by decide) (lw_shift ho I hI hN h5 lwP K2)
        | 4, _ => exact q_tableIn (tgt := 266) (pc := 32) dW_law_32 (by decide) (by decide) rfl (by decide) (lw_commit ho I hI hN h5 lwP K2)
        | 5, _ => exact q_tableIn (tgt := 289) (pc := 32) dW_law_32 (by decide) (by decide) rfl (by decide) (lw_abort ho I hI hN h5 lwP K2)
        | 6, _ => exact q_tableIn (tgt := 312) (pc := 32) dW_law_32 (by decide) (by decide) rfl (by decide) (lw_status ho I hI hN h5 lwP K2)
        | 7, _ => exact q_tableIn (tgt := 335) (pc := 32) dW_law_32 (by decide) (by decide) rfl (by decide) (lw_deliver ho I hI hN h5 lwP K2)
        | 8, _ => exact q_tableIn (tgt := 368) (pc := 32) dW_law_32 (by decide) (by decide) rfl (by decide) (lw_gossip ho I hI hN h5 lwP K2)
        | 9, _ => exact q_tableIn (tgt := 411) (pc := 32) dW_law_32 (by decide) (by decide) rfl (by decide) (lw_report ho I hI hN h5 lwP K2)
        | 10, _ => exact q_tableIn (tgt := 444) (pc := 32) dW_law_32 (by decide) (by decide) rfl (by decide) (lw_fault ho I hI hN h5 lwP K2)
        | 11, _ => exact q_tableIn (tgt := 487) (pc := 32) dW_law_32 (by decide) (by decide) rfl (by decide) (lw_crash ho I hI hN h5 lwP K2)
        | 12, _ => exact q_tableIn (tgt := 500) (pc := 32) dW_law_32 (by decide) (by decide) rfl (by decide) (lw_recover ho I hI hN h5 lwP K2)
        | 13, _ => exact q_tableIn (tgt := 513) (pc := 32) dW_law_32 (by decide) (by decide) rfl (by decide) (lw_point ho I hI hN h5 lwP K2)
        | 14, _ => exact q_tableIn (tgt := 536) (pc := 32) dW_law_32 (by decide) (by decide) rfl (by decide) (lw_copy ho I hI hN h5 lwP K2)
        | 15, _ => exact q_tableIn (tgt := 579) (pc := 32) dW_law_32 (by decide) (by decide) rfl (by decide) (lw_follow ho I hI hN h5 lwP K2)
        | 16, _ => exact q_tableIn (tgt := 602) (pc := 32) dW_law_32 (by decide) (by decide) rfl (by decide) (lw_view ho I hI hN h5 lwP K2)
        | 17, _ => exact q_tableIn (tgt := 635) (pc := 32) dW_law_32 (by decide) (by decide) rfl (by decide) (lw_collect ho I hI hN h5 lwP K2)
        | 18, _ => exact q_tableIn (tgt := 668) (pc := 32) dW_law_32 (by decide) (by decide) rfl (by decide) (lw_cached ho I hI hN h5 lwP K2)
        | n + 19, h => exact absurd h (by omega)
theorem jc_z {J : qI} (hJ : ∀ a j, a ≠ 0 → J a j = 0) : ∀ a j, 43 < a → jc J a j = 0 := by
  intro a j ha
  simp only [jc, q_up]
  rw [if_neg (by omega), if_neg (by omega), if_neg (by omega), if_neg (by omega), if_neg (by omega), if_neg (by omega), if_neg (by omega)]
  exact hJ a j (by omega)
/-- the whole body from its entry -/
theorem lw_body {N : Nat} {Inv : qI → Prop} (ho : oks Inv N) (hN : N ≤ 2560) (J : qI) (hJ : ∀ a j, a ≠ 0 → J a j = 0) (h0 : Inv (jc J)) : q_Ev M_W_law room_1 600000 7302250 0 0 0 [some (.inr (some 0)), none, none, none] [] (SQ0 N) J lwP := by
  refine q_new (vs := [.inr none, .inr none, .inr none, .inr none, .inr none, .inl 0, .inl 0]) (pc := 0) dW_law_0 lay_0 (by decide) typ_0 cl_W7 is_Q ii_Q ⟨by decide, by decide⟩ (List.cons_ne_nil _ _) (fun j => hJ _ j (Nat.succ_ne_zero _)) nv_0 ?_
  change q_Ev _ _ _ _ _ _ _ _ _ (SQ1 N) _ _
  refine q_dup (pc := 3) dW_law_3 ?_
  refine q_callI0 (pc := 4) dW_law_4 ((ct_Q_init J hJ)) cd_Q_init rfl rfl in_Q_init ml_W9 rfl (Nat.le_of_ble_eq_true rfl) ⟨by decide, by decide⟩ ⟨by decide, by decide⟩ rfl ?_
  refine q_astore_n (pc := 7) dW_law_7 (by decide) ?_
  refine q_new (vs := [.inl 0, .inr none, .inr none, .inr none, .inr none, .inr none, .inr none, .inr none, .inr none, .inr none, .inl 0, .inl 0, .inl 0, .inr none, .inr none, .inr none, .inl 0, .inr none]) (pc := 8) dW_law_8 lay_6 (by decide) typ_6 cl_W10 is_M ii_M ⟨by decide, by decide⟩ (List.cons_ne_nil _ _) (fun j => jc_z hJ _ j (Nat.le_of_ble_eq_true rfl)) nv_6 ?_
  change q_Ev _ _ _ _ _ _ _ _ _ (SQ3 N) _ _
  refine q_dup (pc := 11) dW_law_11 ?_
  refine q_callI0 (pc := 12) dW_law_12 ((ct_M_init (jc J) (jc_z hJ))) cd_M_init rfl rfl in_M_init ml_W12 rfl (Nat.le_of_ble_eq_true rfl) ⟨by decide, by decide⟩ ⟨by decide, by decide⟩ rfl ?_
  refine q_astore_n (pc := 15) dW_law_15 (by decide) ?_
  refine q_iconst (pc := 16) dW_law_16 (by decide) ?_
  refine q_istore_n (pc := 17) dW_law_17 (by decide) ?_
  exact lw_loop ho hN (N + 1) 0 (jc J) h0 (by omega) (by omega)

