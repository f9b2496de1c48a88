/-! a whole run of the small machine, done by the real one -/
theorem am_oks : ∀ k, k < 254 → am_mok k = true := by
  intro k hk
  match k, hk with
  | 0, _ => exact am_o0
  | 1, _ => exact am_o1
  | 2, _ => exact am_o2
  | 3, _ => exact am_o3
  | 4, _ => exact am_o4
  | 5, _ => exact am_o5
  | 6, _ => exact am_o6
  | 7, _ => exact am_o7
  | 8, _ => exact am_o8
  | 9, _ => exact am_o9
  | 10, _ => exact am_o10
  | 11, _ => exact am_o11
  | 12, _ => exact am_o12
  | 13, _ => exact am_o13
  | 14, _ => exact am_o14
  | 15, _ => exact am_o15
  | 16, _ => exact am_o16
  | 17, _ => exact am_o17
  | 18, _ => exact am_o18
  | 19, _ => exact am_o19
  | 20, _ => exact am_o20
  | 21, _ => exact am_o21
  | 22, _ => exact am_o22
  | 23, _ => exact am_o23
  | 24, _ => exact am_o24
  | 25, _ => exact am_o25
  | 26, _ => exact am_o26
  | 27, _ => exact am_o27
  | 28, _ => exact am_o28
  | 29, _ => exact am_o29
  | 30, _ => exact am_o30
  | 31, _ => exact am_o31
  | 32, _ => exact am_o32
  | 33, _ => exact am_o33
  | 34, _ => exact am_o34
  | 35, _ => exact am_o35
  | 36, _ => exact am_o36
  | 37, _ => exact am_o37
  | 38, _ => exact am_o38
  | 39, _ => exact am_o39
  | 40, _ => exact am_o40
  | 41, _ => exact am_o41
  | 42, _ => exact am_o42
  | 43, _ => exact am_o43
  | 44, _ => exact am_o44
  | 45, _ => exact am_o45
  | 46, _ => exact am_o46
  | 47, _ => exact am_o47
  | 48, _ => exact am_o48
  | 49, _ => exact am_o49
  | 50, _ => exact am_o50
  | 51, _ => exact am_o51
  | 52, _ => exact am_o52
  | 53, _ => exact am_o53
  | 54, _ => exact am_o54
  | 55, _ => exact am_o55
  | 56, _ => exact am_o56
  | 57, _ => exact am_o57
  | 58, _ => exact am_o58
  | 59, _ => exact am_o59
  | 60, _ => exact am_o60
  | 61, _ => exact am_o61
  | 62, _ => exact am_o62
  | 63, _ => exact am_o63
  | 64, _ => exact am_o64
  | 65, _ => exact am_o65
  | 66, _ => exact am_o66
  | 67, _ => exact am_o67
  | 68, _ => exact am_o68
  | 69, _ => exact am_o69
  | 70, _ => exact am_o70
  | 71, _ => exact am_o71
  | 72, _ => exact am_o72
  | 73, _ => exact am_o73
  | 74, _ => exact am_o74
  | 75, _ => exact am_o75
  | 76, _ => exact am_o76
  | 77, _ => exact am_o77
  | 78, _ => exact am_o78
  | 79, _ => exact am_o79
  | 80, _ => exact am_o80
  | 81, _ => exact am_o81
  | 82, _ => exact am_o82
  | 83, _ => exact am_o83
  | 84, _ => exact am_o84
  | 85, _ => exact am_o85
  | 86, _ => exact am_o86
  | 87, _ => exact am_o87
  | 88, _ => exact am_o88
  | 89, _ => exact am_o89
  | 90, _ => exact am_o90
  | 91, _ => exact am_o91
  | 92, _ => exact am_o92
  | 93, _ => exact am_o93
  | 94, _ => exact am_o94
  | 95, _ => exact am_o95
  | 96, _ => exact am_o96
  | 97, _ => exact am_o97
  | 98, _ => exact am_o98
  | 99, _ => exact am_o99
  | 100, _ => exact am_o100
  | 101, _ => exact am_o101
  | 102, _ => exact am_o102
  | 103, _ => exact am_o103
  | 104, _ => exact am_o104
  | 105, _ => exact am_o105
  | 106, _ => exact am_o106
  | 107, _ => exact am_o107
  | 108, _ => exact am_o108
  | 109, _ => exact am_o109
  | 110, _ => exact am_o110
  | 111, _ => exact am_o111
  | 112, _ => exact am_o112
  | 113, _ => exact am_o113
  | 114, _ => exact am_o114
  | 115, _ => exact am_o115
  | 116, _ => exact am_o116
  | 117, _ => exact am_o117
  | 118, _ => exact am_o118
  | 119, _ => exact am_o119
  | 120, _ => exact am_o120
  | 121, _ => exact am_o121
  | 122, _ => exact am_o122
  | 123, _ => exact am_o123
  | 124, _ => exact am_o124
  | 125, _ => exact am_o125
  | 126, _ => exact am_o126
  | 127, _ => exact am_o127
  | 128, _ => exact am_o128
  | 129, _ => exact am_o129
  | 130, _ => exact am_o130
  | 131, _ => exact am_o131
  | 132, _ => exact am_o132
  | 133, _ => exact am_o133
  | 134, _ => exact am_o134
  | 135, _ => exact am_o135
  | 136, _ => exact am_o136
  | 137, _ => exact am_o137
  | 138, _ => exact am_o138
  | 139, _ => exact am_o139
  | 140, _ => exact am_o140
  | 141, _ => exact am_o141
  | 142, _ => exact am_o142
  | 143, _ => exact am_o143
  | 144, _ => exact am_o144
  | 145, _ => exact am_o145
  | 146, _ => exact am_o146
  | 147, _ => exact am_o147
  | 148, _ => exact am_o148
  | 149, _ => exact am_o149
  | 150, _ => exact am_o150
  | 151, _ => exact am_o151
  | 152, _ => exact am_o152
  | 153, _ => exact am_o153
  | 154, _ => exact am_o154
  | 155, _ => exact am_o155
  | 156, _ => exact am_o156
  | 157, _ => exact am_o157
  | 158, _ => exact am_o158
  | 159, _ => exact am_o159
  | 160, _ => exact am_o160
  | 161, _ => exact am_o161
  | 162, _ => exact am_o162
  | 163, _ => exact am_o163
  | 164, _ => exact am_o164
  | 165, _ => exact am_o165
  | 166, _ => exact am_o166
  | 167, _ => exact am_o167
  | 168, _ => exact am_o168
  | 169, _ => exact am_o169
  | 170, _ => exact am_o170
  | 171, _ => exact am_o171
  | 172, _ => exact am_o172
  | 173, _ => exact am_o173
  | 174, _ => exact am_o174
  | 175, _ => exact am_o175
  | 176, _ => exact am_o176
  | 177, _ => exact am_o177
  | 178, _ => exact am_o178
  | 179, _ => exact am_o179
  | 180, _ => exact am_o180
  | 181, _ => exact am_o181
  | 182, _ => exact am_o182
  | 183, _ => exact am_o183
  | 184, _ => exact am_o184
  | 185, _ => exact am_o185
  | 186, _ => exact am_o186
  | 187, _ => exact am_o187
  | 188, _ => exact am_o188
  | 189, _ => exact am_o189
  | 190, _ => exact am_o190
  | 191, _ => exact am_o191
  | 192, _ => exact am_o192
  | 193, _ => exact am_o193
  | 194, _ => exact am_o194
  | 195, _ => exact am_o195
  | 196, _ => exact am_o196
  | 197, _ => exact am_o197
  | 198, _ => exact am_o198
  | 199, _ => exact am_o199
  | 200, _ => exact am_o200
  | 201, _ => exact am_o201
  | 202, _ => exact am_o202
  | 203, _ => exact am_o203
  | 204, _ => exact am_o204
  | 205, _ => exact am_o205
  | 206, _ => exact am_o206
  | 207, _ => exact am_o207
  | 208, _ => exact am_o208
  | 209, _ => exact am_o209
  | 210, _ => exact am_o210
  | 211, _ => exact am_o211
  | 212, _ => exact am_o212
  | 213, _ => exact am_o213
  | 214, _ => exact am_o214
  | 215, _ => exact am_o215
  | 216, _ => exact am_o216
  | 217, _ => exact am_o217
  | 218, _ => exact am_o218
  | 219, _ => exact am_o219
  | 220, _ => exact am_o220
  | 221, _ => exact am_o221
  | 222, _ => exact am_o222
  | 223, _ => exact am_o223
  | 224, _ => exact am_o224
  | 225, _ => exact am_o225
  | 226, _ => exact am_o226
  | 227, _ => exact am_o227
  | 228, _ => exact am_o228
  | 229, _ => exact am_o229
  | 230, _ => exact am_o230
  | 231, _ => exact am_o231
  | 232, _ => exact am_o232
  | 233, _ => exact am_o233
  | 234, _ => exact am_o234
  | 235, _ => exact am_o235
  | 236, _ => exact am_o236
  | 237, _ => exact am_o237
  | 238, _ => exact am_o238
  | 239, _ => exact am_o239
  | 240, _ => exact am_o240
  | 241, _ => exact am_o241
  | 242, _ => exact am_o242
  | 243, _ => exact am_o243
  | 244, _ => exact am_o244
  | 245, _ => exact am_o245
  | 246, _ => exact am_o246
  | 247, _ => exact am_o247
  | 248, _ => exact am_o248
  | 249, _ => exact am_o249
  | 250, _ => exact am_o250
  | 251, _ => exact am_o251
  | 252, _ => exact am_o252
  | 253, _ => exact am_o253
  | k + 254, hk => omega
theorem am_mrs : ∀ k, k < 254 → am_mrows k = true := by
  intro k hk
  match k, hk with
  | 0, _ => exact am_r0
  | 1, _ => exact am_r1
  | 2, _ => exact am_r2
  | 3, _ => exact am_r3
  | 4, _ => exact am_r4
  | 5, _ => exact am_r5
  | 6, _ => exact am_r6
  | 7, _ => exact am_r7
  | 8, _ => exact am_r8
  | 9, _ => exact am_r9
  | 10, _ => exact am_r10
  | 11, _ => exact am_r11
  | 12, _ => exact am_r12
  | 13, _ => exact am_r13
  | 14, _ => exact am_r14
  | 15, _ => exact am_r15
  | 16, _ => exact am_r16
  | 17, _ => exact am_r17
  | 18, _ => exact am_r18
  | 19, _ => exact am_r19
  | 20, _ => exact am_r20
  | 21, _ => exact am_r21
  | 22, _ => exact am_r22
  | 23, _ => exact am_r23
  | 24, _ => exact am_r24
  | 25, _ => exact am_r25
  | 26, _ => exact am_r26
  | 27, _ => exact am_r27
  | 28, _ => exact am_r28
  | 29, _ => exact am_r29
  | 30, _ => exact am_r30
  | 31, _ => exact am_r31
  | 32, _ => exact am_r32
  | 33, _ => exact am_r33
  | 34, _ => exact am_r34
  | 35, _ => exact am_r35
  | 36, _ => exact am_r36
  | 37, _ => exact am_r37
  | 38, _ => exact am_r38
  | 39, _ => exact am_r39
  | 40, _ => exact am_r40
  | 41, _ => exact am_r41
  | 42, _ => exact am_r42
  | 43, _ => exact am_r43
  | 44, _ => exact am_r44
  | 45, _ => exact am_r45
  | 46, _ => exact am_r46
  | 47, _ => exact am_r47
  | 48, _ => exact am_r48
  | 49, _ => exact am_r49
  | 50, _ => exact am_r50
  | 51, _ => exact am_r51
  | 52, _ => exact am_r52
  | 53, _ => exact am_r53
  | 54, _ => exact am_r54
  | 55, _ => exact am_r55
  | 56, _ => exact am_r56
  | 57, _ => exact am_r57
  | 58, _ => exact am_r58
  | 59, _ => exact am_r59
  | 60, _ => exact am_r60
  | 61, _ => exact am_r61
  | 62, _ => exact am_r62
  | 63, _ => exact am_r63
  | 64, _ => exact am_r64
  | 65, _ => exact am_r65
  | 66, _ => exact am_r66
  | 67, _ => exact am_r67
  | 68, _ => exact am_r68
  | 69, _ => exact am_r69
  | 70, _ => exact am_r70
  | 71, _ => exact am_r71
  | 72, _ => exact am_r72
  | 73, _ => exact am_r73
  | 74, _ => exact am_r74
  | 75, _ => exact am_r75
  | 76, _ => exact am_r76
  | 77, _ => exact am_r77
  | 78, _ => exact am_r78
  | 79, _ => exact am_r79
  | 80, _ => exact am_r80
  | 81, _ => exact am_r81
  | 82, _ => exact am_r82
  | 83, _ => exact am_r83
  | 84, _ => exact am_r84
  | 85, _ => exact am_r85
  | 86, _ => exact am_r86
  | 87, _ => exact am_r87
  | 88, _ => exact am_r88
  | 89, _ => exact am_r89
  | 90, _ => exact am_r90
  | 91, _ => exact am_r91
  | 92, _ => exact am_r92
  | 93, _ => exact am_r93
  | 94, _ => exact am_r94
  | 95, _ => exact am_r95
  | 96, _ => exact am_r96
  | 97, _ => exact am_r97
  | 98, _ => exact am_r98
  | 99, _ => exact am_r99
  | 100, _ => exact am_r100
  | 101, _ => exact am_r101
  | 102, _ => exact am_r102
  | 103, _ => exact am_r103
  | 104, _ => exact am_r104
  | 105, _ => exact am_r105
  | 106, _ => exact am_r106
  | 107, _ => exact am_r107
  | 108, _ => exact am_r108
  | 109, _ => exact am_r109
  | 110, _ => exact am_r110
  | 111, _ => exact am_r111
  | 112, _ => exact am_r112
  | 113, _ => exact am_r113
  | 114, _ => exact am_r114
  | 115, _ => exact am_r115
  | 116, _ => exact am_r116
  | 117, _ => exact am_r117
  | 118, _ => exact am_r118
  | 119, _ => exact am_r119
  | 120, _ => exact am_r120
  | 121, _ => exact am_r121
  | 122, _ => exact am_r122
  | 123, _ => exact am_r123
  | 124, _ => exact am_r124
  | 125, _ => exact am_r125
  | 126, _ => exact am_r126
  | 127, _ => exact am_r127
  | 128, _ => exact am_r128
  | 129, _ => exact am_r129
  | 130, _ => exact am_r130
  | 131, _ => exact am_r131
  | 132, _ => exact am_r132
  | 133, _ => exact am_r133
  | 134, _ => exact am_r134
  | 135, _ => exact am_r135
  | 136, _ => exact am_r136
  | 137, _ => exact am_r137
  | 138, _ => exact am_r138
  | 139, _ => exact am_r139
  | 140, _ => exact am_r140
  | 141, _ => exact am_r141
  | 142, _ => exact am_r142
  | 143, _ => exact am_r143
  | 144, _ => exact am_r144
  | 145, _ => exact am_r145
  | 146, _ => exact am_r146
  | 147, _ => exact am_r147
  | 148, _ => exact am_r148
  | 149, _ => exact am_r149
  | 150, _ => exact am_r150
  | 151, _ => exact am_r151
  | 152, _ => exact am_r152
  | 153, _ => exact am_r153
  | 154, _ => exact am_r154
  | 155, _ => exact am_r155
  | 156, _ => exact am_r156
  | 157, _ => exact am_r157
  | 158, _ => exact am_r158
  | 159, _ => exact am_r159
  | 160, _ => exact am_r160
  | 161, _ => exact am_r161
  | 162, _ => exact am_r162
  | 163, _ => exact am_r163
  | 164, _ => exact am_r164
  | 165, _ => exact am_r165
  | 166, _ => exact am_r166
  | 167, _ => exact am_r167
  | 168, _ => exact am_r168
  | 169, _ => exact am_r169
  | 170, _ => exact am_r170
  | 171, _ => exact am_r171
  | 172, _ => exact am_r172
  | 173, _ => exact am_r173
  | 174, _ => exact am_r174
  | 175, _ => exact am_r175
  | 176, _ => exact am_r176
  | 177, _ => exact am_r177
  | 178, _ => exact am_r178
  | 179, _ => exact am_r179
  | 180, _ => exact am_r180
  | 181, _ => exact am_r181
  | 182, _ => exact am_r182
  | 183, _ => exact am_r183
  | 184, _ => exact am_r184
  | 185, _ => exact am_r185
  | 186, _ => exact am_r186
  | 187, _ => exact am_r187
  | 188, _ => exact am_r188
  | 189, _ => exact am_r189
  | 190, _ => exact am_r190
  | 191, _ => exact am_r191
  | 192, _ => exact am_r192
  | 193, _ => exact am_r193
  | 194, _ => exact am_r194
  | 195, _ => exact am_r195
  | 196, _ => exact am_r196
  | 197, _ => exact am_r197
  | 198, _ => exact am_r198
  | 199, _ => exact am_r199
  | 200, _ => exact am_r200
  | 201, _ => exact am_r201
  | 202, _ => exact am_r202
  | 203, _ => exact am_r203
  | 204, _ => exact am_r204
  | 205, _ => exact am_r205
  | 206, _ => exact am_r206
  | 207, _ => exact am_r207
  | 208, _ => exact am_r208
  | 209, _ => exact am_r209
  | 210, _ => exact am_r210
  | 211, _ => exact am_r211
  | 212, _ => exact am_r212
  | 213, _ => exact am_r213
  | 214, _ => exact am_r214
  | 215, _ => exact am_r215
  | 216, _ => exact am_r216
  | 217, _ => exact am_r217
  | 218, _ => exact am_r218
  | 219, _ => exact am_r219
  | 220, _ => exact am_r220
  | 221, _ => exact am_r221
  | 222, _ => exact am_r222
  | 223, _ => exact am_r223
  | 224, _ => exact am_r224
  | 225, _ => exact am_r225
  | 226, _ => exact am_r226
  | 227, _ => exact am_r227
  | 228, _ => exact am_r228
  | 229, _ => exact am_r229
  | 230, _ => exact am_r230
  | 231, _ => exact am_r231
  | 232, _ => exact am_r232
  | 233, _ => exact am_r233
  | 234, _ => exact am_r234
  | 235, _ => exact am_r235
  | 236, _ => exact am_r236
  | 237, _ => exact am_r237
  | 238, _ => exact am_r238
  | 239, _ => exact am_r239
  | 240, _ => exact am_r240
  | 241, _ => exact am_r241
  | 242, _ => exact am_r242
  | 243, _ => exact am_r243
  | 244, _ => exact am_r244
  | 245, _ => exact am_r245
  | 246, _ => exact am_r246
  | 247, _ => exact am_r247
  | 248, _ => exact am_r248
  | 249, _ => exact am_r249
  | 250, _ => exact am_r250
  | 251, _ => exact am_r251
  | 252, _ => exact am_r252
  | 253, _ => exact am_r253
  | k + 254, hk => omega
theorem am_rows_at {own : String} {init : Bool} {ret : Option FieldType} {cc : ByteArray} : ∀ (l : am_C) (r : List (Instr × Nat)), am_rows own init ret cc l r = true → ∀ (pc : Nat) (ins : Instr) (nx : Nat), am_at l pc = some (ins, nx) → ∃ raw pl, am_rowok own init ret cc (pc, ins, nx) (raw, pl) = true
  | [], _, _, pc, ins, nx, h => by cases h
  | _ :: _, [], h, _, _, _, _ => by cases h
  | (q, i, n) :: l, (raw, pl) :: r, h, pc, ins, nx, hat => by
    simp only [am_rows, Bool.and_eq_true] at h
    unfold am_at at hat
    split at hat
    · rename_i e1
      subst e1
      cases hat
      exact ⟨raw, pl, h.1⟩
    · exact am_rows_at l r h.2 pc ins nx hat
/-- no code calls the law -/
def am_nolaw (l : am_C) : Bool := l.all (fun q => match q.2.1 with
  | .invokestatic k => decide (k < 254)
  | .invokevirtual k => decide (k < 254)
  | .invokespecial k => decide (k < 254)
  | _ => true)
theorem am_nolaw_all : am_cs.all am_nolaw = true := by decide +kernel
theorem am_at_mem : ∀ (l : am_C) (pc : Nat) (x : Instr × Nat), am_at l pc = some x → (pc, x) ∈ l
  | [], _, _, h => by cases h
  | (q, i, n) :: l, pc, x, h => by
    unfold am_at at h
    split at h
    · rename_i e1
      subst e1
      cases h
      exact List.mem_cons_self
    · exact List.mem_cons_of_mem _ (am_at_mem l pc x h)
theorem am_nolaw_at {l : am_C} {pc nx k : Nat} {ins : Instr} (hl : am_nolaw l = true) (h : am_at l pc = some (ins, nx)) (hk : ins = .invokestatic k ∨ ins = .invokespecial k ∨ ins = .invokevirtual k) : k < 254 := by
  have := List.all_eq_true.mp hl _ (am_at_mem l pc _ h)
  rcases hk with rfl | rfl | rfl <;> simpa using this
section AMR
variable {p : Program} {l : Launch} {e : Env} {R : Room} {s : State} {m : MethodId} {args : Array Value} {below : List Frame} {meth : Method} {c : Code} {Qf : State → Prop} {D : va_G} {fm : Value} {n : Nat} {xs : Nat → Int32} {A : Nat → Prop} {cc : ByteArray} {own : String} {init : Bool} {ret : Option FieldType} {nL : Nat}
variable {pc nx : Nat} {L : am_L} {st : List Value} {sk : am_K} {mem : am_M} {ad : Nat → Nat} {aC : Nat → ClassId} {cells slots : Nat} {raw norm : Instr} {pl : Nat}
set_option maxHeartbeats 2000000 in
theorem am_sim_run {d : Nat} {code0 : am_C} {kp : List (Instr × Nat)} {sk0 sk1 : am_K} {mem1 : am_M} {v1 : Option Value} {ad0 : Nat → Nat} {aC0 : Nat → ClassId} (hm : am_Me p s m args meth c D fm A cc own init nL) (hrows : am_rows own init ret cc code0 kp = true) (hnl : am_nolaw code0 = true) (IH : am_IH l d) (hRf : d + 1 ≤ R.frames) (hRl : 64 * (d + 1) ≤ R.locals) (hRc : sk1.length - sk0.length ≤ R.cells) (hRs : am_sz sk1 - am_sz sk0 ≤ R.slots)
    (hRet : ∀ (pc : Nat) (raw : Instr) (ls : Array Slot) (H : Heap) (locs : List Loc) (ad : Nat → Nat) (aC : Nat → ClassId), decode cc pc = .ok (raw, 1) → am_isret raw ret v1 → am_At D fm n xs A s ad aC sk1 mem1 H → va_S A s.heap H locs → (∀ o, o < sk0.length → ad o = ad0 o ∧ aC o = aC0 o) → W p l e R s m args below meth c H locs (sk1.length - sk0.length) (am_sz sk1 - am_sz sk0) Qf (F0 m pc ls (v1.toList.map (am_re ad fm)))) :
    ∀ (nn pc : Nat) (L : am_L) (st : List Value) (sk : am_K) (mem : am_M) (ad : Nat → Nat) (aC : Nat → ClassId), am_run code0 (am_ex d) nn pc L st sk mem (am_eq v1 sk1 mem1) → am_wf sk → 29 ≤ sk.length → am_okS sk.length st → am_okL sk.length L → L.length = nL → sk0.length ≤ sk.length → am_sz sk0 ≤ am_sz sk → (∀ o, o < sk0.length → ad o = ad0 o ∧ aC o = aC0 o) → am_K1 p l e R s m args below meth c Qf D fm n xs A pc L st sk mem ad aC (sk.length - sk0.length) (am_sz sk - am_sz sk0) := by
  intro nn
  induction nn with
  | zero => intro pc L st sk mem ad aC h; exact h.elim
  | succ nn ih =>
    intro pc L st sk mem ad aC h hwf h29 hst hL hLn hs1 hs2 had
    unfold am_run at h
    split at h
    · exact h.elim
    · rename_i ins nx hat
      obtain ⟨raw, pl, hrow⟩ := am_rows_at _ _ hrows pc ins nx hat
      split at h
      · exact h.elim
      · rename_i pc2 L2 st2 sk2 mem2 hstp
        obtain ⟨k1, k2, k3, k4, k5, k6⟩ := am_stp_ok hstp hwf h29 hst hL
        obtain ⟨r1, r2, -, -⟩ := am_run_good (am_ex_mono d) (am_ex_det d) (am_ex_good d) nn _ _ _ _ _ k6 (by omega) k1 k2 h
        have e1 : sk.length - sk0.length + (sk2.length - sk.length) = sk2.length - sk0.length := by omega
        have e2 : am_sz sk - am_sz sk0 + (am_sz sk2 - am_sz sk) = am_sz sk2 - am_sz sk0 := by omega
        refine am_step hm hrow hstp hst hL hLn (by omega) (by omega) (by omega) (by omega) (fun ad' aC' he => ?_)
        rw [e1, e2]
        exact ih _ _ _ _ _ ad' aC' h k6 (by omega) k1 k2 (k3.trans hLn) (by omega) (by omega) (fun o ho => ⟨(he o (by omega)).1.trans (had o ho).1, (he o (by omega)).2.trans (had o ho).2⟩)
      · rename_i k as r hstp
        obtain ⟨a, g1, g2, g3, ea, er, hn⟩ := am_stp_call hstp
        obtain ⟨w, sk2, mem2, h1, h2⟩ := am_ex_det d _ _ _ _ _ h
        have has : as.length = a := by rw [ea]; simp; omega
        have hasok : am_okS sk.length as := by rw [ea]; exact am_rev_ok hst
        have hrok : am_okS sk.length r := by rw [er]; exact am_drop_ok hst
        obtain ⟨q1, q2, q3, q4⟩ := am_ex_good d _ _ _ _ _ _ _ hwf h29 hasok (by rw [has]; exact g1) h2
        have hpok := am_push_ok q4 (hrok.up q1)
        obtain ⟨r1, r2, -, -⟩ := am_run_good (am_ex_mono d) (am_ex_det d) (am_ex_good d) nn _ _ _ _ _ q3 (by omega) hpok (hL.up q1) h1
        have hk : k < 254 := am_nolaw_at hnl hat (by
          rcases hn with hn | ⟨hn | hn, -⟩
          · exact Or.inl hn
          · exact Or.inr (Or.inl hn)
          · exact Or.inr (Or.inr hn))
        have e1 : sk.length - sk0.length + (sk2.length - sk.length) = sk2.length - sk0.length := by omega
        have e2 : am_sz sk - am_sz sk0 + (am_sz sk2 - am_sz sk) = am_sz sk2 - am_sz sk0 := by omega
        refine am_call hm hrow IH am_oks hstp h2 hwf h29 hst hL hLn hRf hRl (by omega) (by omega) hk (fun ad' aC' he => ?_)
        rw [e1, e2]
        exact ih _ _ _ _ _ ad' aC' h1 q3 (by omega) hpok (hL.up q1) hLn (by omega) (by omega) (fun o ho => ⟨(he o (by omega)).1.trans (had o ho).1, (he o (by omega)).2.trans (had o ho).2⟩)
      · rename_i v hstp
        obtain ⟨rfl, rfl, rfl⟩ := h
        obtain ⟨h1, h2, h3⟩ := am_stp_ret hrow hstp
        intro H locs ls hA hF hl hS
        rw [h3]
        exact hRet pc raw ls H locs ad aC h1 h2 hA hS had
end AMR
theorem am_args_mem : ∀ (vs : List Value) (i j : Nat) (v : Value), (∀ w ∈ vs, w.category = 1) → vs[j]? = some v → (i + j, v) ∈ lv_args i vs
  | [], _, _, _, _, h => by simp at h
  | w :: vs, i, 0, v, hc, h => by
    simp only [List.getElem?_cons_zero, Option.some.injEq] at h
    subst h
    unfold lv_args
    simp [hc w List.mem_cons_self]
  | w :: vs, i, j + 1, v, hc, h => by
    have h1 := am_args_mem vs (i + 1) j v (fun x hx => hc x (List.mem_cons_of_mem _ hx)) (by simpa using h)
    unfold lv_args
    have h2 := hc w List.mem_cons_self
    rw [show i + (j + 1) = i + 1 + j by omega]
    simp only [h2]
    exact List.mem_cons_of_mem _ h1
theorem am_sl_len : ∀ (vs : List Value), (∀ w ∈ vs, w.category = 1) → (lg_sl vs).length = vs.length
  | [], _ => rfl
  | w :: vs, hc => by
    have h1 := am_sl_len vs (fun x hx => hc x (List.mem_cons_of_mem _ hx))
    have h2 := hc w List.mem_cons_self
    unfold lg_sl at h1 ⊢
    simp only [List.flatMap_cons, h2, List.length_append, h1, List.length_cons]
    simp
    omega
theorem am_entry {ad : Nat → Nat} {fm : Value} {k N nl : Nat} {as : List Value} {ls : Array Slot} (hf : fm.category = 1) (hN : am_okS N as) (hnl : am_ML[k]? = some nl) (hle : as.length ≤ nl) (h : lv_has ls nl (lv_args 0 (as.map (am_re ad fm)))) : am_lh ad fm (am_L0 k as) ls := by
  have hlen : (am_L0 k as).length = nl := by simp [am_L0, hnl]; omega
  refine ⟨h.1.trans hlen.symm, h.2.1, ?_⟩
  rintro ⟨i, w⟩ hq
  obtain ⟨v, hv, rfl⟩ := am_lv_mem.mp hq
  unfold am_L0 at hv
  by_cases hi : i < as.length
  · rw [List.getElem?_append_left (by simpa using hi), List.getElem?_map] at hv
    cases ha : as[i]? with
    | none => rw [ha] at hv; cases hv
    | some u =>
      rw [ha] at hv
      cases hv
      have h1 := am_args_mem (as.map (am_re ad fm)) 0 i (am_re ad fm v) (fun x hx => by
        obtain ⟨y, hy, rfl⟩ := List.mem_map.mp hx
        exact am_re_cat hf (hN y hy).cat) (by rw [List.getElem?_map, ha]; rfl)
      rw [Nat.zero_add] at h1
      exact h.2.2 _ h1
  · rw [List.getElem?_append_right (by simpa using hi)] at hv
    have := List.mem_of_getElem? hv
    simp at this
set_option maxHeartbeats 2000000 in
/-- every method's contract, at every depth -/
theorem am_met (l : Launch) : ∀ d, am_IH l d
  | 0 => fun _ _ _ _ _ _ _ _ h => h.elim
  | d + 1 => by
    have IH := am_met l d
    intro k as sk mem v sk' mem' hk hex hwf h29 has hAR D fm n xs ad aC sz y b r nl hy hb hr hnl hfm
    obtain ⟨nn, hrun⟩ := hex
    obtain ⟨w, z, hw, hz, m1, m2, m3, m4, m5, m6, m7, m8, m9⟩ := am_mok_of (am_oks k hk) hy hb hr hnl hAR
    have hrows := am_mrs k hk
    unfold am_mrows at hrows
    rw [hy, hb, hr] at hrows
    split at hrows
    · rename_i y' b' r' cl kp e1 e2 e3 e4 e5
      cases e1; cases e2; cases e3
      have hcode : am_code k = cl := by simp [am_code, e4]
      rw [hcode] at hrun
      have hnol : am_nolaw cl = true := List.all_eq_true.mp am_nolaw_all cl (List.mem_of_getElem? e4)
      refine va_MetF (cc := b) (maxL := nl) (ret := r) m5 rfl ?_
      intro p e s m args below meth c s₁ B hml hv
      obtain ⟨rfl, hsz, hAt, hK, hFx⟩ := hv
      have hts := atoms_spec (ws := Cond.code y b nl r :: am_tb) B.pre
      have hown : s.vm.findClass y.cls = some m.cls := findClass_of_methodNamed B.named
      have hlocks := B.notSynchronized
      subst hsz
      have hAt2 : am_At D fm n xs (va_A (am_w ad aC sk mem) s.heap.size) s ad aC sk mem s.heap := ⟨hAt.1, hAt.2.1.self, hAt.2.2⟩
      have hcat : ∀ w ∈ as.map (am_re ad fm), w.category = 1 := fun x hx => by
        obtain ⟨y, hy, rfl⟩ := List.mem_map.mp hx
        exact am_re_cat hfm (has y hy).cat
      have hl := lv_entry (as.map (am_re ad fm)) (n := nl) (by rw [am_sl_len _ hcat, List.length_map]; exact m6)
      rw [lg_entry_eq]
      generalize (lg_sl (as.map (am_re ad fm)) ++ List.replicate (nl - (lg_sl (as.map (am_re ad fm))).length) Slot.unset).toArray = ls at hl ⊢
      have hm : am_Me p s m (as.map (am_re ad fm)).toArray meth c D fm (va_A (am_w ad aC sk mem) s.heap.size) b y.cls (decide (y.name = "<init>")) nl := ⟨B.exec, B.bytes, hown, fun w hw => hts w (List.mem_cons_of_mem _ hw), fun h => (name_of_methodNamed B.named B.method).1.trans (by simpa using h), hK, fun q h => Or.inr h, hfm, hml⟩
      have hret := am_run_good (am_ex_mono d) (am_ex_det d) (am_ex_good d) nn _ _ _ _ _ hwf h29 (fun _ hv => by cases hv) (am_L0_ok has) hrun
      have key := am_sim_run (p := p) (e := e) (R := (headSpec (Cond.code y b nl r :: am_tb) { frames := d + 1, cells := sk'.length - sk.length, slots := am_sz sk' - am_sz sk, locals := 64 * (d + 1) }).room) (below := below) (n := n) (xs := xs) (ret := r) (Qf := MQ below (am_Qc D fm n xs ad aC sk mem s.heap.size v sk' mem') (as.map (am_re ad fm)).toArray s (sk'.length - sk.length) (am_sz sk' - am_sz sk) (va_A (am_w ad aC sk mem) s.heap.size)) (sk0 := sk) (sk1 := sk') (mem1 := mem') (v1 := v) (ad0 := ad) (aC0 := aC) hm hrows hnol IH (Nat.le_refl _) (Nat.le_refl _) (Nat.le_refl _) (Nat.le_refl _) ?_ nn 0 (am_L0 k as) [] sk mem ad aC hrun hwf h29 (fun _ hv => by cases hv) (am_L0_ok has) (by simp [am_L0, hnl]; omega) (Nat.le_refl _) (Nat.le_refl _) (fun _ _ => ⟨rfl, rfl⟩)
      · have key2 := key s.heap [] ls hAt2 hFx (am_entry hfm has hnl m6 hl) va_S.rf
        rw [Nat.sub_self, Nat.sub_self] at key2
        exact key2
      · intro pc raw ls1 H locs ad' aC' hd hir hA1 hS1 he
        have hpost : ∀ t : State, t.heap = H → s.WarmedH t.vm → am_Qc D fm n xs ad aC sk mem s.heap.size v sk' mem' (as.map (am_re ad fm)).toArray s (.returned (v.map (am_re ad' fm))) t := fun t ht hW => ⟨⟨ad', aC', he, rfl, by rw [ht]; exact hA1.moved hW.alike⟩, hS1.F ht⟩
        rcases hir with ⟨rfl, x, ty, rfl, hrt, hnar⟩ | ⟨rfl, q, C, rfl, hrt, hq⟩ | ⟨rfl, rfl, hrt⟩
        · exact W.zret (v := x) (ty := ty) B.exec B.bytes (B.returns.trans hrt) hnar hpost hS1.2.2 hd
        · have h5 := hpost
          rw [show (some (Value.ref q)).map (am_re ad' fm) = some (.ref (ad' q)) by simp [am_re_ref hq]] at h5
          show W _ _ _ _ _ _ _ _ _ _ _ _ _ _ _ (F0 m pc ls1 [am_re ad' fm (.ref q)])
          rw [am_re_ref hq]
          exact W.aret (v := .ref (ad' q)) (rt := .object C) B.exec B.bytes (B.returns.trans hrt) (Or.inl ⟨C, rfl⟩) (Or.inr ⟨_, rfl⟩) h5 hS1.2.2 hd
        · exact W.vret B.exec B.bytes (B.returns.trans hrt) hpost hS1.2.2 hd
    · cases hrows
