theorem ck_385 : zT_385.all (fun q => zchkT 385 q.1 q.2) = true := by
  simp only [zT_385, List.all_cons, List.all_nil, ck_385_0, ck_385_18, ck_385_304, ck_385_317, ck_385_331, ck_385_345, ck_385_388, ck_385_461, ck_385_495, ck_385_558, ck_385_621, ck_385_644, ck_385_667, ck_385_690, ck_385_713, ck_385_746, ck_385_769, ck_385_792, ck_385_815, ck_385_838, ck_385_861, ck_385_894, ck_385_917, ck_385_950, ck_385_963, ck_385_986, ck_385_987, ck_385_1013, ck_385_1014, ck_385_1022, ck_385_1055, ck_385_1088, ck_385_1121, ck_385_1144, ck_385_1177, ck_385_1210, ck_385_1243, ck_385_1266, ck_385_1289, ck_385_1312, ck_385_1325, ck_385_1348, ck_385_1381, ck_385_1414, ck_385_1437, ck_385_1460, ck_385_1493, ck_385_1526, ck_385_1559, ck_385_1602, ck_385_1625, ck_385_1638, ck_385_1651, ck_385_1674, ck_385_1687, ck_385_1710, ck_385_1723, ck_385_1736, ck_385_1759, ck_385_1782, ck_385_1815, ck_385_1858, ck_385_1881, ck_385_1904, ck_385_1937, ck_385_1960, ck_385_1983, ck_385_2006, ck_385_2039, ck_385_2052, ck_385_2065, ck_385_2071, Bool.and_true]
theorem zg_0 : ∀ r : Nat, r < 20 → ((zTT.getD 0 []).getD r []).all (fun q => zchkT (0 + r) q.1 q.2) = true := by
  intro r h
  match r, h with
  | 0, _ => exact ck_0
  | 1, _ => exact ck_1
  | 2, _ => exact ck_2
  | 3, _ => exact ck_3
  | 4, _ => exact ck_4
  | 5, _ => exact ck_5
  | 6, _ => exact ck_6
  | 7, _ => exact ck_7
  | 8, _ => exact ck_8
  | 9, _ => exact ck_9
  | 10, _ => exact ck_10
  | 11, _ => exact ck_11
  | 12, _ => exact ck_12
  | 13, _ => exact ck_13
  | 14, _ => exact ck_14
  | 15, _ => exact ck_15
  | 16, _ => exact ck_16
  | 17, _ => exact ck_17
  | 18, _ => exact ck_18
  | 19, _ => exact ck_19
  | r + 20, h => exact absurd h (by omega)
theorem zg_1 : ∀ r : Nat, r < 20 → ((zTT.getD 1 []).getD r []).all (fun q => zchkT (20 + r) q.1 q.2) = true := by
  intro r h
  match r, h with
  | 0, _ => exact ck_20
  | 1, _ => exact ck_21
  | 2, _ => exact ck_22
  | 3, _ => exact ck_23
  | 4, _ => exact ck_24
  | 5, _ => exact ck_25
  | 6, _ => exact ck_26
  | 7, _ => exact ck_27
  | 8, _ => exact ck_28
  | 9, _ => exact ck_29
  | 10, _ => exact ck_30
  | 11, _ => exact ck_31
  | 12, _ => exact ck_32
  | 13, _ => exact ck_33
  | 14, _ => exact ck_34
  | 15, _ => exact ck_35
  | 16, _ => exact ck_36
  | 17, _ => exact ck_37
  | 18, _ => exact ck_38
  | 19, _ => exact ck_39
  | r + 20, h => exact absurd h (by omega)
theorem zg_2 : ∀ r : Nat, r < 20 → ((zTT.getD 2 []).getD r []).all (fun q => zchkT (40 + r) q.1 q.2) = true := by
  intro r h
  match r, h with
  | 0, _ => exact ck_40
  | 1, _ => exact ck_41
  | 2, _ => exact ck_42
  | 3, _ => exact ck_43
  | 4, _ => exact ck_44
  | 5, _ => exact ck_45
  | 6, _ => exact ck_46
  | 7, _ => exact ck_47
  | 8, _ => exact ck_48
  | 9, _ => exact ck_49
  | 10, _ => exact ck_50
  | 11, _ => exact ck_51
  | 12, _ => exact ck_52
  | 13, _ => exact ck_53
  | 14, _ => exact ck_54
  | 15, _ => exact ck_55
  | 16, _ => exact ck_56
  | 17, _ => exact ck_57
  | 18, _ => exact ck_58
  | 19, _ => exact ck_59
  | r + 20, h => exact absurd h (by omega)
theorem zg_3 : ∀ r : Nat, r < 20 → ((zTT.getD 3 []).getD r []).all (fun q => zchkT (60 + r) q.1 q.2) = true := by
  intro r h
  match r, h with
  | 0, _ => exact ck_60
  | 1, _ => exact ck_61
  | 2, _ => exact ck_62
  | 3, _ => exact ck_63
  | 4, _ => exact ck_64
  | 5, _ => exact ck_65
  | 6, _ => exact ck_66
  | 7, _ => exact ck_67
  | 8, _ => exact ck_68
  | 9, _ => exact ck_69
  | 10, _ => exact ck_70
  | 11, _ => exact ck_71
  | 12, _ => exact ck_72
  | 13, _ => exact ck_73
  | 14, _ => exact ck_74
  | 15, _ => exact ck_75
  | 16, _ => exact ck_76
  | 17, _ => exact ck_77
  | 18, _ => exact ck_78
  | 19, _ => exact ck_79
  | r + 20, h => exact absurd h (by omega)
theorem zg_4 : ∀ r : Nat, r < 20 → ((zTT.getD 4 []).getD r []).all (fun q => zchkT (80 + r) q.1 q.2) = true := by
  intro r h
  match r, h with
  | 0, _ => exact ck_80
  | 1, _ => exact ck_81
  | 2, _ => exact ck_82
  | 3, _ => exact ck_83
  | 4, _ => exact ck_84
  | 5, _ => exact ck_85
  | 6, _ => exact ck_86
  | 7, _ => exact ck_87
  | 8, _ => exact ck_88
  | 9, _ => exact ck_89
  | 10, _ => exact ck_90
  | 11, _ => exact ck_91
  | 12, _ => exact ck_92
  | 13, _ => exact ck_93
  | 14, _ => exact ck_94
  | 15, _ => exact ck_95
  | 16, _ => exact ck_96
  | 17, _ => exact ck_97
  | 18, _ => exact ck_98
  | 19, _ => exact ck_99
  | r + 20, h => exact absurd h (by omega)
theorem zg_5 : ∀ r : Nat, r < 20 → ((zTT.getD 5 []).getD r []).all (fun q => zchkT (100 + r) q.1 q.2) = true := by
  intro r h
  match r, h with
  | 0, _ => exact ck_100
  | 1, _ => exact ck_101
  | 2, _ => exact ck_102
  | 3, _ => exact ck_103
  | 4, _ => exact ck_104
  | 5, _ => exact ck_105
  | 6, _ => exact ck_106
  | 7, _ => exact ck_107
  | 8, _ => exact ck_108
  | 9, _ => exact ck_109
  | 10, _ => exact ck_110
  | 11, _ => exact ck_111
  | 12, _ => exact ck_112
  | 13, _ => exact ck_113
  | 14, _ => exact ck_114
  | 15, _ => exact ck_115
  | 16, _ => exact ck_116
  | 17, _ => exact ck_117
  | 18, _ => exact ck_118
  | 19, _ => exact ck_119
  | r + 20, h => exact absurd h (by omega)
theorem zg_6 : ∀ r : Nat, r < 20 → ((zTT.getD 6 []).getD r []).all (fun q => zchkT (120 + r) q.1 q.2) = true := by
  intro r h
  match r, h with
  | 0, _ => exact ck_120
  | 1, _ => exact ck_121
  | 2, _ => exact ck_122
  | 3, _ => exact ck_123
  | 4, _ => exact ck_124
  | 5, _ => exact ck_125
  | 6, _ => exact ck_126
  | 7, _ => exact ck_127
  | 8, _ => exact ck_128
  | 9, _ => exact ck_129
  | 10, _ => exact ck_130
  | 11, _ => exact ck_131
  | 12, _ => exact ck_132
  | 13, _ => exact ck_133
  | 14, _ => exact ck_134
  | 15, _ => exact ck_135
  | 16, _ => exact ck_136
  | 17, _ => exact ck_137
  | 18, _ => exact ck_138
  | 19, _ => exact ck_139
  | r + 20, h => exact absurd h (by omega)
theorem zg_7 : ∀ r : Nat, r < 20 → ((zTT.getD 7 []).getD r []).all (fun q => zchkT (140 + r) q.1 q.2) = true := by
  intro r h
  match r, h with
  | 0, _ => exact ck_140
  | 1, _ => exact ck_141
  | 2, _ => exact ck_142
  | 3, _ => exact ck_143
  | 4, _ => exact ck_144
  | 5, _ => exact ck_145
  | 6, _ => exact ck_146
  | 7, _ => exact ck_147
  | 8, _ => exact ck_148
  | 9, _ => exact ck_149
  | 10, _ => exact ck_150
  | 11, _ => exact ck_151
  | 12, _ => exact ck_152
  | 13, _ => exact ck_153
  | 14, _ => exact ck_154
  | 15, _ => exact ck_155
  | 16, _ => exact ck_156
  | 17, _ => exact ck_157
  | 18, _ => exact ck_158
  | 19, _ => exact ck_159
  | r + 20, h => exact absurd h (by omega)
theorem zg_8 : ∀ r : Nat, r < 20 → ((zTT.getD 8 []).getD r []).all (fun q => zchkT (160 + r) q.1 q.2) = true := by
  intro r h
  match r, h with
  | 0, _ => exact ck_160
  | 1, _ => exact ck_161
  | 2, _ => exact ck_162
  | 3, _ => exact ck_163
  | 4, _ => exact ck_164
  | 5, _ => exact ck_165
  | 6, _ => exact ck_166
  | 7, _ => exact ck_167
  | 8, _ => exact ck_168
  | 9, _ => exact ck_169
  | 10, _ => exact ck_170
  | 11, _ => exact ck_171
  | 12, _ => exact ck_172
  | 13, _ => exact ck_173
  | 14, _ => exact ck_174
  | 15, _ => exact ck_175
  | 16, _ => exact ck_176
  | 17, _ => exact ck_177
  | 18, _ => exact ck_178
  | 19, _ => exact ck_179
  | r + 20, h => exact absurd h (by omega)
theorem zg_9 : ∀ r : Nat, r < 20 → ((zTT.getD 9 []).getD r []).all (fun q => zchkT (180 + r) q.1 q.2) = true := by
  intro r h
  match r, h with
  | 0, _ => exact ck_180
  | 1, _ => exact ck_181
  | 2, _ => exact ck_182
  | 3, _ => exact ck_183
  | 4, _ => exact ck_184
  | 5, _ => exact ck_185
  | 6, _ => exact ck_186
  | 7, _ => exact ck_187
  | 8, _ => exact ck_188
  | 9, _ => exact ck_189
  | 10, _ => exact ck_190
  | 11, _ => exact ck_191
  | 12, _ => exact ck_192
  | 13, _ => exact ck_193
  | 14, _ => exact ck_194
  | 15, _ => exact ck_195
  | 16, _ => exact ck_196
  | 17, _ => exact ck_197
  | 18, _ => exact ck_198
  | 19, _ => exact ck_199
  | r + 20, h => exact absurd h (by omega)
theorem zg_10 : ∀ r : Nat, r < 20 → ((zTT.getD 10 []).getD r []).all (fun q => zchkT (200 + r) q.1 q.2) = true := by
  intro r h
  match r, h with
  | 0, _ => exact ck_200
  | 1, _ => exact ck_201
  | 2, _ => exact ck_202
  | 3, _ => exact ck_203
  | 4, _ => exact ck_204
  | 5, _ => exact ck_205
  | 6, _ => exact ck_206
  | 7, _ => exact ck_207
  | 8, _ => exact ck_208
  | 9, _ => exact ck_209
  | 10, _ => exact ck_210
  | 11, _ => exact ck_211
  | 12, _ => exact ck_212
  | 13, _ => exact ck_213
  | 14, _ => exact ck_214
  | 15, _ => exact ck_215
  | 16, _ => exact ck_216
  | 17, _ => exact ck_217
  | 18, _ => exact ck_218
  | 19, _ => exact ck_219
  | r + 20, h => exact absurd h (by omega)
theorem zg_11 : ∀ r : Nat, r < 20 → ((zTT.getD 11 []).getD r []).all (fun q => zchkT (220 + r) q.1 q.2) = true := by
  intro r h
  match r, h with
  | 0, _ => exact ck_220
  | 1, _ => exact ck_221
  | 2, _ => exact ck_222
  | 3, _ => exact ck_223
  | 4, _ => exact ck_224
  | 5, _ => exact ck_225
  | 6, _ => exact ck_226
  | 7, _ => exact ck_227
  | 8, _ => exact ck_228
  | 9, _ => exact ck_229
  | 10, _ => exact ck_230
  | 11, _ => exact ck_231
  | 12, _ => exact ck_232
  | 13, _ => exact ck_233
  | 14, _ => exact ck_234
  | 15, _ => exact ck_235
  | 16, _ => exact ck_236
  | 17, _ => exact ck_237
  | 18, _ => exact ck_238
  | 19, _ => exact ck_239
  | r + 20, h => exact absurd h (by omega)
theorem zg_12 : ∀ r : Nat, r < 20 → ((zTT.getD 12 []).getD r []).all (fun q => zchkT (240 + r) q.1 q.2) = true := by
  intro r h
  match r, h with
  | 0, _ => exact ck_240
  | 1, _ => exact ck_241
  | 2, _ => exact ck_242
  | 3, _ => exact ck_243
  | 4, _ => exact ck_244
  | 5, _ => exact ck_245
  | 6, _ => exact ck_246
  | 7, _ => exact ck_247
  | 8, _ => exact ck_248
  | 9, _ => exact ck_249
  | 10, _ => exact ck_250
  | 11, _ => exact ck_251
  | 12, _ => exact ck_252
  | 13, _ => exact ck_253
  | 14, _ => exact ck_254
  | 15, _ => exact ck_255
  | 16, _ => exact ck_256
  | 17, _ => exact ck_257
  | 18, _ => exact ck_258
  | 19, _ => exact ck_259
  | r + 20, h => exact absurd h (by omega)
theorem zg_13 : ∀ r : Nat, r < 20 → ((zTT.getD 13 []).getD r []).all (fun q => zchkT (260 + r) q.1 q.2) = true := by
  intro r h
  match r, h with
  | 0, _ => exact ck_260
  | 1, _ => exact ck_261
  | 2, _ => exact ck_262
  | 3, _ => exact ck_263
  | 4, _ => exact ck_264
  | 5, _ => exact ck_265
  | 6, _ => exact ck_266
  | 7, _ => exact ck_267
  | 8, _ => exact ck_268
  | 9, _ => exact ck_269
  | 10, _ => exact ck_270
  | 11, _ => exact ck_271
  | 12, _ => exact ck_272
  | 13, _ => exact ck_273
  | 14, _ => exact ck_274
  | 15, _ => exact ck_275
  | 16, _ => exact ck_276
  | 17, _ => exact ck_277
  | 18, _ => exact ck_278
  | 19, _ => exact ck_279
  | r + 20, h => exact absurd h (by omega)
theorem zg_14 : ∀ r : Nat, r < 20 → ((zTT.getD 14 []).getD r []).all (fun q => zchkT (280 + r) q.1 q.2) = true := by
  intro r h
  match r, h with
  | 0, _ => exact ck_280
  | 1, _ => exact ck_281
  | 2, _ => exact ck_282
  | 3, _ => exact ck_283
  | 4, _ => exact ck_284
  | 5, _ => exact ck_285
  | 6, _ => exact ck_286
  | 7, _ => exact ck_287
  | 8, _ => exact ck_288
  | 9, _ => exact ck_289
  | 10, _ => exact ck_290
  | 11, _ => exact ck_291
  | 12, _ => exact ck_292
  | 13, _ => exact ck_293
  | 14, _ => exact ck_294
  | 15, _ => exact ck_295
  | 16, _ => exact ck_296
  | 17, _ => exact ck_297
  | 18, _ => exact ck_298
  | 19, _ => exact ck_299
  | r + 20, h => exact absurd h (by omega)
theorem zg_15 : ∀ r : Nat, r < 20 → ((zTT.getD 15 []).getD r []).all (fun q => zchkT (300 + r) q.1 q.2) = true := by
  intro r h
  match r, h with
  | 0, _ => exact ck_300
  | 1, _ => exact ck_301
  | 2, _ => exact ck_302
  | 3, _ => exact ck_303
  | 4, _ => exact ck_304
  | 5, _ => exact ck_305
  | 6, _ => exact ck_306
  | 7, _ => exact ck_307
  | 8, _ => exact ck_308
  | 9, _ => exact ck_309
  | 10, _ => exact ck_310
  | 11, _ => exact ck_311
  | 12, _ => exact ck_312
  | 13, _ => exact ck_313
  | 14, _ => exact ck_314
  | 15, _ => exact ck_315
  | 16, _ => exact ck_316
  | 17, _ => exact ck_317
  | 18, _ => exact ck_318
  | 19, _ => exact ck_319
  | r + 20, h => exact absurd h (by omega)
theorem zg_16 : ∀ r : Nat, r < 20 → ((zTT.getD 16 []).getD r []).all (fun q => zchkT (320 + r) q.1 q.2) = true := by
  intro r h
  match r, h with
  | 0, _ => exact ck_320
  | 1, _ => exact ck_321
  | 2, _ => exact ck_322
  | 3, _ => exact ck_323
  | 4, _ => exact ck_324
  | 5, _ => exact ck_325
  | 6, _ => exact ck_326
  | 7, _ => exact ck_327
  | 8, _ => exact ck_328
  | 9, _ => exact ck_329
  | 10, _ => exact ck_330
  | 11, _ => exact ck_331
  | 12, _ => exact ck_332
  | 13, _ => exact ck_333
  | 14, _ => exact ck_334
  | 15, _ => exact ck_335
  | 16, _ => exact ck_336
  | 17, _ => exact ck_337
  | 18, _ => exact ck_338
  | 19, _ => exact ck_339
  | r + 20, h => exact absurd h (by omega)
theorem zg_17 : ∀ r : Nat, r < 20 → ((zTT.getD 17 []).getD r []).all (fun q => zchkT (340 + r) q.1 q.2) = true := by
  intro r h
  match r, h with
  | 0, _ => exact ck_340
  | 1, _ => exact ck_341
  | 2, _ => exact ck_342
  | 3, _ => exact ck_343
  | 4, _ => exact ck_344
  | 5, _ => exact ck_345
  | 6, _ => exact ck_346
  | 7, _ => exact ck_347
  | 8, _ => exact ck_348
  | 9, _ => exact ck_349
  | 10, _ => exact ck_350
  | 11, _ => exact ck_351
  | 12, _ => exact ck_352
  | 13, _ => exact ck_353
  | 14, _ => exact ck_354
  | 15, _ => exact ck_355
  | 16, _ => exact ck_356
  | 17, _ => exact ck_357
  | 18, _ => exact ck_358
  | 19, _ => exact ck_359
  | r + 20, h => exact absurd h (by omega)
theorem zg_18 : ∀ r : Nat, r < 20 → ((zTT.getD 18 []).getD r []).all (fun q => zchkT (360 + r) q.1 q.2) = true := by
  intro r h
  match r, h with
  | 0, _ => exact ck_360
  | 1, _ => exact ck_361
  | 2, _ => exact ck_362
  | 3, _ => exact ck_363
  | 4, _ => exact ck_364
  | 5, _ => exact ck_365
  | 6, _ => exact ck_366
  | 7, _ => exact ck_367
  | 8, _ => exact ck_368
  | 9, _ => exact ck_369
  | 10, _ => exact ck_370
  | 11, _ => exact ck_371
  | 12, _ => exact ck_372
  | 13, _ => exact ck_373
  | 14, _ => exact ck_374
  | 15, _ => exact ck_375
  | 16, _ => exact ck_376
  | 17, _ => exact ck_377
  | 18, _ => exact ck_378
  | 19, _ => exact ck_379
  | r + 20, h => exact absurd h (by omega)
theorem zg_19 : ∀ r : Nat, r < 20 → ((zTT.getD 19 []).getD r []).all (fun q => zchkT (380 + r) q.1 q.2) = true := by
  intro r h
  match r, h with
  | 0, _ => exact ck_380
  | 1, _ => exact ck_381
  | 2, _ => exact ck_382
  | 3, _ => exact ck_383
  | 4, _ => exact ck_384
  | 5, _ => exact ck_385
  | 6, _ => exact ck_386
  | 7, _ => exact ck_387
  | 8, _ => exact ck_388
  | 9, _ => exact ck_389
  | 10, _ => exact ck_390
  | 11, _ => exact ck_391
  | 12, _ => exact ck_392
  | 13, _ => exact ck_393
  | 14, _ => rfl
  | 15, _ => rfl
  | 16, _ => rfl
  | 17, _ => rfl
  | 18, _ => rfl
  | 19, _ => rfl
  | r + 20, h => exact absurd h (by omega)
theorem zg_all : ∀ j : Nat, ∀ r : Nat, r < 20 → ((zTT.getD j []).getD r []).all (fun q => zchkT (20 * j + r) q.1 q.2) = true := by
  intro j
  match j with
  | 0 => exact zg_0
  | 1 => exact zg_1
  | 2 => exact zg_2
  | 3 => exact zg_3
  | 4 => exact zg_4
  | 5 => exact zg_5
  | 6 => exact zg_6
  | 7 => exact zg_7
  | 8 => exact zg_8
  | 9 => exact zg_9
  | 10 => exact zg_10
  | 11 => exact zg_11
  | 12 => exact zg_12
  | 13 => exact zg_13
  | 14 => exact zg_14
  | 15 => exact zg_15
  | 16 => exact zg_16
  | 17 => exact zg_17
  | 18 => exact zg_18
  | 19 => exact zg_19
  | j + 20 =>
    intro r _
    have e : (zTT.getD (j + 20) []) = [] := by
      rw [List.getD_eq_getElem?_getD, List.getElem?_eq_none (by show 20 ≤ j + 20; omega)]
      rfl
    rw [e]
    cases r <;> rfl
theorem zlook_mem {α : Type} : ∀ (l : List (Nat × α)) (k : Nat) (v : α), l.lookup k = some v → (k, v) ∈ l := by
  intro l
  induction l with
  | nil => intro k v h; cases h
  | cons q l ih =>
    intro k v h
    obtain ⟨a, b⟩ := q
    unfold List.lookup at h
    split at h
    · next e =>
      cases h
      rw [beq_iff_eq] at e
      rw [e]
      exact List.mem_cons_self
    · exact List.mem_cons_of_mem _ (ih k v h)
theorem zgood : zGood := by
  intro m pc
  have h := zg_all (m / 20) (m % 20) (Nat.mod_lt _ (by decide))
  rw [Nat.div_add_mod] at h
  unfold ztr
  cases hl : (((zTT.getD (m / 20) []).getD (m % 20) []).lookup pc) with
  | none => rfl
  | some ops => exact List.all_eq_true.mp h (pc, ops) (zlook_mem _ _ _ hl)
