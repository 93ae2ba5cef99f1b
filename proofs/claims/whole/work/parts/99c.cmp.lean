/-! RULE: a comparison -/
def f12_cmT (N : Nat) (mb : Nat) (I_2 : IT) (J_3 : JT) : Option (Int32 × IT × JT) :=
  yb_b3 (f12_see N mb  I_2 J_3) fun r_6 I_7 J_8 =>
  yb_let (I_7 mb 8) fun x2_10 =>
  if r_6 = (60 : Int32) then
    yb_let (up2 I_7 mb 8 ((I_7 mb 8) + (1 : Int32))) fun I_12 =>
    if r_6 = (61 : Int32) then
      yb_b3 (f12_makes mb x2_10 I_12 J_8) fun r_15 I_16 J_17 =>
      if r_15 = 0 then
        some ((0 : Int32), I_16, J_17)
      else
        if r_6 = (60 : Int32) then
          yb_b3 (f12_sum N mb  I_16 J_17) fun r_42 I_43 J_44 =>
          if r_42 = 0 then
            some ((0 : Int32), I_43, J_44)
          else
            yb_b3 (f12_puts mb ((6 : Int32) + (0 : Int32)) (0 : Int32) I_43 J_44) fun r_47 I_48 J_49 =>
            some ((1 : Int32), I_48, J_49)
        else
          if r_6 = (61 : Int32) then
            yb_b3 (f12_sum N mb  I_16 J_17) fun r_32 I_33 J_34 =>
            if r_32 = 0 then
              some ((0 : Int32), I_33, J_34)
            else
              yb_b3 (f12_puts mb ((6 : Int32) + (2 : Int32)) (0 : Int32) I_33 J_34) fun r_37 I_38 J_39 =>
              some ((1 : Int32), I_38, J_39)
          else
            yb_b3 (f12_sum N mb  I_16 J_17) fun r_23 I_24 J_25 =>
            if r_23 = 0 then
              some ((0 : Int32), I_24, J_25)
            else
              yb_b3 (f12_puts mb ((6 : Int32) + (4 : Int32)) (0 : Int32) I_24 J_25) fun r_28 I_29 J_30 =>
              some ((1 : Int32), I_29, J_30)
    else
      if (I_12 mb 1) ≤ (I_12 mb 8) then
        yb_b3 (f12_makes mb x2_10 I_12 J_8) fun r_53 I_54 J_55 =>
        if r_53 = 0 then
          some ((0 : Int32), I_54, J_55)
        else
          if r_6 = (60 : Int32) then
            yb_b3 (f12_sum N mb  I_54 J_55) fun r_80 I_81 J_82 =>
            if r_80 = 0 then
              some ((0 : Int32), I_81, J_82)
            else
              yb_b3 (f12_puts mb ((6 : Int32) + (0 : Int32)) (0 : Int32) I_81 J_82) fun r_85 I_86 J_87 =>
              some ((1 : Int32), I_86, J_87)
          else
            if r_6 = (61 : Int32) then
              yb_b3 (f12_sum N mb  I_54 J_55) fun r_70 I_71 J_72 =>
              if r_70 = 0 then
                some ((0 : Int32), I_71, J_72)
              else
                yb_b3 (f12_puts mb ((6 : Int32) + (2 : Int32)) (0 : Int32) I_71 J_72) fun r_75 I_76 J_77 =>
                some ((1 : Int32), I_76, J_77)
            else
              yb_b3 (f12_sum N mb  I_54 J_55) fun r_61 I_62 J_63 =>
              if r_61 = 0 then
                some ((0 : Int32), I_62, J_63)
              else
                yb_b3 (f12_puts mb ((6 : Int32) + (4 : Int32)) (0 : Int32) I_62 J_63) fun r_66 I_67 J_68 =>
                some ((1 : Int32), I_67, J_68)
      else
        yb_ck (inb (I_12 mb 8) 400) fun _ =>
        if (I_12 (mb + 1) (I_12 mb 8).toNatClampNeg) = (61 : Int32) then
          yb_let (up2 I_12 mb 8 ((I_12 mb 8) + (1 : Int32))) fun I_129 =>
          yb_b3 (f12_makes mb x2_10 I_129 J_8) fun r_130 I_131 J_132 =>
          if r_130 = 0 then
            some ((0 : Int32), I_131, J_132)
          else
            if r_6 = (60 : Int32) then
              yb_b3 (f12_sum N mb  I_131 J_132) fun r_157 I_158 J_159 =>
              if r_157 = 0 then
                some ((0 : Int32), I_158, J_159)
              else
                yb_b3 (f12_puts mb ((6 : Int32) + (1 : Int32)) (0 : Int32) I_158 J_159) fun r_162 I_163 J_164 =>
                some ((1 : Int32), I_163, J_164)
            else
              if r_6 = (61 : Int32) then
                yb_b3 (f12_sum N mb  I_131 J_132) fun r_147 I_148 J_149 =>
                if r_147 = 0 then
                  some ((0 : Int32), I_148, J_149)
                else
                  yb_b3 (f12_puts mb ((6 : Int32) + (2 : Int32)) (0 : Int32) I_148 J_149) fun r_152 I_153 J_154 =>
                  some ((1 : Int32), I_153, J_154)
              else
                yb_b3 (f12_sum N mb  I_131 J_132) fun r_138 I_139 J_140 =>
                if r_138 = 0 then
                  some ((0 : Int32), I_139, J_140)
                else
                  yb_b3 (f12_puts mb ((6 : Int32) + (3 : Int32)) (0 : Int32) I_139 J_140) fun r_143 I_144 J_145 =>
                  some ((1 : Int32), I_144, J_145)
        else
          yb_b3 (f12_makes mb x2_10 I_12 J_8) fun r_92 I_93 J_94 =>
          if r_92 = 0 then
            some ((0 : Int32), I_93, J_94)
          else
            if r_6 = (60 : Int32) then
              yb_b3 (f12_sum N mb  I_93 J_94) fun r_119 I_120 J_121 =>
              if r_119 = 0 then
                some ((0 : Int32), I_120, J_121)
              else
                yb_b3 (f12_puts mb ((6 : Int32) + (0 : Int32)) (0 : Int32) I_120 J_121) fun r_124 I_125 J_126 =>
                some ((1 : Int32), I_125, J_126)
            else
              if r_6 = (61 : Int32) then
                yb_b3 (f12_sum N mb  I_93 J_94) fun r_109 I_110 J_111 =>
                if r_109 = 0 then
                  some ((0 : Int32), I_110, J_111)
                else
                  yb_b3 (f12_puts mb ((6 : Int32) + (2 : Int32)) (0 : Int32) I_110 J_111) fun r_114 I_115 J_116 =>
                  some ((1 : Int32), I_115, J_116)
              else
                yb_b3 (f12_sum N mb  I_93 J_94) fun r_100 I_101 J_102 =>
                if r_100 = 0 then
                  some ((0 : Int32), I_101, J_102)
                else
                  yb_b3 (f12_puts mb ((6 : Int32) + (4 : Int32)) (0 : Int32) I_101 J_102) fun r_105 I_106 J_107 =>
                  some ((1 : Int32), I_106, J_107)
  else
    if r_6 = (61 : Int32) then
      yb_let (up2 I_7 mb 8 ((I_7 mb 8) + (1 : Int32))) fun I_167 =>
      if r_6 = (61 : Int32) then
        yb_b3 (f12_makes mb x2_10 I_167 J_8) fun r_170 I_171 J_172 =>
        if r_170 = 0 then
          some ((0 : Int32), I_171, J_172)
        else
          if r_6 = (60 : Int32) then
            yb_b3 (f12_sum N mb  I_171 J_172) fun r_197 I_198 J_199 =>
            if r_197 = 0 then
              some ((0 : Int32), I_198, J_199)
            else
              yb_b3 (f12_puts mb ((6 : Int32) + (0 : Int32)) (0 : Int32) I_198 J_199) fun r_202 I_203 J_204 =>
              some ((1 : Int32), I_203, J_204)
          else
            if r_6 = (61 : Int32) then
              yb_b3 (f12_sum N mb  I_171 J_172) fun r_187 I_188 J_189 =>
              if r_187 = 0 then
                some ((0 : Int32), I_188, J_189)
              else
                yb_b3 (f12_puts mb ((6 : Int32) + (2 : Int32)) (0 : Int32) I_188 J_189) fun r_192 I_193 J_194 =>
                some ((1 : Int32), I_193, J_194)
            else
              yb_b3 (f12_sum N mb  I_171 J_172) fun r_178 I_179 J_180 =>
              if r_178 = 0 then
                some ((0 : Int32), I_179, J_180)
              else
                yb_b3 (f12_puts mb ((6 : Int32) + (4 : Int32)) (0 : Int32) I_179 J_180) fun r_183 I_184 J_185 =>
                some ((1 : Int32), I_184, J_185)
      else
        if (I_167 mb 1) ≤ (I_167 mb 8) then
          yb_b3 (f12_makes mb x2_10 I_167 J_8) fun r_208 I_209 J_210 =>
          if r_208 = 0 then
            some ((0 : Int32), I_209, J_210)
          else
            if r_6 = (60 : Int32) then
              yb_b3 (f12_sum N mb  I_209 J_210) fun r_235 I_236 J_237 =>
              if r_235 = 0 then
                some ((0 : Int32), I_236, J_237)
              else
                yb_b3 (f12_puts mb ((6 : Int32) + (0 : Int32)) (0 : Int32) I_236 J_237) fun r_240 I_241 J_242 =>
                some ((1 : Int32), I_241, J_242)
            else
              if r_6 = (61 : Int32) then
                yb_b3 (f12_sum N mb  I_209 J_210) fun r_225 I_226 J_227 =>
                if r_225 = 0 then
                  some ((0 : Int32), I_226, J_227)
                else
                  yb_b3 (f12_puts mb ((6 : Int32) + (2 : Int32)) (0 : Int32) I_226 J_227) fun r_230 I_231 J_232 =>
                  some ((1 : Int32), I_231, J_232)
              else
                yb_b3 (f12_sum N mb  I_209 J_210) fun r_216 I_217 J_218 =>
                if r_216 = 0 then
                  some ((0 : Int32), I_217, J_218)
                else
                  yb_b3 (f12_puts mb ((6 : Int32) + (4 : Int32)) (0 : Int32) I_217 J_218) fun r_221 I_222 J_223 =>
                  some ((1 : Int32), I_222, J_223)
        else
          yb_ck (inb (I_167 mb 8) 400) fun _ =>
          if (I_167 (mb + 1) (I_167 mb 8).toNatClampNeg) = (61 : Int32) then
            yb_let (up2 I_167 mb 8 ((I_167 mb 8) + (1 : Int32))) fun I_284 =>
            yb_b3 (f12_makes mb x2_10 I_284 J_8) fun r_285 I_286 J_287 =>
            if r_285 = 0 then
              some ((0 : Int32), I_286, J_287)
            else
              if r_6 = (60 : Int32) then
                yb_b3 (f12_sum N mb  I_286 J_287) fun r_312 I_313 J_314 =>
                if r_312 = 0 then
                  some ((0 : Int32), I_313, J_314)
                else
                  yb_b3 (f12_puts mb ((6 : Int32) + (1 : Int32)) (0 : Int32) I_313 J_314) fun r_317 I_318 J_319 =>
                  some ((1 : Int32), I_318, J_319)
              else
                if r_6 = (61 : Int32) then
                  yb_b3 (f12_sum N mb  I_286 J_287) fun r_302 I_303 J_304 =>
                  if r_302 = 0 then
                    some ((0 : Int32), I_303, J_304)
                  else
                    yb_b3 (f12_puts mb ((6 : Int32) + (2 : Int32)) (0 : Int32) I_303 J_304) fun r_307 I_308 J_309 =>
                    some ((1 : Int32), I_308, J_309)
                else
                  yb_b3 (f12_sum N mb  I_286 J_287) fun r_293 I_294 J_295 =>
                  if r_293 = 0 then
                    some ((0 : Int32), I_294, J_295)
                  else
                    yb_b3 (f12_puts mb ((6 : Int32) + (3 : Int32)) (0 : Int32) I_294 J_295) fun r_298 I_299 J_300 =>
                    some ((1 : Int32), I_299, J_300)
          else
            yb_b3 (f12_makes mb x2_10 I_167 J_8) fun r_247 I_248 J_249 =>
            if r_247 = 0 then
              some ((0 : Int32), I_248, J_249)
            else
              if r_6 = (60 : Int32) then
                yb_b3 (f12_sum N mb  I_248 J_249) fun r_274 I_275 J_276 =>
                if r_274 = 0 then
                  some ((0 : Int32), I_275, J_276)
                else
                  yb_b3 (f12_puts mb ((6 : Int32) + (0 : Int32)) (0 : Int32) I_275 J_276) fun r_279 I_280 J_281 =>
                  some ((1 : Int32), I_280, J_281)
              else
                if r_6 = (61 : Int32) then
                  yb_b3 (f12_sum N mb  I_248 J_249) fun r_264 I_265 J_266 =>
                  if r_264 = 0 then
                    some ((0 : Int32), I_265, J_266)
                  else
                    yb_b3 (f12_puts mb ((6 : Int32) + (2 : Int32)) (0 : Int32) I_265 J_266) fun r_269 I_270 J_271 =>
                    some ((1 : Int32), I_270, J_271)
                else
                  yb_b3 (f12_sum N mb  I_248 J_249) fun r_255 I_256 J_257 =>
                  if r_255 = 0 then
                    some ((0 : Int32), I_256, J_257)
                  else
                    yb_b3 (f12_puts mb ((6 : Int32) + (4 : Int32)) (0 : Int32) I_256 J_257) fun r_260 I_261 J_262 =>
                    some ((1 : Int32), I_261, J_262)
    else
      if r_6 = (62 : Int32) then
        yb_let (up2 I_7 mb 8 ((I_7 mb 8) + (1 : Int32))) fun I_322 =>
        if r_6 = (61 : Int32) then
          yb_b3 (f12_makes mb x2_10 I_322 J_8) fun r_325 I_326 J_327 =>
          if r_325 = 0 then
            some ((0 : Int32), I_326, J_327)
          else
            if r_6 = (60 : Int32) then
              yb_b3 (f12_sum N mb  I_326 J_327) fun r_352 I_353 J_354 =>
              if r_352 = 0 then
                some ((0 : Int32), I_353, J_354)
              else
                yb_b3 (f12_puts mb ((6 : Int32) + (0 : Int32)) (0 : Int32) I_353 J_354) fun r_357 I_358 J_359 =>
                some ((1 : Int32), I_358, J_359)
            else
              if r_6 = (61 : Int32) then
                yb_b3 (f12_sum N mb  I_326 J_327) fun r_342 I_343 J_344 =>
                if r_342 = 0 then
                  some ((0 : Int32), I_343, J_344)
                else
                  yb_b3 (f12_puts mb ((6 : Int32) + (2 : Int32)) (0 : Int32) I_343 J_344) fun r_347 I_348 J_349 =>
                  some ((1 : Int32), I_348, J_349)
              else
                yb_b3 (f12_sum N mb  I_326 J_327) fun r_333 I_334 J_335 =>
                if r_333 = 0 then
                  some ((0 : Int32), I_334, J_335)
                else
                  yb_b3 (f12_puts mb ((6 : Int32) + (4 : Int32)) (0 : Int32) I_334 J_335) fun r_338 I_339 J_340 =>
                  some ((1 : Int32), I_339, J_340)
        else
          if (I_322 mb 1) ≤ (I_322 mb 8) then
            yb_b3 (f12_makes mb x2_10 I_322 J_8) fun r_363 I_364 J_365 =>
            if r_363 = 0 then
              some ((0 : Int32), I_364, J_365)
            else
              if r_6 = (60 : Int32) then
                yb_b3 (f12_sum N mb  I_364 J_365) fun r_390 I_391 J_392 =>
                if r_390 = 0 then
                  some ((0 : Int32), I_391, J_392)
                else
                  yb_b3 (f12_puts mb ((6 : Int32) + (0 : Int32)) (0 : Int32) I_391 J_392) fun r_395 I_396 J_397 =>
                  some ((1 : Int32), I_396, J_397)
              else
                if r_6 = (61 : Int32) then
                  yb_b3 (f12_sum N mb  I_364 J_365) fun r_380 I_381 J_382 =>
                  if r_380 = 0 then
                    some ((0 : Int32), I_381, J_382)
                  else
                    yb_b3 (f12_puts mb ((6 : Int32) + (2 : Int32)) (0 : Int32) I_381 J_382) fun r_385 I_386 J_387 =>
                    some ((1 : Int32), I_386, J_387)
                else
                  yb_b3 (f12_sum N mb  I_364 J_365) fun r_371 I_372 J_373 =>
                  if r_371 = 0 then
                    some ((0 : Int32), I_372, J_373)
                  else
                    yb_b3 (f12_puts mb ((6 : Int32) + (4 : Int32)) (0 : Int32) I_372 J_373) fun r_376 I_377 J_378 =>
                    some ((1 : Int32), I_377, J_378)
          else
            yb_ck (inb (I_322 mb 8) 400) fun _ =>
            if (I_322 (mb + 1) (I_322 mb 8).toNatClampNeg) = (61 : Int32) then
              yb_let (up2 I_322 mb 8 ((I_322 mb 8) + (1 : Int32))) fun I_439 =>
              yb_b3 (f12_makes mb x2_10 I_439 J_8) fun r_440 I_441 J_442 =>
              if r_440 = 0 then
                some ((0 : Int32), I_441, J_442)
              else
                if r_6 = (60 : Int32) then
                  yb_b3 (f12_sum N mb  I_441 J_442) fun r_467 I_468 J_469 =>
                  if r_467 = 0 then
                    some ((0 : Int32), I_468, J_469)
                  else
                    yb_b3 (f12_puts mb ((6 : Int32) + (1 : Int32)) (0 : Int32) I_468 J_469) fun r_472 I_473 J_474 =>
                    some ((1 : Int32), I_473, J_474)
                else
                  if r_6 = (61 : Int32) then
                    yb_b3 (f12_sum N mb  I_441 J_442) fun r_457 I_458 J_459 =>
                    if r_457 = 0 then
                      some ((0 : Int32), I_458, J_459)
                    else
                      yb_b3 (f12_puts mb ((6 : Int32) + (2 : Int32)) (0 : Int32) I_458 J_459) fun r_462 I_463 J_464 =>
                      some ((1 : Int32), I_463, J_464)
                  else
                    yb_b3 (f12_sum N mb  I_441 J_442) fun r_448 I_449 J_450 =>
                    if r_448 = 0 then
                      some ((0 : Int32), I_449, J_450)
                    else
                      yb_b3 (f12_puts mb ((6 : Int32) + (3 : Int32)) (0 : Int32) I_449 J_450) fun r_453 I_454 J_455 =>
                      some ((1 : Int32), I_454, J_455)
            else
              yb_b3 (f12_makes mb x2_10 I_322 J_8) fun r_402 I_403 J_404 =>
              if r_402 = 0 then
                some ((0 : Int32), I_403, J_404)
              else
                if r_6 = (60 : Int32) then
                  yb_b3 (f12_sum N mb  I_403 J_404) fun r_429 I_430 J_431 =>
                  if r_429 = 0 then
                    some ((0 : Int32), I_430, J_431)
                  else
                    yb_b3 (f12_puts mb ((6 : Int32) + (0 : Int32)) (0 : Int32) I_430 J_431) fun r_434 I_435 J_436 =>
                    some ((1 : Int32), I_435, J_436)
                else
                  if r_6 = (61 : Int32) then
                    yb_b3 (f12_sum N mb  I_403 J_404) fun r_419 I_420 J_421 =>
                    if r_419 = 0 then
                      some ((0 : Int32), I_420, J_421)
                    else
                      yb_b3 (f12_puts mb ((6 : Int32) + (2 : Int32)) (0 : Int32) I_420 J_421) fun r_424 I_425 J_426 =>
                      some ((1 : Int32), I_425, J_426)
                  else
                    yb_b3 (f12_sum N mb  I_403 J_404) fun r_410 I_411 J_412 =>
                    if r_410 = 0 then
                      some ((0 : Int32), I_411, J_412)
                    else
                      yb_b3 (f12_puts mb ((6 : Int32) + (4 : Int32)) (0 : Int32) I_411 J_412) fun r_415 I_416 J_417 =>
                      some ((1 : Int32), I_416, J_417)
      else
        yb_b3 (f12_fails mb (0 : Int32) x2_10 I_7 J_8) fun r_476 I_477 J_478 =>
        yb_ck (bz r_476) fun _ =>
        some (r_476, I_477, J_478)
theorem compare_eq (N mb : Nat) (I : IT) (J : JT) : f12_compare N mb I J = yb_b3 (f12_sum N mb I J) fun r I J => if r = 0 then some ((0 : Int32), I, J) else f12_cmT N mb I J := rfl
theorem sx_61 : ∀ c, c < 256 → (sx c = 61 ↔ c = 61) := by decide +kernel
def cmK (N mb s : Nat) (r : Option (Int32 × IT × JT)) : Option (Int32 × IT × JT) := yb_b3 r fun r I J => if r = 0 then some ((0 : Int32), I, J) else yb_b3 (f12_sum N mb I J) fun r I J => if r = 0 then some ((0 : Int32), I, J) else yb_b3 (f12_puts mb (nI (6 + s)) 0 I J) fun _ I J => some ((1 : Int32), I, J)
section CMP
variable {N b mb n p p' K V e : Nat} {w : Nat → Nat} {tc tr : List Int32} {S : ST} {Rf : RT} {I I1 I2 I' I1' I2' : IT} {J J' : JT} {r : Int32}
theorem q_cmp (hN : 1000 ≤ N) (h : Rd b mb n w p p' I I') :
    (f6_comparison b S Rf I J = some (-1, I, J) ∧ f12_cmT N mb I' J' = some (0, up2 (up2 I' mb 8 (nI p)) mb 9 ((1 + 8 * nI p) + 0), J')) ∨
    ∃ s l : Nat, s ≤ 4 ∧ 1 ≤ l ∧ p + l ≤ n ∧ ((l = 2 ∧ (s = 1 ∨ s = 3)) ∨ (l = 1 ∧ (s = 0 ∨ s = 2 ∨ s = 4))) ∧ f6_comparison b S Rf I J = some (tkC (6 + s, 0), I, J) ∧ f12_cmT N mb I' J' = cmK N mb s (f12_makes mb (nI p) (up2 I' mb 8 (nI (p + l))) J') := by
  have hs := h.seen
  have hw := h.w256
  have h4 := h.n4
  have hpn := h.le
  have e8 : up2 I' mb 8 (nI p) mb 8 = nI p := up2_same _ _ _ _
  have e81 : up2 (up2 I' mb 8 (nI p)) mb 8 (nI p + 1) = up2 I' mb 8 (nI (p + 1)) := by rw [up2_up2, nI_1]
  have e82 : up2 (up2 I' mb 8 (nI (p + 1))) mb 8 (nI (p + 1) + 1) = up2 I' mb 8 (nI (p + 2)) := by rw [up2_up2, nI_1]
  have e88 : up2 I' mb 8 (nI (p + 1)) mb 8 = nI (p + 1) := up2_same _ _ _ _
  have en : up2 I' mb 8 (nI (p + 1)) mb 1 = nI n := (up2_at (Or.inr (by decide))).trans h.2.1.2.1
  have see1 := q_see (J' := J') hN h
  have cg : ∀ k, p + 1 = k → k < n → (I (b + 1) k = nI (w k) ∧ up2 I' mb 8 (nI (p + 1)) (mb + 1) k = sx (w k)) := fun k _ hk => ⟨(h.1.2.2 k hk).2, by rw [up2_ne _ _ _ (by omega)]; exact (h.2.1.2.2 k hk).2⟩
  unfold f6_comparison
  rw [h.2.2.2.2.1, nI_1, lts, h.1.2.1]
  have run : ∀ c : Nat, chr w n p = nI c → c < 128 → p < n := fun c hc h1 => (chr_n (k := c) rfl (by omega) hw hc).1
  have lit0 : (6 : Int32) + 0 = nI (6 + 0) := by decide
  have lit1 : (6 : Int32) + 1 = nI (6 + 1) := by decide
  have lit2 : (6 : Int32) + 2 = nI (6 + 2) := by decide
  have lit3 : (6 : Int32) + 3 = nI (6 + 3) := by decide
  have lit4 : (6 : Int32) + 4 = nI (6 + 4) := by decide
  by_cases al : p + 1 < n ∧ w (p + 1) = 61
  · -- an = behind it
    have t1 : ¬ nI n ≤ nI (p + 1) := nI_ge al.1 (by omega)
    have t2 : I (b + 1) (p + 1) = (61 : Int32) := by rw [(cg _ rfl al.1).1, al.2]; rfl
    have t3 : up2 I' mb 8 (nI (p + 1)) (mb + 1) (p + 1) = (61 : Int32) := by rw [(cg _ rfl al.1).2, al.2]; decide
    rw [if_neg t1, yb_ck_t (inb_nI (show p + 1 < 400 by omega) (by decide)), nI_clamp (show p + 1 < 2 ^ 31 by omega), if_pos t2, q_sign h, b3s]
    by_cases c1 : chr w n p = 60
    · have n2 : ¬ chr w n p = 61 := by rw [c1]; decide
      rw [if_pos c1]
      refine Or.inr ⟨1, 2, by omega, by omega, by omega, Or.inl ⟨rfl, Or.inl rfl⟩, rfl, ?_⟩
      unfold f12_cmT cmK
      rw [see1, b3s, e8, lts, if_pos c1, lts, e81, if_neg n2, en, e88, if_neg t1, yb_ck_t (inb_nI (show p + 1 < 400 by omega) (by decide)), nI_clamp (show p + 1 < 2 ^ 31 by omega), if_pos t3, lts, e82]
      simp only [if_pos c1, lit1]
    · by_cases c2 : chr w n p = 61
      · rw [if_neg c1, if_pos c2]
        have := run 61 c2 (by omega)
        refine Or.inr ⟨2, 1, by omega, by omega, by omega, Or.inr ⟨rfl, Or.inr (Or.inl rfl)⟩, rfl, ?_⟩
        unfold f12_cmT cmK
        rw [see1, b3s, e8, lts, if_neg c1, if_pos c2, lts, e81, if_pos c2]
        simp only [if_neg c1, if_pos c2, lit2]
      · by_cases c3 : chr w n p = 62
        · rw [if_neg c1, if_neg c2, if_pos c3]
          refine Or.inr ⟨3, 2, by omega, by omega, by omega, Or.inl ⟨rfl, Or.inr rfl⟩, rfl, ?_⟩
          unfold f12_cmT cmK
          rw [see1, b3s, e8, lts, if_neg c1, if_neg c2, if_pos c3, lts, e81, if_neg c2, en, e88, if_neg t1, yb_ck_t (inb_nI (show p + 1 < 400 by omega) (by decide)), nI_clamp (show p + 1 < 2 ^ 31 by omega), if_pos t3, lts, e82]
          simp only [if_neg c1, if_neg c2, lit3]
        · rw [if_neg c1, if_neg c2, if_neg c3]
          refine Or.inl ⟨rfl, ?_⟩
          unfold f12_cmT
          rw [see1, b3s, e8, lts, if_neg c1, if_neg c2, if_neg c3, m_fails hs.2.2.2.2.2.2, b3s, yb_ck_t (show bz 0 = true from rfl)]
  · -- none behind it
    have cls : ∀ (X : Option (Int32 × IT × JT)) (Y : Option (Int32 × IT × JT)), (if nI n ≤ nI (p + 1) then X else yb_ck (inb (nI (p + 1)) 400) fun _ => if I (b + 1) (nI (p + 1)).toNatClampNeg = (61 : Int32) then Y else X) = X := fun X Y => by
      by_cases t1 : n ≤ p + 1
      · rw [if_pos (nI_le t1 (by omega))]
      · have hne : ¬ I (b + 1) (p + 1) = (61 : Int32) := by
          rw [(cg _ rfl (by omega)).1]
          exact fun q => al ⟨by omega, (nI_eq (a := w (p + 1)) (b := 61) (by have := hw (p + 1) (by omega); omega) (by omega)).mp q⟩
        rw [if_neg (nI_ge (by omega) (by omega)), yb_ck_t (inb_nI (show p + 1 < 400 by omega) (by decide)), nI_clamp (show p + 1 < 2 ^ 31 by omega), if_neg hne]
    have ref : ∀ (X : Option (Int32 × IT × JT)) (Y : Option (Int32 × IT × JT)), (if nI n ≤ nI (p + 1) then X else yb_ck (inb (nI (p + 1)) 400) fun _ => if up2 I' mb 8 (nI (p + 1)) (mb + 1) (nI (p + 1)).toNatClampNeg = (61 : Int32) then Y else X) = X := fun X Y => by
      by_cases t1 : n ≤ p + 1
      · rw [if_pos (nI_le t1 (by omega))]
      · have hne : ¬ up2 I' mb 8 (nI (p + 1)) (mb + 1) (p + 1) = (61 : Int32) := by
          rw [(cg _ rfl (by omega)).2]
          exact fun q => al ⟨by omega, (sx_61 _ (hw (p + 1) (by omega))).mp q⟩
        rw [if_neg (nI_ge (by omega) (by omega)), yb_ck_t (inb_nI (show p + 1 < 400 by omega) (by decide)), nI_clamp (show p + 1 < 2 ^ 31 by omega), if_neg hne]
    rw [cls, q_sign h, b3s]
    by_cases c1 : chr w n p = 60
    · have n2 : ¬ chr w n p = 61 := by rw [c1]; decide
      have := run 60 c1 (by omega)
      rw [if_pos c1]
      refine Or.inr ⟨0, 1, by omega, by omega, by omega, Or.inr ⟨rfl, Or.inl rfl⟩, rfl, ?_⟩
      unfold f12_cmT cmK
      rw [see1, b3s, e8, lts, if_pos c1, lts, e81, if_neg n2, en, e88, ref]
      simp only [if_pos c1, lit0]
    · by_cases c2 : chr w n p = 61
      · rw [if_neg c1, if_pos c2]
        have := run 61 c2 (by omega)
        refine Or.inr ⟨2, 1, by omega, by omega, by omega, Or.inr ⟨rfl, Or.inr (Or.inl rfl)⟩, rfl, ?_⟩
        unfold f12_cmT cmK
        rw [see1, b3s, e8, lts, if_neg c1, if_pos c2, lts, e81, if_pos c2]
        simp only [if_neg c1, if_pos c2, lit2]
      · by_cases c3 : chr w n p = 62
        · rw [if_neg c1, if_neg c2, if_pos c3]
          have := run 62 c3 (by omega)
          refine Or.inr ⟨4, 1, by omega, by omega, by omega, Or.inr ⟨rfl, Or.inr (Or.inr rfl)⟩, rfl, ?_⟩
          unfold f12_cmT cmK
          rw [see1, b3s, e8, lts, if_neg c1, if_neg c2, if_pos c3, lts, e81, if_neg c2, en, e88, ref]
          simp only [if_neg c1, if_neg c2, lit4]
        · rw [if_neg c1, if_neg c2, if_neg c3]
          refine Or.inl ⟨rfl, ?_⟩
          unfold f12_cmT
          rw [see1, b3s, e8, lts, if_neg c1, if_neg c2, if_neg c3, m_fails hs.2.2.2.2.2.2, b3s, yb_ck_t (show bz 0 = true from rfl)]
end CMP
