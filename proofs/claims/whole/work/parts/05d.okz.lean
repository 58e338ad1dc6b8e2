theorem okZ_0 : ∀ i, i < 10 → okZ (0 + i) = true := by decide +kernel
theorem okZ_10 : ∀ i, i < 10 → okZ (10 + i) = true := by decide +kernel
theorem okZ_20 : ∀ i, i < 10 → okZ (20 + i) = true := by decide +kernel
theorem okZ_30 : ∀ i, i < 10 → okZ (30 + i) = true := by decide +kernel
theorem okZ_40 : ∀ i, i < 10 → okZ (40 + i) = true := by decide +kernel
theorem okZ_50 : ∀ i, i < 10 → okZ (50 + i) = true := by decide +kernel
theorem okZ_60 : ∀ i, i < 10 → okZ (60 + i) = true := by decide +kernel
theorem okZ_70 : ∀ i, i < 10 → okZ (70 + i) = true := by decide +kernel
theorem okZ_80 : ∀ i, i < 10 → okZ (80 + i) = true := by decide +kernel
theorem okZ_90 : ∀ i, i < 10 → okZ (90 + i) = true := by decide +kernel
theorem okZ_100 : ∀ i, i < 10 → okZ (100 + i) = true := by decide +kernel
theorem okZ_110 : ∀ i, i < 10 → okZ (110 + i) = true := by decide +kernel
theorem okZ_120 : ∀ i, i < 10 → okZ (120 + i) = true := by decide +kernel
theorem okZ_130 : ∀ i, i < 10 → okZ (130 + i) = true := by decide +kernel
theorem okZ_140 : ∀ i, i < 10 → okZ (140 + i) = true := by decide +kernel
theorem okZ_150 : ∀ i, i < 10 → okZ (150 + i) = true := by decide +kernel
theorem okZ_160 : ∀ i, i < 10 → okZ (160 + i) = true := by decide +kernel
theorem okZ_170 : ∀ i, i < 10 → okZ (170 + i) = true := by decide +kernel
theorem okZ_180 : ∀ i, i < 10 → okZ (180 + i) = true := by decide +kernel
theorem okZ_190 : ∀ i, i < 10 → okZ (190 + i) = true := by decide +kernel
theorem okZ_200 : ∀ i, i < 10 → okZ (200 + i) = true := by decide +kernel
theorem okZ_210 : ∀ i, i < 10 → okZ (210 + i) = true := by decide +kernel
theorem okZ_220 : ∀ i, i < 10 → okZ (220 + i) = true := by decide +kernel
theorem okZ_230 : ∀ i, i < 10 → okZ (230 + i) = true := by decide +kernel
theorem okZ_240 : ∀ i, i < 10 → okZ (240 + i) = true := by decide +kernel
theorem okZ_250 : ∀ i, i < 10 → okZ (250 + i) = true := by decide +kernel
theorem okZ_260 : ∀ i, i < 10 → okZ (260 + i) = true := by decide +kernel
theorem okZ_270 : ∀ i, i < 10 → okZ (270 + i) = true := by decide +kernel
theorem okZ_280 : ∀ i, i < 10 → okZ (280 + i) = true := by decide +kernel
theorem okZ_290 : ∀ i, i < 10 → okZ (290 + i) = true := by decide +kernel
theorem okZ_300 : ∀ i, i < 10 → okZ (300 + i) = true := by decide +kernel
theorem okZ_310 : ∀ i, i < 10 → okZ (310 + i) = true := by decide +kernel
theorem okZ_320 : ∀ i, i < 10 → okZ (320 + i) = true := by decide +kernel
theorem okZ_330 : ∀ i, i < 10 → okZ (330 + i) = true := by decide +kernel
theorem okZ_340 : ∀ i, i < 10 → okZ (340 + i) = true := by decide +kernel
theorem okZ_350 : ∀ i, i < 10 → okZ (350 + i) = true := by decide +kernel
theorem okZ_360 : ∀ i, i < 10 → okZ (360 + i) = true := by decide +kernel
theorem okZ_370 : ∀ i, i < 10 → okZ (370 + i) = true := by decide +kernel
theorem okZ_380 : ∀ i, i < 1 → okZ (380 + i) = true := by decide +kernel
theorem okZ_all : ∀ i, i < 381 → okZ i = true := by
  intro i h
  by_cases c0 : i < 10
  · have q := okZ_0 (i - 0) (by omega)
    rwa [show 0 + (i - 0) = i by omega] at q
  by_cases c10 : i < 20
  · have q := okZ_10 (i - 10) (by omega)
    rwa [show 10 + (i - 10) = i by omega] at q
  by_cases c20 : i < 30
  · have q := okZ_20 (i - 20) (by omega)
    rwa [show 20 + (i - 20) = i by omega] at q
  by_cases c30 : i < 40
  · have q := okZ_30 (i - 30) (by omega)
    rwa [show 30 + (i - 30) = i by omega] at q
  by_cases c40 : i < 50
  · have q := okZ_40 (i - 40) (by omega)
    rwa [show 40 + (i - 40) = i by omega] at q
  by_cases c50 : i < 60
  · have q := okZ_50 (i - 50) (by omega)
    rwa [show 50 + (i - 50) = i by omega] at q
  by_cases c60 : i < 70
  · have q := okZ_60 (i - 60) (by omega)
    rwa [show 60 + (i - 60) = i by omega] at q
  by_cases c70 : i < 80
  · have q := okZ_70 (i - 70) (by omega)
    rwa [show 70 + (i - 70) = i by omega] at q
  by_cases c80 : i < 90
  · have q := okZ_80 (i - 80) (by omega)
    rwa [show 80 + (i - 80) = i by omega] at q
  by_cases c90 : i < 100
  · have q := okZ_90 (i - 90) (by omega)
    rwa [show 90 + (i - 90) = i by omega] at q
  by_cases c100 : i < 110
  · have q := okZ_100 (i - 100) (by omega)
    rwa [show 100 + (i - 100) = i by omega] at q
  by_cases c110 : i < 120
  · have q := okZ_110 (i - 110) (by omega)
    rwa [show 110 + (i - 110) = i by omega] at q
  by_cases c120 : i < 130
  · have q := okZ_120 (i - 120) (by omega)
    rwa [show 120 + (i - 120) = i by omega] at q
  by_cases c130 : i < 140
  · have q := okZ_130 (i - 130) (by omega)
    rwa [show 130 + (i - 130) = i by omega] at q
  by_cases c140 : i < 150
  · have q := okZ_140 (i - 140) (by omega)
    rwa [show 140 + (i - 140) = i by omega] at q
  by_cases c150 : i < 160
  · have q := okZ_150 (i - 150) (by omega)
    rwa [show 150 + (i - 150) = i by omega] at q
  by_cases c160 : i < 170
  · have q := okZ_160 (i - 160) (by omega)
    rwa [show 160 + (i - 160) = i by omega] at q
  by_cases c170 : i < 180
  · have q := okZ_170 (i - 170) (by omega)
    rwa [show 170 + (i - 170) = i by omega] at q
  by_cases c180 : i < 190
  · have q := okZ_180 (i - 180) (by omega)
    rwa [show 180 + (i - 180) = i by omega] at q
  by_cases c190 : i < 200
  · have q := okZ_190 (i - 190) (by omega)
    rwa [show 190 + (i - 190) = i by omega] at q
  by_cases c200 : i < 210
  · have q := okZ_200 (i - 200) (by omega)
    rwa [show 200 + (i - 200) = i by omega] at q
  by_cases c210 : i < 220
  · have q := okZ_210 (i - 210) (by omega)
    rwa [show 210 + (i - 210) = i by omega] at q
  by_cases c220 : i < 230
  · have q := okZ_220 (i - 220) (by omega)
    rwa [show 220 + (i - 220) = i by omega] at q
  by_cases c230 : i < 240
  · have q := okZ_230 (i - 230) (by omega)
    rwa [show 230 + (i - 230) = i by omega] at q
  by_cases c240 : i < 250
  · have q := okZ_240 (i - 240) (by omega)
    rwa [show 240 + (i - 240) = i by omega] at q
  by_cases c250 : i < 260
  · have q := okZ_250 (i - 250) (by omega)
    rwa [show 250 + (i - 250) = i by omega] at q
  by_cases c260 : i < 270
  · have q := okZ_260 (i - 260) (by omega)
    rwa [show 260 + (i - 260) = i by omega] at q
  by_cases c270 : i < 280
  · have q := okZ_270 (i - 270) (by omega)
    rwa [show 270 + (i - 270) = i by omega] at q
  by_cases c280 : i < 290
  · have q := okZ_280 (i - 280) (by omega)
    rwa [show 280 + (i - 280) = i by omega] at q
  by_cases c290 : i < 300
  · have q := okZ_290 (i - 290) (by omega)
    rwa [show 290 + (i - 290) = i by omega] at q
  by_cases c300 : i < 310
  · have q := okZ_300 (i - 300) (by omega)
    rwa [show 300 + (i - 300) = i by omega] at q
  by_cases c310 : i < 320
  · have q := okZ_310 (i - 310) (by omega)
    rwa [show 310 + (i - 310) = i by omega] at q
  by_cases c320 : i < 330
  · have q := okZ_320 (i - 320) (by omega)
    rwa [show 320 + (i - 320) = i by omega] at q
  by_cases c330 : i < 340
  · have q := okZ_330 (i - 330) (by omega)
    rwa [show 330 + (i - 330) = i by omega] at q
  by_cases c340 : i < 350
  · have q := okZ_340 (i - 340) (by omega)
    rwa [show 340 + (i - 340) = i by omega] at q
  by_cases c350 : i < 360
  · have q := okZ_350 (i - 350) (by omega)
    rwa [show 350 + (i - 350) = i by omega] at q
  by_cases c360 : i < 370
  · have q := okZ_360 (i - 360) (by omega)
    rwa [show 360 + (i - 360) = i by omega] at q
  by_cases c370 : i < 380
  · have q := okZ_370 (i - 370) (by omega)
    rwa [show 370 + (i - 370) = i by omega] at q
  by_cases c380 : i < 381
  · have q := okZ_380 (i - 380) (by omega)
    rwa [show 380 + (i - 380) = i by omega] at q
  omega
