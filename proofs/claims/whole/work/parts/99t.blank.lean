/-! the blanks of each class -/
theorem qdf_0 : qdf 0 = [.int 0, .null] := by decide +kernel
theorem qdf_1 : qdf 1 = [.int 0, .null, .null, .null, .null] := by decide +kernel
theorem qdf_2 : qdf 2 = [.int 0, .int 0, .null, .null, .null, .null, .null, .null] := by decide +kernel
theorem qdf_3 : qdf 3 = [.int 0, .int 0, .null] := by decide +kernel
theorem qdf_4 : qdf 4 = [.int 0, .int 0, .int 0, .null, .null, .null, .null, .null, .null, .null, .null, .null] := by decide +kernel
theorem qdf_5 : qdf 5 = [.null, .null, .null, .null, .null, .null, .null, .int 0, .int 0, .int 0, .int 0, .int 0, .int 0, .int 0, .int 0] := by decide +kernel
theorem qdf_6 : qdf 6 = [.int 0, .int 0, .int 0, .int 0, .int 0, .int 0, .int 0, .int 0, .null, .null, .null, .null, .null, .null, .null, .null, .null, .null] := by decide +kernel
theorem qdf_7 : qdf 7 = [.null, .null, .null, .null, .null, .null, .null, .null, .null, .null, .null, .null] := by decide +kernel
theorem qdf_8 : qdf 8 = [.int 0, .null, .null] := by decide +kernel
theorem qdf_9 : qdf 9 = [.null, .null, .null, .int 0, .null, .int 0] := by decide +kernel
theorem qdf_10 : qdf 10 = [.null, .null, .null, .null, .null, .null, .null, .null, .null, .null] := by decide +kernel
theorem qdf_11 : qdf 11 = [.null, .null, .null, .null, .int 0, .int 0, .null, .null, .null, .null, .null, .null, .int 0, .int 0, .int 0, .int 0, .int 0, .int 0, .int 0, .int 0, .int 0, .int 0, .int 0, .int 0, .int 0, .int 0, .int 0, .null, .int 0, .int 0, .null, .null, .null, .null, .null, .null, .null, .null] := by decide +kernel
theorem qy_0_1 : qty 0 1 = .array .int := by decide +kernel
theorem qy_6_8 : qty 6 8 = .array .int := by decide +kernel
theorem qy_6_9 : qty 6 9 = .array .int := by decide +kernel
theorem qy_6_10 : qty 6 10 = .array .int := by decide +kernel
theorem qy_6_11 : qty 6 11 = .array .int := by decide +kernel
theorem qy_6_12 : qty 6 12 = .array .int := by decide +kernel
theorem qy_6_13 : qty 6 13 = .array .int := by decide +kernel
theorem qy_6_14 : qty 6 14 = .array .int := by decide +kernel
theorem qy_6_15 : qty 6 15 = .array .int := by decide +kernel
theorem qy_6_16 : qty 6 16 = .array .int := by decide +kernel
theorem qy_6_17 : qty 6 17 = .object "ClayBoots$Book" := by decide +kernel
theorem qy_2_2 : qty 2 2 = .array .int := by decide +kernel
theorem qy_2_3 : qty 2 3 = .array .int := by decide +kernel
theorem qy_2_4 : qty 2 4 = .array .int := by decide +kernel
theorem qy_2_5 : qty 2 5 = .array .int := by decide +kernel
theorem qy_2_6 : qty 2 6 = .array .int := by decide +kernel
theorem qy_2_7 : qty 2 7 = .array .int := by decide +kernel
theorem qy_4_3 : qty 4 3 = .array .int := by decide +kernel
theorem qy_4_4 : qty 4 4 = .array .int := by decide +kernel
theorem qy_4_5 : qty 4 5 = .array .int := by decide +kernel
theorem qy_4_6 : qty 4 6 = .array .int := by decide +kernel
theorem qy_4_7 : qty 4 7 = .array .int := by decide +kernel
theorem qy_4_8 : qty 4 8 = .array .int := by decide +kernel
theorem qy_4_9 : qty 4 9 = .array .int := by decide +kernel
theorem qy_4_10 : qty 4 10 = .array .int := by decide +kernel
theorem qy_4_11 : qty 4 11 = .array .boolean := by decide +kernel
theorem qy_8_1 : qty 8 1 = .array .int := by decide +kernel
theorem qy_8_2 : qty 8 2 = .array .int := by decide +kernel
theorem qy_7_0 : qty 7 0 = .array .int := by decide +kernel
theorem qy_7_1 : qty 7 1 = .array .int := by decide +kernel
theorem qy_7_2 : qty 7 2 = .object "ClayBoots$Told" := by decide +kernel
theorem qy_7_3 : qty 7 3 = .object "ClayBoots$Told" := by decide +kernel
theorem qy_7_4 : qty 7 4 = .object "ClayBoots$Told" := by decide +kernel
theorem qy_7_5 : qty 7 5 = .object "ClayBoots$Told" := by decide +kernel
theorem qy_7_6 : qty 7 6 = .object "ClayBoots$Told" := by decide +kernel
theorem qy_7_7 : qty 7 7 = .array .int := by decide +kernel
theorem qy_7_8 : qty 7 8 = .array .int := by decide +kernel
theorem qy_7_9 : qty 7 9 = .array .int := by decide +kernel
theorem qy_7_10 : qty 7 10 = .array .int := by decide +kernel
theorem qy_7_11 : qty 7 11 = .array .int := by decide +kernel
theorem qy_5_1 : qty 5 1 = .object "ClayBoots$Law" := by decide +kernel
theorem qy_5_2 : qty 5 2 = .object "ClayBoots$Plans" := by decide +kernel
theorem qy_5_3 : qty 5 3 = .array .int := by decide +kernel
theorem qy_5_4 : qty 5 4 = .array .int := by decide +kernel
theorem qy_5_5 : qty 5 5 = .array .int := by decide +kernel
theorem qy_5_6 : qty 5 6 = .array .int := by decide +kernel
theorem qy_5_14 : qty 5 14 = .int := by decide +kernel
theorem qy_5_0 : qty 5 0 = .object "ClayBoots$Shire" := by decide +kernel
theorem qy_9_4 : qty 9 4 = .array .int := by decide +kernel
theorem qy_9_0 : qty 9 0 = .object "ClayBoots$Shire" := by decide +kernel
theorem qy_9_1 : qty 9 1 = .object "ClayBoots$Law" := by decide +kernel
theorem qy_9_2 : qty 9 2 = .object "ClayBoots$Plans" := by decide +kernel
theorem qy_9_3 : qty 9 3 = .boolean := by decide +kernel
theorem qy_3_2 : qty 3 2 = .array (.object "ClayBoots$Shire") := by decide +kernel
theorem qy_1_1 : qty 1 1 = .object "ClayBoots$Shire" := by decide +kernel
theorem qy_1_2 : qty 1 2 = .object "ClayBoots$Law" := by decide +kernel
theorem qy_1_3 : qty 1 3 = .object "ClayBoots$Plans" := by decide +kernel
theorem qy_1_4 : qty 1 4 = .object "ClayBoots$Thoughts" := by decide +kernel
theorem qy_10_0 : qty 10 0 = .object "ClayBoots$Shire" := by decide +kernel
theorem qy_10_1 : qty 10 1 = .object "ClayBoots$Shire" := by decide +kernel
theorem qy_10_2 : qty 10 2 = .object "ClayBoots$Law" := by decide +kernel
theorem qy_10_3 : qty 10 3 = .object "ClayBoots$Plans" := by decide +kernel
theorem qy_10_4 : qty 10 4 = .object "ClayBoots$Thoughts" := by decide +kernel
theorem qy_10_5 : qty 10 5 = .object "ClayBoots$Reader" := by decide +kernel
theorem qy_10_6 : qty 10 6 = .object "ClayBoots$Walk" := by decide +kernel
theorem qy_10_7 : qty 10 7 = .object "ClayBoots$Walk" := by decide +kernel
theorem qy_10_8 : qty 10 8 = .object "ClayBoots$Past" := by decide +kernel
theorem qy_10_9 : qty 10 9 = .object "ClayBoots$Image" := by decide +kernel
theorem qy_11_0 : qty 11 0 = .array .int := by decide +kernel
theorem qy_11_1 : qty 11 1 = .array .int := by decide +kernel
theorem qy_11_2 : qty 11 2 = .array .int := by decide +kernel
theorem qy_11_3 : qty 11 3 = .array .int := by decide +kernel
theorem qy_11_6 : qty 11 6 = .array .int := by decide +kernel
theorem qy_11_7 : qty 11 7 = .array .int := by decide +kernel
theorem qy_11_8 : qty 11 8 = .array .int := by decide +kernel
theorem qy_11_9 : qty 11 9 = .array .int := by decide +kernel
theorem qy_11_10 : qty 11 10 = .array .int := by decide +kernel
theorem qy_11_11 : qty 11 11 = .array .int := by decide +kernel
theorem qy_11_25 : qty 11 25 = .int := by decide +kernel
theorem qy_11_27 : qty 11 27 = .array .int := by decide +kernel
theorem qy_11_30 : qty 11 30 = .array .int := by decide +kernel
theorem qy_11_31 : qty 11 31 = .array .int := by decide +kernel
theorem qy_11_32 : qty 11 32 = .array .long := by decide +kernel
theorem qy_11_33 : qty 11 33 = .array .int := by decide +kernel
theorem qy_11_34 : qty 11 34 = .array .int := by decide +kernel
theorem qy_11_35 : qty 11 35 = .array .int := by decide +kernel
theorem qy_11_36 : qty 11 36 = .array .int := by decide +kernel
theorem qy_11_37 : qty 11 37 = .array .int := by decide +kernel
