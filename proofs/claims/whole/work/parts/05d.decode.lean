set_option maxRecDepth 100000 in
theorem okd_362_0 : kd_362_0.all (okE (mOwn 362) (mCd 362)) = true := by decide +kernel
set_option maxRecDepth 100000 in
theorem okd_362_1 : kd_362_1.all (okE (mOwn 362) (mCd 362)) = true := by decide +kernel
set_option maxRecDepth 100000 in
theorem okd_362_2 : kd_362_2.all (okE (mOwn 362) (mCd 362)) = true := by decide +kernel
set_option maxRecDepth 100000 in
theorem okd_362_3 : kd_362_3.all (okE (mOwn 362) (mCd 362)) = true := by decide +kernel
set_option maxRecDepth 100000 in
theorem okd_362_4 : kd_362_4.all (okE (mOwn 362) (mCd 362)) = true := by decide +kernel
set_option maxRecDepth 100000 in
theorem okd_362_5 : kd_362_5.all (okE (mOwn 362) (mCd 362)) = true := by decide +kernel
set_option maxRecDepth 100000 in
theorem okd_362_6 : kd_362_6.all (okE (mOwn 362) (mCd 362)) = true := by decide +kernel
set_option maxRecDepth 100000 in
theorem okd_362_7 : kd_362_7.all (okE (mOwn 362) (mCd 362)) = true := by decide +kernel
set_option maxRecDepth 100000 in
theorem okd_362_8 : kd_362_8.all (okE (mOwn 362) (mCd 362)) = true := by decide +kernel
set_option maxRecDepth 100000 in
theorem okd_362_9 : kd_362_9.all (okE (mOwn 362) (mCd 362)) = true := by decide +kernel
set_option maxRecDepth 100000 in
theorem okd_362_10 : kd_362_10.all (okE (mOwn 362) (mCd 362)) = true := by decide +kernel
set_option maxRecDepth 100000 in
theorem okd_362_11 : kd_362_11.all (okE (mOwn 362) (mCd 362)) = true := by decide +kernel
set_option maxRecDepth 100000 in
theorem okd_362_12 : kd_362_12.all (okE (mOwn 362) (mCd 362)) = true := by decide +kernel
set_option maxRecDepth 100000 in
theorem okd_362_13 : kd_362_13.all (okE (mOwn 362) (mCd 362)) = true := by decide +kernel
set_option maxRecDepth 100000 in
theorem okd_362_14 : kd_362_14.all (okE (mOwn 362) (mCd 362)) = true := by decide +kernel
set_option maxRecDepth 100000 in
theorem okd_362_15 : kd_362_15.all (okE (mOwn 362) (mCd 362)) = true := by decide +kernel
set_option maxRecDepth 100000 in
theorem okd_362_16 : kd_362_16.all (okE (mOwn 362) (mCd 362)) = true := by decide +kernel
set_option maxRecDepth 100000 in
theorem okd_362_17 : kd_362_17.all (okE (mOwn 362) (mCd 362)) = true := by decide +kernel
set_option maxRecDepth 100000 in
theorem okd_362_18 : kd_362_18.all (okE (mOwn 362) (mCd 362)) = true := by decide +kernel
set_option maxRecDepth 100000 in
theorem okd_362_19 : kd_362_19.all (okE (mOwn 362) (mCd 362)) = true := by decide +kernel
set_option maxRecDepth 100000 in
theorem okd_362_20 : kd_362_20.all (okE (mOwn 362) (mCd 362)) = true := by decide +kernel
set_option maxRecDepth 100000 in
theorem okd_362_21 : kd_362_21.all (okE (mOwn 362) (mCd 362)) = true := by decide +kernel
set_option maxRecDepth 100000 in
theorem okd_362_22 : kd_362_22.all (okE (mOwn 362) (mCd 362)) = true := by decide +kernel
set_option maxRecDepth 100000 in
theorem okd_362_23 : kd_362_23.all (okE (mOwn 362) (mCd 362)) = true := by decide +kernel
set_option maxRecDepth 100000 in
theorem okd_362_24 : kd_362_24.all (okE (mOwn 362) (mCd 362)) = true := by decide +kernel
set_option maxRecDepth 100000 in
theorem okd_362_25 : kd_362_25.all (okE (mOwn 362) (mCd 362)) = true := by decide +kernel
set_option maxRecDepth 100000 in
theorem okd_362_26 : kd_362_26.all (okE (mOwn 362) (mCd 362)) = true := by decide +kernel
set_option maxRecDepth 100000 in
theorem okd_362_27 : kd_362_27.all (okE (mOwn 362) (mCd 362)) = true := by decide +kernel
set_option maxRecDepth 100000 in
theorem okd_362_28 : kd_362_28.all (okE (mOwn 362) (mCd 362)) = true := by decide +kernel
set_option maxRecDepth 100000 in
theorem okd_362_29 : kd_362_29.all (okE (mOwn 362) (mCd 362)) = true := by decide +kernel
set_option maxRecDepth 100000 in
theorem okd_362_30 : kd_362_30.all (okE (mOwn 362) (mCd 362)) = true := by decide +kernel
set_option maxRecDepth 100000 in
theorem okd_362_31 : kd_362_31.all (okE (mOwn 362) (mCd 362)) = true := by decide +kernel
set_option maxRecDepth 100000 in
theorem okd_362_32 : kd_362_32.all (okE (mOwn 362) (mCd 362)) = true := by decide +kernel
