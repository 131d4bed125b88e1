/** What an object shall hold, its stitches written as digits; as many objects can be made alike as a test needs. */
record Hems(String zero, String one, String sample) {
    static final Hems EMPTY = new Hems("", "", "");

    /** Hems and stitches that there are not; some would be there, if bits of them were cut off. */
    static final int[] NO_HEM = {-1, 2, 3, -2, 256, -256, 65536, Integer.MAX_VALUE, Integer.MIN_VALUE};
    static final int[] NO_STITCH = {-1, 9, 10, -8, 256, -256, 65536, Integer.MAX_VALUE, Integer.MIN_VALUE};

    /** 40 stitches of which no two that stand side by side stand so anywhere else. */
    static final String ALL_APART = "00102030405060708" + "112131415161718" + "2232425" + "2";
    static final String ALL_ALIKE = "0".repeat(40);
    static final Hems FULL = new Hems(ALL_ALIKE, ALL_APART, "0".repeat(12));

    /** A call on an object that a test has made. */
    interface Asked {
        Object of(HemSuffixes made);
    }

    static Hems zero(String stitches) {
        return new Hems(stitches, "", "");
    }

    static Hems one(String stitches) {
        return new Hems("", stitches, "");
    }

    static Hems both(String zero, String one) {
        return new Hems(zero, one, "");
    }

    /** The stitches in the hem that is asked for, and nothing in the other one. */
    static Hems in(int hem, String stitches) {
        return hem == 0 ? zero(stitches) : one(stitches);
    }

    Hems with(String stitchesOfZero, String stitchesOfOne) {
        return new Hems(stitchesOfZero, stitchesOfOne, sample);
    }

    Hems withSample(String stitches) {
        return new Hems(zero, one, stitches);
    }

    HemSuffixes made() {
        HemSuffixes made = new HemSuffixes();
        for (char stitch : zero.toCharArray()) {
            made.sew(0, stitch - '0');
        }
        for (char stitch : one.toCharArray()) {
            made.sew(1, stitch - '0');
        }
        for (char stitch : sample.toCharArray()) {
            made.add(stitch - '0');
        }
        return made;
    }

    static String stitches(HemSuffixes made, int hem) {
        StringBuilder text = new StringBuilder();
        for (int place = 0; place < made.count(hem); place++) {
            text.append(made.stitch(hem, place));
        }
        return text.toString();
    }

    String text() {
        return zero + "/" + one + "/" + sample.length();
    }

    /** Both hems' stitches and how many the sample has. */
    static String text(HemSuffixes made) {
        return stitches(made, 0) + "/" + stitches(made, 1) + "/" + made.count(2);
    }

    /** All that an object tells, but for what takes two places; some 300 calls if it is full, of the 512 that it has. */
    static String told(HemSuffixes made) {
        StringBuilder text = new StringBuilder();
        for (int what = 0; what < 6; what++) {
            int part = what;
            tell(text, () -> made.count(part));
        }
        tellHem(text, made, 0);
        tellHem(text, made, 1);
        tell(text, () -> made.against(0, 0));
        for (int what = 0; what < 3; what++) {
            int part = what;
            tell(text, () -> made.seam(part));
        }
        tell(text, () -> made.mean());
        tell(text, () -> made.digest());
        return text.toString();
    }

    private static void tellHem(StringBuilder text, HemSuffixes made, int hem) {
        int length = made.count(hem);
        for (int number = 0; number < length; number++) {
            int place = number;
            tell(text, () -> made.stitch(hem, place));
            tell(text, () -> made.end(hem, place));
            tell(text, () -> made.rank(hem, place));
        }
        for (int what = 0; what < 3; what++) {
            int part = what;
            tell(text, () -> made.repeat(hem, part));
        }
        tell(text, () -> made.row(hem, 0));
        tell(text, () -> made.found(hem));
        tell(text, () -> made.first(hem));
        tell(text, () -> made.period(hem));
        tell(text, () -> made.turned(hem));
        for (int kind = 0; kind < 9; kind++) {
            int stitch = kind;
            tell(text, () -> made.would(hem, stitch));
        }
        tell(text, () -> made.advise(hem));
    }

    /** What an object answers when it is changed further, and its checksum on the way. */
    static String goneOn(HemSuffixes made) {
        StringBuilder text = new StringBuilder();
        for (int number = 0; number < 2; number++) {
            int hem = number;
            tell(text, () -> made.sew(hem, 3));
            tell(text, () -> made.unpick(hem, 2));
            tell(text, () -> made.again(hem, 1));
            tell(text, () -> made.digest());
        }
        tell(text, () -> made.add(0));
        tell(text, () -> made.digest());
        tell(text, () -> made.clear());
        tell(text, () -> made.digest());
        return text.toString();
    }

    private static void tell(StringBuilder text, Check.Call call) {
        text.append(Check.answerOf(call)).append(' ');
    }
}
