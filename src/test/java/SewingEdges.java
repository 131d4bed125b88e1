/** The sentences of the promises 1 to 6 that name an edge. */
public final class SewingEdges {
    private static final Check check = new Check();
    private static final Hems SOME = new Hems("1213", "21", "12");

    public static void main(String[] args) {
        Sentences.run(SewingEdges.class, check);
    }

    /** What the call answers, and that the object tells then all that one tells which was made so at once. */
    private static void changes(String what, Object due, Hems after, Hems hems, Hems.Asked call) {
        HemSuffixes made = hems.made();
        String behind = " behind " + what + " on " + hems;
        check.due(what + " on " + hems, due, () -> call.of(made));
        check.due("the stitches" + behind, after.text(), () -> Hems.text(made));
        check.due("all that is told" + behind, Hems.told(after.made()), () -> Hems.told(made));
    }

    // ---- Promise 1

    @Sentence(of = "Promise 1", says = "Creates empty hems")
    static void newHemsAreEmpty() {
        for (int number = 0; number < 2; number++) {
            int hem = number;
            check.due("count(" + hem + ")", 0, Hems.EMPTY, made -> made.count(hem));
            check.due("rows of it", 0, Hems.EMPTY, made -> made.count(3 + hem));
            check.refused("stitch(" + hem + ", 0)", Check.INDEX, Hems.EMPTY, made -> made.stitch(hem, 0));
            check.due("sew(" + hem + ", 0)", 1, Hems.EMPTY, made -> made.sew(hem, 0));
        }
    }

    @Sentence(of = "Promise 1", says = "and an empty sample.")
    static void aNewSampleIsEmpty() {
        check.due("count(2)", 0, Hems.EMPTY, made -> made.count(2));
        check.due("add(0)", 1, Hems.EMPTY, made -> made.add(0));
        check.due("clear()", 0, Hems.EMPTY, made -> made.clear());
    }

    @Sentence(of = "Promise 1", says = "Creates empty hems, and an empty sample.")
    static void aNewObjectHasNothingOfAnOlderOne() {
        HemSuffixes older = Hems.FULL.made();
        String newer = Hems.told(new HemSuffixes());
        check.due("a new object's digest, behind a full one", Hems.EMPTY.made().digest(),
            () -> new HemSuffixes().digest());
        check.due("what a new object tells", newer, () -> Hems.told(new HemSuffixes()));
        check.due("what the older one tells", Hems.told(Hems.FULL.made()), () -> Hems.told(older));
    }

    // ---- Promise 2

    @Sentence(of = "Promise 2", says = "Sews a stitch to the end of a hem.")
    static void sewsToTheEnd() {
        changes("sew(0, 7)", 1, Hems.zero("7"), Hems.EMPTY, made -> made.sew(0, 7));
        changes("sew(1, 7)", 1, Hems.one("7"), Hems.EMPTY, made -> made.sew(1, 7));
        changes("sew(0, 7)", 5, SOME.with("12137", "21"), SOME, made -> made.sew(0, 7));
        String most = Hems.ALL_APART.substring(0, 39);
        changes("sew(1, 7)", 40, Hems.one(most + "7"), Hems.one(most), made -> made.sew(1, 7));
    }

    @Sentence(of = "Promise 2", says = "Returns how many it has then.")
    static void sewTellsHowMany() {
        HemSuffixes made = new HemSuffixes();
        for (int held = 1; held <= 40; held++) {
            check.due("sew(0, 4)", held, () -> made.sew(0, 4));
            check.due("sew(1, 5)", held, () -> made.sew(1, 5));
        }
    }

    @Sentence(of = "Promise 2", says = "Throws `IndexOutOfBoundsException` if hem is not 0 to 1")
    static void sewToNoHem() {
        for (int hem : Hems.NO_HEM) {
            check.refused("sew(" + hem + ", 3)", Check.INDEX, SOME, made -> made.sew(hem, 3));
        }
        changes("sew(0, 3)", 5, SOME.with("12133", "21"), SOME, made -> made.sew(0, 3));
        changes("sew(1, 3)", 3, SOME.with("1213", "213"), SOME, made -> made.sew(1, 3));
    }

    @Sentence(of = "Promise 2", says = "Throws `IllegalArgumentException` if stitch is not 0 to 8")
    static void sewNoStitch() {
        for (int stitch : Hems.NO_STITCH) {
            check.refused("sew(0, " + stitch + ")", Check.ARGUMENT, SOME, made -> made.sew(0, stitch));
            check.refused("sew(1, " + stitch + ")", Check.ARGUMENT, SOME, made -> made.sew(1, stitch));
        }
        changes("sew(0, 0)", 5, SOME.with("12130", "21"), SOME, made -> made.sew(0, 0));
        changes("sew(1, 8)", 3, SOME.with("1213", "218"), SOME, made -> made.sew(1, 8));
    }

    @Sentence(of = "Promise 2", says = "Throws `IllegalStateException` if it has 40")
    static void sewToAFullHem() {
        for (int number = 0; number < 2; number++) {
            int hem = number;
            Hems full = Hems.in(hem, Hems.ALL_APART);
            check.refused("sew(" + hem + ", 0)", Check.STATE, full, made -> made.sew(hem, 0));
            check.refused("sew(" + hem + ", 8)", Check.STATE, full, made -> made.sew(hem, 8));
            check.due("sew to the other hem", 1, full, made -> made.sew(1 - hem, 0));
            Hems almost = Hems.in(hem, Hems.ALL_APART.substring(1));
            check.due("sew the 40th", 40, almost, made -> made.sew(hem, 0));
            HemSuffixes unpicked = full.made();
            unpicked.unpick(hem, 1);
            check.due("sew the 40th behind unpick", 40, () -> unpicked.sew(hem, 0));
        }
    }

    // ---- Promise 3

    @Sentence(of = "Promise 3", says = "Sews the first stitches of a hem to its own end once more.")
    static void sewsTheFirstOnesAgain() {
        changes("again(0, 1)", 5, SOME.with("12131", "21"), SOME, made -> made.again(0, 1));
        changes("again(0, 3)", 7, SOME.with("1213121", "21"), SOME, made -> made.again(0, 3));
        changes("again(1, 2)", 4, SOME.with("1213", "2121"), SOME, made -> made.again(1, 2));
        String half = Hems.ALL_APART.substring(0, 20);
        changes("again(1, 20)", 40, Hems.one(half + half), Hems.one(half), made -> made.again(1, 20));
    }

    @Sentence(of = "Promise 3", says = "how many, from its beginning on (also those that are sewn by this)")
    static void sewsAlsoWhatItSewsItself() {
        changes("again(0, 5)", 9, SOME.with("121312131", "21"), SOME, made -> made.again(0, 5));
        changes("again(1, 5)", 7, SOME.with("1213", "2121212"), SOME, made -> made.again(1, 5));
        changes("again(0, 39)", 40, Hems.zero("7".repeat(40)), Hems.zero("7"), made -> made.again(0, 39));
        changes("again(1, 37)", 40, Hems.one("012".repeat(13) + "0"), Hems.one("012"), made -> made.again(1, 37));
    }

    @Sentence(of = "Promise 3", says = "Returns how many it has then.")
    static void againTellsHowMany() {
        for (int many = 1; many <= 39; many++) {
            int asked = many;
            check.due("again(0, " + many + ")", 1 + many, Hems.zero("3"), made -> made.again(0, asked));
            check.due("again(1, " + many + ")", 1 + many, Hems.one("3"), made -> made.again(1, asked));
        }
    }

    @Sentence(of = "Promise 3", says = "Throws `IndexOutOfBoundsException` if hem is not 0 to 1")
    static void againInNoHem() {
        for (int hem : Hems.NO_HEM) {
            check.refused("again(" + hem + ", 1)", Check.INDEX, SOME, made -> made.again(hem, 1));
        }
        changes("again(0, 2)", 6, SOME.with("121312", "21"), SOME, made -> made.again(0, 2));
        changes("again(1, 1)", 3, SOME.with("1213", "212"), SOME, made -> made.again(1, 1));
    }

    @Sentence(of = "Promise 3", says = "Throws `IllegalArgumentException` if many is not 1 to 40")
    static void againASmallOrLargeNumber() {
        for (int many : new int[] {0, -1, -40, Integer.MIN_VALUE, 41, 42, 257, Integer.MAX_VALUE}) {
            check.refused("again(0, " + many + ")", Check.ARGUMENT, SOME, made -> made.again(0, many));
            check.refused("again(1, " + many + ")", Check.ARGUMENT, SOME, made -> made.again(1, many));
        }
        check.due("again(0, 1)", 5, SOME, made -> made.again(0, 1));
        // With 40 many is allowed, though no hem that has a stitch has room for it.
        check.refused("again(0, 40)", Check.STATE, Hems.zero("1"), made -> made.again(0, 40));
    }

    @Sentence(of = "Promise 3", says = "Throws `IllegalStateException` if it is empty")
    static void againOfAnEmptyHem() {
        for (int number = 0; number < 2; number++) {
            int hem = number;
            Hems other = Hems.in(1 - hem, "12");
            check.refused("again(" + hem + ", 1)", Check.STATE, other, made -> made.again(hem, 1));
            check.refused("again(" + hem + ", 40)", Check.STATE, other, made -> made.again(hem, 40));
            check.refused("again(" + hem + ", 2)", Check.STATE, Hems.EMPTY, made -> made.again(hem, 2));
            check.due("again of one stitch", 2, Hems.in(hem, "5"), made -> made.again(hem, 1));
        }
        HemSuffixes unpicked = SOME.made();
        unpicked.unpick(0, 4);
        check.due("again, behind all was unpicked", Check.STATE, () -> unpicked.again(0, 1));
        check.due("and then the hems", "/21/2", () -> Hems.text(unpicked));
    }

    @Sentence(of = "Promise 3", says = "or would have more than 40")
    static void againWithoutRoom() {
        for (int held = 1; held <= 40; held++) {
            String stitches = Hems.ALL_APART.substring(0, held);
            int room = 40 - held;
            for (int number = 0; number < 2; number++) {
                int hem = number;
                Hems hems = Hems.in(hem, stitches);
                check.refused("again, 41 in all", Check.STATE, hems, made -> made.again(hem, room + 1));
                check.refused("again, the most", Check.STATE, hems, made -> made.again(hem, 40));
                if (room > 0) {
                    check.due("again, 40 in all", 40, hems, made -> made.again(hem, room));
                }
            }
        }
    }

    // ---- Promise 4

    @Sentence(of = "Promise 4", says = "Unpicks stitches from the end of a hem.")
    static void unpicksFromTheEnd() {
        changes("unpick(0, 1)", 3, SOME.with("121", "21"), SOME, made -> made.unpick(0, 1));
        changes("unpick(0, 3)", 1, SOME.with("1", "21"), SOME, made -> made.unpick(0, 3));
        changes("unpick(0, 4)", 0, SOME.with("", "21"), SOME, made -> made.unpick(0, 4));
        changes("unpick(1, 2)", 0, SOME.with("1213", ""), SOME, made -> made.unpick(1, 2));
        changes("unpick(1, 40)", 0, Hems.FULL.with(Hems.ALL_ALIKE, ""), Hems.FULL, made -> made.unpick(1, 40));
        String most = Hems.ALL_APART.substring(0, 39);
        changes("unpick(1, 1)", 39, Hems.one(most), Hems.one(Hems.ALL_APART), made -> made.unpick(1, 1));
        HemSuffixes sewn = SOME.made();
        sewn.unpick(0, 4);
        sewn.sew(0, 8);
        String due = Hems.told(SOME.with("8", "21").made());
        check.due("all that is told, sewn behind all was unpicked", due, () -> Hems.told(sewn));
    }

    @Sentence(of = "Promise 4", says = "Returns how many it has then.")
    static void unpickTellsHowMany() {
        for (int many = 1; many <= 40; many++) {
            int asked = many;
            check.due("unpick(0, " + many + ")", 40 - many, Hems.FULL, made -> made.unpick(0, asked));
            check.due("unpick(1, " + many + ")", 40 - many, Hems.FULL, made -> made.unpick(1, asked));
        }
    }

    @Sentence(of = "Promise 4", says = "Throws `IndexOutOfBoundsException` if hem is not 0 to 1")
    static void unpickOfNoHem() {
        for (int hem : Hems.NO_HEM) {
            check.refused("unpick(" + hem + ", 1)", Check.INDEX, SOME, made -> made.unpick(hem, 1));
        }
        check.due("unpick(0, 1)", 3, SOME, made -> made.unpick(0, 1));
        check.due("unpick(1, 1)", 1, SOME, made -> made.unpick(1, 1));
    }

    @Sentence(of = "Promise 4", says = "Throws `IllegalArgumentException` if many is not 1 to as many as it has")
    static void unpickASmallOrLargeNumber() {
        for (int many : new int[] {0, -1, -4, Integer.MIN_VALUE, 5, 40, 257, Integer.MAX_VALUE}) {
            check.refused("unpick(0, " + many + ")", Check.ARGUMENT, SOME, made -> made.unpick(0, many));
        }
        check.refused("unpick(1, 3), which the hem 0 alone has", Check.ARGUMENT, SOME, made -> made.unpick(1, 3));
        check.refused("unpick(0, 41)", Check.ARGUMENT, Hems.FULL, made -> made.unpick(0, 41));
        check.refused("unpick(0, 1)", Check.ARGUMENT, Hems.one("1"), made -> made.unpick(0, 1));
        check.refused("unpick(1, 1)", Check.ARGUMENT, Hems.zero("1"), made -> made.unpick(1, 1));
        check.refused("unpick(1, 0)", Check.ARGUMENT, Hems.EMPTY, made -> made.unpick(1, 0));
        check.due("unpick(0, 1)", 3, SOME, made -> made.unpick(0, 1));
        check.due("unpick(0, 4)", 0, SOME, made -> made.unpick(0, 4));
        check.due("unpick(1, 40)", 0, Hems.FULL, made -> made.unpick(1, 40));
    }

    // ---- Promise 5

    @Sentence(of = "Promise 5", says = "Adds a stitch to the end of the sample.")
    static void addsToTheEnd() {
        Hems hems = new Hems("012345678012", "12345678", "");
        HemSuffixes made = hems.made();
        for (int held = 1; held <= 12; held++) {
            made.add((held - 1) % 9);
            check.due("first(0) with " + held + " of it", 0, () -> made.first(0));
        }
        check.due("found(1)", 0, () -> made.found(1));
        check.due("the hems", "012345678012/12345678/12", () -> Hems.text(made));
    }

    @Sentence(of = "Promise 5", says = "Returns how many it has then.")
    static void addTellsHowMany() {
        HemSuffixes made = new HemSuffixes();
        for (int held = 1; held <= 12; held++) {
            check.due("add(6)", held, () -> made.add(6));
        }
        check.due("add(6) to two", 3, SOME, other -> other.add(6));
    }

    @Sentence(of = "Promise 5", says = "Throws `IllegalArgumentException` if stitch is not 0 to 8")
    static void addNoStitch() {
        for (int stitch : Hems.NO_STITCH) {
            check.refused("add(" + stitch + ")", Check.ARGUMENT, SOME, made -> made.add(stitch));
        }
        check.due("add(0)", 3, SOME, made -> made.add(0));
        check.due("add(8)", 3, SOME, made -> made.add(8));
    }

    @Sentence(of = "Promise 5", says = "Throws `IllegalStateException` if it has 12")
    static void addToAFullSample() {
        Hems full = new Hems("0123456780123", "", "012345678012");
        check.refused("add(0)", Check.STATE, full, made -> made.add(0));
        check.refused("add(3)", Check.STATE, full, made -> made.add(3));
        check.refused("add(8)", Check.STATE, full, made -> made.add(8));
        check.due("add the 12th", 12, full.withSample("01234567801"), made -> made.add(8));
        check.due("add to none, the hem has 13", 1, full.withSample(""), made -> made.add(8));
        HemSuffixes cleared = full.made();
        cleared.clear();
        check.due("add behind clear", 1, () -> cleared.add(8));
    }

    // ---- Promise 6

    @Sentence(of = "Promise 6", says = "Empties the sample.")
    static void clearLeavesNoSample() {
        changes("clear()", 2, SOME.withSample(""), SOME, made -> made.clear());
        changes("clear()", 12, Hems.FULL.withSample(""), Hems.FULL, made -> made.clear());
        changes("clear()", 0, Hems.EMPTY, Hems.EMPTY, made -> made.clear());
        HemSuffixes cleared = SOME.made();
        cleared.clear();
        check.due("add behind clear", 1, () -> cleared.add(3));
        check.due("first(0), of the new sample", 3, () -> cleared.first(0));
    }

    @Sentence(of = "Promise 6", says = "Returns how many stitches it had.")
    static void clearTellsHowManyItHad() {
        for (int held = 0; held <= 12; held++) {
            HemSuffixes made = SOME.withSample("7".repeat(held)).made();
            check.due("clear() of " + held, held, () -> made.clear());
            check.due("clear() once more", 0, () -> made.clear());
        }
    }
}
