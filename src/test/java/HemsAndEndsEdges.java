/** The sentences of the promises 7 to 12 that name an edge. */
public final class HemsAndEndsEdges {
    private static final Check check = new Check();
    private static final Hems SOME = new Hems("1213", "21", "12");
    private static final String NO_PLACE = "or there is no such place";
    private static final String NO_HEM = "Throws `IndexOutOfBoundsException` if hem is not 0 to 1";

    public static void main(String[] args) {
        Sentences.run(HemsAndEndsEdges.class, check);
    }

    /** A call with a hem and a place, or a rank. */
    private interface AtPlace {
        int answer(HemSuffixes made, int hem, int place);
    }

    private static void inNoHem(String what, AtPlace call) {
        for (int hem : Hems.NO_HEM) {
            check.refused(what + " in the hem " + hem, Check.INDEX, SOME, made -> call.answer(made, hem, 0));
        }
        check.due(what + " in the hem 0 answers", true, SOME, made -> call.answer(made, 0, 0) >= 0);
        check.due(what + " in the hem 1 answers", true, SOME, made -> call.answer(made, 1, 0) >= 0);
    }

    /** Too small and too large, in a hem that is empty, holds some, was unpicked, or is full. */
    private static void atNoPlace(String what, AtPlace call) {
        for (int number = 0; number < 2; number++) {
            int hem = number;
            refusedOutside(what, SOME, hem, hem == 0 ? 4 : 2, call);
            refusedOutside(what, Hems.FULL, hem, 40, call);
            refusedOutside(what, Hems.in(1 - hem, "12"), hem, 0, call);
            check.due(what + " at the last of 40", true, Hems.FULL, made -> call.answer(made, hem, 39) >= 0);
            HemSuffixes unpicked = Hems.both("777", "777").made();
            unpicked.unpick(hem, 1);
            check.due(what + " at one that was unpicked", Check.INDEX, () -> call.answer(unpicked, hem, 2));
            check.due("the hem behind it", "77", () -> Hems.stitches(unpicked, hem));
        }
    }

    private static void refusedOutside(String what, Hems hems, int hem, int length, AtPlace call) {
        for (int place : new int[] {-1, -40, Integer.MIN_VALUE, length, length + 1, 41, 256, Integer.MAX_VALUE}) {
            String where = what + " in the hem " + hem + " at " + place;
            check.refused(where, Check.INDEX, hems, made -> call.answer(made, hem, place));
        }
    }

    // ---- Promise 7

    @Sentence(of = "Promise 7", says = "Returns the stitch there.")
    static void stitchAtTheFirstAndTheLastPlace() {
        Hems hems = Hems.both("8" + "3".repeat(38) + "0", "5");
        check.due("stitch(0, 0)", 8, hems, made -> made.stitch(0, 0));
        check.due("stitch(0, 39)", 0, hems, made -> made.stitch(0, 39));
        check.due("stitch(1, 0)", 5, hems, made -> made.stitch(1, 0));
    }

    @Sentence(of = "Promise 7", says = NO_HEM)
    static void stitchInNoHem() {
        inNoHem("stitch", HemSuffixes::stitch);
    }

    @Sentence(of = "Promise 7", says = NO_PLACE)
    static void stitchAtNoPlace() {
        atNoPlace("stitch", HemSuffixes::stitch);
    }

    // ---- Promise 8

    @Sentence(of = "Promise 8", says = "0 and 1 stitches of this hem")
    static void countOfStitches() {
        check.due("count(0) of none", 0, Hems.one("12"), made -> made.count(0));
        check.due("count(1) of none", 0, Hems.zero("12"), made -> made.count(1));
        check.due("count(0) of one", 1, Hems.both("7", "12"), made -> made.count(0));
        check.due("count(1) of two", 2, Hems.both("7", "12"), made -> made.count(1));
        check.due("count(0) of 40", 40, Hems.FULL, made -> made.count(0));
        check.due("count(1) of 40", 40, Hems.FULL, made -> made.count(1));
    }

    @Sentence(of = "Promise 8", says = "2 of the sample")
    static void countOfTheSample() {
        check.due("count(2) of none", 0, SOME.withSample(""), made -> made.count(2));
        check.due("count(2) of one", 1, SOME.withSample("8"), made -> made.count(2));
        check.due("count(2) of 12", 12, Hems.FULL, made -> made.count(2));
    }

    @Sentence(of = "Promise 8", says = "3 and 4 how many different rows there are in the hem 0 and in the hem 1")
    static void countOfRows() {
        check.due("count(3) of an empty hem", 0, Hems.one("12"), made -> made.count(3));
        check.due("count(4) of an empty hem", 0, Hems.zero("12"), made -> made.count(4));
        check.due("count(3) of one stitch", 1, Hems.both("5", "12"), made -> made.count(3));
        check.due("count(4) of two", 3, Hems.both("5", "12"), made -> made.count(4));
        check.due("count(4) of two alike", 2, Hems.one("11"), made -> made.count(4));
        check.due("count(3) of 40 alike", 40, Hems.FULL, made -> made.count(3));
        // Nine rows of one stitch, and each longer one stands at one place alone: 39 + 38 + .. + 1.
        check.due("count(4) of 40 apart", 9 + 39 * 40 / 2, Hems.FULL, made -> made.count(4));
    }

    @Sentence(of = "Promise 8", says = "5 how many stitches the longest row has that is in both")
    static void countOfTheLongestInBoth() {
        check.due("count(5), both empty", 0, Hems.EMPTY, made -> made.count(5));
        check.due("count(5), the hem 1 empty", 0, Hems.zero("12"), made -> made.count(5));
        check.due("count(5), the hem 0 empty", 0, Hems.one("12"), made -> made.count(5));
        check.due("count(5), none in both", 0, Hems.both("0123", "4567"), made -> made.count(5));
        check.due("count(5), the last of the one, the first of the other", 1, Hems.both("0123", "3456"),
            made -> made.count(5));
        check.due("count(5), one hem is in the other", 2, Hems.both("0123", "23"), made -> made.count(5));
        Hems same = Hems.both(Hems.ALL_APART, Hems.ALL_APART);
        check.due("count(5), 40 the same", 40, same, made -> made.count(5));
    }

    @Sentence(of = "Promise 8", says = "Throws `IndexOutOfBoundsException` if what is not 0 to 5")
    static void countOfNothing() {
        for (int what : new int[] {-1, -6, 6, 7, 256, Integer.MIN_VALUE, Integer.MAX_VALUE}) {
            check.refused("count(" + what + ")", Check.INDEX, SOME, made -> made.count(what));
            check.refused("count(" + what + ")", Check.INDEX, Hems.EMPTY, made -> made.count(what));
        }
        check.due("count(0)", 4, SOME, made -> made.count(0));
        check.due("count(5)", 2, SOME, made -> made.count(5));
    }

    // ---- Promise 9

    @Sentence(of = "Promise 9", says = "Returns the place of the end that stands there.")
    static void endAtTheFirstAndTheLastRank() {
        Hems hems = Hems.both("8".repeat(39) + "0", "201");
        check.due("end(0, 0)", 39, hems, made -> made.end(0, 0));
        check.due("end(0, 1)", 38, hems, made -> made.end(0, 1));
        check.due("end(0, 39)", 0, hems, made -> made.end(0, 39));
        check.due("end(1, 0)", 1, hems, made -> made.end(1, 0));
        check.due("end(1, 2)", 0, hems, made -> made.end(1, 2));
        check.due("end(0, 0) of one", 0, Hems.zero("8"), made -> made.end(0, 0));
    }

    @Sentence(of = "Promise 9", says = NO_HEM)
    static void endInNoHem() {
        inNoHem("end", HemSuffixes::end);
    }

    @Sentence(of = "Promise 9", says = "or there is no such rank")
    static void endAtNoRank() {
        atNoPlace("end", HemSuffixes::end);
    }

    // ---- Promise 10

    @Sentence(of = "Promise 10", says = "Returns the rank of its end.")
    static void rankOfTheFirstAndTheLastPlace() {
        Hems hems = Hems.both("8".repeat(39) + "0", "201");
        check.due("rank(0, 39)", 0, hems, made -> made.rank(0, 39));
        check.due("rank(0, 38)", 1, hems, made -> made.rank(0, 38));
        check.due("rank(0, 0)", 39, hems, made -> made.rank(0, 0));
        check.due("rank(1, 0)", 2, hems, made -> made.rank(1, 0));
        check.due("rank(1, 2)", 1, hems, made -> made.rank(1, 2));
        check.due("rank(0, 0) of one", 0, Hems.zero("8"), made -> made.rank(0, 0));
    }

    @Sentence(of = "Promise 10", says = NO_HEM)
    static void rankInNoHem() {
        inNoHem("rank", HemSuffixes::rank);
    }

    @Sentence(of = "Promise 10", says = NO_PLACE)
    static void rankOfNoPlace() {
        atNoPlace("rank", HemSuffixes::rank);
    }

    // ---- Promise 11

    @Sentence(of = "Promise 11", says = "Returns how many stitches the ends at both have in common.")
    static void commonOfTheFirstAndTheLastPlaces() {
        check.due("common(0, 0, 0)", 40, Hems.FULL, made -> made.common(0, 0, 0));
        check.due("common(0, 39, 39)", 1, Hems.FULL, made -> made.common(0, 39, 39));
        check.due("common(0, 0, 39)", 1, Hems.FULL, made -> made.common(0, 0, 39));
        check.due("common(0, 38, 0)", 2, Hems.FULL, made -> made.common(0, 38, 0));
        check.due("common(1, 0, 39)", 0, Hems.FULL, made -> made.common(1, 0, 39));
        check.due("common(1, 0, 1)", 1, Hems.FULL, made -> made.common(1, 0, 1));
    }

    @Sentence(of = "Promise 11", says = NO_HEM)
    static void commonInNoHem() {
        inNoHem("common", (made, hem, place) -> made.common(hem, place, place));
        check.refused("common(2, 4, 4)", Check.INDEX, SOME, made -> made.common(2, 4, 4));
    }

    @Sentence(of = "Promise 11", says = NO_PLACE)
    static void commonAtNoPlace() {
        atNoPlace("common, the place a,", (made, hem, place) -> made.common(hem, place, 0));
        atNoPlace("common, the place b,", (made, hem, place) -> made.common(hem, 0, place));
        atNoPlace("common, both places,", (made, hem, place) -> made.common(hem, place, place));
    }

    // ---- Promise 12

    @Sentence(of = "Promise 12",
        says = "Returns less than 0, if the end of the hem 0 there is less than that of the hem 1")
    static void againstTellsLess() {
        check.due("against(0, 0), at the first stitch", -1, Hems.both("0", "8"), made -> made.against(0, 0));
        check.due("against(0, 0), shorter", -2, Hems.both("0", "00"), made -> made.against(0, 0));
        check.due("against(0, 0), longer", -1, Hems.both("08", "1"), made -> made.against(0, 0));
        check.due("against(1, 2), the last places", -1, Hems.both("82", "003"), made -> made.against(1, 2));
    }

    @Sentence(of = "Promise 12", says = "0 if both are the same")
    static void againstTellsTheSame() {
        check.due("against(0, 0)", 0, Hems.both("0", "0"), made -> made.against(0, 0));
        check.due("against(1, 2)", 0, Hems.both("70", "770"), made -> made.against(1, 2));
        Hems same = Hems.both(Hems.ALL_APART, Hems.ALL_APART);
        check.due("against(0, 0) of 40", 0, same, made -> made.against(0, 0));
        check.due("against(39, 39) of 40", 0, same, made -> made.against(39, 39));
    }

    @Sentence(of = "Promise 12", says = "otherwise more than 0")
    static void againstTellsMore() {
        check.due("against(0, 0), at the first stitch", 1, Hems.both("8", "0"), made -> made.against(0, 0));
        check.due("against(0, 0), longer", 2, Hems.both("00", "0"), made -> made.against(0, 0));
        check.due("against(0, 0), shorter", 1, Hems.both("1", "08"), made -> made.against(0, 0));
        check.due("against(2, 1), the last places", 1, Hems.both("003", "82"), made -> made.against(2, 1));
    }

    @Sentence(of = "Promise 12", says = "without its sign 1 more than how many stitches they have in common")
    static void againstTellsHowManyInCommon() {
        for (int length = 1; length <= 39; length++) {
            Hems hems = Hems.both("4".repeat(length), "4".repeat(length + 1));
            check.due("against(0, 0)", -length - 1, hems, made -> made.against(0, 0));
            check.due("against(0, 1)", 0, hems, made -> made.against(0, 1));
            Hems turned = Hems.both(hems.one(), hems.zero());
            check.due("against(0, 0)", length + 1, turned, made -> made.against(0, 0));
        }
    }

    @Sentence(of = "Promise 12", says = "Throws `IndexOutOfBoundsException` if there is no such place")
    static void againstAtNoPlace() {
        atNoPlace("against", (made, hem, place) -> againstOne(made, hem, place));
        Hems longer = Hems.both("12", "2134");
        check.refused("against(2, 0)", Check.INDEX, longer, made -> made.against(2, 0));
        check.refused("against(4, 4)", Check.INDEX, longer, made -> made.against(4, 4));
        check.refused("against(-1, -1)", Check.INDEX, longer, made -> made.against(-1, -1));
        check.due("against(0, 3), a place of the hem 1 alone", -1, longer, made -> made.against(0, 3));
        check.refused("against(0, 3)", Check.INDEX, Hems.both("2134", "12"), made -> made.against(0, 3));
        check.due("against(3, 0), a place of the hem 0 alone", 1, Hems.both("2134", "12"), made -> made.against(3, 0));
    }

    /** The other hem is asked at its first place, which may be missing; its answer without its sign. */
    private static int againstOne(HemSuffixes made, int hem, int place) {
        int answer = hem == 0 ? made.against(place, 0) : made.against(0, place);
        return answer < 0 ? -answer : answer;
    }
}
