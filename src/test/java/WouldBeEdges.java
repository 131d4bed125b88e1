import java.math.BigInteger;
import java.util.ArrayList;
import java.util.List;

/** The sentences of the promises 20 to 23 that name an edge. */
public final class WouldBeEdges {
    private static final Check check = new Check();
    private static final Hems SOME = new Hems("1213", "21", "12");
    private static final String NO_HEM = "Throws `IndexOutOfBoundsException` if hem is not 0 to 1";

    public static void main(String[] args) {
        Sentences.run(WouldBeEdges.class, check);
    }

    private static void wouldBe(int due, String stitches, int stitch) {
        for (int number = 0; number < 2; number++) {
            int hem = number;
            String what = "would(" + hem + ", " + stitch + ")";
            check.due(what, due, Hems.in(hem, stitches), made -> made.would(hem, stitch));
        }
    }

    // ---- Promise 20

    @Sentence(of = "Promise 20",
        says = "Returns how many different rows more it would have, if this was sewn to its end")
    static void rowsMoreByAStitch() {
        wouldBe(1, "", 0);
        wouldBe(1, "", 8);
        wouldBe(1, "5", 5);
        wouldBe(2, "5", 4);
        wouldBe(1, "555", 5);
        wouldBe(4, "012", 3);
        wouldBe(3, "012", 0);
        wouldBe(3, "0120", 1);
        wouldBe(3, "01201", 2);
        wouldBe(39, Hems.ALL_APART.substring(0, 39), 6);
        wouldBe(38, Hems.ALL_APART.substring(0, 39), 1);
    }

    @Sentence(of = "Promise 20",
        says = "Returns how many different rows more it would have, if this was sewn to its end")
    static void asManyRowsMoreAsSewingBrings() {
        for (int held = 0; held < 40; held++) {
            for (int kind = 0; kind < 9; kind++) {
                int stitch = kind;
                Hems hems = Hems.one(Hems.ALL_APART.substring(0, held));
                HemSuffixes sewn = hems.made();
                sewn.sew(1, stitch);
                int more = sewn.count(4) - hems.made().count(4);
                check.due("would(1, " + stitch + ")", more, hems, made -> made.would(1, stitch));
            }
        }
    }

    @Sentence(of = "Promise 20", says = "(also if it has 40; nothing is changed)")
    static void wouldOfAFullHem() {
        wouldBe(41, Hems.ALL_ALIKE, 8);
        wouldBe(1, Hems.ALL_ALIKE, 0);
        wouldBe(40, Hems.ALL_APART, 6);
        wouldBe(39, Hems.ALL_APART, 2);
        wouldBe(2, "01".repeat(20), 0);
        wouldBe(40, "01".repeat(20), 1);
    }

    @Sentence(of = "Promise 20", says = "(also if it has 40; nothing is changed)")
    static void wouldChangesNothing() {
        check.dueAndNoChange("would(0, 8)", 5, SOME, made -> made.would(0, 8));
        check.dueAndNoChange("would(1, 2)", 2, SOME, made -> made.would(1, 2));
        check.dueAndNoChange("would(1, 0)", 1, Hems.EMPTY, made -> made.would(1, 0));
        check.dueAndNoChange("would(0, 8)", 41, Hems.FULL, made -> made.would(0, 8));
        check.dueAndNoChange("would(1, 2)", 39, Hems.FULL, made -> made.would(1, 2));
    }

    @Sentence(of = "Promise 20", says = NO_HEM)
    static void wouldOfNoHem() {
        for (int hem : Hems.NO_HEM) {
            check.refused("would(" + hem + ", 0)", Check.INDEX, SOME, made -> made.would(hem, 0));
            check.refused("would(" + hem + ", 8)", Check.INDEX, Hems.FULL, made -> made.would(hem, 8));
        }
        check.due("would(0, 0)", 5, SOME, made -> made.would(0, 0));
        check.due("would(1, 0)", 3, SOME, made -> made.would(1, 0));
    }

    @Sentence(of = "Promise 20", says = "Throws `IllegalArgumentException` if stitch is not 0 to 8")
    static void wouldOfNoStitch() {
        for (int stitch : Hems.NO_STITCH) {
            check.refused("would(0, " + stitch + ")", Check.ARGUMENT, SOME, made -> made.would(0, stitch));
            check.refused("would(1, " + stitch + ")", Check.ARGUMENT, Hems.EMPTY, made -> made.would(1, stitch));
            check.refused("would(1, " + stitch + ")", Check.ARGUMENT, Hems.FULL, made -> made.would(1, stitch));
        }
        check.due("would(0, 0)", 5, SOME, made -> made.would(0, 0));
        check.due("would(0, 8)", 5, SOME, made -> made.would(0, 8));
    }

    // ---- Promise 21

    private static void advised(int due, String stitches) {
        for (int number = 0; number < 2; number++) {
            int hem = number;
            check.due("advise(" + hem + ")", due, Hems.in(hem, stitches), made -> made.advise(hem));
        }
    }

    @Sentence(of = "Promise 21", says = "Returns the stitch by which the fewest different rows more would come")
    static void theFewestRowsMore() {
        advised(0, "0");
        advised(8, "8");
        advised(8, "8".repeat(40));
        advised(6, "012345645645");
        advised(1, "10".repeat(20));
        advised(8, "1218121");
    }

    @Sentence(of = "Promise 21", says = "of several the least one")
    static void theLeastStitchOfSeveral() {
        advised(0, "");
        advised(7, "87");
        advised(6, "78786");
        advised(0, "876543210");
        advised(0, "012345678");
        advised(0, Hems.ALL_APART);
    }

    @Sentence(of = "Promise 21", says = "(nothing is changed)")
    static void adviseChangesNothing() {
        check.dueAndNoChange("advise(0)", 1, SOME, made -> made.advise(0));
        check.dueAndNoChange("advise(1)", 1, SOME, made -> made.advise(1));
        check.dueAndNoChange("advise(0)", 0, Hems.EMPTY, made -> made.advise(0));
        check.dueAndNoChange("advise(0)", 0, Hems.FULL, made -> made.advise(0));
        check.dueAndNoChange("advise(1)", 0, Hems.FULL, made -> made.advise(1));
    }

    @Sentence(of = "Promise 21", says = NO_HEM)
    static void adviceForNoHem() {
        for (int hem : Hems.NO_HEM) {
            check.refused("advise(" + hem + ")", Check.INDEX, SOME, made -> made.advise(hem));
            check.refused("advise(" + hem + ")", Check.INDEX, Hems.EMPTY, made -> made.advise(hem));
            check.refused("advise(" + hem + ")", Check.INDEX, Hems.FULL, made -> made.advise(hem));
        }
        check.due("advise(0)", 3, Hems.both("3", "4"), made -> made.advise(0));
        check.due("advise(1)", 4, Hems.both("3", "4"), made -> made.advise(1));
    }

    // ---- Promise 22

    private static void meanIs(double due, String zero, String one) {
        check.dueAndNoChange("mean()", due, Hems.both(zero, one), made -> made.mean());
    }

    @Sentence(of = "Promise 22",
        says = "how many stitches two ends of one hem that stand beside each other in its order have in common")
    static void meanOfOneHem() {
        meanIs(1.0, "55", "");
        meanIs(1.0, "", "55");
        meanIs(0.0, "80", "");
        meanIs(0.5, "121", "");
        meanIs(20.0, Hems.ALL_ALIKE, "");
        // Of its nine kinds all but the first end of each stand behind one that begins alike.
        meanIs(31 / 39.0, "", Hems.ALL_APART);
    }

    @Sentence(of = "Promise 22", says = "over all such pairs of both hems together")
    static void meanOfBothHemsTogether() {
        meanIs(1 / 3.0, "55", "123");
        meanIs(1 / 3.0, "123", "55");
        meanIs(3 / 5.0, "333", "1234");
        meanIs(1.0, "55", "5");
        meanIs(20.0, Hems.ALL_ALIKE, "8".repeat(40));
        meanIs((780 + 31) / 78.0, Hems.ALL_ALIKE, Hems.ALL_APART);
    }

    @Sentence(of = "Promise 22", says = "0 if there are none.")
    static void meanWithoutAPair() {
        meanIs(0.0, "", "");
        meanIs(0.0, "5", "");
        meanIs(0.0, "", "5");
        meanIs(0.0, "5", "5");
        HemSuffixes unpicked = Hems.both("55", "55").made();
        unpicked.unpick(0, 1);
        unpicked.unpick(1, 2);
        check.due("mean(), all pairs were unpicked", 0.0, () -> unpicked.mean());
    }

    // ---- Promise 23

    /** The numbers of the promise 23, in its order, as the other calls tell them. */
    private static List<Integer> numbers(HemSuffixes made, String sample) {
        List<Integer> numbers = new ArrayList<>();
        for (int what = 0; what < 6; what++) {
            numbers.add(made.count(what));
        }
        for (int hem = 0; hem < 2; hem++) {
            int length = made.count(hem);
            for (int place = 0; place < length; place++) {
                numbers.add(made.stitch(hem, place));
            }
            for (int rank = 0; rank < length; rank++) {
                numbers.add(made.end(hem, rank));
            }
            for (int what = 0; what < 3; what++) {
                numbers.add(made.repeat(hem, what));
            }
            numbers.add(made.period(hem));
            numbers.add(made.turned(hem));
            numbers.add(made.found(hem));
        }
        for (char stitch : sample.toCharArray()) {
            numbers.add(stitch - '0');
        }
        for (int what = 0; what < 3; what++) {
            numbers.add(made.seam(what));
        }
        return numbers;
    }

    /** As if a number could have as many digits as it likes. */
    private static BigInteger unwrapped(List<Integer> numbers) {
        BigInteger digest = BigInteger.valueOf(1483);
        for (int number : numbers) {
            digest = digest.multiply(BigInteger.valueOf(31)).add(BigInteger.valueOf(number));
        }
        return digest;
    }

    private static void digestIsOfItsNumbers(Hems hems) {
        long due = unwrapped(numbers(hems.made(), hems.sample())).longValue();
        check.dueAndNoChange("digest()", due, hems, made -> made.digest());
    }

    @Sentence(of = "Promise 23", says = "A number d starts with 1483")
    static void digestOfAnEmptyObject() {
        long due = 1483;
        int[] numbers = {0, 0, 0, 0, 0, 0, 0, -1, 0, 0, -1, 0, 0, -1, 0, 0, -1, 0, 0, -1, -1};
        for (int number : numbers) {
            due = due * 31 + number;
        }
        check.dueAndNoChange("digest()", due, Hems.EMPTY, made -> made.digest());
    }

    @Sentence(of = "Promise 23", says = "which wraps around as a 64-bit integer")
    static void digestWrapsAround() {
        boolean below = false;
        boolean above = false;
        for (int held = 0; held <= 40; held++) {
            Hems hems = new Hems(Hems.ALL_APART.substring(0, held), Hems.ALL_ALIKE.substring(held), "80");
            BigInteger digest = unwrapped(numbers(hems.made(), hems.sample()));
            check.due("its numbers are too large for 64 bits", true, () -> digest.bitLength() > 64);
            check.due("digest()", digest.longValue(), hems, made -> made.digest());
            below |= digest.longValue() < 0;
            above |= digest.longValue() > 0;
        }
        boolean seen = below && above;
        check.due("wrapped to less than 0 and to more than 0", true, () -> seen);
    }

    @Sentence(of = "Promise 23",
        says = "what count() tells, in its order; for each hem its stitches, the places of its ends in their order")
    static void digestOfTheHems() {
        digestIsOfItsNumbers(SOME);
        digestIsOfItsNumbers(Hems.zero("1213"));
        digestIsOfItsNumbers(Hems.one("1213"));
        digestIsOfItsNumbers(Hems.zero("8"));
        digestIsOfItsNumbers(Hems.one("0"));
        digestIsOfItsNumbers(Hems.FULL);
        digestIsOfItsNumbers(Hems.both(Hems.ALL_APART, Hems.ALL_APART));
    }

    @Sentence(of = "Promise 23", says = "what repeat() tells, its period, where it is turned")
    static void digestOfRepeatsAndPeriods() {
        digestIsOfItsNumbers(Hems.both("", "012345678"));
        digestIsOfItsNumbers(Hems.both("87871212", ""));
        digestIsOfItsNumbers(Hems.both("8108168148", "10010"));
        digestIsOfItsNumbers(Hems.both("01".repeat(20), "1".repeat(39) + "0"));
    }

    @Sentence(of = "Promise 23",
        says = "at how many places the sample stands; the stitches of the sample; what seam() tells.")
    static void digestOfTheSample() {
        digestIsOfItsNumbers(SOME.withSample(""));
        digestIsOfItsNumbers(SOME.withSample("8"));
        digestIsOfItsNumbers(SOME.withSample("780780780780"));
        digestIsOfItsNumbers(new Hems("", "", "0"));
        digestIsOfItsNumbers(new Hems("", "", "876543210876"));
        digestIsOfItsNumbers(new Hems("121212", "2121", "21"));
    }
}
