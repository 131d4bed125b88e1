/** The sentences of the promises 13 to 19 that name an edge. */
public final class RowsEdges {
    private static final Check check = new Check();
    private static final Hems SOME = new Hems("1213", "21", "12");
    private static final String NO_HEM = "Throws `IndexOutOfBoundsException` if hem is not 0 to 1";

    public static void main(String[] args) {
        Sentences.run(RowsEdges.class, check);
    }

    /** A call with a hem. */
    private interface OfHem {
        int answer(HemSuffixes made, int hem);
    }

    private static void ofNoHem(String what, OfHem call) {
        for (int hem : Hems.NO_HEM) {
            check.refused(what + " of the hem " + hem, Check.INDEX, SOME, made -> call.answer(made, hem));
            check.refused(what + " of the hem " + hem, Check.INDEX, Hems.EMPTY, made -> call.answer(made, hem));
        }
    }

    /** In both hems, each time with the other one empty. */
    private static void due(String what, int due, String stitches, OfHem call) {
        for (int number = 0; number < 2; number++) {
            int hem = number;
            String where = what + " of the hem " + hem;
            check.dueAndNoChange(where, due, Hems.in(hem, stitches), made -> call.answer(made, hem));
        }
    }

    private static void dueWithSample(String what, int due, String stitches, String sample, OfHem call) {
        for (int number = 0; number < 2; number++) {
            int hem = number;
            Hems hems = Hems.in(hem, stitches).withSample(sample);
            check.dueAndNoChange(what + " of the hem " + hem, due, hems, made -> call.answer(made, hem));
        }
    }

    // ---- Promise 13

    private static void repeatIs(String stitches, int many, int place, int places) {
        due("repeat, 0,", many, stitches, (made, hem) -> made.repeat(hem, 0));
        due("repeat, 1,", place, stitches, (made, hem) -> made.repeat(hem, 1));
        due("repeat, 2,", places, stitches, (made, hem) -> made.repeat(hem, 2));
    }

    @Sentence(of = "Promise 13", says = "of its longest repeat")
    static void theLongestRepeat() {
        repeatIs("00", 1, 0, 2);
        repeatIs("0088088", 3, 1, 2);
        repeatIs(Hems.ALL_APART, 1, 0, 9);
        String half = Hems.ALL_APART.substring(0, 20);
        repeatIs(half + half, 20, 0, 2);
        repeatIs(Hems.ALL_ALIKE, 39, 0, 2);
    }

    @Sentence(of = "Promise 13", says = "of several as long the least one")
    static void theLeastOfRepeatsAsLong() {
        repeatIs("8800", 1, 2, 2);
        repeatIs("87871212", 2, 4, 2);
        // The one that stands at more places is not the least one.
        repeatIs("8768758712012", 2, 8, 2);
    }

    @Sentence(of = "Promise 13",
        says = "0 how many stitches it has, 1 the first place at which it stands, 2 at how many it stands")
    static void theRepeatsFirstPlaceAndPlaces() {
        repeatIs("1010", 2, 0, 2);
        repeatIs("777", 2, 0, 2);
        repeatIs("8108168148", 2, 0, 3);
        repeatIs("0102030", 1, 0, 4);
        repeatIs("1" + "0".repeat(39), 38, 1, 2);
        repeatIs("0123456783456780", 6, 3, 2);
    }

    @Sentence(of = "Promise 13", says = "0, -1 and 0 without any")
    static void noRepeat() {
        repeatIs("", 0, -1, 0);
        repeatIs("4", 0, -1, 0);
        repeatIs("012345678", 0, -1, 0);
    }

    @Sentence(of = "Promise 13", says = NO_HEM)
    static void repeatOfNoHem() {
        for (int what = 0; what < 3; what++) {
            int part = what;
            ofNoHem("repeat, " + part + ",", (made, hem) -> made.repeat(hem, part));
        }
    }

    @Sentence(of = "Promise 13", says = "or what is not 0 to 2")
    static void repeatOfNoPart() {
        for (int what : new int[] {-1, -3, 3, 4, 256, Integer.MIN_VALUE, Integer.MAX_VALUE}) {
            for (Hems hems : new Hems[] {SOME, Hems.EMPTY, Hems.FULL}) {
                check.refused("repeat(0, " + what + ")", Check.INDEX, hems, made -> made.repeat(0, what));
                check.refused("repeat(1, " + what + ")", Check.INDEX, hems, made -> made.repeat(1, what));
            }
        }
    }

    // ---- Promise 14

    @Sentence(of = "Promise 14",
        says = "Tells the row of a number, if all different rows of a hem stand in their order, from 0 on.")
    static void theFirstAndTheLastRow() {
        int[] rows = {64 + 1, 64 + 2, 64 + 3, 1, 2, 3, 4};
        for (int number = 0; number < rows.length; number++) {
            int asked = number;
            due("row, " + number + ",", rows[number], "2121", (made, hem) -> made.row(hem, asked));
        }
        due("row, 0,", 1, "8", (made, hem) -> made.row(hem, 0));
        due("row, 0,", 1, Hems.ALL_APART, (made, hem) -> made.row(hem, 0));
        due("row, the last,", 64 * 31 + 9, Hems.ALL_APART, (made, hem) -> made.row(hem, 788));
    }

    @Sentence(of = "Promise 14",
        says = "Returns 64 times the first place at which it stands, and how many stitches it has, added.")
    static void theRowsFirstPlaceAndStitches() {
        for (int number = 0; number < 40; number++) {
            int asked = number;
            due("row, " + number + ",", number + 1, Hems.ALL_ALIKE, (made, hem) -> made.row(hem, asked));
        }
        due("row, 0,", 64 * 39 + 1, "1".repeat(39) + "0", (made, hem) -> made.row(hem, 0));
        due("row, 1,", 64 * 38 + 1, "2".repeat(38) + "10", (made, hem) -> made.row(hem, 1));
        due("row, 0,", 64 + 1, "5454", (made, hem) -> made.row(hem, 0));
    }

    @Sentence(of = "Promise 14", says = NO_HEM)
    static void rowOfNoHem() {
        ofNoHem("row, 0,", (made, hem) -> made.row(hem, 0));
    }

    @Sentence(of = "Promise 14", says = "or there is no such row")
    static void noSuchRow() {
        noRow("", 0);
        noRow("5", 1);
        noRow("55", 2);
        noRow("2121", 7);
        noRow(Hems.ALL_ALIKE, 40);
        noRow(Hems.ALL_APART, 789);
        Hems more = Hems.both("5", "0123");
        check.refused("row(0, 1), a row of the hem 1 alone", Check.INDEX, more, made -> made.row(0, 1));
        HemSuffixes unpicked = Hems.zero("55").made();
        unpicked.unpick(0, 1);
        check.due("a row that was unpicked", Check.INDEX, () -> unpicked.row(0, 1));
        check.due("the hem behind it", "5", () -> Hems.stitches(unpicked, 0));
    }

    private static void noRow(String stitches, int rows) {
        for (int number : new int[] {-1, Integer.MIN_VALUE, rows, rows + 1, 820, Integer.MAX_VALUE}) {
            for (int hem = 0; hem < 2; hem++) {
                int asked = hem;
                String what = "row(" + hem + ", " + number + ")";
                check.refused(what, Check.INDEX, Hems.in(hem, stitches), made -> made.row(asked, number));
            }
        }
    }

    // ---- Promise 15

    private static void foundIs(int due, String stitches, String sample) {
        dueWithSample("found", due, stitches, sample, (made, hem) -> made.found(hem));
    }

    @Sentence(of = "Promise 15", says = "Returns at how many places of it the sample stands")
    static void foundAtNoneOneAndMany() {
        foundIs(1, "1234", "1");
        foundIs(1, "1234", "4");
        foundIs(1, "1234", "1234");
        foundIs(0, "1234", "12345");
        foundIs(0, "1234", "45");
        foundIs(0, "1234", "5");
        foundIs(0, "", "0");
        foundIs(2, "111", "11");
        foundIs(40, Hems.ALL_ALIKE, "0");
        foundIs(29, Hems.ALL_ALIKE, "0".repeat(12));
        foundIs(1, "0".repeat(28) + "123456781234", "123456781234");
        HemSuffixes unpicked = new Hems("12", "12", "2").made();
        unpicked.unpick(0, 1);
        check.due("found(0), what was unpicked", 0, () -> unpicked.found(0));
        check.due("found(1)", 1, () -> unpicked.found(1));
    }

    @Sentence(of = "Promise 15", says = "0 without a sample.")
    static void foundWithoutASample() {
        foundIs(0, "1213", "");
        foundIs(0, "0", "");
        foundIs(0, "", "");
        foundIs(0, Hems.ALL_ALIKE, "");
        HemSuffixes cleared = new Hems("0", "0", "0").made();
        cleared.clear();
        check.due("found(0) behind clear", 0, () -> cleared.found(0));
        check.due("found(1) behind clear", 0, () -> cleared.found(1));
    }

    @Sentence(of = "Promise 15", says = NO_HEM)
    static void foundInNoHem() {
        ofNoHem("found", (made, hem) -> made.found(hem));
    }

    // ---- Promise 16

    private static void firstIs(int due, String stitches, String sample) {
        dueWithSample("first", due, stitches, sample, (made, hem) -> made.first(hem));
    }

    @Sentence(of = "Promise 16", says = "Returns the first place at which the sample stands")
    static void firstOfManyAndOfTheLastPlace() {
        firstIs(0, "1212", "12");
        firstIs(1, "3212", "2");
        firstIs(0, "1234", "1234");
        firstIs(3, "1234", "4");
        firstIs(1, "11213", "121");
        firstIs(39, "0".repeat(39) + "8", "8");
        firstIs(28, "0".repeat(28) + "123456781234", "123456781234");
        firstIs(0, Hems.ALL_ALIKE, "0".repeat(12));
    }

    @Sentence(of = "Promise 16", says = "-1 if there is none")
    static void firstOfNone() {
        firstIs(-1, "1234", "0");
        firstIs(-1, "1234", "13");
        firstIs(-1, "1234", "12345");
        firstIs(-1, "1234", "45");
        firstIs(-1, "", "0");
        firstIs(-1, "0".repeat(11), "0".repeat(12));
    }

    @Sentence(of = "Promise 16", says = "or no sample.")
    static void firstWithoutASample() {
        firstIs(-1, "1213", "");
        firstIs(-1, "0", "");
        firstIs(-1, "", "");
        firstIs(-1, Hems.ALL_ALIKE, "");
        HemSuffixes cleared = new Hems("0", "0", "0").made();
        cleared.clear();
        check.due("first(0) behind clear", -1, () -> cleared.first(0));
        check.due("first(1) behind clear", -1, () -> cleared.first(1));
    }

    @Sentence(of = "Promise 16", says = NO_HEM)
    static void firstInNoHem() {
        ofNoHem("first", (made, hem) -> made.first(hem));
    }

    // ---- Promise 17

    private static void periodIs(int due, String stitches) {
        due("period", due, stitches, (made, hem) -> made.period(hem));
    }

    @Sentence(of = "Promise 17",
        says = "Returns the least number p of 1 or more for which each stitch is the same as that p places ahead of it")
    static void theLeastPeriod() {
        periodIs(1, "55");
        periodIs(1, Hems.ALL_ALIKE);
        periodIs(2, "01".repeat(20));
        periodIs(9, "012345678".repeat(4) + "0123");
        periodIs(20, Hems.ALL_APART.substring(0, 20) + Hems.ALL_APART.substring(0, 20));
        periodIs(5, "123121");
    }

    @Sentence(of = "Promise 17", says = "(if there is one)")
    static void noStitchAheadOfTheFirstOnes() {
        periodIs(1, "0");
        periodIs(1, "8");
        periodIs(2, "12");
        periodIs(3, "110");
        periodIs(39, "1" + "0".repeat(38) + "1");
        periodIs(40, "0".repeat(39) + "1");
        periodIs(40, "1" + "0".repeat(39));
    }

    @Sentence(of = "Promise 17", says = "0 if it is empty.")
    static void thePeriodOfAnEmptyHem() {
        periodIs(0, "");
        HemSuffixes unpicked = Hems.both("121", "2").made();
        unpicked.unpick(0, 3);
        unpicked.unpick(1, 1);
        check.due("period(0), all was unpicked", 0, () -> unpicked.period(0));
        check.due("period(1), all was unpicked", 0, () -> unpicked.period(1));
    }

    @Sentence(of = "Promise 17", says = NO_HEM)
    static void periodOfNoHem() {
        ofNoHem("period", (made, hem) -> made.period(hem));
    }

    // ---- Promise 18

    private static void turnedIs(int due, String stitches) {
        due("turned", due, stitches, (made, hem) -> made.turned(hem));
    }

    @Sentence(of = "Promise 18", says = "Returns the first place at which it had best begin")
    static void theFirstOfTheBestPlaces() {
        turnedIs(0, "7");
        turnedIs(0, "77");
        turnedIs(0, Hems.ALL_ALIKE);
        turnedIs(0, "01".repeat(20));
        turnedIs(1, "10".repeat(20));
    }

    @Sentence(of = "Promise 18", says = "all around from there, it is the least row")
    static void turnedAllAround() {
        turnedIs(1, "80");
        turnedIs(39, "2" + "1".repeat(38) + "0");
        turnedIs(39, "0".repeat(38) + "10");
        turnedIs(21, "0".repeat(20) + "1" + "0".repeat(19));
        // Its least end is the one at the last place, which goes on with a 1.
        turnedIs(1, "10010");
        turnedIs(0, "00101");
    }

    @Sentence(of = "Promise 18", says = "-1 if it is empty.")
    static void noPlaceInAnEmptyHem() {
        turnedIs(-1, "");
        HemSuffixes unpicked = Hems.both("121", "2").made();
        unpicked.unpick(0, 3);
        unpicked.unpick(1, 1);
        check.due("turned(0), all was unpicked", -1, () -> unpicked.turned(0));
        check.due("turned(1), all was unpicked", -1, () -> unpicked.turned(1));
    }

    @Sentence(of = "Promise 18", says = NO_HEM)
    static void turnedOfNoHem() {
        ofNoHem("turned", (made, hem) -> made.turned(hem));
    }

    // ---- Promise 19

    private static void seamIs(String zero, String one, int... parts) {
        for (int what = 0; what < 3; what++) {
            int part = what;
            Hems hems = Hems.both(zero, one);
            check.dueAndNoChange("seam(" + part + ")", parts[part], hems, made -> made.seam(part));
        }
    }

    @Sentence(of = "Promise 19", says = "of the longest row that is in both hems")
    static void theLongestRowInBoth() {
        seamIs("4", "4", 1, 0, 0);
        seamIs("0128", "8", 1, 3, 0);
        seamIs("8", "0128", 1, 0, 3);
        seamIs("0123", "123", 3, 1, 0);
        seamIs("056783", "0356784", 4, 1, 2);
        seamIs(Hems.ALL_APART, Hems.ALL_APART, 40, 0, 0);
        seamIs(Hems.ALL_ALIKE, Hems.ALL_ALIKE, 40, 0, 0);
    }

    @Sentence(of = "Promise 19", says = "of several as long the least one")
    static void theLeastOfRowsAsLong() {
        seamIs("80", "08", 1, 1, 0);
        seamIs("3412", "1234", 2, 2, 0);
        seamIs("34512", "34612", 2, 3, 3);
    }

    @Sentence(of = "Promise 19",
        says = "0 how many stitches it has, 1 the first place in the hem 0, 2 that in the hem 1")
    static void theFirstPlacesOfTheRowInBoth() {
        seamIs("812712", "612512", 2, 1, 1);
        seamIs("1212", "012012", 2, 0, 1);
        seamIs(Hems.ALL_ALIKE, "000", 3, 0, 0);
        seamIs("8000", Hems.ALL_ALIKE, 3, 1, 0);
        seamIs("1".repeat(39) + "8", "2".repeat(39) + "8", 1, 39, 39);
    }

    @Sentence(of = "Promise 19", says = "0, -1 and -1 without any")
    static void noRowInBoth() {
        seamIs("", "", 0, -1, -1);
        seamIs("0", "", 0, -1, -1);
        seamIs("", "0", 0, -1, -1);
        seamIs("0123", "5678", 0, -1, -1);
        seamIs("0".repeat(40), "1".repeat(40), 0, -1, -1);
    }

    @Sentence(of = "Promise 19", says = "Throws `IndexOutOfBoundsException` if what is not 0 to 2")
    static void seamOfNoPart() {
        for (int what : new int[] {-1, -3, 3, 4, 256, Integer.MIN_VALUE, Integer.MAX_VALUE}) {
            for (Hems hems : new Hems[] {SOME, Hems.EMPTY, Hems.FULL}) {
                check.refused("seam(" + what + ")", Check.INDEX, hems, made -> made.seam(what));
            }
        }
    }
}
