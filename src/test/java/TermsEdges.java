/** The sentences of "What it is" and "Terms" that name an edge. */
public final class TermsEdges {
    private static final Check check = new Check();
    private static final Hems SOME = new Hems("1213", "21", "12");

    public static void main(String[] args) {
        Sentences.run(TermsEdges.class, check);
    }

    /** A call that throws, with what it throws. */
    private record Refusal(String what, String thrown, Hems.Asked call) {
    }

    private static Refusal index(String what, Hems.Asked call) {
        return new Refusal(what, Check.INDEX, call);
    }

    private static Refusal argument(String what, Hems.Asked call) {
        return new Refusal(what, Check.ARGUMENT, call);
    }

    private static Refusal state(String what, Hems.Asked call) {
        return new Refusal(what, Check.STATE, call);
    }

    private static void allRefused(Hems hems, Refusal... refusals) {
        for (Refusal refusal : refusals) {
            check.refused(refusal.what, refusal.thrown, hems, refusal.call);
        }
    }

    /** An object that has answered 511 calls, 8 of them when it was made, and holds what SOME holds. */
    private static HemSuffixes askedAllButOnce() {
        HemSuffixes made = SOME.made();
        for (int pair = 0; pair < 251; pair++) {
            made.sew(0, pair % 9);
            made.unpick(0, 1);
        }
        made.mean();
        return made;
    }

    @Sentence(of = "What it is", says = "An object is used for at most 512 calls after it has been made")
    static void asThe512thEachCallAnswers() {
        Hems.Asked[] calls = {
            made -> made.sew(0, 3), made -> made.again(1, 2), made -> made.unpick(0, 4), made -> made.add(0),
            made -> made.clear(), made -> made.stitch(0, 3), made -> made.count(3), made -> made.end(0, 3),
            made -> made.rank(0, 3), made -> made.common(0, 0, 2), made -> made.against(0, 1),
            made -> made.repeat(0, 0), made -> made.row(0, 7), made -> made.found(0), made -> made.first(1),
            made -> made.period(1), made -> made.turned(1), made -> made.seam(0), made -> made.would(0, 2),
            made -> made.advise(0), made -> made.mean(), made -> made.digest(), made -> made.sew(2, 0),
        };
        for (int number = 0; number < calls.length; number++) {
            Hems.Asked call = calls[number];
            HemSuffixes used = askedAllButOnce();
            String due = Check.answerOf(() -> call.of(SOME.made()));
            check.due("the 512th call, number " + number, due, () -> call.of(used));
        }
    }

    @Sentence(of = "What it is", says = "An object is used for at most 512 calls after it has been made")
    static void behind511RefusedCallsItAnswers() {
        HemSuffixes made = new HemSuffixes();
        for (int call = 0; call < 511; call++) {
            check.due("a refused call", Check.ARGUMENT, () -> made.sew(0, 9));
        }
        check.due("the 512th call", 1, () -> made.sew(0, 8));
    }

    @Sentence(of = "Terms", says = "Stitches are numbers, 0 to 8.")
    static void allNineStitches() {
        Hems nine = new Hems("012345678", "876543210", "");
        for (int kind = 0; kind < 9; kind++) {
            int stitch = kind;
            check.due("stitch(0, " + stitch + ")", stitch, nine, made -> made.stitch(0, stitch));
            check.due("stitch(1, " + stitch + ")", 8 - stitch, nine, made -> made.stitch(1, stitch));
            Hems sought = new Hems(nine.zero(), nine.one(), String.valueOf(stitch));
            check.due("first(0)", stitch, sought, made -> made.first(0));
            check.due("first(1)", 8 - stitch, sought, made -> made.first(1));
        }
    }

    @Sentence(of = "Terms", says = "There are two hems, 0 and 1, and a sample")
    static void eachHasStitchesOfItsOwn() {
        check.due("the hems", "1213/21/2", SOME, made -> Hems.text(made));
        afterwards("sew(0, 5)", "12135/21/2", made -> made.sew(0, 5));
        afterwards("sew(1, 5)", "1213/215/2", made -> made.sew(1, 5));
        afterwards("again(0, 1)", "12131/21/2", made -> made.again(0, 1));
        afterwards("again(1, 1)", "1213/212/2", made -> made.again(1, 1));
        afterwards("unpick(0, 1)", "121/21/2", made -> made.unpick(0, 1));
        afterwards("unpick(1, 1)", "1213/2/2", made -> made.unpick(1, 1));
        afterwards("add(5)", "1213/21/3", made -> made.add(5));
        afterwards("clear()", "1213/21/0", made -> made.clear());
    }

    private static void afterwards(String what, String due, Hems.Asked change) {
        HemSuffixes made = SOME.made();
        change.of(made);
        check.due("the hems behind " + what, due, () -> Hems.text(made));
    }

    @Sentence(of = "Terms", says = "a hem has at most 40 stitches")
    static void fortyStitchesInEachHem() {
        Hems full = Hems.both(Hems.ALL_APART, Hems.ALL_APART);
        check.due("both hems", Hems.ALL_APART + "/" + Hems.ALL_APART + "/0", full, made -> Hems.text(made));
        allRefused(full,
            state("the 41st stitch", made -> made.sew(0, 1)), state("the 41st stitch", made -> made.sew(1, 1)),
            state("the 41st, again", made -> made.again(0, 1)), state("the 41st, again", made -> made.again(1, 1)));
    }

    @Sentence(of = "Terms", says = "the sample at most 12")
    static void twelveStitchesInTheSample() {
        Hems full = new Hems("012345678012", "012345678013", "012345678012");
        check.due("count(2)", 12, full, made -> made.count(2));
        check.due("found(0), all 12 the same", 1, full, made -> made.found(0));
        check.due("found(1), the 12th differs", 0, full, made -> made.found(1));
        allRefused(full, state("the 13th stitch", made -> made.add(1)));
    }

    @Sentence(of = "Terms", says = "(all none, at first)")
    static void noStitchesAtFirst() {
        for (int what = 0; what < 3; what++) {
            int part = what;
            check.due("count(" + part + ")", 0, Hems.EMPTY, made -> made.count(part));
        }
    }

    @Sentence(of = "Terms", says = "Places in them are counted from 0.")
    static void theFirstPlaceIs0() {
        Hems hems = new Hems("345", "543", "34");
        check.due("stitch(0, 0)", 3, hems, made -> made.stitch(0, 0));
        check.due("stitch(1, 2)", 3, hems, made -> made.stitch(1, 2));
        check.due("rank(0, 0)", 0, hems, made -> made.rank(0, 0));
        check.due("end(1, 2)", 0, hems, made -> made.end(1, 2));
        check.due("first(0)", 0, hems, made -> made.first(0));
        allRefused(hems, index("stitch(0, 3)", made -> made.stitch(0, 3)));
    }

    @Sentence(of = "Terms", says = "that has the lesser stitch at the first place where they differ")
    static void theFirstDifferenceOrders() {
        check.due("the longer is less, end(0, 0)", 1, Hems.zero("102"), made -> made.end(0, 0));
        check.due("0 is less than 8, end(0, 0)", 1, Hems.zero("80"), made -> made.end(0, 0));
        check.due("behind it all is free, against(0, 0)", -2, Hems.both("128", "131"), made -> made.against(0, 0));
        Hems late = Hems.zero("0".repeat(19) + "1" + "0".repeat(19) + "2");
        check.due("they differ at the 20th, rank(0, 0)", 0, late, made -> made.rank(0, 0));
        check.due("they differ at the 20th, rank(0, 20)", 1, late, made -> made.rank(0, 20));
        Hems last = Hems.both("0".repeat(39) + "7", "0".repeat(39) + "8");
        check.due("they differ at the 40th, against(0, 0)", -40, last, made -> made.against(0, 0));
    }

    @Sentence(of = "Terms", says = "or, if the one is the beginning of the other one, the shorter one.")
    static void theShorterOfABeginningIsLess() {
        for (int number = 0; number < 40; number++) {
            int rank = number;
            check.due("end(0, " + rank + ")", 39 - rank, Hems.FULL, made -> made.end(0, rank));
        }
        Hems shorter = Hems.both("0".repeat(39), Hems.ALL_ALIKE);
        check.due("39 against 40", -40, shorter, made -> made.against(0, 0));
        Hems longer = Hems.both(Hems.ALL_ALIKE, "0".repeat(39));
        check.due("40 against 39", 40, longer, made -> made.against(0, 0));
        check.due("row(0, 0)", 64 + 1, Hems.zero("800"), made -> made.row(0, 0));
        check.due("row(0, 1)", 64 + 2, Hems.zero("800"), made -> made.row(0, 1));
    }

    @Sentence(of = "Terms", says = "The end at a place of a hem is the row of all its stitches from this place on.")
    static void anEndGoesToTheLastStitch() {
        for (int number = 0; number < 40; number++) {
            int place = number;
            String what = "common(1, " + place + ", " + place + ")";
            check.due(what, 40 - place, Hems.FULL, made -> made.common(1, place, place));
        }
    }

    @Sentence(of = "Terms",
        says = "All ends of a hem (as many as it has stitches) stand in their order, the least one first, at ranks from 0 on.")
    static void asManyRanksAsStitches() {
        check.due("the places of all ends", true, Hems.FULL, TermsEdges::endsAreAllPlaces);
        Hems falling = Hems.zero("210");
        check.due("the least one", 2, falling, made -> made.end(0, 0));
        check.due("the greatest one", 0, falling, made -> made.end(0, 2));
        check.due("the only one", 0, Hems.zero("8"), made -> made.end(0, 0));
        allRefused(falling, index("end(0, 3)", made -> made.end(0, 3)), index("end(0, -1)", made -> made.end(0, -1)));
        allRefused(Hems.EMPTY, index("end(0, 0)", made -> made.end(0, 0)), index("end(1, 0)", made -> made.end(1, 0)));
    }

    private static boolean endsAreAllPlaces(HemSuffixes made) {
        boolean[] seen = new boolean[40];
        for (int rank = 0; rank < 40; rank++) {
            int place = made.end(1, rank);
            if (seen[place] || made.rank(1, place) != rank) {
                return false;
            }
            seen[place] = true;
        }
        return true;
    }

    @Sentence(of = "Terms",
        says = "Two ends have in common as many stitches as are the same from their beginnings on, till one differs")
    static void inCommonTillOneDiffers() {
        Hems hems = new Hems("12131214", "1218", "");
        check.due("common(0, 0, 4)", 3, hems, made -> made.common(0, 0, 4));
        check.due("common(0, 0, 1)", 0, hems, made -> made.common(0, 0, 1));
        check.due("the same again behind it, common(0, 0, 2)", 1, hems, made -> made.common(0, 0, 2));
        check.due("against(0, 0)", -4, hems, made -> made.against(0, 0));
    }

    @Sentence(of = "Terms", says = "or one of them is over.")
    static void inCommonTillOneIsOver() {
        check.due("common(0, 0, 39)", 1, Hems.FULL, made -> made.common(0, 0, 39));
        check.due("common(0, 39, 0)", 1, Hems.FULL, made -> made.common(0, 39, 0));
        check.due("common(0, 0, 1)", 39, Hems.FULL, made -> made.common(0, 0, 1));
        HemSuffixes unpicked = Hems.zero("1212").made();
        unpicked.unpick(0, 1);
        check.due("common(0, 0, 2), what was unpicked is over", 1, () -> unpicked.common(0, 0, 2));
    }

    @Sentence(of = "Terms", says = "Rows in a hem: all rows of one stitch or more that stand somewhere in it")
    static void aRowHasOneStitchOrMore() {
        for (int number = 0; number < 2; number++) {
            int hem = number;
            check.due("rows of an empty hem", 0, Hems.EMPTY, made -> made.count(3 + hem));
            check.due("rows of one stitch", 1, Hems.in(hem, "5"), made -> made.count(3 + hem));
            check.due("the first row of two", 1, Hems.in(hem, "56"), made -> made.row(hem, 0));
            check.due("the whole hem is a row", 40, Hems.in(hem, Hems.ALL_ALIKE), made -> made.row(hem, 39));
        }
        check.due("found(0) of no stitch", 0, Hems.FULL.withSample(""), made -> made.found(0));
    }

    @Sentence(of = "Terms", says = "one behind the other without a gap.")
    static void aRowHasNoGap() {
        Hems hems = new Hems("123", "13", "13");
        check.due("rows of 123", 6, hems, made -> made.count(3));
        check.due("13 in 123", 0, hems, made -> made.found(0));
        check.due("13 in 123, first", -1, hems, made -> made.first(0));
        check.due("the longest row in both", 1, hems, made -> made.seam(0));
    }

    @Sentence(of = "Terms", says = "A row stands at a place, if it begins there")
    static void aRowStandsWhereItBegins() {
        Hems hems = new Hems("12345", "", "345");
        check.due("first(0)", 2, hems, made -> made.first(0));
        check.due("found(0)", 1, hems, made -> made.found(0));
    }

    @Sentence(of = "Terms", says = "it can stand at several (they may overlap).")
    static void placesMayOverlap() {
        Hems hems = new Hems("333", Hems.ALL_ALIKE, "33");
        check.due("found(0)", 2, hems, made -> made.found(0));
        check.due("repeat(0, 0)", 2, hems, made -> made.repeat(0, 0));
        check.due("repeat(0, 2)", 2, hems, made -> made.repeat(0, 2));
        check.due("found(1)", 29, hems.withSample("0".repeat(12)), made -> made.found(1));
        check.due("repeat(1, 0)", 39, hems, made -> made.repeat(1, 0));
        check.due("repeat(1, 2)", 2, hems, made -> made.repeat(1, 2));
    }

    @Sentence(of = "Terms", says = "A repeat is a row that stands at two places or more.")
    static void aRepeatStandsAtTwoPlaces() {
        check.due("at one place, repeat(0, 0)", 0, Hems.zero("012345678"), made -> made.repeat(0, 0));
        check.due("at two places, repeat(0, 0)", 1, Hems.zero("0123456780"), made -> made.repeat(0, 0));
        check.due("at two places, repeat(0, 2)", 2, Hems.zero("0123456780"), made -> made.repeat(0, 2));
        check.due("at three places, repeat(0, 0)", 1, Hems.zero("70717"), made -> made.repeat(0, 0));
        check.due("at three places, repeat(0, 2)", 3, Hems.zero("70717"), made -> made.repeat(0, 2));
    }

    @Sentence(of = "Terms", says = "A method that throws an exception changes nothing.")
    static void nothingIsChangedByARefusedCall() {
        allRefused(SOME,
            index("sew", made -> made.sew(2, 0)), argument("sew", made -> made.sew(0, 9)),
            index("again", made -> made.again(-1, 1)), argument("again", made -> made.again(0, 0)),
            index("unpick", made -> made.unpick(2, 1)), argument("unpick", made -> made.unpick(0, 5)),
            argument("add", made -> made.add(-1)),
            index("stitch", made -> made.stitch(0, 4)), index("stitch", made -> made.stitch(2, 0)),
            index("count", made -> made.count(6)), index("count", made -> made.count(-1)),
            index("end", made -> made.end(0, 4)), index("end", made -> made.end(-1, 0)),
            index("rank", made -> made.rank(1, 2)), index("rank", made -> made.rank(2, 0)),
            index("common", made -> made.common(0, 0, 4)), index("common", made -> made.common(1, 2, 0)),
            index("common", made -> made.common(2, 0, 0)),
            index("against", made -> made.against(4, 0)), index("against", made -> made.against(0, 2)));
        allRefused(SOME,
            index("repeat", made -> made.repeat(0, 3)), index("repeat", made -> made.repeat(2, 0)),
            index("row", made -> made.row(0, -1)), index("row", made -> made.row(1, 3)),
            index("row", made -> made.row(2, 0)),
            index("found", made -> made.found(2)), index("first", made -> made.first(-1)),
            index("period", made -> made.period(2)), index("turned", made -> made.turned(-1)),
            index("seam", made -> made.seam(3)), index("seam", made -> made.seam(-1)),
            index("would", made -> made.would(2, 0)), argument("would", made -> made.would(0, 9)),
            index("advise", made -> made.advise(2)));
        nothingIsChangedIfEmptyOrFull();
    }

    private static void nothingIsChangedIfEmptyOrFull() {
        allRefused(Hems.EMPTY,
            state("again", made -> made.again(0, 1)), argument("unpick", made -> made.unpick(1, 1)),
            index("stitch", made -> made.stitch(0, 0)), index("end", made -> made.end(0, 0)),
            index("rank", made -> made.rank(1, 0)), index("common", made -> made.common(0, 0, 0)),
            index("against", made -> made.against(0, 0)), index("row", made -> made.row(0, 0)));
        allRefused(Hems.FULL,
            state("sew", made -> made.sew(0, 1)), state("sew", made -> made.sew(1, 1)),
            state("again", made -> made.again(0, 40)), state("again", made -> made.again(1, 1)),
            argument("unpick", made -> made.unpick(0, 41)), state("add", made -> made.add(1)));
    }

    private static final String FIRST_NAMED = "If several exceptions apply, the one that is named first is thrown.";

    @Sentence(of = "Terms", says = FIRST_NAMED)
    static void theFirstNamedOfSew() {
        allRefused(Hems.FULL,
            index("sew, no hem and no stitch", made -> made.sew(2, 9)),
            index("sew, no hem and no stitch", made -> made.sew(-1, -1)),
            index("sew, no hem, and all are full", made -> made.sew(2, 0)),
            argument("sew, no stitch and full", made -> made.sew(0, 9)),
            argument("sew, no stitch and full", made -> made.sew(1, -1)));
    }

    @Sentence(of = "Terms", says = FIRST_NAMED)
    static void theFirstNamedOfAgain() {
        allRefused(Hems.EMPTY,
            index("again, no hem and no number", made -> made.again(2, 0)),
            index("again, no hem and no number", made -> made.again(-1, 41)),
            index("again, no hem, and all are empty", made -> made.again(2, 1)),
            argument("again, 0 and empty", made -> made.again(0, 0)),
            argument("again, 41 and empty", made -> made.again(1, 41)));
        allRefused(Hems.FULL,
            index("again, no hem, and all are full", made -> made.again(2, 1)),
            argument("again, 0 and full", made -> made.again(1, 0)),
            argument("again, 41 and full", made -> made.again(0, 41)));
    }

    @Sentence(of = "Terms", says = FIRST_NAMED)
    static void theFirstNamedOfUnpick() {
        allRefused(SOME,
            index("unpick, no hem and 0", made -> made.unpick(2, 0)),
            index("unpick, no hem and too many", made -> made.unpick(-1, 5)));
    }

    @Sentence(of = "Terms", says = FIRST_NAMED)
    static void theFirstNamedOfAdd() {
        allRefused(Hems.FULL,
            argument("add, no stitch and full", made -> made.add(9)),
            argument("add, no stitch and full", made -> made.add(-1)));
    }

    @Sentence(of = "Terms", says = FIRST_NAMED)
    static void theFirstNamedOfWould() {
        allRefused(SOME,
            index("would, no hem and no stitch", made -> made.would(2, 9)),
            index("would, no hem and no stitch", made -> made.would(-1, -1)));
    }
}
