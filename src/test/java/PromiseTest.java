/** Each promise of the document by ordinary inputs, the edges it names, and wrong inputs. */
public final class PromiseTest {
    private static final Check check = new Check();
    private static final int[] NO_HEM = {-1, 2, Integer.MIN_VALUE, Integer.MAX_VALUE};
    private static final int[] NO_STITCH = {-1, 9, Integer.MIN_VALUE, Integer.MAX_VALUE};

    public static void main(String[] args) {
        newObject();
        sew();
        again();
        unpick();
        addAndClear();
        stitch();
        count();
        endAndRank();
        common();
        against();
        repeat();
        row();
        foundAndFirst();
        period();
        turned();
        seam();
        would();
        advise();
        mean();
        digest();
        check.finish();
    }

    private static HemSuffixes hems(String zero, String one, String sample) {
        return new Hems(zero, one, sample).made();
    }

    private static HemSuffixes hem(String zero) {
        return hems(zero, "", "");
    }

    private static String text(HemSuffixes made) {
        return Hems.text(made);
    }

    /** The call throws this, and changes nothing; the checksum stands for all, as an object has but 512 calls. */
    private static void refused(String what, String thrown, HemSuffixes made, Check.Call call) {
        long before = made.digest();
        check.due(what, thrown, call);
        check.due(what + ", and then the checksum", before, () -> made.digest());
    }

    private static void newObject() {
        HemSuffixes made = new HemSuffixes();
        check.due("a new object", "//0", () -> text(made));
        for (int what = 0; what < 6; what++) {
            int part = what;
            check.due("new: count " + part, 0, () -> made.count(part));
        }
        HemSuffixes other = hems("123", "45", "6");
        check.due("one object does not touch another", "//0", () -> text(made));
        check.due("nor the other one it", "123/45/1", () -> text(other));
    }

    private static void sew() {
        HemSuffixes made = new HemSuffixes();
        check.due("sew(0, 0)", 1, () -> made.sew(0, 0));
        check.due("sew(0, 8)", 2, () -> made.sew(0, 8));
        check.due("sew(1, 5)", 1, () -> made.sew(1, 5));
        check.due("sewn", "08/5/0", () -> text(made));
        for (int hem : NO_HEM) {
            refused("sew in no hem", Check.INDEX, made, () -> made.sew(hem, 0));
            refused("sew no stitch in no hem", Check.INDEX, made, () -> made.sew(hem, 9));
        }
        for (int stitch : NO_STITCH) {
            refused("sew no stitch", Check.ARGUMENT, made, () -> made.sew(1, stitch));
        }
        HemSuffixes full = hem("0123456780123456780123456780123456780123");
        check.due("40 stitches", 40, () -> full.count(0));
        refused("sew at a full hem", Check.STATE, full, () -> full.sew(0, 1));
        refused("sew no stitch at a full hem", Check.ARGUMENT, full, () -> full.sew(0, -1));
        check.due("sew at the other hem", 1, () -> full.sew(1, 1));
    }

    private static void again() {
        HemSuffixes made = hems("123", "4", "");
        check.due("again(0, 2)", 5, () -> made.again(0, 2));
        check.due("the beginning once more", "12312/4/0", () -> text(made));
        check.due("again(0, 12): also what it sews itself", 17, () -> made.again(0, 12));
        check.due("sewn again", "12312123121231212/4/0", () -> text(made));
        check.due("again up to 40", 40, () -> made.again(0, 23));
        refused("again at a full hem", Check.STATE, made, () -> made.again(0, 1));
        refused("again, 41 in all", Check.STATE, made, () -> made.again(1, 40));
        refused("again, 0", Check.ARGUMENT, made, () -> made.again(0, 0));
        refused("again, -1", Check.ARGUMENT, made, () -> made.again(1, -1));
        refused("again, 41", Check.ARGUMENT, made, () -> made.again(1, 41));
        refused("again, the most", Check.ARGUMENT, made, () -> made.again(1, Integer.MAX_VALUE));
        check.due("again, 39 of one", 40, () -> made.again(1, 39));
        HemSuffixes empty = new HemSuffixes();
        refused("again of an empty hem", Check.STATE, empty, () -> empty.again(1, 1));
        refused("again of an empty hem, 40", Check.STATE, empty, () -> empty.again(1, 40));
        refused("again of an empty hem, 41", Check.ARGUMENT, empty, () -> empty.again(1, 41));
        for (int hem : NO_HEM) {
            refused("again in no hem", Check.INDEX, empty, () -> empty.again(hem, 0));
        }
    }

    private static void unpick() {
        HemSuffixes made = hems("1234", "56", "");
        check.due("unpick(0, 1)", 3, () -> made.unpick(0, 1));
        check.due("unpick(1, 2)", 0, () -> made.unpick(1, 2));
        check.due("unpicked", "123//0", () -> text(made));
        refused("unpick more than it has", Check.ARGUMENT, made, () -> made.unpick(0, 4));
        refused("unpick 0", Check.ARGUMENT, made, () -> made.unpick(0, 0));
        refused("unpick -1", Check.ARGUMENT, made, () -> made.unpick(0, -1));
        refused("unpick of an empty hem", Check.ARGUMENT, made, () -> made.unpick(1, 1));
        for (int hem : NO_HEM) {
            refused("unpick of no hem", Check.INDEX, made, () -> made.unpick(hem, 0));
        }
        made.unpick(0, 2);
        made.sew(0, 0);
        check.due("the order after unpicking and sewing", 1, () -> made.end(0, 0));
    }

    private static void addAndClear() {
        HemSuffixes made = hem("11");
        check.due("clear without a sample", 0, () -> made.clear());
        check.due("add(0)", 1, () -> made.add(0));
        check.due("add(8)", 2, () -> made.add(8));
        check.due("the sample", 2, () -> made.count(2));
        for (int stitch : NO_STITCH) {
            refused("add no stitch", Check.ARGUMENT, made, () -> made.add(stitch));
        }
        check.due("clear()", 2, () -> made.clear());
        check.due("cleared, the hem stays", "11//0", () -> text(made));
        check.due("clear once more", 0, () -> made.clear());
        for (int held = 1; held <= 12; held++) {
            check.due("add", held, () -> made.add(1));
        }
        refused("add to a full sample", Check.STATE, made, () -> made.add(1));
        refused("add no stitch to a full sample", Check.ARGUMENT, made, () -> made.add(9));
        check.due("clear a full sample", 12, () -> made.clear());
        check.due("add after clear", 1, () -> made.add(3));
    }

    private static void stitch() {
        HemSuffixes made = hems("380", "5", "1234");
        check.due("stitch(0, 0)", 3, () -> made.stitch(0, 0));
        check.due("stitch(0, 2)", 0, () -> made.stitch(0, 2));
        check.due("stitch(1, 0)", 5, () -> made.stitch(1, 0));
        made.unpick(0, 1);
        noPlace("stitch", made, (hem, place) -> made.stitch(hem, place));
        check.due("stitch that was unpicked", Check.INDEX, () -> made.stitch(0, 2));
    }

    /** A call with a hem and a place (or a rank). */
    private interface AtPlace {
        int answer(int hem, int place);
    }

    private static void noPlace(String what, HemSuffixes made, AtPlace call) {
        for (int hem : NO_HEM) {
            refused(what + " in no hem", Check.INDEX, made, () -> call.answer(hem, 0));
        }
        for (int hem = 0; hem < 2; hem++) {
            int asked = hem;
            int behind = made.count(hem);
            refused(what + " ahead of the hem", Check.INDEX, made, () -> call.answer(asked, -1));
            refused(what + " behind the hem", Check.INDEX, made, () -> call.answer(asked, behind));
            refused(what + " far ahead", Check.INDEX, made, () -> call.answer(asked, Integer.MIN_VALUE));
            refused(what + " far behind", Check.INDEX, made, () -> call.answer(asked, Integer.MAX_VALUE));
        }
    }

    private static void count() {
        HemSuffixes made = hems("1010", "0103", "10");
        int[] due = {4, 4, 2, 7, 9, 3};
        for (int what = 0; what < due.length; what++) {
            int part = what;
            check.due("count(" + part + ")", due[part], () -> made.count(part));
        }
        for (int what : new int[] {-1, 6, Integer.MIN_VALUE, Integer.MAX_VALUE}) {
            refused("count of nothing", Check.INDEX, made, () -> made.count(what));
        }
        HemSuffixes apart = hems("0000000000000000000000000000000000000000", "123", "");
        check.due("rows of one kind", 40, () -> apart.count(3));
        check.due("rows of all kinds", 6, () -> apart.count(4));
        check.due("no row in both", 0, () -> apart.count(5));
    }

    private static void endAndRank() {
        // The ends of 102020 in order: 0, 020, 02020, 102020, 20, 2020.
        HemSuffixes made = hems("102020", "3333", "");
        ordered("102020", made, 5, 3, 1, 0, 4, 2);
        for (int rank = 0; rank < 4; rank++) {
            int asked = rank;
            check.due("the shorter end is less", 3 - rank, () -> made.end(1, asked));
            check.due("its rank", 3 - rank, () -> made.rank(1, asked));
        }
        ordered("the order after sew", hem("21"), 1, 0);
        HemSuffixes sewnAgain = hem("21");
        sewnAgain.again(0, 2);
        ordered("the order after again", sewnAgain, 3, 1, 2, 0);
        sewnAgain.unpick(0, 1);
        ordered("the order after unpick", sewnAgain, 1, 2, 0);
        noPlace("end", made, (hem, rank) -> made.end(hem, rank));
        noPlace("rank", made, (hem, place) -> made.rank(hem, place));
        noPlace("end of an empty one", new HemSuffixes(), (hem, rank) -> new HemSuffixes().end(hem, rank));
    }

    private static void ordered(String what, HemSuffixes made, int... places) {
        for (int rank = 0; rank < places.length; rank++) {
            int asked = rank;
            check.due(what + ": end(0, " + rank + ")", places[rank], () -> made.end(0, asked));
            check.due(what + ": rank(0, " + places[rank] + ")", rank, () -> made.rank(0, places[asked]));
        }
    }

    private static void common() {
        HemSuffixes made = hems("102020", "777", "");
        check.due("common, till one is over", 3, () -> made.common(0, 1, 3));
        check.due("common, the other way round", 3, () -> made.common(0, 3, 1));
        check.due("common with itself", 5, () -> made.common(0, 1, 1));
        check.due("common, none", 0, () -> made.common(0, 2, 3));
        check.due("common, till one differs", 1, () -> hem("1213").common(0, 0, 2));
        check.due("common, overlapping", 2, () -> made.common(1, 0, 1));
        noPlace("common, first place", made, (hem, place) -> made.common(hem, place, 0));
        noPlace("common, second place", made, (hem, place) -> made.common(hem, 0, place));
    }

    private static void against() {
        HemSuffixes made = hems("1232", "1242", "");
        check.due("less, at a stitch", -3, () -> made.against(0, 0));
        check.due("more, at the first stitch", 1, () -> made.against(2, 0));
        check.due("less, at the first stitch", -1, () -> made.against(0, 1));
        check.due("the same", 0, () -> made.against(3, 3));
        check.due("less, as it is shorter", -2, () -> made.against(3, 1));
        check.due("more, as it is longer", 2, () -> made.against(1, 3));
        refused("no place 4", Check.INDEX, made, () -> made.against(4, 0));
        refused("no place -1", Check.INDEX, made, () -> made.against(-1, 0));
        refused("no place 4 of the hem 1", Check.INDEX, made, () -> made.against(0, 4));
        refused("no place -1 of the hem 1", Check.INDEX, made, () -> made.against(0, -1));
        HemSuffixes noughts = hems("10", "00", "");
        check.due("nothing is less than the stitch 0", -2, () -> noughts.against(1, 0));
        check.due("the stitch 0 is more than nothing", 2, () -> hems("00", "10", "").against(0, 1));
        check.due("the same at other places", 0, () -> noughts.against(1, 1));
        HemSuffixes longer = hems("12", "123", "");
        check.due("a place that the hem 1 alone has", Check.INDEX, () -> longer.against(2, 0));
        check.due("the last place of the hem 1", -1, () -> longer.against(0, 2));
    }

    private static void repeats(String hem, int many, int place, int places) {
        HemSuffixes made = hems("", hem, "");
        check.due("repeat of " + hem, many + " " + place + " " + places,
            () -> made.repeat(1, 0) + " " + made.repeat(1, 1) + " " + made.repeat(1, 2));
    }

    private static void repeat() {
        repeats("", 0, -1, 0);
        repeats("4", 0, -1, 0);
        repeats("0123", 0, -1, 0);
        repeats("33333", 4, 0, 2);
        repeats("102020", 3, 1, 2);
        repeats("2152151", 3, 0, 2);
        repeats("2211", 1, 2, 2);
        repeats("56561212", 2, 4, 2);
        repeats("8108168148", 2, 0, 3);
        repeats("0102030", 1, 0, 4);
        repeats("8181", 2, 0, 2);
        HemSuffixes made = hems("3311", "", "");
        for (int hem : NO_HEM) {
            refused("repeat of no hem", Check.INDEX, made, () -> made.repeat(hem, 0));
        }
        for (int what : new int[] {-1, 3, Integer.MIN_VALUE, Integer.MAX_VALUE}) {
            refused("repeat, no such part", Check.INDEX, made, () -> made.repeat(0, what));
        }
    }

    private static void row() {
        // The different rows of 2121 in order: 1, 12, 121, 2, 21, 212, 2121.
        HemSuffixes made = hems("2121", "00", "");
        int[] rows = {65, 66, 67, 1, 2, 3, 4};
        for (int number = 0; number < rows.length; number++) {
            int asked = number;
            check.due("row(0, " + number + ")", rows[number], () -> made.row(0, asked));
        }
        check.due("row(1, 1)", 2, () -> made.row(1, 1));
        for (int number : new int[] {-1, 7, Integer.MIN_VALUE, Integer.MAX_VALUE}) {
            refused("no such row", Check.INDEX, made, () -> made.row(0, number));
        }
        refused("no such row in the hem 1", Check.INDEX, made, () -> made.row(1, 2));
        for (int hem : NO_HEM) {
            refused("row of no hem", Check.INDEX, made, () -> made.row(hem, 0));
        }
        check.due("row of an empty hem", Check.INDEX, () -> new HemSuffixes().row(0, 0));
    }

    private static void sampleIn(String hem, String sample, int places, int first) {
        HemSuffixes made = hems("", hem, sample);
        check.due(sample + " found in " + hem, places + " " + first, () -> made.found(1) + " " + made.first(1));
    }

    private static void foundAndFirst() {
        sampleIn("102020", "02", 2, 1);
        sampleIn("4444", "44", 3, 0);
        sampleIn("4444", "44444", 0, -1);
        sampleIn("1234", "4", 1, 3);
        sampleIn("1234", "45", 0, -1);
        sampleIn("1234", "1234", 1, 0);
        sampleIn("1234", "", 0, -1);
        sampleIn("", "", 0, -1);
        sampleIn("", "1", 0, -1);
        sampleIn("0123456780123456780", "234567801234", 1, 2);
        HemSuffixes made = hems("12", "21", "1");
        check.due("first in the hem 0", 0, () -> made.first(0));
        check.due("first in the hem 1", 1, () -> made.first(1));
        made.clear();
        check.due("found after clear", 0, () -> made.found(0));
        for (int hem : NO_HEM) {
            refused("found in no hem", Check.INDEX, made, () -> made.found(hem));
            refused("first in no hem", Check.INDEX, made, () -> made.first(hem));
        }
    }

    private static void periodOf(String hem, int due) {
        HemSuffixes made = hems("", hem, "");
        check.due("period of " + hem, due, () -> made.period(1));
    }

    private static void period() {
        periodOf("", 0);
        periodOf("5", 1);
        periodOf("555", 1);
        periodOf("12", 2);
        periodOf("12121", 2);
        periodOf("123123", 3);
        periodOf("123121", 5);
        periodOf("1123", 4);
        periodOf("102020", 6);
        HemSuffixes made = hem("7");
        for (int hem : NO_HEM) {
            refused("period of no hem", Check.INDEX, made, () -> made.period(hem));
        }
    }

    private static void turnedOf(String hem, int due) {
        HemSuffixes made = hems("", hem, "");
        check.due("best turn of " + hem, due, () -> made.turned(1));
    }

    private static void turned() {
        turnedOf("", -1);
        turnedOf("5", 0);
        turnedOf("555", 0);
        turnedOf("321", 2);
        turnedOf("123", 0);
        turnedOf("2121", 1);
        turnedOf("102020", 5);
        turnedOf("0010", 3);
        turnedOf("1001", 1);
        HemSuffixes made = hem("7");
        for (int hem : NO_HEM) {
            refused("turn of no hem", Check.INDEX, made, () -> made.turned(hem));
        }
    }

    private static void seamOf(String zero, String one, int many, int inZero, int inOne) {
        HemSuffixes made = hems(zero, one, "");
        check.due("seam of " + zero + " and " + one, many + " " + inZero + " " + inOne,
            () -> made.seam(0) + " " + made.seam(1) + " " + made.seam(2));
        check.due("its length by count", many, () -> made.count(5));
    }

    private static void seam() {
        seamOf("", "", 0, -1, -1);
        seamOf("1", "", 0, -1, -1);
        seamOf("", "1", 0, -1, -1);
        seamOf("12", "34", 0, -1, -1);
        seamOf("4", "4", 1, 0, 0);
        seamOf("5152515", "151522", 4, 0, 1);
        seamOf("5657", "5758", 2, 2, 0);
        seamOf("3412", "1234", 2, 2, 0);
        seamOf("1212", "012012", 2, 0, 1);
        seamOf("333", "33333", 3, 0, 0);
        seamOf("1238", "8", 1, 3, 0);
        seamOf("8", "1238", 1, 0, 3);
        HemSuffixes made = hems("12", "12", "");
        for (int what : new int[] {-1, 3, Integer.MIN_VALUE, Integer.MAX_VALUE}) {
            refused("seam, no such part", Check.INDEX, made, () -> made.seam(what));
        }
    }

    private static void would() {
        HemSuffixes made = hems("102020", "", "");
        String before = text(made) + made.digest();
        check.due("would, after a row that it has", 3, () -> made.would(0, 2));
        check.due("would, a stitch it has not", 7, () -> made.would(0, 7));
        check.due("would, in an empty hem", 1, () -> made.would(1, 8));
        check.due("would changes nothing", before, () -> text(made) + made.digest());
        HemSuffixes full = hem("0000000000000000000000000000000000000000");
        check.due("would at a full hem, a new stitch", 41, () -> full.would(0, 8));
        check.due("would at a full hem, the old stitch", 1, () -> full.would(0, 0));
        for (int hem : NO_HEM) {
            refused("would in no hem", Check.INDEX, made, () -> made.would(hem, 9));
        }
        for (int stitch : NO_STITCH) {
            refused("would, no stitch", Check.ARGUMENT, made, () -> made.would(0, stitch));
        }
    }

    private static void advised(String hem, int due) {
        HemSuffixes made = hems("", hem, "");
        String before = text(made) + made.digest();
        check.due("advice for " + hem, due, () -> made.advise(1));
        check.due("advice changes nothing", before, () -> text(made) + made.digest());
    }

    private static void advise() {
        advised("", 0);
        advised("3", 3);
        advised("102020", 2);
        advised("87", 7);
        advised("1213214", 1);
        advised("78786", 6);
        advised("1218", 1);
        advised("8888888888888888888888888888888888888888", 8);
        HemSuffixes made = hem("7");
        for (int hem : NO_HEM) {
            refused("advice for no hem", Check.INDEX, made, () -> made.advise(hem));
        }
    }

    private static void mean() {
        check.due("mean without an end", 0.0, () -> hem("").mean());
        check.due("mean without a pair", 0.0, () -> hems("4", "4", "").mean());
        check.due("mean of nothing in common", 0.0, () -> hem("123").mean());
        check.due("mean of one hem", 1.5, () -> hem("333").mean());
        check.due("mean of the hem 1", 6 / 5.0, () -> hems("", "102020", "").mean());
        check.due("mean over both hems' pairs", 3 / 5.0, () -> hems("333", "1234", "").mean());
        check.due("mean of different lengths", 4 / 7.0, () -> hems("10202", "2011", "").mean());
    }

    private static void digest() {
        check.due("digest of a new object", digestOf(0, 0, 0, 0, 0, 0, 0, -1, 0, 0, -1, 0, 0, -1, 0, 0, -1, 0, 0, -1, -1),
            () -> new HemSuffixes().digest());
        HemSuffixes made = hems("1010", "0103", "10");
        check.due("digest", digestOf(4, 4, 2, 7, 9, 3,
            1, 0, 1, 0, 3, 1, 2, 0, 2, 0, 2, 2, 1, 2,
            0, 1, 0, 3, 0, 2, 1, 3, 1, 0, 2, 4, 0, 1,
            1, 0,
            3, 1, 0), () -> made.digest());
        check.due("digest tells the hems apart", true,
            () -> hems("12", "21", "").digest() != hems("21", "12", "").digest());
    }

    private static long digestOf(long... numbers) {
        long digest = 1483;
        for (long number : numbers) {
            digest = digest * 31 + number;
        }
        return digest;
    }
}
