import java.util.ArrayList;
import java.util.Collections;
import java.util.List;
import java.util.TreeSet;

/** Long mixed runs of calls, each answer compared with that of a model which goes by the document's words. */
public final class ModelTest {
    private static final int RUNS = 400;
    private static final int CALLS = 512;
    private static final int KINDS_OF_CALLS = 29;
    private static final int SHOWN = 20;

    private static final Check check = new Check();
    private static long seed = 20261119L;

    public static void main(String[] args) {
        for (int run = 0; run < RUNS && check.failures() < SHOWN; run++) {
            oneRun(run);
        }
        check.finish();
    }

    /** Few kinds of stitches make long repeats; the runs go from one kind to nine. */
    private static void oneRun(int run) {
        HemSuffixes real = new HemSuffixes();
        Model model = new Model();
        int kinds = 1 + run % 9;
        int wrongEvery = run % 2 == 0 ? 8 : 1000;
        for (int call = 1; call < CALLS && check.failures() < SHOWN; call++) {
            String what = "run " + run + " call " + call + " on " + model + ": ";
            oneCall(what, real, model, kinds, next(wrongEvery) == 0);
        }
        both("run " + run + " call " + CALLS + ": ", "digest", 0, 0, () -> real.digest(), () -> model.digest());
    }

    private static void oneCall(String what, HemSuffixes real, Model model, int kinds, boolean wrong) {
        int hem = wrong ? wild() : next(2);
        int stitch = wrong && next(2) == 0 ? wild() : next(kinds);
        int length = hem == 0 || hem == 1 ? model.hems[hem].length() : 5;
        int a = wrong ? wild() : next(length + 1);
        int b = wrong && next(2) == 0 ? wild() : next(length + 1);
        int part = wrong ? wild() : next(6);
        switch (next(KINDS_OF_CALLS)) {
            case 0, 1, 2, 3 -> both(what, "sew", hem, stitch, () -> real.sew(hem, stitch), () -> model.sew(hem, stitch));
            case 4 -> {
                int many = wrong ? wild() : 1 + next(12);
                both(what, "again", hem, many, () -> real.again(hem, many), () -> model.again(hem, many));
            }
            case 5 -> {
                int many = next(12) == 0 ? length : wrong ? wild() : 1 + next(6);
                both(what, "unpick", hem, many, () -> real.unpick(hem, many), () -> model.unpick(hem, many));
            }
            case 6, 7 -> both(what, "add", stitch, 0, () -> real.add(stitch), () -> model.add(stitch));
            case 8 -> {
                if (next(3) == 0) {
                    both(what, "clear", 0, 0, () -> real.clear(), () -> model.clear());
                }
            }
            case 9 -> both(what, "stitch", hem, a, () -> real.stitch(hem, a), () -> model.stitch(hem, a));
            case 10, 11 -> both(what, "count", part, 0, () -> real.count(part), () -> model.count(part));
            case 12 -> both(what, "end", hem, a, () -> real.end(hem, a), () -> model.end(hem, a));
            case 13 -> both(what, "rank", hem, a, () -> real.rank(hem, a), () -> model.rank(hem, a));
            case 14 -> {
                String name = "common " + hem;
                both(what, name, a, b, () -> real.common(hem, a, b), () -> model.common(hem, a, b));
            }
            case 15, 16 -> {
                int there = wrong ? wild() : next(model.hems[1].length() + 1);
                int here = wrong ? wild() : next(model.hems[0].length() + 1);
                both(what, "against", here, there, () -> real.against(here, there), () -> model.against(here, there));
            }
            case 17 -> both(what, "repeat", hem, part, () -> real.repeat(hem, part), () -> model.repeat(hem, part));
            case 18, 19 -> {
                int number = wrong ? wild() : next(1 + length * (length + 1) / 2);
                both(what, "row", hem, number, () -> real.row(hem, number), () -> model.row(hem, number));
            }
            case 20 -> both(what, "found", hem, 0, () -> real.found(hem), () -> model.found(hem));
            case 21 -> both(what, "first", hem, 0, () -> real.first(hem), () -> model.first(hem));
            case 22 -> both(what, "period", hem, 0, () -> real.period(hem), () -> model.period(hem));
            case 23 -> both(what, "turned", hem, 0, () -> real.turned(hem), () -> model.turned(hem));
            case 24 -> both(what, "seam", part, 0, () -> real.seam(part), () -> model.seam(part));
            case 25 -> both(what, "would", hem, stitch, () -> real.would(hem, stitch), () -> model.would(hem, stitch));
            case 26 -> both(what, "advise", hem, 0, () -> real.advise(hem), () -> model.advise(hem));
            case 27 -> both(what, "mean", 0, 0, () -> real.mean(), () -> model.mean());
            default -> both(what, "digest", 0, 0, () -> real.digest(), () -> model.digest());
        }
    }

    private static void both(String what, String name, int a, int b, Check.Call real, Check.Call model) {
        String due = Check.answerOf(model);
        check.due(what + name + "(" + a + ", " + b + ")", due, real);
    }

    /** A number from 0 to below - 1, the same ones in each run of the test. */
    private static int next(int below) {
        seed = seed * 6364136223846793005L + 1442695040888963407L;
        return (int) ((seed >>> 33) % below);
    }

    private static int wild() {
        int[] wild = {-1, 0, 1, 2, 3, 5, 6, 8, 9, 39, 40, 41, 820, Integer.MAX_VALUE, Integer.MIN_VALUE};
        return wild[next(wild.length)];
    }

    /** Texts for the hems: a text's own order is that of rows of stitches. */
    private static final class Model {
        private final String[] hems = {"", ""};
        private String sample = "";

        @Override
        public String toString() {
            return hems[0] + "/" + hems[1] + "/" + sample;
        }

        private static void inRange(int number, int below) {
            if (number < 0 || number >= below) {
                throw new IndexOutOfBoundsException();
            }
        }

        private static void allowed(boolean is) {
            if (!is) {
                throw new IllegalArgumentException();
            }
        }

        private static void standsOpen(boolean is) {
            if (!is) {
                throw new IllegalStateException();
            }
        }

        private String hem(int hem) {
            inRange(hem, 2);
            return hems[hem];
        }

        int sew(int hem, int stitch) {
            hem(hem);
            allowed(stitch >= 0 && stitch <= 8);
            standsOpen(hems[hem].length() < 40);
            hems[hem] += stitch;
            return hems[hem].length();
        }

        int again(int hem, int many) {
            hem(hem);
            allowed(many >= 1 && many <= 40);
            standsOpen(!hems[hem].isEmpty() && hems[hem].length() + many <= 40);
            for (int i = 0; i < many; i++) {
                hems[hem] += hems[hem].charAt(i);
            }
            return hems[hem].length();
        }

        int unpick(int hem, int many) {
            String text = hem(hem);
            allowed(many >= 1 && many <= text.length());
            hems[hem] = text.substring(0, text.length() - many);
            return hems[hem].length();
        }

        int add(int stitch) {
            allowed(stitch >= 0 && stitch <= 8);
            standsOpen(sample.length() < 12);
            sample += stitch;
            return sample.length();
        }

        int clear() {
            int had = sample.length();
            sample = "";
            return had;
        }

        int stitch(int hem, int place) {
            inRange(place, hem(hem).length());
            return hems[hem].charAt(place) - '0';
        }

        int count(int what) {
            inRange(what, 6);
            return switch (what) {
                case 0, 1 -> hems[what].length();
                case 2 -> sample.length();
                case 3, 4 -> rows(hems[what - 3]).size();
                default -> seam(0);
            };
        }

        private static List<String> ends(String text) {
            List<String> ends = new ArrayList<>();
            for (int place = 0; place < text.length(); place++) {
                ends.add(text.substring(place));
            }
            Collections.sort(ends);
            return ends;
        }

        private static TreeSet<String> rows(String text) {
            TreeSet<String> rows = new TreeSet<>();
            for (int from = 0; from < text.length(); from++) {
                for (int to = from + 1; to <= text.length(); to++) {
                    rows.add(text.substring(from, to));
                }
            }
            return rows;
        }

        private static int shared(String one, String other) {
            int shared = 0;
            while (shared < one.length() && other.startsWith(one.substring(0, shared + 1))) {
                shared++;
            }
            return shared;
        }

        private static int places(String text, String row) {
            int places = 0;
            for (int place = 0; place < text.length() && !row.isEmpty(); place++) {
                places += text.startsWith(row, place) ? 1 : 0;
            }
            return places;
        }

        int end(int hem, int rank) {
            String text = hem(hem);
            inRange(rank, text.length());
            return text.length() - ends(text).get(rank).length();
        }

        int rank(int hem, int place) {
            String text = hem(hem);
            inRange(place, text.length());
            return ends(text).indexOf(text.substring(place));
        }

        int common(int hem, int a, int b) {
            String text = hem(hem);
            inRange(a, text.length());
            inRange(b, text.length());
            return shared(text.substring(a), text.substring(b));
        }

        int against(int a, int b) {
            inRange(a, hems[0].length());
            inRange(b, hems[1].length());
            String here = hems[0].substring(a);
            String there = hems[1].substring(b);
            return Integer.signum(here.compareTo(there)) * (1 + shared(here, there));
        }

        private static String longest(TreeSet<String> rows) {
            String longest = "";
            for (String row : rows) {
                longest = row.length() > longest.length() ? row : longest;
            }
            return longest;
        }

        int repeat(int hem, int what) {
            String text = hem(hem);
            inRange(what, 3);
            TreeSet<String> repeats = rows(text);
            repeats.removeIf(row -> places(text, row) < 2);
            String row = longest(repeats);
            return switch (what) {
                case 0 -> row.length();
                case 1 -> row.isEmpty() ? -1 : text.indexOf(row);
                default -> places(text, row);
            };
        }

        int row(int hem, int number) {
            String text = hem(hem);
            List<String> rows = new ArrayList<>(rows(text));
            inRange(number, rows.size());
            String row = rows.get(number);
            return 64 * text.indexOf(row) + row.length();
        }

        int found(int hem) {
            return places(hem(hem), sample);
        }

        int first(int hem) {
            String text = hem(hem);
            return sample.isEmpty() ? -1 : text.indexOf(sample);
        }

        int period(int hem) {
            String text = hem(hem);
            for (int shift = 1; shift <= text.length(); shift++) {
                if (text.substring(shift).equals(text.substring(0, text.length() - shift))) {
                    return shift;
                }
            }
            return 0;
        }

        int turned(int hem) {
            String text = hem(hem);
            List<String> turns = new ArrayList<>();
            for (int place = 0; place < text.length(); place++) {
                turns.add(text.substring(place) + text.substring(0, place));
            }
            return turns.isEmpty() ? -1 : turns.indexOf(Collections.min(turns));
        }

        int seam(int what) {
            inRange(what, 3);
            TreeSet<String> both = rows(hems[0]);
            both.retainAll(rows(hems[1]));
            String row = longest(both);
            if (what == 0) {
                return row.length();
            }
            return row.isEmpty() ? -1 : hems[what - 1].indexOf(row);
        }

        int would(int hem, int stitch) {
            String text = hem(hem);
            allowed(stitch >= 0 && stitch <= 8);
            return rows(text + stitch).size() - rows(text).size();
        }

        int advise(int hem) {
            hem(hem);
            int best = 0;
            for (int stitch = 1; stitch <= 8; stitch++) {
                best = would(hem, stitch) < would(hem, best) ? stitch : best;
            }
            return best;
        }

        double mean() {
            int shared = 0;
            int pairs = 0;
            for (String text : hems) {
                List<String> ends = ends(text);
                for (int rank = 1; rank < ends.size(); rank++) {
                    shared += shared(ends.get(rank - 1), ends.get(rank));
                    pairs++;
                }
            }
            return pairs == 0 ? 0 : (double) shared / pairs;
        }

        long digest() {
            List<Integer> numbers = new ArrayList<>();
            for (int what = 0; what < 6; what++) {
                numbers.add(count(what));
            }
            for (int hem = 0; hem < 2; hem++) {
                for (int place = 0; place < hems[hem].length(); place++) {
                    numbers.add(stitch(hem, place));
                }
                for (int rank = 0; rank < hems[hem].length(); rank++) {
                    numbers.add(end(hem, rank));
                }
                for (int what = 0; what < 3; what++) {
                    numbers.add(repeat(hem, what));
                }
                numbers.add(period(hem));
                numbers.add(turned(hem));
                numbers.add(found(hem));
            }
            for (char stitch : sample.toCharArray()) {
                numbers.add(stitch - '0');
            }
            for (int what = 0; what < 3; what++) {
                numbers.add(seam(what));
            }
            long digest = 1483;
            for (int number : numbers) {
                digest = digest * 31 + number;
            }
            return digest;
        }
    }
}
