import java.util.ArrayList;
import java.util.List;
import java.util.function.Function;

/** "A call that is refused (NONE, false) changes nothing but the tape, where it is told." */
final class RefusedTest {
    private static final int NO_ANSWER = -1;
    private static final int NOT_RIGHT = -2;

    private RefusedTest() {
    }

    public static void main(String[] args) {
        arguments();
        tapeCalls();
        emptyTape();
        fullTape();
        unkept();
        Due.end();
    }

    /** Some of everything, KEPT as it was a while ago, and 40 bytes on the tape that are LETTER 3's TEXT, too. */
    private static BeggingLetter rich(String tape) {
        BeggingLetter x = Given.parishes(9);
        x.road(0, 1, 5);
        x.road(1, 2, 9);
        x.road(2, 3, 2);
        x.letter(0, 0, 700);
        x.letter(2, 1, 900);
        x.letter(4, 2, 3);
        Due.law(x, "g9*k+w-r(m<7);g3(1=1);t2*d+l/9(1=1);h3(p<8);x(d>8)");
        x.months(1);
        x.keep();
        x.months(2);
        x.seed(4711);
        Due.text(x, 0, "burnt");
        Due.text(x, 3, tape);
        Due.feed(x, Due.bytes(tape));
        return x;
    }

    /** All that can be seen of an object, what it KEPT and its tape among it. */
    private static List<Integer> seen(BeggingLetter x) {
        List<Integer> seen = new ArrayList<>();
        look(x, seen);
        int size = x.count(7);
        seen.add(size);
        if (size >= 40) {
            seen.add(x.text(5, 40) ? 1 : 0);
            seen.add(x.far(3, 5));
        }
        seen.add(x.months(1));
        seen.add(x.count(8));
        seen.add(x.undo() ? 1 : 0);
        look(x, seen);
        return seen;
    }

    private static void look(BeggingLetter x, List<Integer> seen) {
        for (int what = 0; what < 16; what++) {
            seen.add(x.count(what));
        }
        for (int p = 0; p < 9; p++) {
            seen.add(x.parishIs(p, 0) * 1000 + x.parishIs(p, 1));
            seen.add(x.parishIs(p, 2) * 1000 + x.parishIs(p, 3));
            seen.add(x.miles(p, 1));
            seen.add(x.bestMonth(p, 0, 1));
        }
        for (int k = 0; k < 5; k += 2) {
            for (int what = 0; what < 6; what++) {
                seen.add(x.letterIs(k, what));
            }
            for (int p = 0; p < 4; p++) {
                seen.add(x.toldAt(k, p));
            }
            seen.add(x.far(k, 0));
        }
        seen.add(x.tried(5, 0));
        seen.add(x.tried(5, 1));
        seen.add(x.spreads(0, 100));
        seen.add(x.fromWhom());
    }

    private static final String FORTY = "abcdefghijklmnopqrstuvwxyz0123456789+-*/";

    private static void refused(String name, int refusal, Function<BeggingLetter, Integer> call) {
        BeggingLetter x = rich(FORTY);
        Due.is(name, call.apply(x), refusal);
        Due.holds(name + " changed nothing", seen(x).equals(seen(rich(FORTY))));
    }

    private static void untrue(String name, Function<BeggingLetter, Boolean> call) {
        refused(name, 0, x -> call.apply(x) ? 1 : 0);
    }

    private static void arguments() {
        untrue("parish 12", x -> x.parish(12, 5));
        untrue("parish 3 of wealth 100", x -> x.parish(3, 100));
        untrue("parish 9 of wealth -1", x -> x.parish(9, -1));
        untrue("road to 9", x -> x.road(0, 9, 5));
        untrue("road from 9", x -> x.road(9, 0, 5));
        untrue("road to itself", x -> x.road(1, 1, 5));
        untrue("road of 100 miles", x -> x.road(0, 1, 100));
        untrue("road of -1 miles", x -> x.road(0, 1, -1));
        untrue("letter 6", x -> x.letter(6, 0, 5));
        untrue("letter at 9", x -> x.letter(0, 9, 5));
        untrue("letter of loss 0", x -> x.letter(0, 0, 0));
        untrue("letter of loss 10000", x -> x.letter(1, 0, 10000));
        refused("months 0", NO_ANSWER, x -> x.months(0));
        refused("months 61", NO_ANSWER, x -> x.months(61));
        refused("tried 0", NO_ANSWER, x -> x.tried(0, 0));
        refused("tried 61", NO_ANSWER, x -> x.tried(61, 0));
        refused("tried what 4", NO_ANSWER, x -> x.tried(5, 4));
        refused("tried what 11", NO_ANSWER, x -> x.tried(5, 11));
        refused("parishIs 9", NO_ANSWER, x -> x.parishIs(9, 0));
        refused("parishIs what 4", NO_ANSWER, x -> x.parishIs(0, 4));
        refused("letterIs 1", NO_ANSWER, x -> x.letterIs(1, 0));
        refused("letterIs what 6", NO_ANSWER, x -> x.letterIs(0, 6));
        refused("toldAt", NO_ANSWER, x -> x.toldAt(1, 0));
        refused("spreads 1", NO_ANSWER, x -> x.spreads(1, 100));
        refused("spreads what 103", NO_ANSWER, x -> x.spreads(0, 103));
        refused("miles", NO_ANSWER, x -> x.miles(0, 9));
        refused("round from 9", NO_ANSWER, x -> x.round(9, 1, 100));
        refused("round through none", NO_ANSWER, x -> x.round(0, 0, 100));
        refused("round through eight", NO_ANSWER, x -> x.round(0, 0x1fe, 100));
        refused("readsMost of none", NO_ANSWER, x -> x.readsMost(0, 0, 100));
        refused("readsMost of an untold one", NO_ANSWER, x -> x.readsMost(0, 3, 100));
        refused("bestMonth", NO_ANSWER, x -> x.bestMonth(9, 0, 0));
        refused("tales", NO_ANSWER, x -> x.tales(1, 0));
        refused("far", NO_ANSWER, x -> x.far(0, 6));
        refused("misspelt", NO_ANSWER, x -> x.misspelt(-1, 0));
        refused("lent against 1", NO_ANSWER, x -> x.lent(1, 1, 0));
        refused("lent for 61", NO_ANSWER, x -> x.lent(0, 61, 0));
        refused("lent by 11", NO_ANSWER, x -> x.lent(0, 1, 11));
        untrue("seed -1", x -> x.seed(-1));
        untrue("seed 65536", x -> x.seed(65536));
        refused("count 11", NO_ANSWER, x -> x.count(11));
        refused("count 16", NO_ANSWER, x -> x.count(16));
    }

    private static void tapeCalls() {
        refused("law 0", NO_ANSWER, x -> x.law(0));
        refused("law 41", NO_ANSWER, x -> x.law(41));
        refused("law 241", NO_ANSWER, x -> x.law(241));
        refused("report 0", NO_ANSWER, x -> x.report(0));
        refused("report 41", NO_ANSWER, x -> x.report(41));
        refused("report 121", NO_ANSWER, x -> x.report(121));
        untrue("text 41", x -> x.text(0, 41));
        untrue("text 0", x -> x.text(0, 0));
        untrue("text of 6", x -> x.text(6, 5));
        refused("nearest 41", NO_ANSWER, x -> x.nearest(41, 0));
        refused("nearest what 2", NO_ANSWER, x -> x.nearest(5, 2));
        refused("bids 13", NO_ANSWER, x -> x.bids(13, 0, 0));
        refused("bids reserve", NO_ANSWER, x -> x.bids(1, 256, 0));
        refused("divided 9", NO_ANSWER, x -> x.divided(9, 5, 0, 0));
        refused("divided rule", NO_ANSWER, x -> x.divided(2, 5, 3, 0));
        refused("divided place", NO_ANSWER, x -> x.divided(2, 5, 0, 2));
        refused("coins 7", NO_ANSWER, x -> x.coins(7, 5, 0));
        refused("coins amount", NO_ANSWER, x -> x.coins(1, 1000, 0));
        refused("check 13", NOT_RIGHT, x -> x.check(13));
        refused("check -1", NOT_RIGHT, x -> x.check(-1));
    }

    private static void ofNothing(String name, int refusal, Function<BeggingLetter, Integer> call) {
        BeggingLetter x = rich(FORTY);
        BeggingLetter y = rich(FORTY);
        x.check(0);
        y.check(0);
        Due.is(name + " of an empty tape", call.apply(x), refusal);
        Due.holds(name + " of an empty tape changed nothing", seen(x).equals(seen(y)));
    }

    private static void emptyTape() {
        ofNothing("law", NO_ANSWER, x -> x.law(1));
        ofNothing("report", NO_ANSWER, x -> x.report(1));
        ofNothing("text", 0, x -> x.text(0, 1) ? 1 : 0);
        ofNothing("nearest", NO_ANSWER, x -> x.nearest(1, 0));
        ofNothing("bids", NO_ANSWER, x -> x.bids(1, 0, 0));
        ofNothing("divided", NO_ANSWER, x -> x.divided(1, 5, 0, 0));
        ofNothing("coins", NO_ANSWER, x -> x.coins(1, 5, 0));
        ofNothing("check", NOT_RIGHT, x -> x.check(1));
    }

    /** What is fed beyond 260 bytes stands nowhere. */
    private static void fullTape() {
        BeggingLetter x = rich(FORTY);
        BeggingLetter y = rich(FORTY);
        Given.fed(x, 220, 7);
        Given.fed(y, 220, 7);
        Due.is("feed of a full tape", x.feed(-1, -1, -1, -1, -1), NO_ANSWER);
        Due.holds("feed of a full tape changed nothing", seen(x).equals(seen(y)));
    }

    private static void unkept() {
        BeggingLetter x = Given.row(3);
        x.months(2);
        int month = x.count(0);
        Due.is("undo where none was kept", x.undo(), false);
        Due.is("the month is as before", x.count(0), month);
        Due.is("known is as before", x.letterIs(0, 4), 7);
    }
}
