import java.util.ArrayList;
import java.util.List;
import java.util.function.Consumer;
import java.util.function.ToLongFunction;

// Each refusal of each call, and each two of them that fit at once, in the order in which the
// document tells them: what is answered, that just this refusal is counted, and that nothing else
// has changed. That is seen by a twin which was made by the same calls and did not refuse: both
// are asked for all they hold, and what they answer must be alike.
public final class RefusalsTest {
    private static int wrong = 0;
    private static int cases = 0;

    public static void main(String[] args) {
        texts();
        stepsAndHands();
        sightsTiesGuesses();
        questions();
        tellings();
        givings();
        yearsAndRows();
        images();
        noRefusals();
        countsAddUp();
        System.out.println(wrong == 0 ? "all " + cases + " cases are as due" : wrong + " are not as due");
        if (wrong != 0) {
            System.exit(1);
        }
    }

    private static void must(boolean right, String what) {
        if (!right) {
            wrong++;
            System.out.println(what);
        }
    }

    // ---- the houses in which calls are refused

    private static final Consumer<StillRoom> NEW = x -> { };

    /** Something of everything, a text and a row half full, and an image unlike what there is. */
    private static final Consumer<StillRoom> SOME = x -> {
        x.hand(3);
        x.hand(4);
        x.hand(8);
        x.image();
        x.hand(2);
        x.sight(0, 1);
        x.sight(2, 0);
        x.tie(1, 3);
        x.guess(3, 2);
        x.guess(4, 3);
        x.paper(9);
        x.chance(0, 40);
        x.over(3, true);
        x.feed(4, 0x3b636268L); // "hbc;"
        x.put(2);
        x.put(0);
    };

    /** No room for anything more. */
    private static final Consumer<StillRoom> FULL = x -> {
        for (int i = 0; i < 8; i++) {
            x.hand(1 << i % 4);
        }
        for (int i = 0; i < 12; i++) {
            x.sight(i % 4, i / 4 + 4);
            x.tie(i % 2, 2 + i % 3);
            x.guess(1, 1 + i % 3);
        }
        x.paper(5);
        x.image();
        x.over(6, true);
        for (int i = 0; i < 10; i++) {
            x.feed(8, 0x3b703b703b703b70L); // "p;p;p;p;"
        }
        for (int i = 0; i < 8; i++) {
            x.put(7 - i);
        }
    };

    /** Two hands, both over. */
    private static final Consumer<StillRoom> LEFT = x -> {
        x.hand(3);
        x.hand(12);
        x.over(0, true);
        x.over(1, true);
        x.paper(1);
    };

    /** Four bytes of room in the text. */
    private static final Consumer<StillRoom> LONG_TEXT = x -> {
        for (int i = 0; i < 9; i++) {
            x.feed(8, 0x3b703b703b703b70L);
        }
        x.feed(4, 0x3b703b70L);
    };

    private static StillRoom made(Consumer<StillRoom> house) {
        StillRoom x = new StillRoom();
        house.accept(x);
        return x;
    }

    // ---- one case

    private static int[] refusals(StillRoom x) {
        int[] counts = new int[6];
        for (int i = 0; i < 6; i++) {
            counts[i] = x.count(11 + i);
        }
        return counts;
    }

    private static void refused(String call, int refusal, Consumer<StillRoom> house, ToLongFunction<StillRoom> asked) {
        cases++;
        StillRoom x = made(house);
        StillRoom twin = made(house);
        int[] before = refusals(x);
        long got = asked.applyAsLong(x);
        must(got == refusal, call + " answered " + got + ", due is " + refusal);
        int[] after = refusals(x);
        for (int i = 0; i < 6; i++) {
            int due = before[i] + (refusal == -1 - i ? 1 : 0);
            must(after[i] == due, call + ": count(" + (11 + i) + ") is " + after[i] + ", due is " + due);
        }
        same(call, x, twin);
    }

    /** Answered, and no refusal. */
    private static void taken(String call, long due, Consumer<StillRoom> house, ToLongFunction<StillRoom> asked) {
        cases++;
        StillRoom x = made(house);
        int[] before = refusals(x);
        long got = asked.applyAsLong(x);
        must(got == due, call + " answered " + got + ", due is " + due);
        int[] after = refusals(x);
        for (int i = 0; i < 6; i++) {
            must(after[i] == before[i], call + " is counted in count(" + (11 + i) + ")");
        }
    }

    private static void same(String call, StillRoom x, StillRoom twin) {
        List<Long> got = all(x);
        List<Long> due = all(twin);
        for (int i = 0; i < due.size(); i++) {
            if (!due.get(i).equals(got.get(i))) {
                must(false, call + " changed something: answer " + i + " of all that there is");
                return;
            }
        }
    }

    /** All that an object holds, by what it answers; what is asked changes it. */
    private static List<Long> all(StillRoom x) {
        List<Long> answers = new ArrayList<>();
        house(x, answers);
        answers.add((long) x.judge(1));
        answers.add((long) x.house());
        house(x, answers);
        answers.add((long) x.restore());
        house(x, answers);
        return answers;
    }

    /** Some 90 calls: three times, with those that made the house, they stay under the 512. */
    private static void house(StillRoom x, List<Long> answers) {
        for (int what = 0; what <= 8; what++) {
            answers.add((long) x.count(what));
        }
        for (int hand = 0; hand < 8; hand++) {
            answers.add((long) x.knows(hand, 0));
            answers.add((long) x.knows(hand, 1));
            answers.add((long) x.knows(hand, 2));
        }
        answers.add((long) x.walls(1));
        for (int hand = 0; hand < 8; hand++) {
            int chance = x.chance(hand, 50);
            answers.add((long) chance);
            x.chance(hand, Math.max(chance, 0));
        }
        int paper = x.paper(0);
        answers.add((long) paper);
        for (int set = 0; set < 16; set++) {
            x.paper(set);
            answers.add((long) x.known(0, true));
        }
        x.paper(Math.max(paper, 0));
        for (int who = 0; who < 4; who++) {
            answers.add((long) x.knows(who, 3));
        }
    }

    // ---- the calls

    private static final int LEAST = Integer.MIN_VALUE;
    private static final int MOST = Integer.MAX_VALUE;

    private static void texts() {
        refused("feed(0)", -4, SOME, x -> x.feed(0, 104));
        refused("feed(-1)", -4, SOME, x -> x.feed(-1, 104));
        refused("feed(least)", -4, SOME, x -> x.feed(LEAST, 104));
        refused("feed(9)", -6, SOME, x -> x.feed(9, 104));
        refused("feed(greatest)", -6, SOME, x -> x.feed(MOST, 104));
        refused("feed(5) with room for 4", -6, LONG_TEXT, x -> x.feed(5, 0x703b703b70L));
        refused("feed(8) with room for 4", -6, LONG_TEXT, x -> x.feed(8, 0x3b703b703b703b70L));
        refused("feed(1), full", -6, FULL, x -> x.feed(1, 104));
        refused("feed(0), full: -4 ahead of -6", -4, FULL, x -> x.feed(0, 104));
        taken("feed(4) with room for 4", 80, LONG_TEXT, x -> x.feed(4, 0x3b703b70L));
        taken("feed(1)", 5, SOME, x -> x.feed(1, 104));
        taken("feed(8)", 12, SOME, x -> x.feed(8, 104));
    }

    private static void stepsAndHands() {
        refused("steps(0)", -4, SOME, x -> x.steps(0));
        refused("steps(least)", -4, SOME, x -> x.steps(LEAST));
        refused("steps(11)", -6, SOME, x -> x.steps(11));
        refused("steps(greatest)", -6, SOME, x -> x.steps(MOST));
        refused("hand(16)", -1, SOME, x -> x.hand(16));
        refused("hand(-1)", -1, SOME, x -> x.hand(-1));
        refused("hand(least)", -1, SOME, x -> x.hand(LEAST));
        refused("hand(greatest)", -1, SOME, x -> x.hand(MOST));
        refused("hand(0), full", -6, FULL, x -> x.hand(0));
        refused("hand(16), full: -1 ahead of -6", -1, FULL, x -> x.hand(16));
        for (boolean is : new boolean[] {true, false}) {
            refused("tell(-1, 0)", -1, SOME, x -> x.tell(-1, 0, is));
            refused("tell(4, 0)", -1, SOME, x -> x.tell(4, 0, is));
            refused("tell(8, 0), full", -1, FULL, x -> x.tell(8, 0, is));
            refused("tell(0, -1)", -1, SOME, x -> x.tell(0, -1, is));
            refused("tell(0, 4)", -1, SOME, x -> x.tell(0, 4, is));
            refused("tell(0, 32)", -1, SOME, x -> x.tell(0, 32, is));
            refused("tell(least, greatest)", -1, SOME, x -> x.tell(LEAST, MOST, is));
            refused("over(-1)", -1, SOME, x -> x.over(-1, is));
            refused("over(4)", -1, SOME, x -> x.over(4, is));
            refused("over(8), full", -1, FULL, x -> x.over(8, is));
            refused("over(32)", -1, SOME, x -> x.over(32, is));
            refused("over(0) of nobody", -1, NEW, x -> x.over(0, is));
        }
        refused("chance(-1, 5)", -1, SOME, x -> x.chance(-1, 5));
        refused("chance(4, 5)", -1, SOME, x -> x.chance(4, 5));
        refused("chance(8, 5), full", -1, FULL, x -> x.chance(8, 5));
        refused("chance(0, -1)", -4, SOME, x -> x.chance(0, -1));
        refused("chance(0, least)", -4, SOME, x -> x.chance(0, LEAST));
        refused("chance(0, 101)", -6, SOME, x -> x.chance(0, 101));
        refused("chance(0, greatest)", -6, SOME, x -> x.chance(0, MOST));
        refused("chance(4, -1): -1 ahead of -4", -1, SOME, x -> x.chance(4, -1));
        refused("chance(-1, 101): -1 ahead of -6", -1, SOME, x -> x.chance(-1, 101));
        refused("paper(16)", -1, SOME, x -> x.paper(16));
        refused("paper(-1)", -1, SOME, x -> x.paper(-1));
        refused("paper(least)", -1, SOME, x -> x.paper(LEAST));
    }

    private static void sightsTiesGuesses() {
        refused("sight(1, 1)", -1, SOME, x -> x.sight(1, 1));
        refused("sight(-1, 0)", -1, SOME, x -> x.sight(-1, 0));
        refused("sight(0, -1)", -1, SOME, x -> x.sight(0, -1));
        refused("sight(4, 0)", -1, SOME, x -> x.sight(4, 0));
        refused("sight(0, 4)", -1, SOME, x -> x.sight(0, 4));
        refused("sight(0, 1) again", -3, SOME, x -> x.sight(0, 1));
        refused("sight(7, 0), full", -6, FULL, x -> x.sight(7, 0));
        refused("sight(7, 7), full: -1 ahead of -6", -1, FULL, x -> x.sight(7, 7));
        refused("sight(8, 0), full: -1 ahead of -6", -1, FULL, x -> x.sight(8, 0));
        refused("sight(0, 4) again, full: -3 ahead of -6", -3, FULL, x -> x.sight(0, 4));
        taken("sight(1, 0), the other way round", 2, SOME, x -> x.sight(1, 0));
        refused("tie(1, 1)", -1, SOME, x -> x.tie(1, 1));
        refused("tie(-1, 0)", -1, SOME, x -> x.tie(-1, 0));
        refused("tie(0, -1)", -1, SOME, x -> x.tie(0, -1));
        refused("tie(4, 0)", -1, SOME, x -> x.tie(4, 0));
        refused("tie(0, 4)", -1, SOME, x -> x.tie(0, 4));
        refused("tie(5, 6), full", -6, FULL, x -> x.tie(5, 6));
        refused("tie(6, 6), full: -1 ahead of -6", -1, FULL, x -> x.tie(6, 6));
        refused("tie(0, 8), full: -1 ahead of -6", -1, FULL, x -> x.tie(0, 8));
        taken("tie(1, 3) again", 2, SOME, x -> x.tie(1, 3));
        refused("guess(0, 1)", -1, SOME, x -> x.guess(0, 1));
        refused("guess(3, 1)", -1, SOME, x -> x.guess(3, 1));
        refused("guess(16, 0)", -1, SOME, x -> x.guess(16, 0));
        refused("guess(-2, 0)", -1, SOME, x -> x.guess(-2, 0));
        refused("guess(1, 4)", -1, SOME, x -> x.guess(1, 4));
        refused("guess(1, -1)", -1, SOME, x -> x.guess(1, -1));
        refused("guess(1, 33)", -1, SOME, x -> x.guess(1, 33));
        refused("guess(2, 3), full", -6, FULL, x -> x.guess(2, 3));
        refused("guess(0, 3), full: -1 ahead of -6", -1, FULL, x -> x.guess(0, 3));
        refused("guess(8, 3), full: -1 ahead of -6", -1, FULL, x -> x.guess(8, 3));
        taken("guess(3, 2) again", 3, SOME, x -> x.guess(3, 2));
    }

    private static void questions() {
        refused("knows(-1, 0)", -1, SOME, x -> x.knows(-1, 0));
        refused("knows(4, 0)", -1, SOME, x -> x.knows(4, 0));
        refused("knows(8, 3), full", -1, FULL, x -> x.knows(8, 3));
        refused("knows(0, -1)", -2, SOME, x -> x.knows(0, -1));
        refused("knows(0, 4)", -2, SOME, x -> x.knows(0, 4));
        refused("knows(0, least)", -2, SOME, x -> x.knows(0, LEAST));
        refused("knows(4, 4): -1 ahead of -2", -1, SOME, x -> x.knows(4, 4));
        refused("knows(-1, -1): -1 ahead of -2", -1, SOME, x -> x.knows(-1, -1));
        for (boolean paper : new boolean[] {true, false}) {
            refused("known(16)", -1, SOME, x -> x.known(16, paper));
            refused("known(17)", -1, SOME, x -> x.known(17, paper));
            refused("known(-1)", -1, SOME, x -> x.known(-1, paper));
            refused("known(256), full", -1, FULL, x -> x.known(256, paper));
            refused("known(1) of nobody", -1, NEW, x -> x.known(1, paper));
        }
        numbers("stays", (x, n) -> x.stays(n));
        numbers("safe", (x, n) -> x.safe(n));
        numbers("walls", (x, n) -> x.walls(n));
        numbers("bank", (x, n) -> x.bank(n));
    }

    private interface Numbered {
        long ask(StillRoom x, int n);
    }

    /** A number of hands, 0 .. 8, in every house. */
    private static void numbers(String name, Numbered call) {
        for (Consumer<StillRoom> house : List.of(NEW, SOME, FULL, LEFT)) {
            refused(name + "(-1)", -4, house, x -> call.ask(x, -1));
            refused(name + "(least)", -4, house, x -> call.ask(x, LEAST));
            refused(name + "(9)", -6, house, x -> call.ask(x, 9));
            refused(name + "(greatest)", -6, house, x -> call.ask(x, MOST));
            for (int n = 0; n <= 8; n++) {
                int within = n;
                StillRoom x = made(house);
                long got = call.ask(x, within);
                must(got >= 0 || got == -9, name + "(" + n + ") answered " + got);
                taken(name + "(" + n + ")", got, house, y -> call.ask(y, within));
            }
        }
    }

    private static void tellings() {
        refused("monday(-1, 0, 0)", -1, SOME, x -> x.monday(-1, 0, 0));
        refused("monday(4, 0, 0)", -1, SOME, x -> x.monday(4, 0, 0));
        refused("monday(8, 0, 0), full", -1, FULL, x -> x.monday(8, 0, 0));
        refused("monday(0, 0, 0) of nobody", -1, NEW, x -> x.monday(0, 0, 0));
        refused("monday of one OVER", -3, SOME, x -> x.monday(3, 0, 0));
        refused("monday(0, -1, 0)", -4, SOME, x -> x.monday(0, -1, 0));
        refused("monday(0, 0, -1)", -4, SOME, x -> x.monday(0, 0, -1));
        refused("monday(0, 9, 0)", -6, SOME, x -> x.monday(0, 9, 0));
        refused("monday(0, 0, 9)", -6, SOME, x -> x.monday(0, 0, 9));
        refused("monday(4, -1, 0): -1 ahead of -4", -1, SOME, x -> x.monday(4, -1, 0));
        refused("monday(4, 0, 9): -1 ahead of -6", -1, SOME, x -> x.monday(4, 0, 9));
        refused("monday(3, -1, 0): -3 ahead of -4", -3, SOME, x -> x.monday(3, -1, 0));
        refused("monday(3, 0, 9): -3 ahead of -6", -3, SOME, x -> x.monday(3, 0, 9));
        refused("monday(0, 9, -1): -4 ahead of -6", -4, SOME, x -> x.monday(0, 9, -1));
        refused("monday(0, -1, 9): -4 ahead of -6", -4, SOME, x -> x.monday(0, -1, 9));
        refused("mend(-1, 0, 0)", -4, SOME, x -> x.mend(-1, 0, 0));
        refused("mend(0, -1, 0)", -4, SOME, x -> x.mend(0, -1, 0));
        refused("mend(0, 0, -2)", -4, SOME, x -> x.mend(0, 0, -2));
        refused("mend(0, 0, least)", -4, SOME, x -> x.mend(0, 0, LEAST));
        refused("mend(9, 0, 0)", -6, SOME, x -> x.mend(9, 0, 0));
        refused("mend(0, 9, 0)", -6, SOME, x -> x.mend(0, 9, 0));
        refused("mend(9, -1, 0): -4 ahead of -6", -4, SOME, x -> x.mend(9, -1, 0));
        refused("mend(-1, 9, 0): -4 ahead of -6", -4, SOME, x -> x.mend(-1, 9, 0));
        refused("mend(9, 0, -2): -4 ahead of -6", -4, SOME, x -> x.mend(9, 0, -2));
        refused("mend(0, 9, -2): -4 ahead of -6", -4, SOME, x -> x.mend(0, 9, -2));
        taken("mend(8, 8, greatest): no i is too great", -9, SOME, x -> x.mend(8, 8, MOST));
    }

    private static void givings() {
        refused("giving(-1, 0, 0)", -1, SOME, x -> x.giving(-1, 0, 0));
        refused("giving(5, 0, 0)", -1, SOME, x -> x.giving(5, 0, 0));
        refused("giving(0, -1, 0)", -2, SOME, x -> x.giving(0, -1, 0));
        refused("giving(0, 3, 0)", -2, SOME, x -> x.giving(0, 3, 0));
        refused("giving(0, 1, -1)", -4, SOME, x -> x.giving(0, 1, -1));
        refused("giving(0, 2, -1)", -4, SOME, x -> x.giving(0, 2, -1));
        refused("giving(0, 1, 9)", -6, SOME, x -> x.giving(0, 1, 9));
        refused("giving(0, 2, 9)", -6, SOME, x -> x.giving(0, 2, 9));
        refused("giving to nobody", -3, NEW, x -> x.giving(0, 0, 0));
        refused("giving to nobody in the HOUSE", -3, LEFT, x -> x.giving(4, 2, 8));
        refused("giving(5, 3, 0): -1 ahead of -2", -1, SOME, x -> x.giving(5, 3, 0));
        refused("giving(5, 1, -1): -1 ahead of -4", -1, SOME, x -> x.giving(5, 1, -1));
        refused("giving(-1, 1, 9): -1 ahead of -6", -1, SOME, x -> x.giving(-1, 1, 9));
        refused("giving(5, 0, 0): -1 ahead of -3", -1, LEFT, x -> x.giving(5, 0, 0));
        refused("giving(0, 3, -1): -2 ahead of -4", -2, SOME, x -> x.giving(0, 3, -1));
        refused("giving(0, -1, 9): -2 ahead of -6", -2, SOME, x -> x.giving(0, -1, 9));
        refused("giving(0, 3, 0): -2 ahead of -3", -2, LEFT, x -> x.giving(0, 3, 0));
        refused("giving(0, 1, -1): -4 ahead of -3", -4, LEFT, x -> x.giving(0, 1, -1));
        refused("giving(0, 2, 9): -6 ahead of -3", -6, LEFT, x -> x.giving(0, 2, 9));
        refused("finest(-1, 0)", -4, SOME, x -> x.finest(-1, 0));
        refused("finest(0, -1)", -4, SOME, x -> x.finest(0, -1));
        refused("finest(9, 0)", -6, SOME, x -> x.finest(9, 0));
        refused("finest(0, 9)", -6, SOME, x -> x.finest(0, 9));
        refused("finest for nobody", -3, NEW, x -> x.finest(0, 0));
        refused("finest for nobody in the HOUSE", -3, LEFT, x -> x.finest(8, 8));
        refused("finest(9, -1): -4 ahead of -6", -4, SOME, x -> x.finest(9, -1));
        refused("finest(-1, 9): -4 ahead of -6", -4, SOME, x -> x.finest(-1, 9));
        refused("finest(0, -1): -4 ahead of -3", -4, LEFT, x -> x.finest(0, -1));
        refused("finest(9, 0): -6 ahead of -3", -6, LEFT, x -> x.finest(9, 0));
    }

    private static void yearsAndRows() {
        refused("run(1, 1, -1)", -2, SOME, x -> x.run(1, 1, -1));
        refused("run(1, 1, 3)", -2, SOME, x -> x.run(1, 1, 3));
        refused("run(0, 1, 0)", -4, SOME, x -> x.run(0, 1, 0));
        refused("run(least, 1, 2)", -4, SOME, x -> x.run(LEAST, 1, 2));
        refused("run(51, 1, 0)", -6, SOME, x -> x.run(51, 1, 0));
        refused("run(greatest, 1, 2)", -6, SOME, x -> x.run(MOST, 1, 2));
        refused("run(0, 1, 3): -2 ahead of -4", -2, SOME, x -> x.run(0, 1, 3));
        refused("run(51, 1, -1): -2 ahead of -6", -2, SOME, x -> x.run(51, 1, -1));
        refused("put(-1)", -4, SOME, x -> x.put(-1));
        refused("put(least)", -4, SOME, x -> x.put(LEAST));
        refused("put(8)", -6, SOME, x -> x.put(8));
        refused("put(greatest)", -6, SOME, x -> x.put(MOST));
        refused("put(0), full", -6, FULL, x -> x.put(0));
        refused("put(-1), full: -4 ahead of -6", -4, FULL, x -> x.put(-1));
        taken("put(7) of nobody", 1, NEW, x -> x.put(7));
        refused("judge(-1)", -2, SOME, x -> x.judge(-1));
        refused("judge(3)", -2, SOME, x -> x.judge(3));
        refused("judge(3), an empty row", -2, NEW, x -> x.judge(3));
        refused("judge(3), a full row", -2, FULL, x -> x.judge(3));
    }

    private static void images() {
        refused("restore() without an image", -3, NEW, StillRoom::restore);
        refused("restore() without an image", -3, LEFT, StillRoom::restore);
        taken("restore()", 3, SOME, StillRoom::restore);
    }

    /** -9 and a fault are no refusals, and what refuses nothing counts nothing. */
    private static void noRefusals() {
        taken("count(9)", -9, SOME, x -> x.count(9));
        taken("count(10)", -9, SOME, x -> x.count(10));
        taken("count(17)", -9, SOME, x -> x.count(17));
        taken("count(-1)", -9, SOME, x -> x.count(-1));
        taken("carriers(), none", -9, NEW, StillRoom::carriers);
        taken("losers(), none", -9, x -> x.paper(15), StillRoom::losers);
        taken("keys()", 0, NEW, StillRoom::keys);
        taken("mend, not enough", -9, NEW, x -> x.mend(0, 0, -1));
        taken("judge, none", -9, NEW, x -> x.judge(0));
        taken("run, none", -9, NEW, x -> x.run(50, 1, 1));
        taken("loses()", 1, NEW, StillRoom::loses);
        taken("carries()", 0, NEW, StillRoom::carries);
        taken("image()", 0, NEW, StillRoom::image);
        taken("a house with a fault", -22, x -> x.feed(3, 0x783b68L), StillRoom::house);
        taken("a house without room", -24, x -> {
            FULL.accept(x);
            x.house();
            x.feed(6, 0x3b683b703b70L);
        }, StillRoom::house);
    }

    /** Refusals of one kind by several calls come together; there is none of -5. */
    private static void countsAddUp() {
        StillRoom x = made(LEFT);
        for (int i = 0; i < 100; i++) {
            x.tell(9, 9, true);
            x.judge(9);
            x.restore();
            x.put(-1);
        }
        x.hand(-1);
        x.knows(0, 4);
        x.finest(0, 0);
        x.stays(-1);
        x.run(51, 0, 0);
        int[] due = {101, 101, 101, 101, 0, 1};
        int[] got = refusals(x);
        for (int i = 0; i < 6; i++) {
            must(got[i] == due[i], "count(" + (11 + i) + ") is " + got[i] + ", due is " + due[i]);
        }
    }
}
