import java.io.IOException;
import java.math.BigInteger;
import java.nio.file.Files;
import java.nio.file.Path;
import java.util.ArrayList;
import java.util.List;

// Each sentence of the document that names a boundary case, in the document's order: the last that
// is allowed and the first that is not, the empty and the full. A test begins with the sentence's
// words, which must stand in the document. What is due was worked out by hand.
// Each refusal of each call is in RefusalsTest.
public final class BoundariesTest {
    private static final String DOCUMENT = "../shared/DOC.md";
    private static final int LEAST = Integer.MIN_VALUE;
    private static final int MOST = Integer.MAX_VALUE;
    private static String document = "";
    private static String sentence = "";
    private static int wrong = 0;
    private static final List<String> SENTENCES = new ArrayList<>();

    public static void main(String[] args) throws IOException {
        document = Files.readString(Path.of(DOCUMENT)).replaceAll("\\s+", " ");
        anObject();
        whatThereIs();
        whatIsKnown();
        lostAndCarried();
        mondayAndMend();
        wallsAndBank();
        givings();
        aYear();
        years();
        rows();
        texts();
        images();
        promises();
        noPromiseIsLeftOut();
        System.out.println(wrong == 0 ? "all " + SENTENCES.size() + " sentences hold" : wrong + " are not as due");
        if (wrong != 0) {
            System.exit(1);
        }
    }

    // ---- what all of them use

    private static void sentence(String words) {
        sentence = words;
        SENTENCES.add(words);
        if (!document.contains(words)) {
            wrong++;
            System.out.println("the document does not say: " + words);
        }
    }

    /** Each promise has a sentence here at least. */
    private static void noPromiseIsLeftOut() {
        String[] parts = document.split("## Promise ");
        due("promises", parts.length - 1, 33);
        for (int i = 1; i < parts.length; i++) {
            String part = parts[i];
            if (SENTENCES.stream().noneMatch(part::contains)) {
                wrong++;
                System.out.println("no test has a sentence of this promise: " + part);
            }
        }
    }

    private static void due(String call, long got, long want) {
        if (got != want) {
            wrong++;
            System.out.println("\"" + sentence + "\": " + call + " answered " + got + ", due is " + want);
        }
    }

    /** A house of so many steps, and hands that were told these. */
    private static StillRoom room(int steps, int... told) {
        StillRoom x = new StillRoom();
        x.steps(steps);
        for (int set : told) {
            x.hand(set);
        }
        return x;
    }

    /** Eight hands that were told nothing. */
    private static StillRoom eight(int steps) {
        return room(steps, 0, 0, 0, 0, 0, 0, 0, 0);
    }

    private static void feed(StillRoom x, String text) {
        for (int i = 0; i < text.length(); i += 8) {
            String part = text.substring(i, Math.min(i + 8, text.length()));
            long bytes = 0;
            for (int k = part.length() - 1; k >= 0; k--) {
                bytes = bytes << 8 | part.charAt(k) & 255;
            }
            x.feed(part.length(), bytes);
        }
    }

    private static int read(StillRoom x, String text) {
        feed(x, text);
        return x.house();
    }

    private static int judged(StillRoom x, int what, int... hands) {
        for (int hand : hands) {
            x.put(hand);
        }
        return x.judge(what);
    }

    private static int all(int members) {
        return (1 << members) - 1;
    }

    // ---- the object

    private static void anObject() {
        sentence("An object is used for at most 512 calls after it has been made");
        StillRoom x = new StillRoom();
        for (int i = 1; i <= 510; i++) {
            x.put(-1);
        }
        due("count(14), the 511th call", x.count(14), 510);
        due("hand(15), the 512th call", x.hand(15), 0);
    }

    // ---- Terms: what there is

    private static void whatThereIs() {
        stepsAndLetters();
        handsAsTheyCome();
        toldAndChance();
        sights();
        ties();
        guesses();
    }

    private static void stepsAndLetters() {
        sentence("STEPS 0 .. n less 1 (n 1 .. 10; 4 at first; letters a .. j).");
        StillRoom x = new StillRoom();
        due("4 at first", x.count(0), 4);
        due("steps(1)", x.steps(1), 4);
        due("steps(0)", x.steps(0), -4);
        due("steps(10)", x.steps(10), 1);
        due("steps(11)", x.steps(11), -6);
        due("count(0)", x.count(0), 10);
        for (int n = 1; n <= 10; n++) {
            StillRoom y = room(n, 0);
            due("the least step of " + n, y.tell(0, 0, true), 1);
            due("below it", y.tell(0, -1, true), -1);
            due("the last step of " + n, y.tell(0, n - 1, true), n == 1 ? 0 : 1);
            due("none any more of " + n, y.tell(0, n, true), -1);
            due("all steps of " + n, y.hand(all(n)), 1);
            due("one more than " + n, y.hand(1 << n), -1);
            due("none at all of " + n, y.hand(0), 2);
            due("the last letter of " + n, read(y, "h" + (char) ('a' + n - 1) + ";"), 1);
            due("what it told", y.knows(3, 0), 1 << n - 1);
            due("the next letter of " + n, read(y, "h" + (char) ('a' + n) + ";"), -21);
            due("the sign below a", read(y, "h`;"), -21);
        }
    }

    private static void handsAsTheyCome() {
        sentence("HANDS 0 .. 7 as they come, in the HOUSE (as they come) or OVER");
        StillRoom x = new StillRoom();
        for (int hand = 0; hand < 8; hand++) {
            due("not there yet", x.knows(hand, 0), -1);
            due("as they come", x.hand(hand), hand);
            due("there now", x.knows(hand, 0), hand);
        }
        due("a ninth", x.hand(1), -6);
        due("hand 8", x.knows(8, 0), -1);
        due("hand -1", x.knows(-1, 0), -1);
        due("in the house as they come", x.count(2), 0);
        for (int hand = 0; hand < 8; hand++) {
            due("over", x.over(hand, true), 1);
        }
        due("all eight over", x.count(2), 255);
        due("the last in the house again", x.over(7, false), 1);
        due("seven over", x.count(2), 127);
    }

    private static void toldAndChance() {
        sentence("each TOLD some STEPS (bits), with a CHANCE (0 .. 100 hundredths; 5 at first).");
        StillRoom x = room(10, 0, 1023);
        due("told nothing", x.knows(0, 0), 0);
        due("told all", x.knows(1, 0), 1023);
        read(x, "hj;");
        due("5 at first", x.chance(0, 0), 5);
        due("5 at first, by a text too", x.chance(2, 100), 5);
        due("-1", x.chance(0, -1), -4);
        due("0 stands", x.chance(0, 100), 0);
        due("101", x.chance(0, 101), -6);
        due("100 stands", x.chance(0, 5), 100);
        due("the last hand's", x.chance(2, 5), 100);
    }

    private static void sights() {
        sentence("SIGHTS (12 at most): one HAND sees another: it knows what that was TOLD, too.");
        StillRoom x = room(4, 1, 2, 4, 8, 0);
        due("none yet", x.knows(4, 1), 0);
        due("the first", x.sight(0, 1), 0);
        due("who sees", x.knows(0, 1), 3);
        due("who is seen does not see", x.knows(1, 1), 2);
        x.sight(1, 2);
        due("not what that sees", x.knows(0, 1), 3);
        int number = 2;
        for (int[] two : new int[][] {{0, 2}, {0, 4}, {1, 0}, {1, 4}, {2, 0}, {2, 1}, {2, 4}, {3, 0}, {3, 1}}) {
            due("a sight", x.sight(two[0], two[1]), number);
            number++;
        }
        due("ahead of the twelfth", x.knows(4, 1), 0);
        due("the twelfth", x.sight(4, 3), 11);
        due("the twelfth is one", x.knows(4, 1), 8);
        due("a thirteenth", x.sight(4, 0), -6);
        due("that is none", x.knows(4, 1), 8);
        due("twelve", x.count(3), 12);
        due("a thirteenth by a text", read(x, "p;s40;"), -22);
        due("twelve still", x.count(3), 12);
    }

    private static void ties() {
        sentence("TIES (12 at most): two HANDS; who are joined by TIES (by any number of them) know all that"
                + " any of them knows by telling and sight.");
        StillRoom x = room(8, 1, 2, 4, 8, 16, 32, 64, 128);
        due("by none", x.knows(7, 2), 128);
        for (int hand = 6; hand >= 0; hand--) {
            due("a tie", x.tie(hand, hand + 1), 7 - hand);
            due("one more", x.knows(7, 2), 255 & -(1 << hand));
        }
        due("by seven, from the other end", x.knows(0, 2), 255);
        for (int tie = 8; tie <= 12; tie++) {
            due("one like another", x.tie(0, 1), tie);
        }
        due("a thirteenth", x.tie(2, 5), -6);
        due("a thirteenth by a text", read(x, "p;t25;"), -22);
        due("twelve", x.count(4), 12);
        StillRoom y = room(3, 1, 2, 4, 0);
        for (int tie = 1; tie <= 11; tie++) {
            y.tie(0, 1);
        }
        due("ahead of the twelfth", y.knows(2, 2), 4);
        due("the twelfth", y.tie(2, 1), 12);
        due("the twelfth is one", y.knows(2, 2), 7);
        due("a thirteenth", y.tie(2, 3), -6);
        due("that is none", y.knows(3, 2), 0);
        StillRoom z = room(2, 1, 2, 0);
        z.sight(1, 0);
        z.tie(1, 2);
        due("what one of them sees", z.knows(2, 2), 3);
        due("who is seen is not joined", z.knows(0, 2), 1);
    }

    private static void guesses() {
        sentence("GUESSES (12 at most): a set of STEPS and a STEP: from the set known the STEP is guessed.");
        StillRoom x = room(10, 511, 255, 1022);
        due("none yet", x.knows(0, 3), 511);
        due("from nine steps", x.guess(511, 9), 1);
        due("all nine known", x.knows(0, 3), 1023);
        due("one of nine lacks", x.knows(1, 3), 255);
        for (int many = 2; many <= 11; many++) {
            due("one like another", x.guess(511, 9), many);
        }
        due("ahead of the twelfth", x.knows(2, 3), 1022);
        due("the twelfth, from one", x.guess(512, 0), 12);
        due("the twelfth is one", x.knows(2, 3), 1023);
        due("a thirteenth", x.guess(1, 8), -6);
        due("a thirteenth by a text", read(x, "p;ga>i;"), -22);
        due("that is none", x.knows(1, 3), 255);
        due("twelve", x.count(5), 12);
    }

    // ---- Terms: what is known

    private static void whatIsKnown() {
        sentence("HANDS in the HOUSE and OVER alike see, are seen, are tied.");
        StillRoom x = room(4, 1, 2, 4, 8);
        x.sight(0, 1);
        x.tie(2, 3);
        for (int over = 0; over < 16; over++) {
            for (int hand = 0; hand < 4; hand++) {
                x.over(hand, (over >> hand & 1) == 1);
            }
            due("sees and is seen, over " + over, x.knows(0, 2), 3);
            due("is tied, over " + over, x.knows(2, 2), 12);
            due("is tied, over " + over, x.knows(3, 2), 12);
        }
        sentence("KNOWN by a set of HANDS: all that any of them knows, and what is guessed from that,"
                + " again and again.");
        StillRoom y = room(10, 1, 0, 0, 0, 0, 0, 0, 2);
        for (int step = 9; step >= 2; step--) {
            y.guess(1 << step - 1 | 1, step);
        }
        due("nobody", y.known(0, false), 0);
        due("one", y.known(1, false), 1);
        due("the last one", y.known(128, false), 2);
        due("two together, eight guesses deep", y.known(129, false), 1023);
        due("all eight", y.known(255, false), 1023);
        due("a ninth", y.known(256, false), -1);
        due("all but the first", y.known(254, false), 2);
        papers();
    }

    private static void papers() {
        sentence("PAPER (a set of STEPS; none at first): who is in the HOUSE knows it, too, as those do who stay"
                + " (if nobody stays: it alone, and what is guessed from it).");
        StillRoom x = room(3, 1);
        due("none at first", x.known(0, true), 0);
        due("none at first", x.paper(6), 0);
        due("who stays knows it, too", x.stays(0), 1);
        due("if nobody stays it alone, not enough", x.stays(1), 0);
        due("all of it", x.paper(7), 6);
        due("if nobody stays it alone", x.stays(1), 1);
        due("nothing is lost", x.losers(), -9);
        x.paper(4);
        x.guess(4, 1);
        due("what is guessed from it is not all", x.stays(1), 0);
        due("with what one was told it is", x.stays(0), 1);
        x.guess(2, 0);
        due("what is guessed from it, again and again", x.stays(1), 1);
        StillRoom nobody = room(3);
        due("no hands, no paper", nobody.stays(0), 0);
        nobody.paper(7);
        due("no hands, paper", nobody.stays(0), 1);
        due("no hands, all of none go", nobody.stays(8), 1);
        nobody.paper(4);
        nobody.guess(4, 0);
        due("no hands, not all is guessed", nobody.stays(0), 0);
        nobody.guess(5, 1);
        due("no hands, all is guessed", nobody.stays(0), 1);
    }

    // ---- Terms: lost and carried

    private static void lostAndCarried() {
        sentence("IT is all STEPS.");
        for (int n = 1; n <= 10; n++) {
            StillRoom x = room(n, all(n));
            due("all of " + n + " stay", x.stays(0), 1);
            due("all of " + n + " are carried", x.safe(1), 0);
            for (int step = 0; step < n; step++) {
                x.tell(0, step, false);
                due("one of " + n + " lacks", x.stays(0), 0);
                due("one of " + n + " lacks", x.safe(1), 1);
                x.tell(0, step, true);
            }
        }
        sentence("LOST by a set of the HOUSE that goes: those who stay, and PAPER, do not know IT.");
        StillRoom x = room(3, 1, 2, 4);
        due("nobody goes", x.stays(0), 1);
        due("one goes", x.stays(1), 0);
        x.paper(7);
        due("paper", x.stays(3), 1);
        sentence("CARRIED by a set of the HOUSE that goes: those who go and all who are OVER know IT together"
                + " (PAPER not).");
        due("two go", x.safe(2), 1);
        due("all go", x.safe(3), 0);
        x.over(0, true);
        due("one is over", x.safe(2), 0);
        due("one is over, paper not", x.safe(1), 1);
        x.over(1, true);
        x.over(2, true);
        due("all are over, nobody goes", x.safe(0), 0);
        manyWhoGo();
        losersCarriersKeys();
    }

    private static void manyWhoGo() {
        sentence("STAYS with g: no set of just g of the HOUSE (all, if there are fewer) LOSES it.");
        StillRoom x = room(1, 1, 1, 1, 1, 1, 1, 1, 1);
        for (int g = 0; g <= 8; g++) {
            due("stays(" + g + ")", x.stays(g), g < 8 ? 1 : 0);
        }
        due("stays(-1)", x.stays(-1), -4);
        due("stays(9)", x.stays(9), -6);
        StillRoom one = room(1, 1, 1);
        one.tell(1, 0, false);
        due("the last set of one is harmless, the first is not", one.stays(1), 0);
        one.tell(1, 0, true);
        one.tell(0, 0, false);
        due("the first set of one is harmless, the last is not", one.stays(1), 0);
        for (int g = 2; g <= 8; g++) {
            due("all of two: stays(" + g + ")", room(1, 1, 1).stays(g), 0);
            due("all of none: stays(" + g + ")", room(1).stays(g), 0);
        }
        due("half of eight", half(15).stays(4), 0);
        due("half of eight", half(240).stays(4), 0);
        due("less than half of eight", half(240).stays(3), 1);
        StillRoom again = half(240);
        due("one behind the other", again.stays(4), 0);
        due("one behind the other", again.stays(3), 1);
        due("one behind the other", again.stays(8), 0);
        due("one behind the other", again.stays(0), 1);
        sentence("SAFE with j: no set of just j (all, if there are fewer) CARRIES it.");
        StillRoom y = room(8, 1, 2, 4, 8, 16, 32, 64, 128);
        for (int j = 0; j <= 8; j++) {
            due("safe(" + j + ")", y.safe(j), j < 8 ? 1 : 0);
        }
        due("safe(-1)", y.safe(-1), -4);
        due("safe(9)", y.safe(9), -6);
        due("half of eight", halves(15).safe(4), 0);
        due("half of eight", halves(240).safe(4), 0);
        due("less than half of eight", halves(240).safe(3), 1);
        again = halves(240);
        due("one behind the other", again.safe(4), 0);
        due("one behind the other", again.safe(3), 1);
        due("one behind the other", again.safe(8), 0);
        due("one behind the other", again.safe(0), 1);
        for (int j = 2; j <= 8; j++) {
            due("all of two: safe(" + j + ")", room(2, 1, 2).safe(j), 0);
            due("all of none: safe(" + j + ")", room(2).safe(j), 1);
        }
    }

    /** One step, told to four of eight hands. */
    private static StillRoom half(int hands) {
        StillRoom x = eight(1);
        for (int hand = 0; hand < 8; hand++) {
            x.tell(hand, 0, (hands >> hand & 1) == 1);
        }
        return x;
    }

    /** Four steps, one each told to four of eight hands. */
    private static StillRoom halves(int hands) {
        StillRoom x = eight(4);
        int step = 0;
        for (int hand = 0; hand < 8; hand++) {
            if ((hands >> hand & 1) == 1) {
                x.tell(hand, step, true);
                step++;
            }
        }
        return x;
    }

    private static void losersCarriersKeys() {
        sentence("LOSERS: the set with the fewest HANDS that LOSES it, of several the least as bits.");
        due("nobody must go", room(1, 0).losers(), 0);
        due("no hands", room(1).losers(), 0);
        due("all eight", room(1, 1, 1, 1, 1, 1, 1, 1, 1).losers(), 255);
        due("the last", room(2, 1, 1, 1, 1, 1, 1, 1, 2).losers(), 128);
        due("fewest, though not the least as bits", room(2, 1, 1, 2).losers(), 4);
        due("the least of two", room(2, 1, 2).losers(), 1);
        due("the least of pairs", room(2, 1, 1, 2, 2).losers(), 3);
        StillRoom paper = room(1, 1);
        paper.paper(1);
        due("none", paper.losers(), -9);
        sentence("CARRIERS: likewise that CARRIES it (it may be empty).");
        due("none", room(1, 0).carriers(), -9);
        due("no hands", room(1).carriers(), -9);
        due("all eight", room(8, 1, 2, 4, 8, 16, 32, 64, 128).carriers(), 255);
        due("fewest, though not the least as bits", room(2, 1, 2, 3).carriers(), 4);
        due("the least of two", room(2, 0, 3, 3).carriers(), 2);
        due("the least of pairs", room(2, 1, 1, 2, 2).carriers(), 5);
        due("the last", room(1, 0, 0, 0, 0, 0, 0, 0, 1).carriers(), 128);
        StillRoom empty = room(1, 1, 1);
        empty.over(1, true);
        due("empty", empty.carriers(), 0);
        sentence("KEYS: HANDS of the HOUSE that LOSE it each alone.");
        due("no hands", room(1).keys(), 0);
        due("one", room(1, 1).keys(), 1);
        due("none of two", room(1, 1, 1).keys(), 0);
        due("all eight", room(8, 1, 2, 4, 8, 16, 32, 64, 128).keys(), 255);
        due("the last", room(2, 1, 1, 1, 1, 1, 1, 1, 2).keys(), 128);
        StillRoom over = room(2, 1, 2, 2);
        over.over(1, true);
        due("not one that is over", over.keys(), 5);
        due("lost already: each", room(1, 0, 0).keys(), 3);
    }

    // ---- Terms: what to tell

    private static void mondayAndMend() {
        sentence("HOLDS with g, j: STAYS with g and SAFE with j.");
        StillRoom x = room(1, 1, 1);
        due("holds", x.mend(1, 0, -1), 0);
        due("not safe", x.mend(1, 1, -1), -9);
        due("does not stay", x.mend(2, 0, -1), -9);
        sentence("MONDAY for a HAND of the HOUSE: the set with the fewest STEPS that it was not TOLD with which,"
                + " if it were TOLD them too, all HOLDS; of several the least as bits.");
        due("none is needed", room(1, 1).monday(0, 0, 0), 0);
        due("all of ten", room(10, 0).monday(0, 0, 0), 1023);
        due("all but what it was told", room(10, 513).monday(0, 0, 0), 510);
        due("it was told all", room(1, 1).monday(0, 1, 0), -9);
        due("it would be carried", room(1, 0).monday(0, 0, 1), -9);
        due("it is carried as it is", room(1, 1).monday(0, 0, 1), -9);
        due("it is carried by another as it is", room(1, 0, 1).monday(0, 0, 1), -9);
        StillRoom few = room(3, 0, 0, 0, 0, 0, 0, 0, 0);
        few.guess(3, 2);
        few.guess(4, 0);
        few.guess(4, 1);
        due("fewest, though not the least as bits", few.monday(7, 0, 0), 4);
        few.guess(2, 0);
        due("the least of two", few.monday(7, 0, 0), 2);
        due("nobody else may know it", few.monday(7, 0, 1), -9);
        due("with 8 and 0", few.monday(7, 8, 0), -9);
        few.paper(7);
        due("with 8 and 8", few.monday(0, 8, 8), 0);
        due("hand 8", few.monday(8, 0, 0), -1);
        mends();
    }

    private static void mends() {
        sentence("MEND: the fewest TELLINGS (0, 1, 2: HANDS of the HOUSE, STEPS that they were not TOLD) with which"
                + " all HOLDS; of several the first by the lesser TELLING, then the other one (a TELLING is 10"
                + " times the HAND and the STEP).");
        due("none is needed", room(1, 1).mend(0, 0, -1), 0);
        due("none is needed: no first", room(1, 1).mend(0, 0, 0), -9);
        due("three would be needed", room(3, 0).mend(0, 0, -1), -9);
        due("three would be needed: no first", room(3, 0).mend(0, 0, 0), -9);
        mend("the least telling", room(1, 0), 0, 0, 0);
        mend("the lesser of two single ones", room(3, 3, 3), 0, 0, 2);
        StillRoom two = room(2, 0, 0);
        mend("the first by the lesser", two, 0, 0, 0, 1);
        mend("then by the other one", two, 0, 1, 0, 11);
        StillRoom last = room(10, 0, 0, 0, 0, 0, 0, 0, 511);
        for (int hand = 0; hand < 7; hand++) {
            last.over(hand, true);
        }
        mend("the greatest telling", last, 0, 0, 79);
        last.tell(7, 8, false);
        mend("the two greatest", last, 0, 0, 78, 79);
        last.over(0, false);
        mend("a hand of the house again", last, 0, 0, 8, 9);
        last.tell(0, 8, true);
        mend("not what it was told", last, 0, 0, 9);
        due("nobody is in the house", room(1).mend(0, 0, -1), -9);
    }

    private static void mend(String call, StillRoom x, int g, int j, int... tellings) {
        due(call + ": how many", x.mend(g, j, -1), tellings.length);
        for (int i = 0; i < tellings.length; i++) {
            due(call + ": the " + i + "th", x.mend(g, j, i), tellings[i]);
        }
        due(call + ": no more", x.mend(g, j, tellings.length), -9);
        due(call + ": no more", x.mend(g, j, MOST), -9);
        due(call + ": below -1", x.mend(g, j, -2), -4);
    }

    // ---- Terms: walls and bank

    private static void wallsAndBank() {
        sentence("WALLS: the set of the fewest SIGHTS (bits by their numbers) without which it is SAFE with j;"
                + " of several the least.");
        due("no sights, safe", room(1).walls(8), 0);
        due("no sights, not safe", room(1, 1).walls(1), -9);
        StillRoom x = room(2, 1, 1, 1, 1, 2, 2, 2, 2);
        for (int number = 0; number < 12; number++) {
            x.sight(number % 4, 4 + number / 4);
            due("all of " + (number + 1), x.walls(1), all(number + 1));
        }
        due("none is needed", x.walls(0), 0);
        due("none is enough", x.walls(2), -9);
        due("walls(8)", x.walls(8), -9);
        due("walls(-1)", x.walls(-1), -4);
        due("walls(9)", x.walls(9), -6);
        StillRoom last = eight(2);
        for (int number = 0; number < 11; number++) {
            last.sight(number / 5, number / 5 + 1 + number % 5);
        }
        last.tell(6, 0, true);
        last.tell(7, 1, true);
        due("the twelfth", last.sight(6, 7), 11);
        due("the twelfth alone", last.walls(1), 2048);
        StillRoom two = room(3, 1, 2, 4);
        two.sight(0, 1);
        two.sight(0, 2);
        due("the least of two", two.walls(1), 1);
        StillRoom few = room(3, 1, 2, 4, 1);
        few.sight(0, 1);
        few.sight(3, 1);
        few.sight(0, 2);
        few.sight(3, 2);
        few.tie(0, 3);
        due("the least of pairs", few.walls(1), 3);
        banks();
    }

    private static void banks() {
        sentence("BANK: the set with the fewest STEPS that, if it were the PAPER, lets it STAY with g;"
                + " of several the least.");
        due("none is needed", room(1, 1).bank(0), 0);
        due("the one step", room(1, 1).bank(1), 1);
        due("all of ten", room(10).bank(0), 1023);
        due("all of ten", room(10, 1023).bank(8), 1023);
        due("all but one of ten", room(10, 512, 512).bank(1), 511);
        due("just the last", room(10, 511).bank(0), 512);
        StillRoom x = room(3);
        x.guess(3, 2);
        x.guess(4, 0);
        x.guess(4, 1);
        due("fewest, though not the least as bits", x.bank(0), 4);
        x.guess(2, 0);
        due("the least of two", x.bank(0), 2);
        x.paper(7);
        due("as if it were the paper", x.bank(8), 2);
        due("bank(-1)", x.bank(-1), -4);
        due("bank(9)", x.bank(9), -6);
    }

    // ---- Terms: givings

    private static void givings() {
        howManyTellings();
        whoIsGiven();
        sentence("as if nothing else had been TOLD to the HOUSE's HANDS (m of them, 0 .. m less 1 in order;"
                + " those OVER stay TOLD as they are)");
        StillRoom x = room(2, 3, 3, 3, 3);
        due("nothing else: one alone has not both", x.giving(1, 2, 1), 1);
        due("told as they were", x.count(6), 8);
        x.over(0, true);
        due("m is of the house", x.giving(0, 0, 0), 6);
        due("those over as they are", x.giving(1, 2, 0), 0);
        for (int over = 0; over < 5; over++) {
            due("in order, over is " + over, givenTo(1, 4, 4, over, 0, 0), 1);
            due("in order, over is " + over, givenTo(1, 4, 4, over, 1, 1), 1);
            due("in order, over is " + over, givenTo(1, 4, 4, over, 3, 3), 1);
            due("in order, over is " + over, givenTo(1, 4, 4, over, 3, 2), 0);
        }
        StillRoom nobody = room(2, 3);
        nobody.over(0, true);
        due("m 0", nobody.giving(0, 0, 0), -3);
        finest();
    }

    private static void howManyTellings() {
        sentence("How many TELLINGS (like ones once); whether it STAYS with g, is SAFE with j.");
        for (int n = 1; n <= 10; n++) {
            for (int m = 1; m <= 8; m++) {
                StillRoom x = room(n);
                for (int hand = 0; hand < m; hand++) {
                    x.hand(0);
                }
                String of = " " + n + " to " + m;
                due("EACH" + of, x.giving(0, 0, 0), n * m);
                due("DARK" + of, x.giving(1, 0, 0), n);
                due("PAIR" + of, x.giving(2, 0, 0), n * Math.min(m, 2));
                due("ROW" + of, x.giving(3, 0, 0), n * Math.min(m, 3));
                due("HALF" + of, x.giving(4, 0, 0), n / 2 * (m / 2) + (n - n / 2) * (m - m / 2));
                due("EACH stays but for the last" + of, x.giving(0, 1, m - 1), 1);
                due("EACH does not stay without all" + of, x.giving(0, 1, m), 0);
                due("EACH is safe if nobody goes" + of, x.giving(0, 2, 0), 1);
                due("EACH is carried by one" + of, x.giving(0, 2, 1), 0);
                due("DARK stays if nobody goes" + of, x.giving(1, 1, 0), 1);
                due("DARK is safe but for all it needs" + of, x.giving(1, 2, Math.min(n, m) - 1), 1);
                due("DARK is carried by all it needs" + of, x.giving(1, 2, Math.min(n, m)), 0);
                due("PAIR without one" + of, x.giving(2, 1, 1), m > 1 ? 1 : 0);
                due("PAIR without two" + of, x.giving(2, 1, 2), 0);
                due("ROW without two" + of, x.giving(3, 1, 2), m > 2 ? 1 : 0);
                due("ROW without three" + of, x.giving(3, 1, 3), 0);
                due("a kind below" + of, x.giving(-1, 0, 0), -1);
                due("a kind above" + of, x.giving(5, 0, 0), -1);
            }
        }
    }

    private static void whoIsGiven() {
        sentence("0 EACH: all STEPS to all;");
        toEachPlace(0, (step, place, n, m) -> true);
        sentence("1 DARK under EACH: STEP s to the one s modulo m;");
        toEachPlace(1, (step, place, n, m) -> place == step % m);
        due("8 and 0 to the first of eight", givenTogether(1, 1 | 256), 1);
        due("7 and 8 to no one", givenTogether(1, 128 | 256), 0);
        due("9 and 1 to the second of eight", givenTogether(1, 2 | 512), 1);
        sentence("2 PAIR under DARK: and to the next one, too (s and 1, modulo m);");
        toEachPlace(2, (step, place, n, m) -> place == step % m || place == (step + 1) % m);
        due("7, 8 and 0 to the first of eight", givenTogether(2, 1 | 128 | 256), 1);
        due("6 and 8 to no one", givenTogether(2, 64 | 256), 0);
        due("1, 2 and 9 to the third of eight", givenTogether(2, 2 | 4 | 512), 1);
        sentence("3 ROW under PAIR: and to the one behind that, too;");
        toEachPlace(3, (step, place, n, m) -> place == step % m || place == (step + 1) % m
                || place == (step + 2) % m);
        due("6, 7, 8 and 0 to the first of eight", givenTogether(3, 1 | 64 | 128 | 256), 1);
        due("5 and 8 to no one", givenTogether(3, 32 | 256), 0);
        due("1, 2, 3 and 9 to the fourth of eight", givenTogether(3, 2 | 4 | 8 | 512), 1);
        sentence("4 HALF under EACH: STEPS below n by 2, cut, to those below m by 2, cut, the other STEPS to the"
                + " others.");
        toEachPlace(4, (step, place, n, m) -> step < n / 2 ? place < m / 2 : place >= m / 2);
        due("0 .. 4 to one of eight", givenTogether(4, 31), 1);
        due("5 .. 9 to one of eight", givenTogether(4, 992), 1);
        due("4 and 5 to no one", givenTogether(4, 16 | 32), 0);
        due("one step, one hand: none is below", room(1, 0).giving(4, 1, 0), 1);
        due("a step below, no hand below: it is told to nobody", room(2, 0).giving(4, 1, 0), 0);
    }

    private interface Rule {
        boolean gives(int step, int place, int n, int m);
    }

    private static void toEachPlace(int kind, Rule rule) {
        for (int n = 1; n <= 10; n++) {
            for (int m = 1; m <= 7; m++) {
                for (int place = 0; place < m; place++) {
                    for (int step = 0; step < n; step++) {
                        due("step " + step + " of " + n + " to " + place + " of " + m,
                                givenTo(kind, n, m, m, place, step), rule.gives(step, place, n, m) ? 1 : 0);
                    }
                }
            }
        }
    }

    /** Whether a kind gives a step to the one at a place: one who is over sees it, and lacks just that step. */
    private static int givenTo(int kind, int n, int m, int over, int place, int step) {
        StillRoom x = room(n);
        for (int hand = 0; hand <= m; hand++) {
            x.hand(hand == over ? all(n) - (1 << step) : all(n));
        }
        x.over(over, true);
        x.sight(over, place < over ? place : place + 1);
        return 1 - x.giving(kind, 2, 0);
    }

    /** Whether, by a kind of giving ten steps to eight, one alone has all of a set. */
    private static int givenTogether(int kind, int set) {
        StillRoom x = eight(10);
        for (int step = 0; step < 10; step++) {
            if ((set >> step & 1) == 0) {
                x.guess(set, step);
            }
        }
        return 1 - x.giving(kind, 2, 1);
    }

    private static void finest() {
        sentence("FINEST: the KIND by which all HOLDS with the fewest TELLINGS, of several the least.");
        due("EACH, of four with as many", room(3, 0).finest(0, 0), 0);
        StillRoom half = room(2, 0);
        half.guess(2, 0);
        due("HALF, with fewer", half.finest(0, 0), 4);
        due("DARK, as many as HALF", room(2, 0, 0).finest(0, 1), 1);
        due("PAIR, as many as ROW", room(2, 0, 0).finest(1, 0), 0);
        due("PAIR, of four hands", room(4, 0, 0, 0, 0).finest(1, 1), 2);
        due("ROW, of four hands", room(4, 0, 0, 0, 0).finest(2, 1), 3);
        due("EACH, of four hands", room(4, 0, 0, 0, 0).finest(3, 0), 0);
        due("none", room(4, 0, 0, 0, 0).finest(4, 0), -9);
        due("ROW, of eight hands", eight(10).finest(2, 0), 3);
        due("HALF, of eight hands", eight(10).finest(3, 0), 4);
        for (int g = 4; g < 8; g++) {
            due("EACH, of eight hands, with " + g, eight(10).finest(g, 0), 0);
        }
        due("none, of eight hands", eight(10).finest(8, 0), -9);
        StillRoom paper = eight(10);
        paper.paper(1023);
        due("with 8", paper.finest(8, 0), 1);
        due("with 8 and 8", paper.finest(8, 8), -9);
        due("above 8", paper.finest(9, 0), -6);
        due("above 8", paper.finest(0, 9), -6);
        due("below 0", paper.finest(-1, 0), -4);
        due("below 0", paper.finest(0, -1), -4);
    }

    // ---- Terms: a year

    private static void aYear() {
        sentence("A YEAR: each HAND of the HOUSE goes OVER by its CHANCE, apart from all others.");
        StillRoom x = room(1, 1, 1);
        due("5 at first", x.loses(), 25);
        x.chance(0, 0);
        due("one never goes", x.loses(), 0);
        x.chance(0, 100);
        due("one surely goes", x.loses(), 500);
        x.chance(1, 100);
        due("both surely go", x.loses(), 10000);
        x.over(0, true);
        due("one of the house", x.loses(), 100);
        x.chance(1, 0);
        due("nobody of the house", x.loses(), 0);
        sentence("both told times 100 to the number of HANDS in the HOUSE (whole numbers).");
        due("no hands: it is lost", room(1).loses(), 1);
        due("no hands: nobody carries it", room(1).carries(), 0);
        x.over(1, true);
        due("nobody in the house: lost", x.loses(), 1);
        due("nobody in the house: carried", x.carries(), 1);
        StillRoom y = room(1, 1, 1, 1, 1, 1, 1, 1, 1);
        long lost = 1;
        long not = 1;
        for (int hand = 0; hand < 8; hand++) {
            lost *= 5;
            not *= 95;
        }
        due("eight hands, all go", y.loses(), lost);
        due("eight hands, one goes", y.carries(), 10000000000000000L - not);
        for (int hand = 0; hand < 8; hand++) {
            y.chance(hand, 100);
        }
        due("eight hands, surely lost", y.loses(), 10000000000000000L);
        due("eight hands, surely carried", y.carries(), 10000000000000000L);
        y.chance(7, 1);
        due("eight hands, the last by 1", y.loses(), 100000000000000L);
        y.chance(7, 99);
        due("eight hands, the last by 99", y.loses(), 9900000000000000L);
    }

    // ---- Terms: years by seeds

    /** The seeds behind a seed, by numbers that have no ends, cut to an int's 32 bits. */
    private static int nextSeed(int z) {
        return BigInteger.valueOf(z).multiply(BigInteger.valueOf(1103515245L)).add(BigInteger.valueOf(12345))
                .intValue();
    }

    private static int drawn(int z) {
        long unsigned = z & 0xffffffffL;
        return (int) (unsigned % 2147483648L / 65536 % 100);
    }

    /** The first year in which one hand alone goes. */
    private static int yearOf(int z, int chance, int most) {
        int seed = z;
        for (int year = 1; year <= most; year++) {
            seed = nextSeed(seed);
            if (drawn(seed) < chance) {
                return year;
            }
        }
        return -9;
    }

    private static void years() {
        sentence("RUN of n years (1 .. 50) from a seed z (in mind)");
        StillRoom x = room(1, 1);
        x.chance(0, 100);
        due("run(1)", x.run(1, 7, 0), 1);
        due("run(50)", x.run(50, 7, 0), 1);
        due("run(0)", x.run(0, 7, 0), -4);
        due("run(51)", x.run(51, 7, 0), -6);
        due("in mind", x.count(2), 0);
        due("in mind: the same again", x.run(1, 7, 2), 1);
        x.chance(0, 2);
        int fiftieth = seedOf(50, 2);
        due("in the fiftieth", x.run(50, fiftieth, 0), 50);
        due("in the fiftieth, carried", x.run(50, fiftieth, 1), 50);
        due("in the fiftieth, one", x.run(50, fiftieth, 2), 1);
        due("not in 49", x.run(49, fiftieth, 0), -9);
        due("not in 49, carried", x.run(49, fiftieth, 1), -9);
        due("not in 49, nobody", x.run(49, fiftieth, 2), 0);
        int next = seedOf(51, 2);
        due("in the fifty-first", x.run(50, next, 0), -9);
        due("in the fifty-first, nobody", x.run(50, next, 2), 0);
        int first = seedOf(1, 2);
        due("in the first", x.run(1, first, 0), 1);
        due("what -1", x.run(1, first, -1), -2);
        due("what 3", x.run(1, first, 3), -2);
        seedsAtTheEnds();
        chancesAtTheEnds();
        howManyWent();
    }

    private static int seedOf(int year, int chance) {
        for (int z = 1; z < 100000; z++) {
            if (yearOf(z, chance, year) == year) {
                return z;
            }
        }
        due("a seed for the year " + year, 0, 1);
        return 0;
    }

    private static void seedsAtTheEnds() {
        sentence("z becomes z times 1103515245 and 12345 (an int);");
        int[] seeds = {0, 1, -1, 2, -2, MOST, MOST - 1, LEAST, LEAST + 1, 65535, 65536, -65536, 1 << 30, -1 << 30};
        for (int z : seeds) {
            for (int chance = 0; chance <= 100; chance += 4) {
                StillRoom x = room(1, 1);
                x.chance(0, chance);
                due("from " + z + " by " + chance, x.run(50, z, 0), yearOf(z, chance, 50));
            }
        }
    }

    private static void chancesAtTheEnds() {
        sentence("it goes OVER, if (z without its sign's bit by 65536, cut) modulo 100 is below its CHANCE.");
        for (int due = 0; due < 100; due++) {
            int plus = seedThatDraws(due, false);
            int minus = seedThatDraws(due, true);
            StillRoom x = room(1, 1);
            x.chance(0, due);
            due("as much is not below", x.run(1, plus, 2), 0);
            due("as much is not below, with a sign's bit", x.run(1, minus, 2), 0);
            x.chance(0, due + 1);
            due("just below", x.run(1, plus, 2), 1);
            due("just below, with a sign's bit", x.run(1, minus, 2), 1);
        }
    }

    /** A seed from which the next one draws just this, with a sign's bit or without. */
    private static int seedThatDraws(int due, boolean sign) {
        for (int z = 0; z < 100000; z++) {
            int seed = nextSeed(z);
            if (seed < 0 == sign && drawn(seed) == due) {
                return z;
            }
        }
        due("a seed that draws " + due, 0, 1);
        return 0;
    }

    private static void howManyWent() {
        sentence("The first year (1 ..) at whose end those in the HOUSE and PAPER do not know IT; those OVER know"
                + " IT; how many of the HOUSE went in all.");
        StillRoom nobody = room(1);
        due("nobody: lost in the first year", nobody.run(1, 5, 0), 1);
        due("nobody: carried by none", nobody.run(50, 5, 1), -9);
        due("nobody: none went", nobody.run(50, 5, 2), 0);
        nobody.paper(1);
        due("nobody: not lost", nobody.run(50, 5, 0), -9);
        StillRoom x = room(1, 1, 1, 1, 1, 1, 1, 1, 1);
        for (int hand = 0; hand < 8; hand++) {
            x.chance(hand, 100);
        }
        due("all eight went", x.run(1, 5, 2), 8);
        due("once each", x.run(50, 5, 2), 8);
        x.chance(7, 0);
        due("seven went", x.run(50, 5, 2), 7);
        due("one stays for good", x.run(50, 5, 0), -9);
        x.over(7, true);
        due("seven of the house went", x.run(50, 5, 2), 7);
        due("carried from the first year on", x.run(50, 5, 1), 1);
        due("lost at the end of the first", x.run(50, 5, 0), 1);
        x.paper(1);
        due("paper", x.run(50, 5, 0), -9);
        StillRoom never = room(1, 1);
        never.chance(0, 0);
        due("nobody ever goes", never.run(50, 5, 2), 0);
        due("nobody ever goes", never.run(50, 5, 1), -9);
    }

    // ---- Terms: a row

    private static void rows() {
        sentence("A ROW of HANDS who go one behind the other (in mind, from the HOUSE as it is): the first place"
                + " behind which IT is not known by who stays and PAPER (what 0), is known by those OVER (1), of one"
                + " that is not in the HOUSE then (2; from there on nothing is looked at).");
        StillRoom x = room(1, 1, 1, 1, 1, 1, 1, 1, 1);
        due("empty", x.judge(0), -9);
        due("empty", x.judge(1), -9);
        due("empty", x.judge(2), -9);
        due("lost at the last place", judged(x, 0, 7, 6, 5, 4, 3, 2, 1, 0), 7);
        due("not lost by seven", judged(x, 0, 7, 6, 5, 4, 3, 2, 1), -9);
        due("carried at the first place", judged(x, 1, 7, 6, 5, 4, 3, 2, 1, 0), 0);
        due("all were in the house", judged(x, 2, 7, 6, 5, 4, 3, 2, 1, 0), -9);
        due("one twice, at the last place", judged(x, 2, 7, 6, 5, 4, 3, 2, 1, 7), 7);
        due("one twice, at the second place", judged(x, 2, 7, 7, 5, 4), 1);
        due("in mind", x.count(2), 0);
        StillRoom y = room(8, 1, 2, 4, 8, 16, 32, 64, 128);
        due("lost at the first place", judged(y, 0, 7, 6, 5, 4, 3, 2, 1, 0), 0);
        due("carried at the last place", judged(y, 1, 7, 6, 5, 4, 3, 2, 1, 0), 7);
        due("not carried by seven", judged(y, 1, 7, 6, 5, 4, 3, 2, 1), -9);
        due("nothing is looked at from there on", judged(y, 0, 7, 7), 0);
        y.paper(255);
        due("paper", judged(y, 0, 7, 6, 5, 4, 3, 2, 1, 0), -9);
        StillRoom z = room(1, 1, 1);
        due("one that is none, at the first place", judged(z, 2, 2), 0);
        due("one that is none: no one is lost behind it", judged(z, 0, 0, 2, 1), -9);
        due("one that is none: nothing is carried behind it", judged(z, 1, 7, 0), -9);
        z.over(1, true);
        due("one that is over", judged(z, 2, 0, 1), 1);
        due("one that is over: carried is not looked at there", judged(z, 1, 1), -9);
        due("from the house as it is", judged(z, 0, 0), 0);
        z.tell(1, 0, false);
        due("carried by one behind one that is over: not looked at", judged(z, 1, 1, 0), -9);
        due("carried ahead of one that is over", judged(z, 1, 0, 1), 0);
        z.over(0, true);
        due("lost already, but not looked at", judged(z, 0, 0), -9);
    }

    // ---- Terms: a house as a text

    private static void texts() {
        sentence("A HOUSE is a TEXT (80 bytes at most): STATEMENTS, each with \";\" behind");
        StillRoom x = new StillRoom();
        due("empty", x.house(), 0);
        due("80 bytes", read(x, "p;".repeat(40)), 40);
        for (int i = 1; i <= 80; i++) {
            due("byte by byte", x.feed(1, i % 2 == 1 ? 'p' : ';'), i);
        }
        due("an 81st", x.feed(1, 'p'), -6);
        due("80 bytes, byte by byte", x.house(), 40);
        due("it has none then", x.count(7), 0);
        due("room again", x.feed(8, 0), 8);
        statements();
        digits();
        faults();
        sentence("What is whole ahead of a FAULT came, too.");
        StillRoom y = new StillRoom();
        due("a fault at the first", read(y, "xh;"), -20);
        due("nothing came", y.count(1), 0);
        due("a fault behind all kinds", read(y, "ha;hb;s01;t10;ga>b;pc;p"), -43);
        due("hands", y.count(1), 2);
        due("sights", y.count(3), 1);
        due("ties", y.count(4), 1);
        due("guesses", y.count(5), 1);
        due("the first paper alone", y.paper(0), 4);
        due("what is behind a fault did not come", read(y, "h;xh;"), -22);
        due("hands", y.count(1), 3);
    }

    /** Behind a beginning, which of all 256 bytes may stand, and which are a fault at their place. */
    private static void mayFollow(String ahead, String beginning, String signs) {
        for (int sign = 0; sign < 256; sign++) {
            StillRoom x = new StillRoom();
            read(x, ahead);
            int got = read(x, beginning + (char) sign);
            boolean stands = got >= 0 || got == -20 - beginning.length() - 1;
            boolean may = signs.indexOf(sign) >= 0;
            due("'" + beginning + "' and byte " + sign, stands ? 1 : 0, may ? 1 : 0);
            if (!may) {
                due("'" + beginning + "' and byte " + sign, got, -20 - beginning.length());
            }
        }
    }

    private static void statements() {
        sentence("\"h\" and STEPS (letters, rising; perhaps none): a HAND more that was TOLD these;");
        mayFollow("", "", "hstgp");
        mayFollow("", "h", "abcd;");
        mayFollow("", "ha", "bcd;");
        mayFollow("", "hc", "d;");
        mayFollow("", "hd", ";");
        mayFollow("", "h;", "hstgp");
        due("none", read(new StillRoom(), "h;"), 1);
        StillRoom ten = room(10);
        due("ten", read(ten, "habcdefghij;"), 1);
        due("told ten", ten.knows(0, 0), 1023);
        due("an eleventh", read(ten, "habcdefghijk;"), -31);
        sentence("\"s\" two digits: a SIGHT (who, whom); \"t\" two digits: a TIE;");
        String two = "ha;hb;";
        mayFollow(two, "s", "01");
        mayFollow(two, "s0", "1");
        mayFollow(two, "s01", ";");
        mayFollow(two, "t", "01");
        mayFollow(two, "t1", "0");
        mayFollow(two, "t10", ";");
        StillRoom sees = new StillRoom();
        read(sees, "ha;hb;s01;");
        due("who", sees.knows(0, 1), 3);
        due("whom", sees.knows(1, 1), 2);
        sentence("\"g\" STEPS (one at least, rising), \">\", a STEP (not one of them): a GUESS;");
        mayFollow("", "g", "abcd");
        mayFollow("", "gb", "cd>");
        mayFollow("", "gd", ">");
        mayFollow("", "gac>", "bd");
        mayFollow("", "gabcd>", "");
        mayFollow("", "gac>b", ";");
        due("nine", read(room(10), "gabcdefghi>j;"), 1);
        sentence("\"p\" STEPS (perhaps none): the PAPER.");
        mayFollow("", "p", "abcd;");
        mayFollow("", "pb", "cd;");
        StillRoom paper = new StillRoom();
        paper.paper(15);
        due("none", read(paper, "p;"), 1);
        due("none", paper.paper(0), 0);
        due("all", read(paper, "pabcd;"), 1);
        due("all", paper.paper(0), 15);
    }

    private static void digits() {
        sentence("Digits are HANDS that there are by then, unlike; letters STEPS that there are.");
        mayFollow("", "s", "");
        mayFollow("h;", "t", "0");
        mayFollow("h;", "t0", "");
        mayFollow("h;h;h;h;h;h;h;h;", "s", "01234567");
        mayFollow("h;h;h;h;h;h;h;h;", "s7", "0123456");
        due("by then", read(new StillRoom(), "h;h;s01;"), 3);
        due("not by then", read(new StillRoom(), "h;s01;h;"), -24);
        StillRoom one = room(1);
        due("the one letter", read(one, "ha;pa;"), 2);
        due("no other letter", read(one, "hb;"), -21);
        due("no guess from the one letter", read(one, "ga>b;"), -23);
    }

    private static void faults() {
        sentence("FAULT: the place of the first byte that can not stand (the end, if something lacks; of a statement"
                + " for which there is no room, of a SIGHT that there is, its letter).");
        for (int place = 0; place < 80; place++) {
            due("at " + place, read(new StillRoom(), wholeAhead(place) + "x"), -20 - place);
        }
        due("at 79, with all 80 bytes", read(new StillRoom(), "p;".repeat(39) + "px"), -99);
        String[] unfinished = {"h", "ha", "p", "pa", "s", "s0", "s01", "t", "t1", "t10", "g", "ga", "ga>", "ga>b"};
        for (String beginning : unfinished) {
            StillRoom y = room(4, 0, 0);
            due(beginning, read(y, beginning), -20 - beginning.length());
            String rest = beginning.length() % 2 == 0 ? "p;" : "pa;p;";
            String full = rest + "p;".repeat((80 - rest.length() - beginning.length()) / 2) + beginning;
            due("the end is at 80: " + beginning, read(y, full), -100);
        }
        noRoom();
    }

    /** So many bytes that can stand: papers of one letter, or of none. */
    private static String wholeAhead(int bytes) {
        if (bytes == 1) {
            return "p";
        }
        String odd = bytes % 2 == 0 ? "" : "pa;";
        return odd + "p;".repeat((bytes - odd.length()) / 2);
    }

    private static void noRoom() {
        StillRoom x = eight(4);
        due("a ninth hand", read(x, "ha;"), -20);
        due("a ninth hand, behind", read(x, "pa;h;"), -23);
        due("none came", x.count(1), 8);
        due("twelve sights", read(x, "s01;s02;s03;s04;s05;s06;s07;s10;s12;s13;s14;s15;"), 12);
        due("a thirteenth", read(x, "s16;"), -20);
        due("one that there is, and no room", read(x, "p;s01;"), -22);
        due("twelve ties", read(x, "t01;".repeat(12)), 12);
        due("a thirteenth", read(x, "p;p;t01;"), -24);
        due("twelve guesses", read(x, "ga>b;".repeat(12)), 12);
        due("a thirteenth", read(x, "pabcd;ga>b;"), -26);
        due("there is always room for a paper", read(x, "pd;".repeat(20)), 20);
        StillRoom y = eight(4);
        due("eight hands and eleven ties more", read(y, "t01;".repeat(11)), 11);
        due("the twelfth stands, the thirteenth not", read(y, "t01;t01;"), -24);
        due("the eleventh guess", read(y, "ga>b;".repeat(11)), 11);
        due("the twelfth stands, the thirteenth not", read(y, "ga>b;ga>b;"), -25);
        StillRoom seven = room(4, 0, 0, 0, 0, 0, 0, 0);
        due("the eighth stands, the ninth not", read(seven, "h;h;"), -22);
        StillRoom z = room(4, 0, 0);
        due("one that came by a text", read(z, "s01;s01;"), -24);
        due("the other way round", read(z, "s10;"), 1);
        z = room(4, 0, 0);
        z.sight(1, 0);
        due("one that came by a call", read(z, "s10;"), -20);
        due("a tie that there is", read(z, "t01;t01;t10;"), 3);
    }

    // ---- Terms: the image

    private static void images() {
        sentence("THE IMAGE: all that there is, but it, the TEXT, the ROW, REFUSALS.");
        StillRoom x = new StillRoom();
        due("none yet", x.restore(), -3);
        due("of nobody", x.image(), 0);
        fill(x);
        x.restore();
        empty(x);
        fill(x);
        due("of eight", x.image(), 8);
        x.steps(1);
        x.chance(7, 1);
        x.over(0, true);
        x.over(7, false);
        x.paper(1);
        x.feed(3, 0);
        x.put(1);
        x.put(-1);
        int rows = x.count(8);
        int below = x.count(14);
        int bytes = x.count(7);
        due("restored", x.restore(), 8);
        full(x);
        due("the row is not in it", x.count(8), rows);
        due("the text is not in it", x.count(7), bytes);
        due("the refusals are not in it", x.count(14), below);
        due("it is not in it: restored again", x.restore(), 8);
        full(x);
        StillRoom gone = room(1, 1);
        gone.image();
        gone.hand(0);
        gone.sight(1, 0);
        gone.over(1, true);
        due("one who is over sees it", gone.safe(0), 0);
        gone.restore();
        due("one who is none any more sees nothing", gone.safe(0), 1);
        due("one who is none any more carries nothing", gone.carriers(), 1);
        StillRoom z = room(4, 1);
        z.guess(8, 1);
        z.guess(1, 2);
        z.image();
        z.steps(3);
        due("a guess went", z.known(1, false), 5);
        z.restore();
        due("guesses as they were", z.known(1, false), 5);
        z.tell(0, 3, true);
        due("guesses as they were", z.known(1, false), 15);
        StillRoom y = room(10, 1023);
        y.image();
        y.steps(1);
        y.image();
        y.steps(10);
        due("the later one", y.restore(), 1);
        due("the later one", y.count(0), 1);
    }

    private static void fill(StillRoom x) {
        x.steps(10);
        for (int hand = 0; hand < 8; hand++) {
            x.hand(1 << hand);
        }
        for (int i = 0; i < 12; i++) {
            x.sight(i % 3, 3 + i / 3);
            x.tie(6, 7);
            x.guess(1 + i / 9, 1 + i % 9 + i / 9);
        }
        x.chance(7, 100);
        x.over(7, true);
        x.paper(768);
    }

    private static void empty(StillRoom x) {
        due("steps", x.count(0), 4);
        for (int what = 1; what <= 6; what++) {
            due("count(" + what + ")", x.count(what), 0);
        }
        due("paper", x.paper(0), 0);
    }

    private static void full(StillRoom x) {
        int[] counts = {10, 8, 128, 12, 12, 12, 8};
        for (int what = 0; what < counts.length; what++) {
            due("count(" + what + ")", x.count(what), counts[what]);
        }
        for (int hand = 0; hand < 8; hand++) {
            due("told", x.knows(hand, 0), 1 << hand);
        }
        due("sights", x.knows(2, 1), 4 + 8 + 16 + 32 + 64);
        due("ties", x.knows(6, 2), 64 + 128);
        due("guesses", x.knows(0, 3), 1023);
        due("paper", x.known(0, true), 768);
        due("a chance", x.chance(7, 100), 100);
        due("a chance", x.chance(0, 5), 5);
    }

    // ---- the promises' own words

    private static void promises() {
        sentence("n (1 .. 8) bytes come to the TEXT, the lowest first: how many it has. -4; -6 (above 80, too).");
        StillRoom x = new StillRoom();
        due("0", x.feed(0, 0), -4);
        due("1", x.feed(1, -1L << 8 | 'h'), 1);
        due("9", x.feed(9, 0), -6);
        due("the lowest first", x.feed(7, 0x003b703b703b703bL), 8);
        due("none of the bytes above n", x.house(), 4);
        due("8, the lowest first", x.feed(8, 0x703b703b703b703bL), 8);
        due("the first of eight", x.house(), -20);
        due("8, with a sign's bit at the end", x.feed(8, 0x80703b703b703b70L), 8);
        due("the last of eight", x.house(), -27);
        sentence("The TEXT, which has none then, is read: how many STATEMENTS came; or, if it has a FAULT, -20 less"
                + " its place (nothing is counted).");
        StillRoom y = new StillRoom();
        due("none", y.house(), 0);
        due("a fault at 0", read(y, "x"), -20);
        due("it has none then", y.count(7), 0);
        due("none again", y.house(), 0);
        for (int what = 11; what <= 16; what++) {
            due("nothing is counted", y.count(what), 0);
        }
        forgotten();
        sets();
        asked();
        makingAHouse();
        numbersOfHands();
        theFewest();
        imagesAndYears();
    }

    private static void makingAHouse() {
        sentence("`StillRoom()`: No HANDS.");
        StillRoom x = new StillRoom();
        due("no hands", x.count(1), 0);
        due("hand 0", x.knows(0, 0), -1);
        due("a set of hands", x.known(1, false), -1);
        due("the empty set", x.known(0, false), 0);
        sentence("How many STEPS there are: how many there were;");
        due("4", x.steps(10), 4);
        due("10", x.steps(1), 10);
        due("1", x.steps(1), 1);
        sentence("CHANCE: what it was. -1; -4; -6.");
        due("nobody's", x.chance(0, 5), -1);
        x.hand(0);
        due("0", x.chance(0, 0), 5);
        due("below", x.chance(0, -1), -4);
        due("100", x.chance(0, 100), 0);
        due("above", x.chance(0, 101), -6);
        due("100 it was", x.chance(0, 100), 100);
        pairs();
    }

    private static void pairs() {
        sentence("A SIGHT: its number. -1 (one twice, too); -3 there is one like it; -6.");
        StillRoom x = eight(4);
        due("of itself", x.sight(0, 0), -1);
        due("of none", x.sight(7, 8), -1);
        due("the first", x.sight(7, 0), 0);
        due("one like it", x.sight(7, 0), -3);
        for (int number = 1; number < 12; number++) {
            due("its number", x.sight(number % 4, 4 + number / 4), number);
        }
        due("one like it, and no room", x.sight(7, 0), -3);
        due("no room", x.sight(0, 7), -6);
        due("of itself, and no room", x.sight(0, 0), -1);
        sentence("A TIE: how many. -1 (one twice, too); -6.");
        due("to itself", x.tie(7, 7), -1);
        due("to none", x.tie(8, 7), -1);
        for (int many = 1; many <= 12; many++) {
            due("how many", x.tie(7, 0), many);
        }
        due("no room", x.tie(7, 0), -6);
        due("to itself, and no room", x.tie(7, 7), -1);
        sentence("A GUESS: how many. -1 (an empty set, one that has the STEP, too); -6.");
        due("an empty set", x.guess(0, 3), -1);
        due("one that has the step", x.guess(15, 3), -1);
        due("of no step", x.guess(7, 4), -1);
        due("from no step", x.guess(16, 3), -1);
        for (int many = 1; many <= 12; many++) {
            due("how many", x.guess(7, 3), many);
        }
        due("no room", x.guess(7, 3), -6);
        due("an empty set, and no room", x.guess(0, 3), -1);
        sentence("PAPER: what it was. -1.");
        due("none", x.paper(15), 0);
        due("above all", x.paper(16), -1);
        due("below none", x.paper(-1), -1);
        due("all", x.paper(0), 15);
    }

    private static void numbersOfHands() {
        StillRoom x = room(1, 1, 0);
        sentence("STAYS: 1, 0. -4; -6 (g 0 .. 8).");
        due("-1", x.stays(-1), -4);
        due("0", x.stays(0), 1);
        due("8", x.stays(8), 0);
        due("9", x.stays(9), -6);
        sentence("SAFE: 1, 0. -4; -6 (j 0 .. 8).");
        due("-1", x.safe(-1), -4);
        due("0", x.safe(0), 1);
        due("8", x.safe(8), 0);
        due("9", x.safe(9), -6);
        sentence("MONDAY; -9 none. -1; -3 it is OVER; -4; -6 (g, j 0 .. 8).");
        due("hand -1", x.monday(-1, 0, 0), -1);
        due("hand 2", x.monday(2, 0, 0), -1);
        due("0 and 0", x.monday(1, 0, 0), 0);
        due("8 and 0", x.monday(1, 8, 0), -9);
        due("0 and 8", x.monday(1, 0, 8), -9);
        due("9 and 0", x.monday(1, 9, 0), -6);
        due("0 and 9", x.monday(1, 0, 9), -6);
        due("-1 and 0", x.monday(1, -1, 0), -4);
        due("0 and -1", x.monday(1, 0, -1), -4);
        x.over(1, true);
        due("it is over", x.monday(1, 0, 0), -3);
        sentence("MEND: how many TELLINGS (i -1; -9 no two are enough), the i-th; -9 none such. -4 (g, j; i below"
                + " -1); -6 (g, j).");
        due("8 and 0", x.mend(8, 0, -1), -9);
        due("0 and 8", x.mend(0, 8, -1), -9);
        due("9 and 0", x.mend(9, 0, -1), -6);
        due("0 and 9", x.mend(0, 9, -1), -6);
        due("-1 and 0", x.mend(-1, 0, -1), -4);
        due("0 and -1", x.mend(0, -1, -1), -4);
        due("i -1", x.mend(0, 0, -1), 0);
        due("i -2", x.mend(0, 0, -2), -4);
        due("i 0 of none", x.mend(0, 0, 0), -9);
    }

    private static void theFewest() {
        StillRoom x = room(1, 1);
        StillRoom nobody = room(1);
        sentence("LOSERS; -9 none.");
        due("one", x.losers(), 1);
        x.paper(1);
        due("none", x.losers(), -9);
        due("the empty set is one", nobody.losers(), 0);
        sentence("CARRIERS; -9 none.");
        due("one", x.carriers(), 1);
        due("none", nobody.carriers(), -9);
        sentence("KEYS (bits).");
        due("none", x.keys(), 0);
        due("nobody", nobody.keys(), 0);
        sentence("WALLS; -9 none. -4; -6.");
        due("8", nobody.walls(8), 0);
        due("none", x.walls(1), -9);
        due("-1", x.walls(-1), -4);
        due("9", x.walls(9), -6);
        sentence("BANK. -4; -6.");
        due("0", x.bank(0), 0);
        due("8", x.bank(8), 1);
        due("-1", x.bank(-1), -4);
        due("9", x.bank(9), -6);
        sentence("By GIVINGS of a KIND: how many TELLINGS (what 0), whether it STAYS with n (1), is SAFE with n (2)."
                + " -1; -2; -4; -6 (n 0 .. 8); -3 nobody is in the HOUSE.");
        StillRoom two = room(1, 0, 0);
        due("kind -1", two.giving(-1, 0, 0), -1);
        due("kind 5", two.giving(5, 0, 0), -1);
        due("what -1", two.giving(0, -1, 0), -2);
        due("what 3", two.giving(0, 3, 0), -2);
        due("n -1", two.giving(0, 1, -1), -4);
        due("n 9", two.giving(0, 1, 9), -6);
        due("n 0", two.giving(0, 1, 0), 1);
        due("n 8", two.giving(0, 1, 8), 0);
        due("n 0", two.giving(4, 2, 0), 1);
        due("n 8", two.giving(4, 2, 8), 0);
        due("nobody", nobody.giving(0, 0, 0), -3);
        sentence("FINEST; -9 none. -4; -6; -3 nobody is in the HOUSE.");
        due("none", two.finest(8, 8), -9);
        due("0 and 0", two.finest(0, 0), 1);
        due("nobody", nobody.finest(0, 0), -3);
    }

    private static void imagesAndYears() {
        sentence("THE IMAGE is taken: how many HANDS.");
        due("of nobody", new StillRoom().image(), 0);
        due("of one", room(4, 0).image(), 1);
        due("of eight", eight(4).image(), 8);
        sentence("It is RESTORED: how many HANDS. -3 there is none.");
        StillRoom x = new StillRoom();
        due("there is none", x.restore(), -3);
        x.image();
        due("none", x.restore(), 0);
        for (int hand = 0; hand < 8; hand++) {
            x.hand(1);
        }
        due("none still", x.restore(), 0);
        due("hands go", x.count(1), 0);
        for (int hand = 0; hand < 8; hand++) {
            due("room again", x.hand(1), hand);
        }
        x.image();
        due("eight", x.restore(), 8);
        sentence("`long loses()`: LOSES.");
        due("all of the steps lack", x.loses(), 10000000000000000L);
        sentence("`long carries()`: CARRIES.");
        due("none carries it", x.carries(), 0);
        sentence("RUN: the first year LOST (what 0), CARRIED (1), how many went (2); -9 none. -2; -4; -6.");
        due("what -1", x.run(1, 0, -1), -2);
        due("what 3", x.run(1, 0, 3), -2);
        due("0 years", x.run(0, 0, 2), -4);
        due("51 years", x.run(51, 0, 2), -6);
        due("lost", x.run(50, 0, 0), 1);
        due("carried by none", x.run(50, 0, 1), -9);
    }

    private static void forgotten() {
        sentence("STEPS that are none any more are forgotten by all, GUESSES and PAPER (a GUESS of such a STEP, or"
                + " from one, goes).");
        StillRoom x = room(10, 1023, 512, 511);
        x.guess(1, 9);
        x.guess(512, 0);
        x.guess(257, 1);
        x.guess(769, 1);
        x.guess(1, 8);
        x.paper(513);
        due("as many as there were", x.steps(10), 10);
        due("nothing goes", x.count(5), 5);
        due("one less", x.steps(9), 10);
        due("forgotten by one", x.knows(0, 0), 511);
        due("forgotten by all", x.knows(1, 0), 0);
        due("what is left", x.knows(2, 0), 511);
        due("guesses of it and from it", x.count(5), 2);
        due("paper", x.paper(1), 1);
        due("one more again", x.steps(10), 9);
        due("for good", x.knows(1, 0), 0);
        due("for good", x.count(5), 2);
        due("guesses that stay", x.known(0, true), 1 + 256 + 2);
        due("one step", x.steps(1), 10);
        due("one step", x.count(6), 2);
        due("no guess can be", x.count(5), 0);
    }

    private static void sets() {
        sentence("A HAND that was TOLD a set: its number. -1; -6.");
        for (int n = 1; n <= 10; n++) {
            StillRoom x = room(n);
            due("all", x.hand(all(n)), 0);
            due("one above all", x.hand(all(n) + 1), -1);
            due("below none", x.hand(-1), -1);
            due("paper of all", x.paper(all(n)), 0);
            due("paper of one above all", x.paper(all(n) + 1), -1);
            due("paper below none", x.paper(-1), -1);
            due("paper of the least", x.paper(LEAST), -1);
            due("paper", x.paper(0), all(n));
        }
        sentence("KNOWN by a set of HANDS (bits), with PAPER if told. -1.");
        StillRoom y = room(2);
        y.paper(2);
        for (int hands = 0; hands <= 8; hands++) {
            due("none of " + hands, y.known(0, false), 0);
            due("none of " + hands + ", with paper", y.known(0, true), 2);
            due("all of " + hands, y.known(all(hands), false), hands == 0 ? 0 : 1);
            due("one above " + hands, y.known(1 << hands, true), -1);
            due("the highest bit", y.known(LEAST, false), -1);
            y.hand(1);
        }
        StillRoom both = room(2, 3);
        both.paper(3);
        due("paper that one was told, too", both.known(1, true), 3);
        sentence("A HAND is TOLD a STEP, or has it forgotten: 1; 0 it was so. -1.");
        StillRoom z = room(10, 0);
        due("it was so", z.tell(0, 9, false), 0);
        due("told", z.tell(0, 9, true), 1);
        due("it was so", z.tell(0, 9, true), 0);
        due("forgotten", z.tell(0, 9, false), 1);
        due("no step", z.tell(0, 10, false), -1);
        sentence("A HAND is OVER, or in the HOUSE again: 1; 0 it was so. -1.");
        due("it was so", z.over(0, false), 0);
        due("over", z.over(0, true), 1);
        due("it was so", z.over(0, true), 0);
        due("again", z.over(0, false), 1);
        due("no hand", z.over(1, true), -1);
    }

    private static void asked() {
        sentence("What a HAND was TOLD (what 0), knows by sight, too (1), by TIES, too (2), can guess, too (3)."
                + " -1; -2.");
        StillRoom x = room(4, 1, 2, 4);
        x.sight(0, 1);
        x.tie(0, 2);
        x.guess(7, 3);
        due("what -1", x.knows(0, -1), -2);
        due("what 0", x.knows(0, 0), 1);
        due("what 1", x.knows(0, 1), 3);
        due("what 2", x.knows(0, 2), 7);
        due("what 3", x.knows(0, 3), 15);
        due("what 4", x.knows(0, 4), -2);
        sentence("A HAND more of the ROW: how many. -4; -6 (7; 8, too).");
        StillRoom y = new StillRoom();
        due("-1", y.put(-1), -4);
        due("0", y.put(0), 1);
        due("7", y.put(7), 2);
        due("8", y.put(8), -6);
        for (int many = 3; many <= 8; many++) {
            due("more", y.put(0), many);
        }
        due("a ninth", y.put(0), -6);
        sentence("The ROW, which has none then: the place (what 0, 1, 2); -9 none. -2 (it stays).");
        due("what -1", y.judge(-1), -2);
        due("what 3", y.judge(3), -2);
        due("it stays", y.count(8), 8);
        due("what 2", y.judge(2), 0);
        due("it has none then", y.count(8), 0);
        due("room again", y.put(0), 1);
        sentence("0 STEPS, 1 HANDS, 2 HANDS OVER (bits), 3 SIGHTS, 4 TIES, 5 GUESSES, 6 STEPS TOLD (over all HANDS),"
                + " 7 bytes of the TEXT, 8 HANDS of the ROW, 11 .. 16 REFUSALS -1 .. -6. -9 for another what.");
        StillRoom most = room(10, 1023, 1023, 1023, 1023, 1023, 1023, 1023, 1023);
        due("80 told", most.count(6), 80);
        for (int what : new int[] {LEAST, -1, 9, 10, 17, 18, MOST}) {
            due("count(" + what + ")", most.count(what), -9);
        }
        for (int what : new int[] {2, 3, 4, 5, 7, 8, 11, 12, 13, 14, 15, 16}) {
            due("count(" + what + ")", most.count(what), 0);
        }
    }
}
