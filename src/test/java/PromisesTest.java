// For each promise of the document: ordinary inputs, the edges that it names, wrong inputs.
// What is due was worked out by hand from the document.
public final class PromisesTest {
    private static int wrong = 0;

    private static void due(int promise, String call, long got, long want) {
        if (got != want) {
            wrong++;
            System.out.println("promise " + promise + ": " + call + " answered " + got + ", due is " + want);
        }
    }

    private static void text(StillRoom x, String text) {
        for (int i = 0; i < text.length(); i += 8) {
            String part = text.substring(i, Math.min(i + 8, text.length()));
            long bytes = 0;
            for (int k = part.length() - 1; k >= 0; k--) {
                bytes = bytes << 8 | part.charAt(k) & 255;
            }
            due(2, "feed of " + part, x.feed(part.length(), bytes), i + part.length());
        }
    }

    private static int read(StillRoom x, String text) {
        text(x, text);
        return x.house();
    }

    private static StillRoom room(String text) {
        StillRoom x = new StillRoom();
        int came = read(x, text);
        if (came < 0) {
            due(3, "house of " + text, came, 0);
        }
        return x;
    }

    private static StillRoom roomOf(int steps, int... told) {
        StillRoom x = new StillRoom();
        x.steps(steps);
        for (int set : told) {
            x.hand(set);
        }
        return x;
    }

    public static void main(String[] args) {
        aNewObject();
        feed();
        houseWhole();
        houseFaults();
        houseEnds();
        houseRoom();
        steps();
        hand();
        tell();
        chance();
        over();
        sight();
        tie();
        guess();
        paper();
        knows();
        known();
        stays();
        safe();
        losers();
        carriers();
        keys();
        monday();
        mend();
        walls();
        bank();
        giving();
        finest();
        loses();
        carries();
        run();
        put();
        judge();
        imageAndRestore();
        count();
        System.out.println(wrong == 0 ? "all promises stand" : wrong + " answers are not as due");
        if (wrong != 0) {
            System.exit(1);
        }
    }

    private static void aNewObject() {
        StillRoom x = new StillRoom();
        due(1, "count(0)", x.count(0), 4);
        for (int what = 1; what <= 8; what++) {
            due(1, "count(" + what + ")", x.count(what), 0);
        }
        for (int what = 11; what <= 16; what++) {
            due(1, "count(" + what + ")", x.count(what), 0);
        }
        due(1, "paper(0)", x.paper(0), 0);
        due(1, "house()", x.house(), 0);
        due(1, "restore()", x.restore(), -3);
        due(1, "judge(0)", x.judge(0), -9);
        due(1, "known(0, false)", x.known(0, false), 0);
    }

    private static void feed() {
        StillRoom x = new StillRoom();
        due(2, "feed(0)", x.feed(0, 1), -4);
        due(2, "feed(least)", x.feed(Integer.MIN_VALUE, 1), -4);
        due(2, "feed(9)", x.feed(9, 1), -6);
        due(2, "feed(greatest)", x.feed(Integer.MAX_VALUE, 1), -6);
        due(2, "count(7)", x.count(7), 0);
        due(2, "lowest first, the rest unread", x.feed(2, 0x7878787878783b68L), 2);
        due(2, "house()", x.house(), 1);
        due(2, "a sign's bit", x.feed(8, -1L), 8);
        due(2, "house()", x.house(), -20);
        for (int i = 1; i <= 9; i++) {
            due(2, "feed(8)", x.feed(8, 0), 8 * i);
        }
        due(2, "feed(4)", x.feed(4, 0), 76);
        due(2, "feed(5)", x.feed(5, 0), -6);
        due(2, "feed(4)", x.feed(4, 0), 80);
        due(2, "feed(1)", x.feed(1, 0), -6);
        due(2, "feed(0) when full", x.feed(0, 0), -4);
        due(2, "count(7)", x.count(7), 80);
        due(2, "count(14)", x.count(14), 3);
        due(2, "count(16)", x.count(16), 4);
    }

    private static void houseWhole() {
        StillRoom x = new StillRoom();
        due(3, "all kinds", read(x, "habd;h;s01;s10;t01;gab>c;pbd;"), 7);
        due(3, "count(7)", x.count(7), 0);
        due(3, "told", x.knows(0, 0), 11);
        due(3, "told", x.knows(1, 0), 0);
        due(3, "sight", x.knows(1, 1), 11);
        due(3, "guess", x.knows(1, 3), 15);
        due(3, "chance", x.chance(1, 7), 5);
        due(3, "over", x.count(2), 0);
        due(3, "paper", x.paper(1), 10);
        due(3, "an empty paper", read(x, "p;"), 1);
        due(3, "paper", x.paper(0), 0);
        due(3, "a later paper", read(x, "pa;pb;"), 2);
        due(3, "paper", x.paper(0), 2);
        due(3, "like ties", read(x, "t01;t10;t01;"), 3);
        due(3, "count(4)", x.count(4), 4);
        due(3, "like guesses", read(x, "ga>b;ga>b;"), 2);
        due(3, "count(5)", x.count(5), 3);
        StillRoom ten = new StillRoom();
        ten.steps(10);
        due(3, "ten letters", read(ten, "habcdefghij;gabcdefghi>j;"), 2);
        due(3, "told", ten.knows(0, 0), 1023);
        StillRoom longest = new StillRoom();
        due(3, "80 bytes", read(longest, "h;".repeat(8) + "t01;".repeat(12) + "ga>b;p;p;pabc;p;"),
                8 + 12 + 5);
    }

    private static void fault(String ahead, String text, int place) {
        StillRoom x = room(ahead);
        due(3, "house of " + text, read(x, text), -20 - place);
        due(3, "count(7) behind " + text, x.count(7), 0);
        for (int what = 11; what <= 16; what++) {
            due(3, "no refusal by " + text, x.count(what), 0);
        }
    }

    private static void houseFaults() {
        fault("", ";", 0);
        fault("", "x;", 0);
        fault("", "H;", 0);
        fault("", " h;", 0);
        fault("", "\u00e8;", 0);
        fault("", "h", 1);
        fault("", "hab", 3);
        fault("", "h;;", 2);
        fault("", "haa;", 2);
        fault("", "hba;", 2);
        fault("", "hae;", 2);
        fault("", "hA;", 1);
        fault("", "h1;", 1);
        fault("", "ha,", 2);
        fault("", "s01;", 1);
        fault("h;", "s01;", 2);
        fault("h;", "h;s02;", 4);
        fault("", "h;s01;h;", 4);
        fault("h;h;", "s", 1);
        fault("h;h;", "s0", 2);
        fault("h;h;", "s01", 3);
        fault("h;h;", "s011;", 3);
        fault("h;h;", "s11;", 2);
        fault("h;h;", "s0;", 2);
        fault("h;h;", "s;", 1);
        fault("h;h;", "s-1;", 1);
        fault("h;h;", "s01;s01;", 4);
        fault("h;h;", "t00;", 2);
        fault("h;h;", "t2", 1);
        fault("h;h;", "t0", 2);
        fault("h;h;", "t01", 3);
        fault("", "g", 1);
        fault("", "g>", 1);
        fault("", "g;", 1);
        fault("", "ga", 2);
        fault("", "ga;", 2);
        fault("", "ga>", 3);
        fault("", "ga>;", 3);
        fault("", "ga>a;", 3);
        fault("", "gac>c;", 4);
        fault("", "ga>e;", 3);
        fault("", "ga>b", 4);
        fault("", "ga>bc;", 4);
        fault("", "gba>c;", 2);
        fault("", "ge>a;", 1);
        fault("", "p", 1);
        fault("", "pe;", 1);
        fault("", "pba;", 2);
        fault("", "pa", 2);
        StillRoom x = new StillRoom();
        due(3, "what is whole came", read(x, "ha;hb;s01;pa;hc"), -35);
        due(3, "count(1)", x.count(1), 2);
        due(3, "count(3)", x.count(3), 1);
        due(3, "paper", x.paper(0), 1);
    }

    /** Where the text ends, nothing of an earlier, longer one is read, and nothing behind 80 bytes. */
    private static void houseEnds() {
        String[] earlier = {"hab;", "s01;", "t01;", "ga>b;", "ga>b;", "pa;", "pa;"};
        String[] later = {"ha", "s0", "t0", "ga>", "ga>b", "p", "pa"};
        for (int i = 0; i < later.length; i++) {
            StillRoom x = room("h;h;");
            due(3, earlier[i], read(x, earlier[i]), 1);
            due(3, later[i] + " behind " + earlier[i], read(x, later[i]), -20 - later[i].length());
        }
        String[] last = {"ha", "s0", "t0", "pd"};
        for (String two : last) {
            due(3, "80 bytes with " + two, read(room("h;h;"), "p;".repeat(39) + two), -100);
        }
        due(3, "80 bytes with ga>", read(room("h;h;"), "pa;" + "p;".repeat(37) + "ga>"), -100);
    }

    private static void houseRoom() {
        StillRoom x = room("h;h;h;h;h;h;h;");
        due(3, "the ninth hand", read(x, "ha;pa;h;"), -26);
        due(3, "count(1)", x.count(1), 8);
        due(3, "twelve ties", read(x, "t01;t12;t23;t34;t45;t56;t67;t70;t01;t12;t23;t34;"), 12);
        due(3, "a tie more", read(x, "p;t01;"), -22);
        due(3, "twelve guesses", read(x, "ga>b;gb>a;".repeat(6)), 12);
        due(3, "a guess more", read(x, "ga>b;"), -20);
        due(3, "twelve sights", read(x, "s01;s02;s03;s04;s05;s06;s07;s10;s12;s13;s14;s15;"), 12);
        due(3, "a sight more", read(x, "p;p;s16;"), -24);
        due(3, "count(3)", x.count(3), 12);
        due(3, "count(4)", x.count(4), 12);
        due(3, "count(5)", x.count(5), 12);
        due(3, "the letter is the first that can not stand", read(x, "p;hx"), -22);
        due(3, "the letter of a sight that there is", read(room("h;h;s01;"), "s01"), -20);
    }

    private static void steps() {
        StillRoom x = room("hd;hab;ga>d;gd>a;gab>c;gb>a;pbd;");
        due(4, "steps(0)", x.steps(0), -4);
        due(4, "steps(least)", x.steps(Integer.MIN_VALUE), -4);
        due(4, "steps(11)", x.steps(11), -6);
        due(4, "count(0)", x.count(0), 4);
        x.image();
        due(4, "steps(3)", x.steps(3), 4);
        due(4, "knows(0, 0)", x.knows(0, 0), 0);
        due(4, "knows(1, 0)", x.knows(1, 0), 3);
        due(4, "count(5)", x.count(5), 2);
        due(4, "guesses that stay", x.known(2, false), 7);
        due(4, "steps(10)", x.steps(10), 3);
        due(4, "paper", x.paper(0), 2);
        due(4, "forgotten for good", x.knows(0, 0), 0);
        due(4, "steps(1)", x.steps(1), 10);
        due(4, "count(5)", x.count(5), 0);
        due(4, "count(6)", x.count(6), 1);
        due(4, "tell(0, 1)", x.tell(0, 1, true), -1);
        due(4, "restore()", x.restore(), 2);
        due(4, "the image has its own", x.count(0), 4);
        due(4, "count(5)", x.count(5), 4);
        due(4, "steps(4)", x.steps(4), 4);
    }

    private static void hand() {
        StillRoom x = new StillRoom();
        due(5, "hand(16)", x.hand(16), -1);
        due(5, "hand(-1)", x.hand(-1), -1);
        due(5, "hand(least)", x.hand(Integer.MIN_VALUE), -1);
        for (int i = 0; i < 8; i++) {
            due(5, "hand", x.hand(i), i);
        }
        due(5, "hand(16) when full", x.hand(16), -1);
        due(5, "hand(0) when full", x.hand(0), -6);
        due(5, "count(1)", x.count(1), 8);
        due(5, "knows(7, 0)", x.knows(7, 0), 7);
        due(5, "chance(7, 1)", x.chance(7, 1), 5);
        due(5, "count(2)", x.count(2), 0);
        due(5, "count(11)", x.count(11), 4);
        due(5, "count(16)", x.count(16), 1);
    }

    private static void tell() {
        StillRoom x = room("ha;");
        due(6, "tell", x.tell(0, 0, true), 0);
        due(6, "tell", x.tell(0, 3, true), 1);
        due(6, "told", x.knows(0, 0), 9);
        due(6, "forget", x.tell(0, 0, false), 1);
        due(6, "forget", x.tell(0, 0, false), 0);
        due(6, "told", x.knows(0, 0), 8);
        due(6, "no step", x.tell(0, 4, false), -1);
        due(6, "no step", x.tell(0, -1, true), -1);
        due(6, "no hand", x.tell(1, 0, true), -1);
        due(6, "no hand", x.tell(-1, 0, true), -1);
        due(6, "count(11)", x.count(11), 4);
    }

    private static void chance() {
        StillRoom x = room("h;");
        due(7, "chance(0, 0)", x.chance(0, 0), 5);
        due(7, "chance(0, 100)", x.chance(0, 100), 0);
        due(7, "chance(0, 101)", x.chance(0, 101), -6);
        due(7, "chance(0, -1)", x.chance(0, -1), -4);
        due(7, "chance(1, -1)", x.chance(1, -1), -1);
        due(7, "chance(-1, 101)", x.chance(-1, 101), -1);
        due(7, "chance(0, 1)", x.chance(0, 1), 100);
    }

    private static void over() {
        StillRoom x = room("habcd;h;");
        due(8, "over(0, false)", x.over(0, false), 0);
        due(8, "over(0, true)", x.over(0, true), 1);
        due(8, "over(0, true)", x.over(0, true), 0);
        due(8, "count(2)", x.count(2), 1);
        due(8, "stays(0)", x.stays(0), 0);
        due(8, "over(0, false)", x.over(0, false), 1);
        due(8, "stays(0)", x.stays(0), 1);
        due(8, "over(2, true)", x.over(2, true), -1);
        due(8, "over(-1, true)", x.over(-1, true), -1);
        due(8, "count(2)", x.count(2), 0);
    }

    private static void sight() {
        StillRoom x = room("h;h;h;h;h;");
        due(9, "sight(0, 1)", x.sight(0, 1), 0);
        due(9, "sight(1, 0)", x.sight(1, 0), 1);
        due(9, "sight(0, 1)", x.sight(0, 1), -3);
        due(9, "sight(0, 0)", x.sight(0, 0), -1);
        due(9, "sight(5, 0)", x.sight(5, 0), -1);
        due(9, "sight(0, 5)", x.sight(0, 5), -1);
        due(9, "sight(-1, 0)", x.sight(-1, 0), -1);
        due(9, "sight(0, -1)", x.sight(0, -1), -1);
        int number = 2;
        for (int who = 0; who < 4; who++) {
            for (int whom = 2; whom < 5 && number < 12; whom++) {
                if (who != whom) {
                    due(9, "sight", x.sight(who, whom), number);
                    number++;
                }
            }
        }
        due(9, "count(3)", x.count(3), 12);
        due(9, "one that there is, when full", x.sight(0, 1), -3);
        due(9, "one more", x.sight(4, 0), -6);
        due(9, "no hand, when full", x.sight(4, 4), -1);
    }

    private static void tie() {
        StillRoom x = room("h;h;");
        due(10, "tie(0, 0)", x.tie(0, 0), -1);
        due(10, "tie(0, 2)", x.tie(0, 2), -1);
        due(10, "tie(2, 0)", x.tie(2, 0), -1);
        due(10, "tie(-1, 0)", x.tie(-1, 0), -1);
        due(10, "tie(0, -1)", x.tie(0, -1), -1);
        for (int i = 1; i <= 12; i++) {
            due(10, "like ties", x.tie(0, 1), i);
        }
        due(10, "one more", x.tie(1, 0), -6);
        due(10, "no hand, when full", x.tie(1, 1), -1);
        due(10, "count(4)", x.count(4), 12);
    }

    private static void guess() {
        StillRoom x = new StillRoom();
        due(11, "an empty set", x.guess(0, 1), -1);
        due(11, "one that has it", x.guess(3, 1), -1);
        due(11, "no such set", x.guess(16, 1), -1);
        due(11, "no such set", x.guess(-16, 1), -1);
        due(11, "no such step", x.guess(1, 4), -1);
        due(11, "no such step", x.guess(1, -1), -1);
        due(11, "no such step", x.guess(1, 32), -1);
        for (int i = 1; i <= 12; i++) {
            due(11, "like guesses", x.guess(13, 1), i);
        }
        due(11, "one more", x.guess(1, 1), -6);
        due(11, "one that has it, when full", x.guess(1, 0), -1);
        due(11, "count(5)", x.count(5), 12);
    }

    private static void paper() {
        StillRoom x = room("hab;");
        due(12, "paper(12)", x.paper(12), 0);
        due(12, "paper(16)", x.paper(16), -1);
        due(12, "paper(-1)", x.paper(-1), -1);
        due(12, "who stays knows it", x.stays(0), 1);
        due(12, "those over do not", x.safe(1), 1);
        due(12, "paper(0)", x.paper(0), 12);
        due(12, "stays(0)", x.stays(0), 0);
    }

    private static void knows() {
        // 0 sees 1, 1 sees 2, 2 is tied to 3, 3 to 4; 5 is alone
        StillRoom x = room("ha;hb;hc;h;h;h;s01;s12;t23;t34;gc>d;gbd>a;");
        due(13, "told", x.knows(0, 0), 1);
        due(13, "sight is of what was told alone", x.knows(0, 1), 3);
        due(13, "sight has a direction", x.knows(1, 1), 6);
        due(13, "seen ones do not see", x.knows(2, 1), 4);
        due(13, "ties by any number", x.knows(4, 2), 4);
        due(13, "not by ties", x.knows(4, 1), 0);
        due(13, "a guess", x.knows(4, 3), 12);
        due(13, "guess from a guess", x.knows(1, 3), 15);
        due(13, "no guess", x.knows(0, 3), 3);
        due(13, "alone", x.knows(5, 3), 0);
        x.tie(5, 1);
        due(13, "a tie to what another sees", x.knows(5, 2), 6);
        due(13, "a tie is no sight", x.knows(5, 1), 0);
        x.over(1, true);
        due(13, "those over alike", x.knows(5, 3), 15);
        due(13, "those over are seen", x.knows(0, 1), 3);
        x.paper(15);
        due(13, "paper is not asked", x.knows(4, 3), 12);
        due(13, "no hand", x.knows(6, 0), -1);
        due(13, "no hand ahead of what", x.knows(-1, 4), -1);
        due(13, "what", x.knows(0, 4), -2);
        due(13, "what", x.knows(0, -1), -2);
        StillRoom full = room("ha;hb;hc;t01;" + "t21;t12;t01;t01;t01;t01;t01;t01;t01;t01;t01;");
        full.sight(0, 1);
        due(13, "twelve ties", full.knows(0, 2), 7);
        due(13, "twelve ties", full.knows(2, 2), 7);
        StillRoom seen = room("ha;hb;hc;hd;h;s01;s02;s03;s04;s10;s12;s13;s14;s20;s21;s23;s40;");
        due(13, "twelve sights", seen.knows(0, 1), 15);
        due(13, "twelve sights", seen.knows(4, 1), 1);
        // guesses in an order in which one pass is not enough
        StillRoom y = room("ha;gc>d;gb>c;ga>b;");
        due(13, "again and again", y.knows(0, 3), 15);
    }

    private static void known() {
        StillRoom x = room("ha;hb;h;gab>c;gc>d;pb;");
        due(14, "one", x.known(1, false), 1);
        due(14, "two together", x.known(3, false), 15);
        due(14, "with paper", x.known(1, true), 15);
        due(14, "paper alone", x.known(0, true), 2);
        due(14, "nobody", x.known(0, false), 0);
        due(14, "no such hand", x.known(8, false), -1);
        due(14, "no such hand", x.known(9, true), -1);
        due(14, "no such set", x.known(-1, false), -1);
        x.over(0, true);
        due(14, "one that is over", x.known(1, true), 15);
    }

    private static void stays() {
        StillRoom x = roomOf(2, 3, 3, 0);
        due(15, "stays(0)", x.stays(0), 1);
        due(15, "stays(1)", x.stays(1), 1);
        due(15, "stays(2)", x.stays(2), 0);
        due(15, "stays(3)", x.stays(3), 0);
        due(15, "all, if there are fewer", x.stays(8), 0);
        due(15, "stays(9)", x.stays(9), -6);
        due(15, "stays(-1)", x.stays(-1), -4);
        x.tie(2, 0);
        due(15, "tied to one who goes", x.stays(2), 1);
        x.over(0, true);
        due(15, "who is over does not stay, but is tied", x.stays(1), 1);
        x.paper(3);
        due(15, "paper alone", x.stays(8), 1);
        StillRoom y = roomOf(2, 3);
        y.over(0, true);
        due(15, "who is over does not stay", y.stays(0), 0);
    }

    private static void safe() {
        StillRoom x = roomOf(2, 1, 2, 0);
        due(16, "safe(0)", x.safe(0), 1);
        due(16, "safe(1)", x.safe(1), 1);
        due(16, "safe(2)", x.safe(2), 0);
        due(16, "all, if there are fewer", x.safe(8), 0);
        due(16, "safe(9)", x.safe(9), -6);
        due(16, "safe(-1)", x.safe(-1), -4);
        x.over(0, true);
        due(16, "with those over", x.safe(1), 0);
        due(16, "with those over", x.safe(0), 1);
        x.paper(3);
        due(16, "paper not", x.safe(0), 1);
        x.over(1, true);
        due(16, "carried already", x.safe(0), 0);
        due(16, "carried already", x.safe(1), 0);
    }

    private static void losers() {
        StillRoom x = roomOf(2, 3, 1, 2, 3);
        // without 0 and 3 hands 1 and 2 know it together
        due(17, "losers()", x.losers(), 1 + 2 + 8);
        x.tell(3, 0, false);
        due(17, "the least of several", x.losers(), 1 + 2);
        x.paper(3);
        due(17, "none", x.losers(), -9);
        x.paper(0);
        x.over(0, true);
        x.over(1, true);
        x.over(2, true);
        due(17, "lost already", x.losers(), 0);
        StillRoom y = roomOf(1, 1, 1);
        y.over(0, true);
        due(17, "hands of the house", y.losers(), 2);
    }

    private static void carriers() {
        StillRoom x = roomOf(3, 1, 2, 4, 6);
        due(18, "carriers()", x.carriers(), 1 + 8);
        x.tell(2, 0, true);
        x.tell(2, 1, true);
        due(18, "one", x.carriers(), 4);
        x.tell(2, 0, false);
        due(18, "the least of several", x.carriers(), 1 + 4);
        x.tell(0, 0, false);
        x.paper(7);
        due(18, "none", x.carriers(), -9);
        x.tell(0, 0, true);
        x.over(0, true);
        due(18, "with those over", x.carriers(), 4);
        x.over(2, true);
        due(18, "empty", x.carriers(), 0);
    }

    private static void keys() {
        StillRoom x = roomOf(2, 1, 2, 2);
        due(19, "keys()", x.keys(), 1);
        x.over(2, true);
        due(19, "keys()", x.keys(), 3);
        x.over(0, true);
        due(19, "lost already", x.keys(), 2);
        x.over(1, true);
        due(19, "nobody", x.keys(), 0);
        x.over(0, false);
        x.paper(3);
        due(19, "paper", x.keys(), 0);
    }

    private static void monday() {
        StillRoom x = roomOf(3, 7, 1, 0);
        due(20, "what one lacks", x.monday(1, 1, 0), 6);
        due(20, "all", x.monday(2, 1, 0), 6);
        due(20, "carried", x.monday(1, 1, 1), -9);
        due(20, "holds already", x.monday(1, 0, 0), 0);
        x.guess(2, 2);
        due(20, "by a guess", x.monday(1, 1, 0), 2);
        x.guess(1, 1);
        due(20, "holds by guesses", x.monday(1, 1, 0), 0);
        StillRoom y = roomOf(2, 0, 0);
        due(20, "it must not be carried", y.monday(0, 0, 1), -9);
        y.tell(1, 0, true);
        due(20, "just the other step", y.monday(0, 0, 1), 2);
        due(20, "no hand", y.monday(2, -1, 9), -1);
        due(20, "no hand", y.monday(-1, 0, 0), -1);
        y.over(0, true);
        due(20, "over ahead of below", y.monday(0, -1, 0), -3);
        due(20, "below ahead of above", y.monday(1, 9, -1), -4);
        due(20, "below", y.monday(1, -1, 0), -4);
        due(20, "above", y.monday(1, 9, 0), -6);
        due(20, "above", y.monday(1, 0, 9), -6);
        due(20, "above both", y.monday(1, 9, 9), -6);
        StillRoom z = roomOf(4, 8, 7);
        z.over(1, true);
        z.tie(0, 1);
        due(20, "carried through a tie", z.monday(0, 0, 8), -9);
        StillRoom w = roomOf(3, 0);
        w.guess(1, 1);
        w.guess(1, 2);
        w.guess(2, 0);
        w.guess(4, 0);
        due(20, "the least of several", w.monday(0, 0, 0), 1);
        due(20, "state as it was", w.count(6), 0);
    }

    private static void mend() {
        StillRoom x = roomOf(3, 7, 1, 0);
        due(21, "two", x.mend(1, 0, -1), 2);
        due(21, "the lesser", x.mend(1, 0, 0), 11);
        due(21, "the other", x.mend(1, 0, 1), 12);
        due(21, "none such", x.mend(1, 0, 2), -9);
        due(21, "none such", x.mend(1, 0, Integer.MAX_VALUE), -9);
        due(21, "holds", x.mend(0, 0, -1), 0);
        due(21, "holds: none such", x.mend(0, 0, 0), -9);
        due(21, "not enough", x.mend(2, 0, -1), -9);
        due(21, "not enough", x.mend(2, 0, 0), -9);
        due(21, "carried", x.mend(1, 1, -1), -9);
        x.guess(2, 2);
        due(21, "one", x.mend(1, 0, -1), 1);
        due(21, "the one", x.mend(1, 0, 0), 11);
        due(21, "none such", x.mend(1, 0, 1), -9);
        due(21, "state as it was", x.count(6), 4);
        due(21, "below", x.mend(-1, 9, 0), -4);
        due(21, "below", x.mend(0, -1, 0), -4);
        due(21, "below", x.mend(9, 9, -2), -4);
        due(21, "above", x.mend(9, 0, -1), -6);
        due(21, "above", x.mend(0, 9, 5), -6);
        due(21, "above both", x.mend(9, 9, 0), -6);
        // the first hand may not be told both: 0 gets a, 1 gets b
        StillRoom y = roomOf(2, 0, 0);
        due(21, "shared", y.mend(0, 1, -1), 2);
        due(21, "shared", y.mend(0, 1, 0), 0);
        due(21, "shared", y.mend(0, 1, 1), 11);
        y.over(0, true);
        due(21, "hands of the house", y.mend(0, 0, 0), 10);
        due(21, "hands of the house", y.mend(0, 0, 1), 11);
        StillRoom z = roomOf(4, 1, 2);
        z.sight(0, 1);
        due(21, "what one sees need not be told", z.mend(0, 0, 0), 2);
        due(21, "what one sees need not be told", z.mend(0, 0, 1), 3);
    }

    private static void walls() {
        StillRoom x = room("hab;hcd;h;h;s20;s21;s30;");
        due(22, "the least of several", x.walls(1), 1);
        due(22, "the fewest", x.walls(0), 0);
        due(22, "none", x.walls(2), -9);
        x.sight(3, 1);
        due(22, "two", x.walls(1), 5);
        x.tie(2, 3);
        due(22, "ties carry what is seen", x.walls(1), 5);
        x.over(2, true);
        // hands 1 or 0 go with 2: only all that 2 and 3 see is walled off
        due(22, "with those over", x.walls(1), 15);
        due(22, "below", x.walls(-1), -4);
        due(22, "above", x.walls(9), -6);
        due(22, "the sights stay", x.count(3), 4);
        due(22, "the sights stay", x.knows(3, 1), 15);
    }

    private static void bank() {
        StillRoom x = roomOf(4, 15, 3);
        due(23, "bank(0)", x.bank(0), 0);
        due(23, "bank(1)", x.bank(1), 12);
        due(23, "bank(2)", x.bank(2), 15);
        x.paper(15);
        due(23, "as if it were the paper", x.bank(1), 12);
        due(23, "the paper stays", x.paper(0), 15);
        x.guess(4, 3);
        x.guess(8, 2);
        due(23, "the least of several", x.bank(1), 4);
        due(23, "all, if there are fewer", x.bank(8), 7);
        due(23, "bank(-1)", x.bank(-1), -4);
        due(23, "bank(9)", x.bank(9), -6);
    }

    private static void giving() {
        StillRoom x = roomOf(5, 0, 31, 0, 0);
        due(24, "EACH", x.giving(0, 0, 0), 20);
        due(24, "DARK", x.giving(1, 0, 0), 5);
        due(24, "PAIR", x.giving(2, 0, 0), 10);
        due(24, "ROW", x.giving(3, 0, 0), 15);
        due(24, "HALF", x.giving(4, 0, 0), 2 * 2 + 3 * 2);
        due(24, "EACH", x.giving(0, 1, 3), 1);
        due(24, "EACH", x.giving(0, 1, 4), 0);
        due(24, "EACH", x.giving(0, 2, 0), 1);
        due(24, "EACH", x.giving(0, 2, 1), 0);
        due(24, "DARK", x.giving(1, 1, 0), 1);
        due(24, "DARK", x.giving(1, 1, 1), 0);
        due(24, "DARK", x.giving(1, 2, 3), 1);
        due(24, "DARK", x.giving(1, 2, 4), 0);
        due(24, "PAIR", x.giving(2, 1, 1), 1);
        due(24, "PAIR", x.giving(2, 1, 2), 0);
        due(24, "PAIR", x.giving(2, 2, 1), 1);
        due(24, "PAIR", x.giving(2, 2, 2), 0);
        due(24, "ROW", x.giving(3, 1, 2), 1);
        due(24, "ROW", x.giving(3, 1, 3), 0);
        due(24, "HALF", x.giving(4, 1, 1), 1);
        due(24, "HALF", x.giving(4, 1, 2), 0);
        due(24, "HALF", x.giving(4, 2, 1), 1);
        due(24, "HALF", x.giving(4, 2, 2), 0);
        due(24, "told as it was", x.count(6), 5);
        x.over(1, true);
        due(24, "those over are not counted", x.giving(0, 0, 0), 15);
        due(24, "those over stay told", x.giving(1, 2, 0), 0);
        givingToFew();
        due(24, "KIND", x.giving(5, 3, -1), -1);
        due(24, "KIND", x.giving(-1, 0, 0), -1);
        due(24, "what", x.giving(0, 3, -1), -2);
        due(24, "what", x.giving(0, -1, 9), -2);
        due(24, "below", x.giving(0, 1, -1), -4);
        due(24, "above", x.giving(0, 2, 9), -6);
        due(24, "above, whatever is asked", x.giving(0, 0, 9), -6);
        StillRoom y = new StillRoom();
        due(24, "above ahead of nobody", y.giving(0, 0, 9), -6);
        due(24, "nobody", y.giving(0, 0, 0), -3);
        y.hand(15);
        y.over(0, true);
        due(24, "nobody in the house", y.giving(4, 2, 8), -3);
    }

    private static void givingToFew() {
        StillRoom one = roomOf(5, 31);
        due(24, "like ones once", one.giving(2, 0, 0), 5);
        due(24, "like ones once", one.giving(3, 0, 0), 5);
        due(24, "the lower half to nobody", one.giving(4, 0, 0), 3);
        due(24, "the lower half to nobody", one.giving(4, 1, 0), 0);
        StillRoom two = roomOf(5, 31, 0);
        due(24, "like ones once", two.giving(2, 0, 0), 10);
        due(24, "like ones once", two.giving(3, 0, 0), 10);
        due(24, "HALF", two.giving(4, 0, 0), 5);
        // DARK: the hands in order, so a, c, e to hand 0 and b, d to hand 1
        two.guess(1 + 4 + 16, 1);
        two.guess(1 + 4 + 16, 3);
        due(24, "by order", two.giving(1, 2, 1), 0);
        StillRoom other = roomOf(5, 31, 0);
        other.guess(1 + 2 + 4, 3);
        other.guess(1 + 2 + 4, 4);
        due(24, "by order", other.giving(1, 2, 1), 1);
    }

    private static void finest() {
        StillRoom x = roomOf(4, 0, 0, 0, 0);
        due(25, "DARK", x.finest(0, 3), 1);
        due(25, "PAIR", x.finest(1, 1), 2);
        due(25, "like HALF, but less", x.giving(4, 0, 0), 8);
        due(25, "ROW", x.finest(2, 1), 3);
        due(25, "EACH", x.finest(3, 0), 0);
        due(25, "none", x.finest(3, 1), -9);
        due(25, "state as it was", x.count(6), 0);
        x.paper(15);
        due(25, "the fewest", x.finest(8, 3), 1);
        due(25, "below ahead of above", x.finest(9, -1), -4);
        due(25, "below", x.finest(-1, 0), -4);
        due(25, "above", x.finest(9, 0), -6);
        due(25, "above", x.finest(0, 9), -6);
        due(25, "above both", x.finest(9, 9), -6);
        StillRoom y = new StillRoom();
        due(25, "above ahead of nobody", y.finest(0, 9), -6);
        due(25, "nobody", y.finest(0, 0), -3);
        StillRoom z = roomOf(3, 0);
        z.guess(4, 0);
        z.guess(4, 1);
        due(25, "HALF to one", z.finest(0, 0), 4);
        StillRoom w = roomOf(2, 0);
        due(25, "the least of several", w.finest(0, 0), 0);
    }

    private static void loses() {
        StillRoom x = roomOf(2, 3, 1, 2);
        x.chance(0, 10);
        x.chance(1, 20);
        x.chance(2, 30);
        // lost if 0 goes and 1 or 2 goes: 0.1 * (1 - 0.8 * 0.7)
        due(26, "loses()", x.loses(), 44000);
        x.over(2, true);
        due(26, "loses()", x.loses(), 10 * 100);
        x.paper(3);
        due(26, "loses()", x.loses(), 0);
        x.paper(0);
        x.over(0, true);
        due(26, "surely", x.loses(), 100);
        x.over(1, true);
        due(26, "nobody in the house", x.loses(), 1);
        x.paper(3);
        due(26, "paper alone", x.loses(), 0);
        StillRoom y = roomOf(1, 0, 0, 0, 0, 0, 0, 0, 0);
        due(26, "eight hands", y.loses(), 10000000000000000L);
    }

    private static void carries() {
        StillRoom x = roomOf(2, 3, 1, 2);
        x.chance(0, 10);
        x.chance(1, 20);
        x.chance(2, 30);
        // 0 goes, or 1 and 2 both go
        due(27, "carries()", x.carries(), 100000 + 90 * 20 * 30);
        x.over(2, true);
        due(27, "with those over", x.carries(), 10000 - 90 * 80);
        x.paper(3);
        due(27, "paper not", x.carries(), 10000 - 90 * 80);
        x.over(0, true);
        due(27, "surely", x.carries(), 100);
        x.over(1, true);
        due(27, "nobody in the house", x.carries(), 1);
        StillRoom y = roomOf(1, 1, 1, 1, 1, 1, 1, 1, 1);
        due(27, "eight hands", y.carries(), 10000000000000000L - 95L * 95 * 95 * 95 * 95 * 95 * 95 * 95);
    }

    private static void run() {
        // From z 0: 12345 gives 0; -740551042 without its sign's bit by 65536 is 21468, gives 68.
        StillRoom x = roomOf(2, 3, 3);
        x.chance(0, 1);
        x.chance(1, 68);
        due(28, "one goes in the first year", x.run(1, 0, 2), 1);
        due(28, "carried", x.run(1, 0, 1), 1);
        due(28, "not lost", x.run(1, 0, 0), -9);
        x.chance(0, 0);
        due(28, "below its chance, not at it", x.run(1, 0, 2), 0);
        x.chance(1, 69);
        due(28, "below its chance", x.run(1, 0, 2), 1);
        x.chance(1, 100);
        due(28, "surely", x.run(1, 0, 2), 1);
        due(28, "not again", x.run(50, 0, 2), 1);
        x.chance(0, 100);
        due(28, "lost", x.run(3, 7, 0), 1);
        due(28, "both went", x.run(3, 7, 2), 2);
        due(28, "in mind", x.count(2), 0);
        x.paper(3);
        due(28, "paper", x.run(3, 7, 0), -9);
        x.over(0, true);
        x.over(1, true);
        due(28, "carried already", x.run(3, 7, 1), 1);
        due(28, "nobody went", x.run(3, 7, 2), 0);
        runBySeeds();
        due(28, "what", x.run(0, 0, 3), -2);
        due(28, "what", x.run(51, 0, -1), -2);
        due(28, "below", x.run(0, 0, 0), -4);
        due(28, "above", x.run(51, 0, 0), -6);
    }

    /** The same draws, written once more: who has gone draws no more. */
    private static void runBySeeds() {
        for (int z = -3000000; z < 3000000; z += 611111) {
            StillRoom x = roomOf(3, 1, 2, 4, 7);
            int[] chances = {10, 20, 30, 5};
            boolean[] gone = new boolean[4];
            for (int hand = 0; hand < 4; hand++) {
                x.chance(hand, chances[hand]);
            }
            int seed = z;
            int went = 0;
            int lost = -9;
            for (int year = 1; year <= 10; year++) {
                for (int hand = 0; hand < 4; hand++) {
                    if (!gone[hand]) {
                        seed = seed * 1103515245 + 12345;
                        int drawn = (seed & 0x7fffffff) / 65536 % 100;
                        gone[hand] = drawn < chances[hand];
                        went += gone[hand] ? 1 : 0;
                    }
                }
                if (lost < 0 && gone[3] && (gone[0] || gone[1] || gone[2])) {
                    lost = year;
                }
            }
            due(28, "went from " + z, x.run(10, z, 2), went);
            due(28, "lost from " + z, x.run(10, z, 0), lost);
        }
    }

    private static void put() {
        StillRoom x = new StillRoom();
        due(29, "put(-1)", x.put(-1), -4);
        due(29, "put(8)", x.put(8), -6);
        for (int i = 1; i <= 8; i++) {
            due(29, "put", x.put(8 - i), i);
        }
        due(29, "put(0) when full", x.put(0), -6);
        due(29, "put(-1) when full", x.put(-1), -4);
        due(29, "count(8)", x.count(8), 8);
        due(29, "no such hand", x.judge(2), 0);
        due(29, "put(7)", x.put(7), 1);
    }

    private static int judged(StillRoom x, int what, int... hands) {
        for (int hand : hands) {
            x.put(hand);
        }
        return x.judge(what);
    }

    private static void judge() {
        StillRoom x = roomOf(2, 1, 3, 2, 0);
        due(30, "lost", judged(x, 0, 3, 1, 0, 2), 2);
        due(30, "count(8)", x.count(8), 0);
        due(30, "carried", judged(x, 1, 3, 0, 2), 2);
        due(30, "carried at once", judged(x, 1, 1), 0);
        due(30, "not lost", judged(x, 0, 3, 1), -9);
        due(30, "all there", judged(x, 2, 0, 1, 2, 3), -9);
        due(30, "not there", judged(x, 2, 0, 1, 0, 7), 2);
        due(30, "no such hand", judged(x, 2, 0, 4), 1);
        due(30, "from there on nothing", judged(x, 0, 0, 0, 1, 2), -9);
        due(30, "from there on nothing", judged(x, 1, 7, 1), -9);
        due(30, "ahead of it", judged(x, 1, 1, 7), 0);
        due(30, "in mind", x.count(2), 0);
        due(30, "empty", x.judge(0), -9);
        due(30, "empty", x.judge(2), -9);
        x.put(3);
        due(30, "what", x.judge(3), -2);
        due(30, "what", x.judge(-1), -2);
        due(30, "it stays", x.count(8), 1);
        x.over(1, true);
        due(30, "those over know it", x.judge(1), 0);
        due(30, "over is not in the house", judged(x, 2, 0, 1), 1);
        x.over(0, true);
        due(30, "lost already", judged(x, 0, 3), 0);
        x.paper(3);
        due(30, "paper", judged(x, 0, 3, 2), -9);
    }

    private static void imageAndRestore() {
        StillRoom x = room("hab;hc;s01;t01;ga>c;pd;");
        x.chance(1, 50);
        x.over(1, true);
        due(32, "none", x.restore(), -3);
        due(31, "image()", x.image(), 2);
        x.feed(1, 'h');
        x.put(3);
        x.steps(2);
        x.hand(0);
        x.over(1, false);
        x.over(0, true);
        x.chance(1, 1);
        x.sight(1, 0);
        x.tie(2, 1);
        x.guess(2, 0);
        x.paper(1);
        x.tell(9, 9, true);
        due(32, "restore()", x.restore(), 2);
        due(32, "steps", x.count(0), 4);
        due(32, "hands", x.count(1), 2);
        due(32, "over", x.count(2), 2);
        due(32, "sights", x.count(3), 1);
        due(32, "ties", x.count(4), 1);
        due(32, "guesses", x.count(5), 1);
        due(32, "told", x.count(6), 3);
        due(32, "not the text", x.count(7), 1);
        due(32, "not the row", x.count(8), 1);
        due(32, "not the refusals", x.count(11), 1);
        due(32, "not the refusals", x.count(13), 1);
        due(32, "a sight", x.knows(0, 1), 7);
        due(32, "a chance", x.chance(1, 5), 50);
        due(32, "paper", x.paper(0), 8);
        due(32, "again", x.restore(), 2);
        due(32, "again", x.chance(1, 5), 50);
        x.restore();
        x.hand(1);
        due(31, "another image", x.image(), 3);
        x.restore();
        due(32, "the later one", x.count(1), 3);
        StillRoom y = new StillRoom();
        due(31, "of nobody", y.image(), 0);
        y.hand(1);
        y.over(0, true);
        due(32, "nobody", y.restore(), 0);
        due(32, "a hand behind it", y.hand(2), 0);
        due(32, "is in the house", y.count(2), 0);
    }

    private static void count() {
        StillRoom x = room("hab;hcd;h;s01;s10;t01;ga>b;gb>a;gc>a;");
        x.steps(6);
        x.over(0, true);
        x.over(2, true);
        x.feed(3, 0);
        x.put(0);
        x.put(0);
        int[] want = {6, 3, 5, 2, 1, 3, 4, 3, 2, -9, -9};
        for (int what = 0; what < want.length; what++) {
            due(33, "count(" + what + ")", x.count(what), want[what]);
        }
        x.knows(9, 0);
        x.knows(0, 9);
        x.knows(0, 8);
        x.sight(0, 1);
        x.sight(0, 1);
        x.sight(0, 1);
        for (int i = 0; i < 4; i++) {
            x.stays(-1);
        }
        for (int i = 0; i < 5; i++) {
            x.safe(9);
        }
        int[] refused = {1, 2, 3, 4, 0, 5};
        for (int i = 0; i < refused.length; i++) {
            due(33, "count(" + (11 + i) + ")", x.count(11 + i), refused[i]);
        }
        due(33, "count(-1)", x.count(-1), -9);
        due(33, "count(17)", x.count(17), -9);
        due(33, "count(least)", x.count(Integer.MIN_VALUE), -9);
        due(33, "count(greatest)", x.count(Integer.MAX_VALUE), -9);
        due(33, "no refusal", x.count(12), 2);
    }
}
