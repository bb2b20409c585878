import java.util.ArrayList;
import java.util.List;
import java.util.Random;
import java.util.TreeSet;

// Random runs of calls against a second, slow writing of the document with sets and lists,
// which tries out everything and takes no short cut. The seeds are fixed. And in houses with nobody,
// with some, with all, each call with every mixture of the numbers at the edges of what it allows.
public final class ModelTest {
    private static int wrong = 0;

    public static void main(String[] args) {
        for (int seed = 1; seed <= 400 && wrong < 20; seed++) {
            play(seed, 300);
        }
        for (String[] house : HOUSES) {
            edges(house);
        }
        System.out.println(wrong == 0 ? "the class and the model agree" : "they do not agree");
        if (wrong != 0) {
            System.exit(1);
        }
    }

    private static void play(int seed, int calls) {
        Random random = new Random(seed);
        StillRoom x = new StillRoom();
        Model m = new Model();
        StringBuilder told = new StringBuilder();
        int most = 1 + random.nextInt(10);
        for (int i = 0; i < calls; i++) {
            Call call = new Call(random, m, most, seed % 2 == 0);
            long got = call.on(x);
            long want = call.on(m);
            told.append(call).append(" = ").append(want).append('\n');
            if (got != want) {
                wrong++;
                System.out.println("seed " + seed + ", call " + i + ": " + call + " answered " + got
                        + ", due is " + want + "\n" + told);
                return;
            }
        }
        for (int what = -1; what < 18; what++) {
            if (x.count(what) != m.count(what)) {
                wrong++;
                System.out.println("seed " + seed + ": count(" + what + ")");
            }
        }
    }

    /** How many steps, what is read as a text, and who goes over then. */
    private static final String[][] HOUSES = {
        {"4", "", ""},
        {"3", "hab;hc;hb;s01;s20;t12;gbc>a;pa;", "2"},
        {"2", "ha;hb;", "01"},
        {"10", "hab;hcd;hef;hgh;hij;ha;hb;hc;", "6"},
        {"1", "ha;h;h;h;h;h;h;h;" + "t12;t23;t34;t45;t56;t67;t12;t12;t12;t12;t12;t12;", "17"},
    };
    private static final int[] EDGES = {Integer.MIN_VALUE, -33, -21, -2, -1, 0, 1, 2, 3, 4, 5, 7, 8, 9, 10, 11, 16,
        32, 50, 51, 100, 101, 255, 256, 1023, 1024, Integer.MAX_VALUE};
    private static final int[] FEW_EDGES = {Integer.MIN_VALUE, -2, -1, 0, 1, 3, 4, 7, 8, 9, 10, Integer.MAX_VALUE};
    private static final List<String> OF_THREE = List.of("monday", "mend", "giving", "run");
    private static final List<String> OF_TWO = List.of("tell", "chance", "sight", "tie", "guess", "knows", "finest");
    private static final List<String> OF_ONE = List.of("feed", "steps", "hand", "over", "paper", "known", "stays",
            "safe", "walls", "bank", "put", "judge", "count");

    private static void edges(String[] house) {
        boolean many = house[1].length() > 50 || house[0].equals("10");
        for (String name : Call.NAMES) {
            boolean three = OF_THREE.contains(name) && !(many && name.equals("mend"));
            int[] first = OF_ONE.contains(name) || OF_TWO.contains(name) ? EDGES : three ? FEW_EDGES : new int[] {0};
            int[] second = OF_TWO.contains(name) ? EDGES : three ? FEW_EDGES : new int[] {0};
            int[] third = three ? FEW_EDGES : new int[] {0};
            for (int a : first) {
                for (int b : second) {
                    for (int c : third) {
                        edge(house, new Call(name, a, b, c, true));
                        edge(house, new Call(name, a, b, c, false));
                    }
                }
            }
        }
    }

    private static void edge(String[] house, Call call) {
        StillRoom x = new StillRoom();
        Model m = new Model();
        Call text = new Call("text", 0, 0, 0, false, house[1]);
        x.steps(Integer.parseInt(house[0]));
        m.steps(Integer.parseInt(house[0]));
        text.on(x);
        text.on(m);
        for (char hand : house[2].toCharArray()) {
            x.over(hand - '0', true);
            m.over(hand - '0', true);
        }
        long got = call.on(x);
        long want = call.on(m);
        boolean same = got == want;
        for (int what = 0; what <= 16; what++) {
            same &= x.count(what) == m.count(what);
        }
        if (!same) {
            wrong++;
            System.out.println(house[1] + ": " + call + " answered " + got + ", due is " + want);
        }
    }

    /** The words of one call, drawn so that most of them fit. */
    private static final class Call {
        private static final String[] NAMES = {
            "feed", "house", "steps", "hand", "tell", "chance", "over", "sight", "tie", "guess", "paper",
            "knows", "known", "stays", "safe", "losers", "carriers", "keys", "monday", "mend", "walls",
            "bank", "giving", "finest", "loses", "carries", "run", "put", "judge", "image", "restore",
            "count", "text"};
        private final String name;
        private final int a;
        private final int b;
        private final int c;
        private final boolean is;
        private final long bytes;
        private final String text;

        Call(String name, int a, int b, int c, boolean is) {
            this(name, a, b, c, is, "");
        }

        Call(String name, int a, int b, int c, boolean is, String text) {
            this.name = name;
            this.a = a;
            this.b = b;
            this.c = c;
            this.is = is;
            this.bytes = 0x3b683b7061683b68L;
            this.text = text;
        }

        /** In a secretive house few steps are told and few go over, so that sights matter. */
        Call(Random r, Model m, int mostSteps, boolean secretive) {
            String drawn = rare(NAMES[r.nextInt(NAMES.length)], r);
            boolean loud = drawn.equals("over") || drawn.equals("tie") || drawn.equals("guess")
                    || drawn.equals("tell");
            name = secretive && loud && r.nextInt(8) > 0 ? "sight" : drawn;
            int hands = m.told.size();
            int hand = draw(r, hands);
            int other = draw(r, hands);
            int number = r.nextInt(12) == 0 ? r.nextInt(14) - 3 : r.nextInt(4);
            int second = r.nextInt(12) == 0 ? r.nextInt(14) - 3 : r.nextInt(4);
            int set = draw(r, 1 << m.steps) & (r.nextBoolean() && !secretive ? -1 : draw(r, 1 << m.steps));
            is = r.nextInt(3) > 0;
            bytes = r.nextLong();
            text = Texts.draw(r, m);
            switch (name) {
                case "feed": a = r.nextInt(11) - 1; b = 0; c = 0; break;
                case "steps": a = r.nextInt(8) == 0 ? r.nextInt(13) - 1 : mostSteps; b = 0; c = 0; break;
                case "hand": case "paper": a = set; b = 0; c = 0; break;
                case "tell": a = hand; b = draw(r, m.steps); c = 0; break;
                case "chance": a = hand; b = draw(r, 101); c = 0; break;
                case "over": case "put": a = hand; b = 0; c = 0; break;
                case "sight": case "tie": a = hand; b = other; c = 0; break;
                case "guess": a = set; b = draw(r, m.steps); c = 0; break;
                case "knows": a = hand; b = draw(r, 4); c = 0; break;
                case "known": a = draw(r, 1 << hands); b = 0; c = 0; break;
                case "monday": a = hand; b = number; c = second; break;
                case "mend": a = number; b = second; c = r.nextInt(5) - 2; break;
                case "giving": a = draw(r, 5); b = draw(r, 3); c = number; break;
                case "run": a = draw(r, 51); b = r.nextInt(); c = draw(r, 3); break;
                case "judge": a = draw(r, 3); b = 0; c = 0; break;
                case "count": a = r.nextInt(20) - 2; b = 0; c = 0; break;
                default: a = number; b = second; c = 0; break;
            }
        }

        /** A restore too often would keep the house small. */
        private static String rare(String name, Random r) {
            return name.equals("restore") && r.nextInt(4) > 0 ? "hand" : name;
        }

        /** Mostly 0 .. below, now and then outside of it. */
        private static int draw(Random r, int below) {
            int odd = r.nextInt(40);
            if (odd == 0) {
                return -1 - r.nextInt(3);
            }
            if (odd == 1) {
                return below;
            }
            return odd == 2 ? r.nextInt() : r.nextInt(Math.max(below, 1));
        }

        private long on(StillRoom x) {
            switch (name) {
                case "feed": return x.feed(a, bytes);
                case "house": return x.house();
                case "steps": return x.steps(a);
                case "hand": return x.hand(a);
                case "tell": return x.tell(a, b, is);
                case "chance": return x.chance(a, b);
                case "over": return x.over(a, is);
                case "sight": return x.sight(a, b);
                case "tie": return x.tie(a, b);
                case "guess": return x.guess(a, b);
                case "paper": return x.paper(a);
                case "knows": return x.knows(a, b);
                case "known": return x.known(a, is);
                case "stays": return x.stays(a);
                case "safe": return x.safe(a);
                case "losers": return x.losers();
                case "carriers": return x.carriers();
                case "keys": return x.keys();
                case "monday": return x.monday(a, b, c);
                case "mend": return x.mend(a, b, c);
                case "walls": return x.walls(a);
                case "bank": return x.bank(a);
                case "giving": return x.giving(a, b, c);
                case "finest": return x.finest(a, b);
                case "loses": return x.loses();
                case "carries": return x.carries();
                case "run": return x.run(a, b, c);
                case "put": return x.put(a);
                case "judge": return x.judge(a);
                case "image": return x.image();
                case "restore": return x.restore();
                case "count": return x.count(a);
                default:
                    x.house();
                    for (int i = 0; i < text.length(); i++) {
                        x.feed(1, text.charAt(i));
                    }
                    return x.house();
            }
        }

        private long on(Model x) {
            switch (name) {
                case "feed": return x.feed(a, bytes);
                case "house": return x.house();
                case "steps": return x.steps(a);
                case "hand": return x.hand(a);
                case "tell": return x.tell(a, b, is);
                case "chance": return x.chance(a, b);
                case "over": return x.over(a, is);
                case "sight": return x.sight(a, b);
                case "tie": return x.tie(a, b);
                case "guess": return x.guess(a, b);
                case "paper": return x.paper(a);
                case "knows": return x.knows(a, b);
                case "known": return x.known(a, is);
                case "stays": return x.stays(a);
                case "safe": return x.safe(a);
                case "losers": return x.losers();
                case "carriers": return x.carriers();
                case "keys": return x.keys();
                case "monday": return x.monday(a, b, c);
                case "mend": return x.mend(a, b, c);
                case "walls": return x.walls(a);
                case "bank": return x.bank(a);
                case "giving": return x.giving(a, b, c);
                case "finest": return x.finest(a, b);
                case "loses": return x.year(true);
                case "carries": return x.year(false);
                case "run": return x.run(a, b, c);
                case "put": return x.put(a);
                case "judge": return x.judge(a);
                case "image": return x.image();
                case "restore": return x.restore();
                case "count": return x.count(a);
                default:
                    x.house();
                    for (int i = 0; i < text.length(); i++) {
                        x.feed(1, text.charAt(i));
                    }
                    return x.house();
            }
        }

        @Override
        public String toString() {
            return name + "(" + a + ", " + b + ", " + c + ", " + is + ", " + bytes + ", " + text + ")";
        }
    }

    /** Texts of a house, mostly whole ones, with a byte changed now and then. */
    private static final class Texts {
        static String draw(Random r, Model m) {
            StringBuilder text = new StringBuilder();
            int statements = r.nextInt(5);
            for (int i = 0; i < statements; i++) {
                text.append(statement(r, m));
            }
            if (text.length() > 0 && r.nextInt(3) == 0) {
                int at = r.nextInt(text.length());
                switch (r.nextInt(3)) {
                    case 0: text.setLength(at); break;
                    case 1: text.deleteCharAt(at); break;
                    default: text.setCharAt(at, "hstgp;>abcdefjk0123789x".charAt(r.nextInt(23))); break;
                }
            }
            return text.toString();
        }

        private static String statement(Random r, Model m) {
            int hands = Math.max(m.told.size(), 2);
            String two = "" + r.nextInt(hands) + r.nextInt(hands);
            switch (r.nextInt(5)) {
                case 0: return "h" + letters(r, m.steps) + ";";
                case 1: return "s" + two + ";";
                case 2: return "t" + two + ";";
                case 3: return "g" + letters(r, m.steps) + ">" + (char) ('a' + r.nextInt(m.steps)) + ";";
                default: return "p" + letters(r, m.steps) + ";";
            }
        }

        private static String letters(Random r, int steps) {
            StringBuilder letters = new StringBuilder();
            for (int s = 0; s < steps; s++) {
                if (r.nextInt(3) == 0) {
                    letters.append((char) ('a' + s));
                }
            }
            return letters.toString();
        }
    }

    private static final class Model {
        int steps = 4;
        List<TreeSet<Integer>> told = new ArrayList<>();
        List<Integer> chances = new ArrayList<>();
        TreeSet<Integer> away = new TreeSet<>();
        List<int[]> sights = new ArrayList<>();
        List<int[]> ties = new ArrayList<>();
        List<int[]> guesses = new ArrayList<>();
        int paper = 0;
        final List<Integer> text = new ArrayList<>();
        final List<Integer> row = new ArrayList<>();
        final int[] refused = new int[10];
        Model kept = null;

        private int no(int refusal) {
            refused[-refusal]++;
            return refusal;
        }

        private boolean noHand(int hand) {
            return hand < 0 || hand >= told.size();
        }

        private boolean noStep(int step) {
            return step < 0 || step >= steps;
        }

        private boolean noSet(int set, int members) {
            return set < 0 || set >= 1 << members;
        }

        private static int bits(Iterable<Integer> members) {
            int set = 0;
            for (int member : members) {
                set |= 1 << member;
            }
            return set;
        }

        private static TreeSet<Integer> members(int set) {
            TreeSet<Integer> members = new TreeSet<>();
            for (int i = 0; i < 31; i++) {
                if ((set >> i) % 2 == 1) {
                    members.add(i);
                }
            }
            return members;
        }

        int feed(int n, long bytes) {
            if (n < 1) {
                return no(-4);
            }
            if (n > 8 || text.size() + n > 80) {
                return no(-6);
            }
            for (int i = 0; i < n; i++) {
                text.add((int) (bytes >> 8 * i & 255));
            }
            return text.size();
        }

        int house() {
            StringBuilder all = new StringBuilder();
            for (int sign : text) {
                all.append((char) sign);
            }
            text.clear();
            int came = 0;
            int at = 0;
            while (at < all.length()) {
                int fault = statement(all.toString(), at);
                if (fault >= 0) {
                    return -20 - fault;
                }
                came++;
                at = all.indexOf(";", at) + 1;
            }
            return came;
        }

        /** The fault's place, or -1 and the statement came. Which signs may stand is asked sign by sign. */
        private int statement(String all, int start) {
            char letter = all.charAt(start);
            boolean room = letter == 'h' && told.size() < 8 || letter == 's' && sights.size() < 12
                    || letter == 't' && ties.size() < 12 || letter == 'g' && guesses.size() < 12
                    || letter == 'p';
            if (!room) {
                return start;
            }
            String inner = "";
            for (int at = start + 1; at < all.length(); at++) {
                char sign = all.charAt(at);
                if (!mayFollow(letter, inner, sign)) {
                    return at;
                }
                if (sign == ';') {
                    come(letter, inner);
                    return -1;
                }
                inner = inner + sign;
                if (letter == 's' && inner.length() == 2 && seesAlready(inner.charAt(0) - '0', inner.charAt(1) - '0')) {
                    return start;
                }
            }
            return all.length();
        }

        private boolean mayFollow(char letter, String inner, char sign) {
            boolean rising = sign >= 'a' && sign < 'a' + steps
                    && (inner.isEmpty() || inner.charAt(inner.length() - 1) < sign);
            switch (letter) {
                case 'h':
                case 'p':
                    return rising || sign == ';';
                case 'g':
                    if (!inner.contains(">")) {
                        return rising || sign == '>' && !inner.isEmpty();
                    }
                    if (inner.endsWith(">")) {
                        return sign >= 'a' && sign < 'a' + steps && inner.indexOf(sign) < 0;
                    }
                    return sign == ';';
                default:
                    if (inner.length() == 2) {
                        return sign == ';';
                    }
                    return sign >= '0' && sign < '0' + told.size() && inner.indexOf(sign) < 0;
            }
        }

        private void come(char letter, String inner) {
            TreeSet<Integer> set = new TreeSet<>();
            for (char sign : inner.toCharArray()) {
                if (sign == '>') {
                    break;
                }
                set.add(sign - 'a');
            }
            if (letter == 'h') {
                told.add(set);
                chances.add(5);
            } else if (letter == 'p') {
                paper = bits(set);
            } else if (letter == 'g') {
                guesses.add(new int[] {bits(set), inner.charAt(inner.length() - 1) - 'a'});
            } else {
                (letter == 's' ? sights : ties).add(new int[] {inner.charAt(0) - '0', inner.charAt(1) - '0'});
            }
        }

        private boolean seesAlready(int who, int whom) {
            for (int[] sight : sights) {
                if (sight[0] == who && sight[1] == whom) {
                    return true;
                }
            }
            return false;
        }

        int steps(int n) {
            if (n < 1) {
                return no(-4);
            }
            if (n > 10) {
                return no(-6);
            }
            int were = steps;
            steps = n;
            for (TreeSet<Integer> set : told) {
                set.removeIf(step -> step >= n);
            }
            guesses.removeIf(guess -> guess[1] >= n || members(guess[0]).last() >= n);
            paper %= 1 << n;
            return were;
        }

        int hand(int set) {
            if (noSet(set, steps)) {
                return no(-1);
            }
            if (told.size() == 8) {
                return no(-6);
            }
            told.add(members(set));
            chances.add(5);
            return told.size() - 1;
        }

        int tell(int hand, int step, boolean is) {
            if (noHand(hand) || noStep(step)) {
                return no(-1);
            }
            return (is ? told.get(hand).add(step) : told.get(hand).remove(step)) ? 1 : 0;
        }

        int chance(int hand, int v) {
            if (noHand(hand)) {
                return no(-1);
            }
            if (v < 0) {
                return no(-4);
            }
            return v > 100 ? no(-6) : chances.set(hand, v);
        }

        int over(int hand, boolean is) {
            if (noHand(hand)) {
                return no(-1);
            }
            return (is ? away.add(hand) : away.remove(hand)) ? 1 : 0;
        }

        int sight(int who, int whom) {
            if (noHand(who) || noHand(whom) || who == whom) {
                return no(-1);
            }
            if (seesAlready(who, whom)) {
                return no(-3);
            }
            if (sights.size() == 12) {
                return no(-6);
            }
            sights.add(new int[] {who, whom});
            return sights.size() - 1;
        }

        int tie(int a, int b) {
            if (noHand(a) || noHand(b) || a == b) {
                return no(-1);
            }
            if (ties.size() == 12) {
                return no(-6);
            }
            ties.add(new int[] {a, b});
            return ties.size();
        }

        int guess(int from, int step) {
            if (noSet(from, steps) || from == 0 || noStep(step) || members(from).contains(step)) {
                return no(-1);
            }
            if (guesses.size() == 12) {
                return no(-6);
            }
            guesses.add(new int[] {from, step});
            return guesses.size();
        }

        int paper(int set) {
            if (noSet(set, steps)) {
                return no(-1);
            }
            int was = paper;
            paper = set;
            return was;
        }

        private TreeSet<Integer> bySight(int hand) {
            TreeSet<Integer> all = new TreeSet<>(told.get(hand));
            for (int[] sight : sights) {
                if (sight[0] == hand) {
                    all.addAll(told.get(sight[1]));
                }
            }
            return all;
        }

        private TreeSet<Integer> byTies(int hand) {
            List<Integer> joined = new ArrayList<>(List.of(hand));
            for (int i = 0; i < joined.size(); i++) {
                for (int[] tie : ties) {
                    for (int side = 0; side < 2; side++) {
                        if (tie[side] == joined.get(i) && !joined.contains(tie[1 - side])) {
                            joined.add(tie[1 - side]);
                        }
                    }
                }
            }
            TreeSet<Integer> all = new TreeSet<>();
            for (int one : joined) {
                all.addAll(bySight(one));
            }
            return all;
        }

        private TreeSet<Integer> guessed(TreeSet<Integer> known) {
            TreeSet<Integer> all = new TreeSet<>(known);
            boolean more = true;
            while (more) {
                more = false;
                for (int[] guess : guesses) {
                    if (all.containsAll(members(guess[0])) && all.add(guess[1])) {
                        more = true;
                    }
                }
            }
            return all;
        }

        private TreeSet<Integer> together(Iterable<Integer> hands, int sheet) {
            TreeSet<Integer> all = members(sheet);
            for (int hand : hands) {
                all.addAll(byTies(hand));
            }
            return guessed(all);
        }

        int knows(int hand, int what) {
            if (noHand(hand)) {
                return no(-1);
            }
            switch (what) {
                case 0: return bits(told.get(hand));
                case 1: return bits(bySight(hand));
                case 2: return bits(byTies(hand));
                case 3: return bits(guessed(byTies(hand)));
                default: return no(-2);
            }
        }

        int known(int hands, boolean sheet) {
            return noSet(hands, told.size()) ? no(-1) : bits(together(members(hands), sheet ? paper : 0));
        }

        private TreeSet<Integer> inside() {
            TreeSet<Integer> inside = members((1 << told.size()) - 1);
            inside.removeAll(away);
            return inside;
        }

        private boolean loses(TreeSet<Integer> goers) {
            TreeSet<Integer> stayers = inside();
            stayers.removeAll(goers);
            return together(stayers, paper).size() < steps;
        }

        private boolean carries(TreeSet<Integer> goers) {
            TreeSet<Integer> all = new TreeSet<>(away);
            all.addAll(goers);
            return together(all, 0).size() == steps;
        }

        /** All sets of the house, those with the fewest first, of like ones the least first. */
        private List<TreeSet<Integer>> sets(TreeSet<Integer> of) {
            List<TreeSet<Integer>> sets = new ArrayList<>();
            for (int size = 0; size <= of.size(); size++) {
                sets.addAll(setsOfJust(size, of));
            }
            return sets;
        }

        private List<TreeSet<Integer>> setsOfJust(int size, TreeSet<Integer> of) {
            List<TreeSet<Integer>> sets = new ArrayList<>();
            int all = bits(of);
            for (int set = 0; set <= all; set++) {
                if ((set & all) == set && Integer.bitCount(set) == size) {
                    sets.add(members(set));
                }
            }
            return sets;
        }

        private boolean staysWith(int g) {
            TreeSet<Integer> inside = inside();
            for (TreeSet<Integer> set : setsOfJust(Math.min(g, inside.size()), inside)) {
                if (loses(set)) {
                    return false;
                }
            }
            return true;
        }

        private boolean safeWith(int j) {
            TreeSet<Integer> inside = inside();
            for (TreeSet<Integer> set : setsOfJust(Math.min(j, inside.size()), inside)) {
                if (carries(set)) {
                    return false;
                }
            }
            return true;
        }

        private boolean holds(int g, int j) {
            return staysWith(g) && safeWith(j);
        }

        private int wrongNumbers(int least, int most, int... numbers) {
            for (int number : numbers) {
                if (number < least) {
                    return -4;
                }
            }
            for (int number : numbers) {
                if (number > most) {
                    return -6;
                }
            }
            return 0;
        }

        int stays(int g) {
            int wrong = wrongNumbers(0, 8, g);
            return wrong < 0 ? no(wrong) : staysWith(g) ? 1 : 0;
        }

        int safe(int j) {
            int wrong = wrongNumbers(0, 8, j);
            return wrong < 0 ? no(wrong) : safeWith(j) ? 1 : 0;
        }

        int losers() {
            for (TreeSet<Integer> set : sets(inside())) {
                if (loses(set)) {
                    return bits(set);
                }
            }
            return -9;
        }

        int carriers() {
            for (TreeSet<Integer> set : sets(inside())) {
                if (carries(set)) {
                    return bits(set);
                }
            }
            return -9;
        }

        int keys() {
            TreeSet<Integer> keys = inside();
            keys.removeIf(hand -> !loses(members(1 << hand)));
            return bits(keys);
        }

        int monday(int hand, int g, int j) {
            if (noHand(hand)) {
                return no(-1);
            }
            if (away.contains(hand)) {
                return no(-3);
            }
            int wrong = wrongNumbers(0, 8, g, j);
            if (wrong < 0) {
                return no(wrong);
            }
            TreeSet<Integer> was = told.get(hand);
            TreeSet<Integer> lacks = members((1 << steps) - 1);
            lacks.removeAll(was);
            int found = -9;
            for (TreeSet<Integer> set : sets(lacks)) {
                told.set(hand, new TreeSet<>(was));
                told.get(hand).addAll(set);
                if (holds(g, j)) {
                    found = bits(set);
                    break;
                }
            }
            told.set(hand, was);
            return found;
        }

        private List<Integer> tellings() {
            List<Integer> all = new ArrayList<>();
            for (int hand : inside()) {
                for (int step = 0; step < steps; step++) {
                    if (!told.get(hand).contains(step)) {
                        all.add(10 * hand + step);
                    }
                }
            }
            return all;
        }

        private boolean holdsWith(int g, int j, int... tellings) {
            for (int telling : tellings) {
                told.get(telling / 10).add(telling % 10);
            }
            boolean holds = holds(g, j);
            for (int telling : tellings) {
                told.get(telling / 10).remove(telling % 10);
            }
            return holds;
        }

        private int[] mending(int g, int j) {
            if (holds(g, j)) {
                return new int[0];
            }
            List<Integer> all = tellings();
            for (int one : all) {
                if (holdsWith(g, j, one)) {
                    return new int[] {one};
                }
            }
            for (int one : all) {
                for (int two : all) {
                    if (one < two && holdsWith(g, j, one, two)) {
                        return new int[] {one, two};
                    }
                }
            }
            return null;
        }

        int mend(int g, int j, int i) {
            int wrong = i < -1 ? -4 : wrongNumbers(0, 8, g, j);
            if (wrong < 0) {
                return no(wrong);
            }
            int[] found = mending(g, j);
            if (found == null) {
                return -9;
            }
            return i < 0 ? found.length : i < found.length ? found[i] : -9;
        }

        int walls(int j) {
            int wrong = wrongNumbers(0, 8, j);
            if (wrong < 0) {
                return no(wrong);
            }
            List<int[]> were = sights;
            int found = -9;
            for (TreeSet<Integer> set : sets(members((1 << were.size()) - 1))) {
                sights = new ArrayList<>();
                for (int i = 0; i < were.size(); i++) {
                    if (!set.contains(i)) {
                        sights.add(were.get(i));
                    }
                }
                if (safeWith(j)) {
                    found = bits(set);
                    break;
                }
            }
            sights = were;
            return found;
        }

        int bank(int g) {
            int wrong = wrongNumbers(0, 8, g);
            if (wrong < 0) {
                return no(wrong);
            }
            int was = paper;
            int found = -9;
            for (TreeSet<Integer> set : sets(members((1 << steps) - 1))) {
                paper = bits(set);
                if (staysWith(g)) {
                    found = paper;
                    break;
                }
            }
            paper = was;
            return found;
        }

        private List<TreeSet<Integer>> given(int kind) {
            List<Integer> inside = new ArrayList<>(inside());
            int m = inside.size();
            List<TreeSet<Integer>> all = new ArrayList<>(told);
            for (int hand : inside) {
                all.set(hand, new TreeSet<>());
            }
            for (int s = 0; s < steps; s++) {
                for (int k = 0; k < m; k++) {
                    boolean gets;
                    switch (kind) {
                        case 0: gets = true; break;
                        case 1: gets = k == s % m; break;
                        case 2: gets = k == s % m || k == (s + 1) % m; break;
                        case 3: gets = k == s % m || k == (s + 1) % m || k == (s + 2) % m; break;
                        default: gets = s < steps / 2 ? k < m / 2 : k >= m / 2; break;
                    }
                    if (gets) {
                        all.get(inside.get(k)).add(s);
                    }
                }
            }
            return all;
        }

        int giving(int kind, int what, int n) {
            if (kind < 0 || kind > 4) {
                return no(-1);
            }
            if (what < 0 || what > 2) {
                return no(-2);
            }
            int wrong = wrongNumbers(0, 8, n);
            if (wrong < 0) {
                return no(wrong);
            }
            if (inside().isEmpty()) {
                return no(-3);
            }
            List<TreeSet<Integer>> was = told;
            told = given(kind);
            int tellings = 0;
            for (int hand : inside()) {
                tellings += told.get(hand).size();
            }
            int answer = what == 0 ? tellings : (what == 1 ? staysWith(n) : safeWith(n)) ? 1 : 0;
            told = was;
            return answer;
        }

        int finest(int g, int j) {
            int wrong = wrongNumbers(0, 8, g, j);
            if (wrong < 0) {
                return no(wrong);
            }
            if (inside().isEmpty()) {
                return no(-3);
            }
            int best = -9;
            for (int kind = 4; kind >= 0; kind--) {
                if (giving(kind, 1, g) == 1 && giving(kind, 2, j) == 1
                        && (best < 0 || giving(kind, 0, 0) <= giving(best, 0, 0))) {
                    best = kind;
                }
            }
            return best;
        }

        long year(boolean lost) {
            long sum = 0;
            for (TreeSet<Integer> set : sets(inside())) {
                if (lost ? loses(set) : carries(set)) {
                    long likely = 1;
                    for (int hand : inside()) {
                        likely *= set.contains(hand) ? chances.get(hand) : 100 - chances.get(hand);
                    }
                    sum += likely;
                }
            }
            return sum;
        }

        int run(int n, int z, int what) {
            if (what < 0 || what > 2) {
                return no(-2);
            }
            int wrong = wrongNumbers(1, 50, n);
            if (wrong < 0) {
                return no(wrong);
            }
            TreeSet<Integer> was = new TreeSet<>(away);
            int[] first = {-9, -9, 0};
            int seed = z;
            for (int year = 1; year <= n; year++) {
                for (int hand : inside()) {
                    seed = seed * 1103515245 + 12345;
                    if ((seed & 0x7fffffff) / 65536 % 100 < chances.get(hand)) {
                        away.add(hand);
                        first[2]++;
                    }
                }
                if (first[0] < 0 && loses(new TreeSet<>())) {
                    first[0] = year;
                }
                if (first[1] < 0 && carries(new TreeSet<>())) {
                    first[1] = year;
                }
            }
            away = was;
            return first[what];
        }

        int put(int hand) {
            if (hand < 0) {
                return no(-4);
            }
            if (hand > 7 || row.size() == 8) {
                return no(-6);
            }
            row.add(hand);
            return row.size();
        }

        int judge(int what) {
            if (what < 0 || what > 2) {
                return no(-2);
            }
            TreeSet<Integer> was = new TreeSet<>(away);
            int[] first = {-9, -9, -9};
            for (int place = 0; place < row.size() && first[2] < 0; place++) {
                if (!inside().contains(row.get(place))) {
                    first[2] = place;
                } else {
                    away.add(row.get(place));
                    first[0] = first[0] < 0 && loses(new TreeSet<>()) ? place : first[0];
                    first[1] = first[1] < 0 && carries(new TreeSet<>()) ? place : first[1];
                }
            }
            away = was;
            row.clear();
            return first[what];
        }

        private void take(Model other) {
            steps = other.steps;
            told = new ArrayList<>();
            for (TreeSet<Integer> set : other.told) {
                told.add(new TreeSet<>(set));
            }
            chances = new ArrayList<>(other.chances);
            away = new TreeSet<>(other.away);
            sights = new ArrayList<>(other.sights);
            ties = new ArrayList<>(other.ties);
            guesses = new ArrayList<>(other.guesses);
            paper = other.paper;
        }

        int image() {
            kept = new Model();
            kept.take(this);
            return told.size();
        }

        int restore() {
            if (kept == null) {
                return no(-3);
            }
            take(kept);
            return told.size();
        }

        int count(int what) {
            int sum = 0;
            for (TreeSet<Integer> set : told) {
                sum += set.size();
            }
            int[] all = {steps, told.size(), bits(away), sights.size(), ties.size(), guesses.size(), sum,
                text.size(), row.size()};
            if (what >= 11 && what <= 16) {
                return refused[what - 10];
            }
            return what >= 0 && what < all.length ? all[what] : -9;
        }
    }
}
