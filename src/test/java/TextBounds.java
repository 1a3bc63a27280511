/** Boundaries of promises 1 to 5, of term I, and of TOKENS and FAULTS. */
final class TextBounds {
    private static final int NO = -2;
    private static final String VILLAGER = "villager cold 1 shy 1;";
    private static final String TWO = Texts.LEAST + VILLAGER + VILLAGER;

    private TextBounds() {
    }

    static void run() {
        newObject();
        feedUpToFull();
        feedOfBytes();
        endOfTape();
        greenOfNothing();
        greenInPlace();
        greenOfFault();
        faultOfLatest();
        numbersInBounds();
        handsInBounds();
        oneWears();
        asManyAsCanBe();
        signs();
        longestTokens();
        wordsByLetter();
        wordsInPlace();
        firstFault();
        cutAnywhere();
        fullTapes();
    }

    private static WaistcoatGreen typed(String text) {
        WaistcoatGreen x = new WaistcoatGreen();
        Check.type(x, text);
        return x;
    }

    private static void good(String text, int lines) {
        WaistcoatGreen x = typed(text);
        Check.due(4, "green() of '" + text + "'", x.green(), lines);
        Check.due(5, "fault(0) of '" + text + "'", x.fault(0), 0);
        Check.due(5, "fault(1) of '" + text + "'", x.fault(1), -1);
        Check.due(4, "the tape is empty behind '" + text + "'", x.count(10), 0);
        Check.due(4, "lines of '" + text + "'", x.count(9), lines);
    }

    private static void bad(String text, int fault, int place) {
        WaistcoatGreen x = typed(text);
        Check.due(4, "green() of '" + text + "'", x.green(), -4);
        Check.due(5, "fault(0) of '" + text + "'", x.fault(0), fault);
        Check.due(5, "fault(1) of '" + text + "'", x.fault(1), place);
        Check.due(4, "the tape stays of '" + text + "'", x.count(10), text.length());
    }

    // ---- 1 ----

    private static void newObject() {
        WaistcoatGreen x = new WaistcoatGreen();
        for (int what = 0; what <= 11; what++) {
            Check.due(1, "count(" + what + ")", x.count(what), 0);
        }
        Check.due(1, "has(0)", x.has(0), NO);
        Check.due(1, "cover()", x.cover(), NO);
        Check.due(1, "villager(0, 0)", x.villager(0, 0), NO);
        Check.due(1, "undo()", x.undo(), NO);
        for (int k = 0; k < 3; k++) {
            Check.due(1, "back(" + k + ")", x.back(k), -6);
        }
        for (int slot = 0; slot < 4; slot++) {
            Check.due(1, "write(" + slot + ", 0, 0)", x.write(slot, 0, 0), -6);
        }
        Check.told(Texts.FULL);
        WaistcoatGreen y = new WaistcoatGreen();
        Check.due(1, "another object has no green", y.has(0), NO);
    }

    // ---- 2 ----

    private static void feedUpToFull() {
        WaistcoatGreen x = new WaistcoatGreen();
        for (int i = 1; i <= 35; i++) {
            Check.due(2, "feed " + i, x.feed(0x20202020, 0x20202020, 0x20202020, 0x20202020, 0x20202020), 20 * i);
        }
        Check.due(2, "a 36th", x.feed(0, 0, 0, 0, 0), -1);
        Check.due(2, "none came", x.count(10), 700);
        Check.due(2, "none came: all are blanks still", x.green(), 0);
        Check.due(2, "room again behind green()", x.feed(0, 0, 0, 0, 0), 20);
        int[] had = {679, 680, 681, 699};
        int[] answers = {699, 700, -1, -1};
        for (int i = 0; i < had.length; i++) {
            WaistcoatGreen y = typed(" ".repeat(had[i]));
            Check.due(2, "feed behind " + had[i], y.feed(0, 0, 0, 0, 0), answers[i]);
            Check.due(2, "bytes behind " + had[i] + " and a feed", y.count(10), Math.max(had[i], answers[i]));
        }
        WaistcoatGreen z = typed(" ".repeat(681 - Texts.ONE.length()) + Texts.ONE);
        Check.due(2, "feed behind 681", z.feed(-1, -1, -1, -1, -1), -1);
        Check.due(2, "none came behind 681", z.green(), 2);
    }

    private static void feedOfBytes() {
        WaistcoatGreen x = new WaistcoatGreen();
        Check.due(2, "the highest first: green mornings 1 law", x.feed(0x67726565, 0x6e206d6f, 0x726e696e, 0x67732031,
                0x206c6177), 20);
        Check.due(2, "4 odds", x.feed(0x20340000, 0, 0, 0, 0), 40);
        Check.due(2, "green()", x.green(), -4);
        Check.due(2, "fault(0) at law 4", x.fault(0), 2);
        Check.due(2, "fault(1) at law 4", x.fault(1), 21);
        int[] numbers = {-1, Integer.MIN_VALUE, 0x207f0000, 0x20ff0000, 0x20202080};
        int[] places = {0, 0, 1, 1, 3};
        for (int i = 0; i < numbers.length; i++) {
            WaistcoatGreen y = new WaistcoatGreen();
            y.feed(numbers[i], 0, 0, 0, 0);
            Check.due(2, "green() of bytes of " + numbers[i], y.green(), -4);
            Check.due(2, "fault(1) of bytes of " + numbers[i], y.fault(1), places[i]);
        }
        WaistcoatGreen z = new WaistcoatGreen();
        for (int n = 0; n < 5; n++) {
            int[] a = {0x20202020, 0x20202020, 0x20202020, 0x20202020, 0x20202020};
            a[n] = 0x20203b20;
            z.end(0);
            z.feed(a[0], a[1], a[2], a[3], a[4]);
            z.green();
            Check.due(2, "a sign in number " + n, z.fault(1), 4 * n + 2);
        }
    }

    // ---- 3 ----

    private static void endOfTape() {
        WaistcoatGreen x = new WaistcoatGreen();
        Check.due(3, "end(0) of none", x.end(0), 0);
        Check.due(3, "end(1) of none", x.end(1), -1);
        Check.due(3, "end(-1) of none", x.end(-1), -1);
        Check.type(x, Texts.ONE + "!".repeat(700 - Texts.ONE.length()));
        int[] refused = {701, -1, Integer.MIN_VALUE, Integer.MAX_VALUE, 720};
        for (int n : refused) {
            Check.due(3, "end(" + n + ") of 700", x.end(n), -1);
            Check.due(3, "nothing happens by end(" + n + ")", x.count(10), 700);
        }
        Check.due(3, "end(700) of 700", x.end(700), 700);
        Check.due(3, "end(699) of 700", x.end(699), 699);
        Check.due(3, "end(700) of 699", x.end(700), -1);
        Check.due(3, "end to the text", x.end(Texts.ONE.length()), Texts.ONE.length());
        Check.due(3, "the first bytes are as they were", x.green(), 2);
        Check.due(3, "end(1) behind green()", x.end(1), -1);
        Check.type(x, "green mornings 1 law 0 odds 0 warm 0 chill 0");
        Check.due(3, "end(8)", x.end(8), 8);
        Check.due(3, "feed behind 8", x.feed(0x726e696e, 0x67732031, 0x206c6177, 0x20302020, 0x20202020), 28);
        Check.type(x, "odds 0 warm 0 chill 0;");
        Check.due(3, "green() of both parts", x.green(), 1);
        Check.type(x, ";");
        Check.due(3, "end(0)", x.end(0), 0);
        Check.due(3, "green() of none", x.green(), 0);
    }

    // ---- 4, 5 ----

    private static void greenOfNothing() {
        String[] texts = {"", " ", "\n", " \n \n\n  ", " ".repeat(700), "\n".repeat(700)};
        for (String text : texts) {
            good(text, 0);
            WaistcoatGreen x = Check.told(Texts.FULL);
            x.gives(0, 0);
            x.image(1);
            Check.type(x, text);
            Check.due(4, "green() of nothing", x.green(), 0);
            for (int what = 0; what <= 10; what++) {
                Check.due(4, "count(" + what + ") behind nothing", x.count(what), 0);
            }
            Check.due(4, "has(0) behind nothing", x.has(0), NO);
            Check.due(4, "undo() behind nothing", x.undo(), NO);
            Check.due(4, "the image stays", x.back(1), 0);
            Check.due(4, "the image's acts", x.count(8), 1);
        }
        WaistcoatGreen y = Check.told(Texts.ONE);
        Check.due(4, "green() twice: the tape was empty", y.green(), 0);
        Check.due(4, "there is none then", y.has(0), NO);
    }

    /** Nothing of an earlier green is left, nor of a text that had a fault. */
    private static void greenInPlace() {
        String full = Texts.FULL.replace("law 0", "law 3");
        String bare = Texts.green(14, 1, 2, 3, 4) + Texts.villager(5, 6).repeat(7);
        for (String spoilt : new String[] {"", "!"}) {
            WaistcoatGreen x = typed(full + spoilt);
            x.green();
            x.end(0);
            x.gives(0, 0);
            Check.type(x, bare);
            Check.due(4, "green() in place of another", x.green(), 8);
            for (int v = 0; v < 7; v++) {
                Check.due(4, "hands(" + v + ") of the new one", x.hands(v), 0);
                Check.due(4, "cold of the new one", x.villager(v, 0), 5);
                Check.due(4, "shy of the new one", x.villager(v, 1), 6);
            }
            for (int m = 1; m <= 14; m++) {
                Check.due(4, "frost(" + m + ") of the new one", x.frost(m), 4);
            }
            long[] counts = {14, 1, 2, 3, 4, 7, 0, 0, 0, 8, 0};
            for (int what = 0; what <= 10; what++) {
                Check.due(4, "count(" + what + ") of the new one", x.count(what), counts[what]);
            }
            Check.due(4, "has(0) of the new one", x.has(0), -1);
            Check.type(x, full + spoilt);
            x.green();
            x.end(0);
            Check.due(4, "green() of nothing in place of another", x.green(), 0);
            for (int what = 0; what <= 10; what++) {
                Check.due(4, "count(" + what + ") of nothing", x.count(what), 0);
            }
            Check.type(x, Texts.LEAST);
            x.green();
            Check.due(4, "villagers of one without", x.count(5), 0);
            Check.due(4, "cover() of one without", x.cover(), 0);
            Check.due(4, "sum() of one without", x.sum(), 0);
        }
    }

    private static void greenOfFault() {
        WaistcoatGreen x = Check.told(Texts.FULL);
        x.gives(3, 0);
        x.sings(1, 14);
        x.row(2, 1, 60);
        Check.type(x, Texts.ONE + "villager cold 9 shy 9 wears;hand 0 1;frost 1 at 1;!");
        int bytes = x.count(10);
        for (int i = 0; i < 3; i++) {
            Check.due(4, "green() of a fault", x.green(), -4);
            Check.due(5, "fault(0)", x.fault(0), 1);
            Check.due(5, "fault(1)", x.fault(1), bytes - 1);
            long[] counts = {14, 0, 5, 40, 20, 7, 12, 8, 2, 28, bytes, 1};
            for (int what = 0; what <= 11; what++) {
                Check.due(4, "count(" + what + ") stays", x.count(what), counts[what]);
            }
            Check.due(4, "has(1) stays", x.has(1), 3);
            Check.due(4, "cold(1, 14) stays", x.cold(1, 14), 89);
        }
        x.end(bytes - 1);
        Check.due(4, "green() without the sign", x.green(), 5);
        Check.due(4, "nothing is done", x.count(8), 0);
        Check.due(4, "slots stay", x.count(11), 1);
        WaistcoatGreen none = typed("!");
        Check.due(4, "green() of a fault on no green", none.green(), -4);
        Check.due(4, "no green stays", none.has(0), NO);
    }

    private static void faultOfLatest() {
        WaistcoatGreen x = new WaistcoatGreen();
        long[] whats = {-1, 2, Integer.MIN_VALUE, Integer.MAX_VALUE};
        for (long what : whats) {
            Check.due(5, "fault(" + what + ") ahead of any", x.fault((int) what), -1);
        }
        Check.due(5, "fault(0) ahead of any", x.fault(0), 0);
        Check.due(5, "fault(1) ahead of any", x.fault(1), -1);
        Check.type(x, "green mornings 15");
        Check.due(5, "fault(0) ahead of any, with a tape", x.fault(0), 0);
        x.green();
        for (long what : whats) {
            Check.due(5, "fault(" + what + ") of a fault", x.fault((int) what), -1);
        }
        x.end(0);
        x.image(0);
        x.back(0);
        Check.due(5, "fault(0) of the latest still", x.fault(0), 2);
        Check.due(5, "fault(1) of the latest still", x.fault(1), 15);
        Check.type(x, "!");
        x.green();
        Check.due(5, "fault(0) of a later one", x.fault(0), 1);
        Check.due(5, "fault(1) of place 0", x.fault(1), 0);
        x.end(0);
        x.green();
        Check.due(5, "fault(0) without", x.fault(0), 0);
        Check.due(5, "fault(1) without", x.fault(1), -1);
    }

    // ---- I ----

    /** A number's bounds; one beyond each is a fault at its place, and so is what would wrap around to it. */
    private static void bound(String ahead, int least, int greatest, String behind, int lines) {
        good(ahead + least + behind, lines);
        good(ahead + greatest + behind, lines);
        good(ahead + "000" + greatest + behind, lines);
        bad(ahead + (greatest + 1) + behind, 2, ahead.length());
        bad(ahead + (least - 1) + behind, least == 0 ? 1 : 2, ahead.length());
        bad(ahead + greatest + "0000000" + behind, 2, ahead.length());
        String[] wraps = {"256", "65536", "2147483648", "4294967296", "9223372036854775808", "18446744073709551616"};
        for (String wrap : wraps) {
            String around = new java.math.BigInteger(wrap).add(java.math.BigInteger.valueOf(least)).toString();
            bad(ahead + around + behind, 2, ahead.length());
        }
    }

    private static void numbersInBounds() {
        bound("green mornings ", 1, 14, " law 0 odds 0 warm 0 chill 0;", 1);
        bound("green mornings 1 law ", 0, 3, " odds 0 warm 0 chill 0;", 1);
        bound("green mornings 1 law 0 odds ", 0, 10, " warm 0 chill 0;", 1);
        bound("green mornings 1 law 0 odds 0 warm ", 0, 40, " chill 0;", 1);
        bound("green mornings 1 law 0 odds 0 warm 0 chill ", 0, 20, ";", 1);
        bound(Texts.LEAST + "villager cold ", 0, 60, " shy 0;", 2);
        bound(Texts.LEAST + "villager cold 0 shy ", 0, 99, " wears;", 2);
        bound(Texts.LEAST + "frost ", 1, 40, " at 1;", 2);
        bound(Texts.LEAST + "frost 1 at ", 1, 14, ";", 2);
        WaistcoatGreen least = Check.told(Texts.LEAST + Texts.villager(0, 0));
        WaistcoatGreen most = Check.told(Texts.MOST + Texts.villager(60, 99));
        long[] lows = {1, 0, 0, 0, 0};
        long[] highs = {14, 3, 10, 40, 20};
        for (int what = 0; what < 5; what++) {
            Check.due(70, "count(" + what + ") of the least", least.count(what), lows[what]);
            Check.due(70, "count(" + what + ") of the greatest", most.count(what), highs[what]);
        }
        Check.due(6, "cold of the least", least.villager(0, 0), 0);
        Check.due(6, "shy of the least", least.villager(0, 1), 0);
        Check.due(6, "cold of the greatest", most.villager(0, 0), 60);
        Check.due(6, "shy of the greatest", most.villager(0, 1), 99);
    }

    private static void handsInBounds() {
        String three = TWO + VILLAGER;
        String seven = Texts.LEAST + VILLAGER.repeat(7);
        bound(TWO + "hand 0 ", 1, 1, ";", 4);
        bound(seven + "hand 0 ", 1, 6, ";", 9);
        good(three + "hand 0 1;hand 2 1;hand 1 0;hand 1 2;", 8);
        bad(three + "hand 3 1;", 2, three.length() + 5);
        bad(three + "hand -1 1;", 1, three.length() + 5);
        bad(three + "hand 4294967296 1;", 2, three.length() + 5);
        good(seven + "hand 6 0;hand 0 6;hand 6 5;", 11);
        bad(seven + "hand 7 0;", 2, seven.length() + 5);
        bad(seven + "hand 6 6;", 2, seven.length() + 7);
        int at = TWO.length() + 5;
        bad(TWO + "hand 0 0;", 2, at + 2);
        bad(TWO + "hand 1 1;", 2, at + 2);
        bad(TWO + "hand 2 2;", 2, at);
        bad(TWO + "hand 2 0;" + VILLAGER, 2, at);
        bad(TWO + "hand 0 2;" + VILLAGER, 2, at + 2);
        bad(Texts.LEAST + "hand 0 1;", 2, Texts.LEAST.length() + 5);
        good(TWO + "hand 0 1;hand 0 1;hand 1 0;", 6);
        good(TWO + "hand 0 1;" + VILLAGER + "hand 0 2;", 6);
    }

    private static void oneWears() {
        String wears = "villager cold 1 shy 1 wears;";
        Check.due(12, "none wears it", Check.told(TWO).has(0), -1);
        for (int v = 0; v < 7; v++) {
            String text = Texts.LEAST + VILLAGER.repeat(v) + wears + VILLAGER.repeat(6 - v);
            Check.due(12, "villager " + v + " wears it", Check.told(text).has(0), v);
        }
        int second = Texts.LEAST.length() + wears.length() + 22;
        bad(Texts.LEAST + wears + wears, 2, second);
        bad(Texts.LEAST + wears + VILLAGER.repeat(5) + wears, 2, second + 5 * VILLAGER.length());
        bad(Texts.LEAST + wears + "villager cold 1 shy 1 wears", 2, second);
        bad(Texts.LEAST + "villager cold 1 shy 1 wears wears;", 1, Texts.LEAST.length() + 28);
        bad(Texts.LEAST + wears + "villager cold 1 shy 1 wears wears;", 2, second);
    }

    private static void asManyAsCanBe() {
        String seven = Texts.LEAST + VILLAGER.repeat(7);
        good(seven, 8);
        bad(seven + VILLAGER, 3, seven.length());
        bad(seven + " \n " + VILLAGER, 3, seven.length() + 3);
        bad(seven + "villager", 3, seven.length());
        bad(seven + "villager cold 61", 3, seven.length());
        bad(seven + "villager;", 3, seven.length());
        bad(seven + "villagers", 1, seven.length());
        bad(seven + "frost 41 at 1;" + VILLAGER, 2, seven.length() + 6);
        String twelve = TWO + "hand 0 1;".repeat(12);
        good(twelve, 15);
        bad(twelve + "hand 0 1;", 3, twelve.length());
        bad(twelve + "hand", 3, twelve.length());
        bad(twelve + "hand 9 9;", 3, twelve.length());
        String eight = Texts.LEAST + "frost 40 at 14;".repeat(8);
        good(eight, 9);
        bad(eight + "frost 1 at 1;", 3, eight.length());
        bad(eight + "frost", 3, eight.length());
        bad(eight + "frost 0 at 0;", 3, eight.length());
        good(eight + VILLAGER.repeat(7) + "hand 0 6;".repeat(12), 28);
        Check.due(4, "green() of all there can be", typed(Texts.FULL).green(), 28);
    }

    // ---- TOKENS ----

    private static void signs() {
        String ahead = Texts.LEAST + "villager";
        for (int sign = 0; sign < 256; sign++) {
            String text = ahead + (char) sign + "cold 1 shy 1;";
            boolean blank = sign == 32 || sign == 10;
            boolean letter = sign >= 'a' && sign <= 'z';
            if (blank) {
                good(text, 2);
            } else {
                bad(text, 1, letter ? Texts.LEAST.length() : ahead.length());
            }
            boolean digit = sign >= '0' && sign <= '9';
            if (!blank) {
                bad((char) sign + Texts.LEAST, 1, 0);
                bad(Texts.LEAST + (char) sign, 1, Texts.LEAST.length());
            }
            String open = Texts.LEAST.substring(0, Texts.LEAST.length() - 1);
            if (sign != ';' && !blank && !digit) {
                bad(open + (char) sign, 1, open.length());
                bad(open + (char) sign + VILLAGER, 1, open.length());
            }
            if (!blank && !digit) {
                bad(Texts.LEAST + "frost 1" + (char) sign + " at 1;", 1, Texts.LEAST.length() + 7);
            }
        }
    }

    private static void longestTokens() {
        good("green mornings1law0odds0warm0chill0;villager cold1shy1wears;villager cold1shy1;hand0 1;frost1at1;", 5);
        good("\n\ngreen\nmornings\n1\nlaw\n0\nodds\n0\nwarm\n0\nchill\n0\n;\n", 1);
        bad("greenmornings 1 law 0 odds 0 warm 0 chill 0;", 1, 0);
        bad("green mornings 1 4 law 0 odds 0 warm 0 chill 0;", 1, 17);
        bad("green mornings 1\n4 law 0 odds 0 warm 0 chill 0;", 1, 17);
        bad("gre en mornings 1", 1, 0);
        bad(TWO + "hand 01;", 1, TWO.length() + 7);
        bad(TWO + "hand 10;", 2, TWO.length() + 5);
        bad(Texts.LEAST + "villager cold 1 shy 1wearsx;", 1, Texts.LEAST.length() + 21);
        bad(Texts.LEAST + "villager cold 1 shy 1 wearswears;", 1, Texts.LEAST.length() + 22);
    }

    /** Each word of a text with a letter too few, too many, or another one. */
    private static void wordsByLetter() {
        String text = "green mornings 1 law 0 odds 0 warm 0 chill 0;villager cold 1 shy 1 wears;villager cold 1 shy 1;hand 0 1;"
                + "frost 1 at 1;";
        java.util.regex.Matcher words = java.util.regex.Pattern.compile("[a-z]+").matcher(text);
        int found = 0;
        while (words.find()) {
            found++;
            String ahead = text.substring(0, words.start());
            String behind = text.substring(words.end());
            String word = words.group();
            bad(ahead + "z" + word + behind, 1, words.start());
            bad(ahead + word + "s" + behind, 1, words.start());
            bad(ahead + word.substring(1) + behind, 1, words.start());
            bad(ahead + word.substring(0, word.length() - 1) + behind, 1, words.start());
            for (int i = 0; i < word.length(); i++) {
                bad(ahead + word.substring(0, i) + "z" + word.substring(i + 1) + behind, 1, words.start());
            }
            String first = word.substring(0, 1).toUpperCase(java.util.Locale.ROOT);
            bad(ahead + first + word.substring(1) + behind, 1, words.start());
        }
        Check.due(4, "words of the text", found, 16);
    }

    private static void wordsInPlace() {
        String[] others = {"villager cold 1 shy 1;", "hand 0 1;", "frost 1 at 1;", "wears;", "mornings 1;", "1;", ";", "x;"};
        for (String other : others) {
            bad(other, 1, 0);
            bad(" " + other + Texts.LEAST, 1, 1);
        }
        String[] wrong = {Texts.LEAST, "green", ";", "wears;", "mornings 1;", "0;", "x", "villagers cold 1 shy 1;", "hands 0 1;"};
        for (String other : wrong) {
            bad(TWO + other, 1, TWO.length());
            bad(TWO + "  " + other, 1, TWO.length() + 2);
        }
        int at = Texts.LEAST.length();
        bad(Texts.LEAST + "villager shy 1 cold 1;", 1, at + 9);
        bad(Texts.LEAST + "villager cold 1 wears shy 1;", 1, at + 16);
        bad(Texts.LEAST + "villager wears cold 1 shy 1;", 1, at + 9);
        bad(Texts.LEAST + "villager cold 1 shy 1 green;", 1, at + 22);
        bad(Texts.LEAST + "frost 1 1;", 1, at + 8);
        bad(Texts.LEAST + "frost at 1;", 1, at + 6);
        bad(TWO + "hand 0 1 wears;", 1, TWO.length() + 9);
        bad(TWO + "hand 0, 1;", 1, TWO.length() + 6);
    }

    // ---- FAULTS ----

    private static void firstFault() {
        bad("green mornings 15 law 4 ! green", 2, 15);
        bad("green mornings 1 ! law 4", 1, 17);
        bad("green mornings 1 law 4 !", 2, 21);
        bad(Texts.LEAST + VILLAGER.repeat(7) + "villager cold 99 !", 3, Texts.LEAST.length() + 154);
        bad(Texts.LEAST + "villager cold 61 shy 1;" + VILLAGER.repeat(8), 2, Texts.LEAST.length() + 14);
        bad(Texts.LEAST + "!" + VILLAGER.repeat(8), 1, Texts.LEAST.length());
        bad(Texts.LEAST + VILLAGER.repeat(6) + "villager cold 1 shy 1 villager", 1, Texts.LEAST.length() + 154);
    }

    /** A whole text cut behind each of its bytes: at a line's end it is good, in a word the word is wrong, else the end. */
    private static void cutAnywhere() {
        String text = "green mornings 14 law 0 odds 10 warm 0 chill 0; villager cold 10 shy 20 wears;\nvillager cold 1 shy 2 ;"
                + "hand 1 0; frost 10 at 11;";
        for (int n = 0; n <= text.length(); n++) {
            String cut = text.substring(0, n);
            String line = cut.substring(cut.lastIndexOf(';') + 1);
            int lines = (int) cut.chars().filter(sign -> sign == ';').count();
            if (line.isBlank()) {
                good(cut, lines);
                continue;
            }
            int word = n;
            while (word > 0 && Character.isLetter(text.charAt(word - 1))) {
                word--;
            }
            boolean inWord = word < n && n < text.length() && Character.isLetter(text.charAt(n));
            bad(cut, 1, inWord ? word : n);
            bad(cut + " \n", 1, inWord ? word : n + 2);
        }
    }

    private static void fullTapes() {
        bad("a".repeat(700), 1, 0);
        bad("1".repeat(700), 1, 0);
        bad(";".repeat(700), 1, 0);
        bad(" ".repeat(699) + ";", 1, 699);
        bad(" ".repeat(695) + "green", 1, 700);
        bad("green" + " ".repeat(695), 1, 700);
        String behind = " law 0 odds 0 warm 0 chill 0;";
        int room = 700 - "green mornings ".length() - behind.length();
        good("green mornings " + "0".repeat(room - 1) + "1" + behind, 1);
        bad("green mornings " + "0".repeat(room) + behind, 2, 15);
        bad("green mornings " + "9".repeat(room) + behind, 2, 15);
        bad("green mornings " + "1".repeat(685), 2, 15);
        good(Texts.FULL + " ".repeat(700 - Texts.FULL.length()), 28);
        good(" ".repeat(700 - Texts.FULL.length()) + Texts.FULL, 28);
        bad(" ".repeat(701 - Texts.FULL.length()) + Texts.FULL.substring(0, Texts.FULL.length() - 1), 1, 700);
    }
}
