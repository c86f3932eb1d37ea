/** For each promise of the document: ordinary inputs, the edges that it names, wrong inputs. */
public final class PromisesTest {
    private static final int NO = Integer.MIN_VALUE;
    private static final int NONE = StickStrings.NONE;
    private static final String DUO = "stick 15 0;beat 500 times 3;pause 100;beat 600;law lead 1 0 0 0 20;"
            + "law ear 0 1 0 1 0 ahead;player a lead 15 4 30 dares 3;player b ear 15 14 50 hears a dares 1;wrong a 1 10;";
    /** Three who see each other in a ring: a wrong entry grows without end. */
    private static final String RING = "beat 100 times 40;law f 0 0 1 0 0;player a f 0 0 0 sees b;"
            + "player b f 0 0 0 sees c;player c f 0 0 0 sees a;wrong a 1 2000;";
    private static final Due due = new Due();

    public static void main(String[] args) {
        promise01new();
        promise02feed();
        promise03text();
        promise04faultOfTokens();
        promise04faultOfTooMuch();
        promise04faultOfTheRest();
        promise05named();
        promise06look();
        promise07law();
        promise08begin();
        promise09way();
        promise10entry();
        promise10entryOfAllWeights();
        promise10entryAtTheBound();
        promise11spread();
        promise12lag();
        promise13verdict();
        promise14guilty();
        promise15take();
        promise16seat();
        promise17undo();
        promise18sound();
        promise19together();
        promise20where();
        promise21shift();
        promise22moved();
        promise23far();
        promise24ends();
        promise25goes();
        promise26by();
        promise27film();
        promise28strike();
        promise29known();
        promise30fits();
        promise31next();
        promise32orderOfFew();
        promise32orderOfMany();
        promise33pause();
        promise34two();
        promise35clear();
        promise36draws();
        promise37count();
        due.end();
    }

    private static void promise01new() {
        StickStrings s = new StickStrings();
        due.is("1 NONE", StickStrings.NONE, -1);
        int[] counts = {0, 0, 0, 0, 0, 0, 0, 15, 0};
        for (int what = 0; what < counts.length; what++) {
            due.is("1 count " + what, s.count(what), counts[what]);
        }
        due.is("1 fault", s.fault(0), 0);
        due.is("1 its place", s.fault(1), NONE);
        due.is("1 text of an empty tape", s.text(1), -2);
        due.is("1 undo", s.undo(), NONE);
        due.is("1 known", s.known(-1), true);
        due.is("1 text of nothing", s.text(0), 0);
    }

    private static void promise02feed() {
        StickStrings s = new StickStrings();
        int blanks = 0x20202020;
        for (int i = 1; i <= 40; i++) {
            due.is("2 feed " + i, s.feed(blanks, blanks, blanks, blanks, blanks), 20 * i);
        }
        due.is("2 feed beyond 800", s.feed(blanks, blanks, blanks, blanks, blanks), NONE);
        due.is("2 none came", s.text(801), -2);
        due.is("2 text of 800", s.text(800), 0);
        due.is("2 feed behind text", s.feed(0x73746963, 0x6b203320, 0x373b2020, blanks, blanks), 20);
        due.is("2 highest byte first", s.text(20), 1);
        due.is("2 x", s.count(7), 3);
        due.is("2 y", s.count(8), 7);
        due.is("2 bytes above 127", s.feed(-1, -1, -1, -1, -1), 20);
        due.is("2 they are no tokens", s.text(20), NONE);
        due.is("2 fault", s.fault(0), 1);
    }

    private static void promise03text() {
        StickStrings s = Due.told(DUO);
        s.take(0, 1);
        s.seat(1, 3, 3);
        s.film(0, 1, 5);
        s.known(0);
        Due.feed(s, "beat 100;beat 100;;");
        due.is("3 n below 0", s.text(-1), -2);
        due.is("3 too many", s.text(21), -2);
        due.is("3 the tape stayed, a fault", s.text(19), NONE);
        due.is("3 the tape is empty", s.text(1), -2);
        due.is("3 fault stays behind -2", s.fault(0), 1);
        due.is("3 its place", s.fault(1), 18);
        due.is("3 beats stay", s.count(2), 4);
        due.is("3 taken stays", s.look(0, 7), 1);
        due.is("3 place stays", s.look(1, 1), 3);
        due.is("3 notes stay", s.count(4), 1);
        due.is("3 known stays", s.count(5), 0);
        due.is("3 undo stays", s.count(6), 2);
        due.is("3 a good one", Due.tell(s, DUO), 9);
        due.is("3 nothing taken", s.look(0, 7), 0);
        due.is("3 places as told", s.look(1, 1), 15);
        due.is("3 no notes", s.count(4), 0);
        due.is("3 nothing to undo", s.undo(), NONE);
        due.is("3 film", s.film(0, 0, 0), 0);
        due.is("3 all known", s.count(5), 1);
        due.is("3 no fault", s.fault(0), 0);
        due.is("3 blanks and none", Due.tell(s, "\n beat\n100times 2 ;pause 7;\n"), 2);
        due.is("3 all new", s.count(1), 0);
        due.is("3 the last one is longer", s.begin(2), 207);
        Due.feed(s, "beat 100;beat 100;");
        due.is("3 only the first n bytes", s.text(9), 1);
        due.is("3 the rest is gone", s.text(9), -2);
    }

    private static void faultOf(String text, int fault, int place) {
        StickStrings s = new StickStrings();
        due.is("4 " + text, Due.tell(s, text), NONE);
        due.is("4 fault of " + text, s.fault(0), fault);
        due.is("4 place in " + text, s.fault(1), place);
    }

    private static void good(String text, int lines) {
        due.is("4 " + text, Due.tell(new StickStrings(), text), lines);
    }

    private static final String LAW = "law l 1 1 1 1 0;";

    private static void promise04faultOfTokens() {
        faultOf(";", 1, 0);
        faultOf("beat 100", 1, 8);
        faultOf("beat 100  ", 1, 10);
        faultOf("beat 100;;", 1, 9);
        faultOf("beat 100 beat 100;", 1, 9);
        faultOf("beat;", 1, 4);
        faultOf("beat - 100;", 1, 5);
        faultOf("Beat 100;", 1, 0);
        faultOf("beat\t100;", 1, 4);
        faultOf("stick 1 2 3;", 1, 10);
        faultOf("tempo 100;", 1, 0);
        faultOf("times 3;", 1, 0);
        faultOf("beat 100 times;", 1, 14);
        faultOf("law lawlaws 1 1 1 1 0;", 1, 4);
        faultOf("law ahead 1 1 1 1 0;", 1, 4);
        faultOf("law l 1 1 1 1 - - 5;", 1, 16);
        faultOf("law l 1 - 1 1 1 5;", 1, 8);
        faultOf("law l 1 1 1 1 5 ahead ahead;", 1, 22);
        faultOf(LAW + "player wrong l 0 0 0;", 1, 23);
        faultOf(LAW + "player p l 0 0 0 sees 5;", 1, 38);
        faultOf(LAW + "player p l 0 0 0 sees sees;", 1, 38);
        faultOf(LAW + "player p l 0 0 0 dares;", 1, 38);
        faultOf(LAW + "player p l 0 0 0 ahead;", 1, 33);
        faultOf(LAW + "player p l 0 0;", 1, 30);
        faultOf("beat 100;player", 1, 15);
        faultOf("beat 100;\u00e9", 1, 9);
        good("law lawlaw 1 1 1 1 0;", 1);
        good("stick1 1;law a1 1 1 1-5ahead;", 2);
        faultOf("stick1 1;lawa1 1 1 1-5ahead;", 1, 9);
        good("", 0);
        good("beat 0000000000000000000000100;", 1);
        StickStrings s = new StickStrings();
        due.is("4 another what", s.fault(2), NONE);
        due.is("4 a what below", s.fault(-1), NONE);
    }

    private static void promise04faultOfTooMuch() {
        faultOf("stick 0 31;", 2, 8);
        good("stick 30 30;", 1);
        good("beat 100;beat 4000;pause 9999;pause 0;", 4);
        faultOf("beat 99;", 2, 5);
        faultOf("beat 4001;", 2, 5);
        faultOf("beat 99999999999999999999999;", 2, 5);
        faultOf("beat 4294967396;", 2, 5);
        faultOf("beat 100 times 0;", 2, 15);
        faultOf("beat 100 times 41;", 2, 15);
        faultOf("beat 100;pause 10000;", 2, 15);
        good("beat 100 times 39;beat 100;", 2);
        faultOf("beat 100 times 39;beat 100 times 2;", 2, 33);
        faultOf("beat 100 times 40;beat 100 times 2;", 2, 18);
        faultOf("beat 100 times 40;beat x", 2, 18);
        good("law a 9 9 9 9 500;law b 0 0 0 0 - 500;law c 0 0 0 0 - 0;", 3);
        faultOf("law a 10 x", 2, 6);
        faultOf("law a 9 9 9 9 501;", 2, 14);
        faultOf("law a 9 9 9 9 - 501;", 2, 16);
        good(LAW + "player p l 30 30 300 dares 99;", 2);
        faultOf(LAW + "player p l 31 0 0;", 2, 27);
        faultOf(LAW + "player p l 0 31 0;", 2, 29);
        faultOf(LAW + "player p l 0 0 301;", 2, 31);
        faultOf(LAW + "player p l 0 0 0 dares 100;", 2, 39);
        good(LAW + "player p l 0 0 0;wrong p 39 2000;wrong p 0 - 2000;", 4);
        faultOf(LAW + "player p l 0 0 0;wrong p 40 0;", 2, 41);
        faultOf(LAW + "player p l 0 0 0;wrong p 1 2001;", 2, 43);
        faultOf(LAW + "player p l 0 0 0;wrong p 1 - 2001;", 2, 45);
        faultOf(LAW + "player p l 0 0 0 sees a hears a sees b sees c sees d sees e", 2, 69);
        faultOf(LAW + "player p l 0 0 0 hears a sees a hears b hears c hears d hears a", 2, 72);
        StringBuilder many = new StringBuilder();
        for (char c = 'a'; c <= 'f'; c++) {
            many.append("law ").append(c).append(" 1 1 1 1 0;");
        }
        good(many.toString(), 6);
        faultOf(many + "law a", 2, many.length());
        many.setLength(0);
        many.append(LAW);
        for (char c = 'a'; c <= 'h'; c++) {
            many.append("player ").append(c).append(" l 0 0 0;");
        }
        good(many.toString(), 9);
        faultOf(many + "player a", 2, many.length());
        many.setLength(0);
        many.append(LAW).append("player p l 0 0 0;");
        many.append("wrong p 1 1;".repeat(6));
        good(many.toString(), 8);
        faultOf(many + "wrong q", 2, many.length());
    }

    private static void promise04faultOfTheRest() {
        faultOf("stick 1 1;stick x", 3, 10);
        faultOf(LAW + "law l", 3, 20);
        faultOf(LAW + "player p l 0 0 0;player p", 3, 40);
        good(LAW + "player l l 0 0 0;", 2);
        faultOf(LAW + "player p l 0 0 0 dares 1 sees q dares", 3, 48);
        faultOf(LAW + "player p l 0 0 0 sees q hears q hears q", 3, 54);
        good(LAW + "player p l 0 0 0 sees q hears q;player q l 0 0 0 hears p sees p;", 3);
        faultOf("player p l 0 0 0;law l 1 1 1 1 0;", 4, 9);
        faultOf(LAW + "wrong p 1 1;player p l 0 0 0;", 4, 22);
        faultOf(LAW + "player p l 0 0 0;wrong l 1 1;", 4, 39);
        faultOf("pause x", 5, 0);
        faultOf("stick 1 1;pause 1;beat 100;", 5, 10);
        faultOf(LAW + "player p l 0 0 0 hears q sees r;", 6, 39);
        faultOf(LAW + "player p l 0 0 0 hears p;", 6, 39);
        faultOf(LAW + "player p l 0 0 0 sees l;", 6, 38);
        // Who is no PLAYER is asked at the end alone: what is wrong behind it comes first.
        faultOf(LAW + "player p l 0 0 0 sees q;pause 1;", 5, 40);
        faultOf(LAW + "player p l 0 0 0 sees q", 1, 39);
        faultOf(LAW + "player p l 0 0 0 sees q;player q l 0 0 0 sees p hears r sees q;", 6, 70);
    }

    private static void promise05named() {
        StickStrings s = Due.told("law cellos 1 1 1 1 0;law a 1 1 1 1 0;player a a 0 0 0;player cellos a 0 0 0;"
                + "player zzzzzz a 0 0 0;");
        due.is("5 law cellos", s.named(0, Due.letters("cellos")), 0);
        due.is("5 law a", s.named(0, Due.letters("a")), 1);
        due.is("5 player a", s.named(1, Due.letters("a")), 0);
        due.is("5 player cellos", s.named(1, Due.letters("cellos")), 1);
        due.is("5 player zzzzzz", s.named(1, Due.letters("zzzzzz")), 2);
        due.is("5 no such law", s.named(0, Due.letters("zzzzzz")), NONE);
        due.is("5 letters behind", s.named(0, 1), NONE);
        due.is("5 no letters", s.named(0, 0), NONE);
        due.is("5 more than 30 bits", s.named(0, Due.letters("a") | 1 << 30), NONE);
        due.is("5 below 0", s.named(0, -1), NONE);
        due.is("5 what 2", s.named(2, Due.letters("a")), NONE);
        due.is("5 what -1", s.named(-1, Due.letters("a")), NONE);
    }

    private static void promise06look() {
        StickStrings s = Due.told("law k 1 1 1 1 0;law l 1 1 1 1 0;player p l 3 4 50 sees q hears r dares 9;"
                + "player q k 5 6 7 sees p sees r;player r l 1 2 0 hears q hears p;");
        int[][] want = {{1, 3, 4, 50, 9, 2, 4, 0}, {0, 5, 6, 7, 0, 5, 0, 0}, {1, 1, 2, 0, 0, 0, 3, 0}};
        for (int player = 0; player < 3; player++) {
            for (int what = 0; what < 8; what++) {
                due.is("6 look " + player + " " + what, s.look(player, what), want[player][what]);
            }
        }
        s.take(1, 10);
        s.seat(1, 30, 0);
        due.is("6 x now", s.look(1, 1), 30);
        due.is("6 y now", s.look(1, 2), 0);
        due.is("6 taken now", s.look(1, 7), 10);
        due.is("6 no such player", Due.lookThrows(s, 3, 0), 1);
        due.is("6 player below 0", Due.lookThrows(s, -1, 0), 1);
        due.is("6 no such what", Due.lookThrows(s, 0, 8), 2);
        due.is("6 what below 0", Due.lookThrows(s, 0, -1), 2);
        due.is("6 neither", Due.lookThrows(s, 3, 8), 1);
    }

    private static void promise07law() {
        StickStrings s = Due.told("law k 1 2 3 4 - 500 ahead;law l 9 0 8 7 6;");
        int[][] want = {{1, 2, 3, 4, -500, 1}, {9, 0, 8, 7, 6, 0}};
        for (int law = 0; law < 2; law++) {
            for (int what = 0; what < 6; what++) {
                due.is("7 law " + law + " " + what, s.law(law, what), want[law][what]);
            }
        }
        due.is("7 no such law", s.law(2, 0), NO);
        due.is("7 law below 0", s.law(-1, 0), NO);
        due.is("7 no such what", s.law(0, 6), NO);
        due.is("7 what below 0", s.law(0, -1), NO);
    }

    private static void promise08begin() {
        StickStrings s = Due.told("beat 100 times 2;pause 50;pause 7;beat 4000;");
        int[] want = {0, 100, 257, 4257};
        for (int beat = 0; beat < want.length; beat++) {
            due.is("8 begin " + beat, s.begin(beat), want[beat]);
        }
        due.is("8 beyond", s.begin(4), NONE);
        due.is("8 below 0", s.begin(-1), NONE);
        due.is("8 no beats", new StickStrings().begin(0), NONE);
    }

    private static void promise09way() {
        StickStrings s = Due.told(LAW + "player a l 0 0 0;player b l 3 4 0;player c l 30 30 0;player d l 1 1 0;");
        due.is("9 3 and 4 apart", s.way(0, 1), 15);
        due.is("9 back", s.way(1, 0), 15);
        due.is("9 farthest", s.way(0, 2), 127);
        due.is("9 cut", s.way(0, 3), 4);
        due.is("9 himself", s.way(2, 2), 0);
        due.is("9 no such player", s.way(4, 0), NONE);
        due.is("9 no such other", s.way(0, 4), NONE);
        due.is("9 below 0", s.way(-1, 0), NONE);
        s.seat(0, 3, 4);
        due.is("9 with the place of now", s.way(0, 1), 0);
    }

    private static void promise10entry() {
        StickStrings s = Due.told("beat 100 times 3;law f 0 0 1 0 0;law s 1 0 0 0 10;law z 1 0 0 0 - 7;"
                + "player a f 0 0 0 sees b sees c;player b s 0 0 9;player c z 0 0 9;wrong b 9 5;");
        due.is("10 a 0", s.entry(0, 0), 0);
        due.is("10 a 1, each one seen says", s.entry(0, 1), 101);
        due.is("10 a 2, by his own pace", s.entry(0, 2), 202);
        due.is("10 b 2", s.entry(1, 2), 210);
        due.is("10 c 2", s.entry(2, 2), 193);
        due.is("10 no such beat", s.entry(0, 3), NO);
        due.is("10 beat below 0", s.entry(0, -1), NO);
        due.is("10 no such player", s.entry(3, 0), NO);
        due.is("10 player below 0", s.entry(-1, 0), NO);
        s = Due.told("beat 100 times 3;law f 0 0 1 0 0;law s 1 0 0 0 - 201;law z 1 0 0 0 - 500;"
                + "player a f 0 0 0 sees b sees c;player b s 0 0 9;player c z 0 0 9;");
        due.is("10 cut downwards below 0", s.entry(0, 1), -251);
        s = Due.told("beat 100;pause 50;beat 100 times 2;law f 0 0 5 5 30;player a f 0 0 0;");
        due.is("10 weights of none: 0", s.entry(0, 0), 30);
        due.is("10 weights of none: own and BEGIN of 1", s.entry(0, 1), 180);
        due.is("10 weights of none: own", s.entry(0, 2), 330);
        s = Due.told("beat 100 times 2;law f 0 0 0 0 0;player a f 0 0 0;wrong a 0 9;wrong a 1 - 5;wrong a 1 7;");
        due.is("10 wrong at 0", s.entry(0, 0), 9);
        due.is("10 two wrong ones", s.entry(0, 1), 111);
    }

    private static void promise10entryOfAllWeights() {
        StickStrings s = Due.told("beat 100 times 3;law h 0 0 0 1 5;law s 1 0 0 0 0;player a s 0 0 20;"
                + "player b h 3 4 200 hears a;");
        due.is("10 heard: 0", s.entry(1, 0), 5);
        due.is("10 heard: 0 and 20 and 15 and 100", s.entry(1, 1), 135);
        due.is("10 heard: 100 and 20 and 15 and 130", s.entry(1, 2), 265);
        s = Due.told("beat 100 times 3;law h 0 0 0 1 5 ahead;law s 1 0 0 0 0;player a s 0 0 20;"
                + "player b h 3 4 200 hears a;");
        due.is("10 ahead: 0", s.entry(1, 0), -195);
        due.is("10 ahead: his own speak less", s.entry(1, 1), -65);
        // STICK 3 * (100 + 8), OWN 2 * (8 + 100), SEEN 4 * (1 + 100), HEARD 5 * (1 + 30 + 9 + 100), by 14.
        s = Due.told("beat 100 times 2;law w 3 2 4 5 8;law s 1 0 0 0 1;player a w 3 0 7 sees b hears b;player b s 0 0 30;");
        due.is("10 all weights", s.entry(0, 1), (324 + 216 + 404 + 700) / 14);
        due.is("10 take the stick", s.take(0, 1), true);
        due.is("10 without the stick", s.entry(0, 1), (216 + 404 + 700) / 11);
        due.is("10 take all but heard", s.take(0, 7), true);
        due.is("10 by ear alone", s.entry(0, 1), 140);
        due.is("10 take all", s.take(0, 15), true);
        due.is("10 by nothing", s.entry(0, 1), 108);
        due.is("10 at 0 nothing taken counts", s.entry(0, 0), 8);
    }

    private static void promise10entryAtTheBound() {
        StickStrings s = Due.told(RING);
        long[][] t = new long[3][40];
        boolean[] reached = new boolean[2];
        for (int n = 0; n < 40; n++) {
            for (int p = 0; p < 3; p++) {
                if (n > 0) {
                    long pace = n == 1 ? 100 : t[p][n - 1] - t[p][n - 2];
                    t[p][n] = t[(p + 1) % 3][n - 1] + pace + (n == 1 && p == 0 ? 2000 : 0);
                }
                reached[0] |= t[p][n] > 1000000000;
                reached[1] |= t[p][n] < -1000000000;
                t[p][n] = Math.max(-1000000000, Math.min(1000000000, t[p][n]));
                due.is("10 ring " + p + " " + n, s.entry(p, n), t[p][n]);
            }
        }
        due.is("10 the bound above is reached", reached[0], true);
        due.is("10 the bound below is reached", reached[1], true);
    }

    private static void promise11spread() {
        StickStrings s = Due.told("beat 100 times 2;law a 1 0 0 0 - 30;law b 1 0 0 0 12;law c 1 0 0 0 5;player a a 0 0 0;"
                + "player b b 0 0 0;player c c 0 0 0;wrong c 1 100;");
        due.is("11 at 0", s.spread(0), 42);
        due.is("11 at 1", s.spread(1), 135);
        due.is("11 no such beat", s.spread(2), NONE);
        due.is("11 below 0", s.spread(-1), NONE);
        due.is("11 without players", Due.told("beat 100;").spread(0), 0);
        due.is("11 no beats", Due.told(LAW + "player p l 0 0 0;").spread(0), NONE);
    }

    private static void promise12lag() {
        StickStrings s = Due.told("beat 100 times 2;law a 1 0 0 0 - 30;law b 1 0 0 0 12;law c 1 0 0 0 5;player a a 0 0 0;"
                + "player b b 0 0 0;player c c 0 0 0;wrong c 1 100;");
        due.is("12 cut downwards", s.lag(0), -5);
        due.is("12 at 1", s.lag(1), 29);
        due.is("12 no such beat", s.lag(2), NO);
        due.is("12 below 0", s.lag(-1), NO);
        due.is("12 without players", Due.told("beat 100;").lag(0), 0);
    }

    private static void promise13verdict() {
        String one = "beat 100 times 10;law s 1 0 0 0 0;player a s 0 0 0;player b s 0 0 0;";
        StickStrings s = Due.told(one + "wrong a 9 40;wrong b 9 40;wrong a 0 77;wrong a 1 0;");
        due.is("13 drags", s.verdict(39), 1);
        due.is("13 by as much holds", s.verdict(40), 0);
        s = Due.told(one + "wrong a 1 40;wrong b 1 40;");
        due.is("13 rushes from beat 1", s.verdict(39), 2);
        due.is("13 by as much holds", s.verdict(40), 0);
        s = Due.told(one + "wrong a 9 41;");
        due.is("13 apart", s.verdict(40), 3);
        due.is("13 apart goes before drags", s.verdict(0), 3);
        due.is("13 not apart by 41", s.verdict(41), 0);
        s = Due.told(one + "wrong a 1 90;wrong a 9 31;wrong b 9 31;");
        due.is("13 less apart than ahead", s.verdict(0), 2);
        s = Due.told("beat 100 times 3;law s 1 0 0 0 0;player a s 0 0 0;wrong a 0 5;wrong a 2 9;");
        due.is("13 fewer beats: by beat 0", s.verdict(3), 1);
        due.is("13 fewer beats: holds", s.verdict(4), 0);
        due.is("13 e below 0", s.verdict(-1), NONE);
        due.is("13 e beyond", s.verdict(10000), NONE);
        due.is("13 most e", s.verdict(9999), 0);
        due.is("13 no beats", new StickStrings().verdict(0), NONE);
        due.is("13 no players", Due.told("beat 100;").verdict(0), 0);
    }

    private static void promise14guilty() {
        // By ear alone b is behind a by 0, 35, 70, 70, 35, 0 again and again: 35 more at BEAT 9 than at 1.
        StickStrings s = Due.told("beat 100 times 10;law s 1 0 0 0 0;law h 0 0 0 1 0;player a s 0 0 20;"
                + "player b h 3 4 0 hears a;");
        due.is("14 it comes apart", s.verdict(34), 3);
        due.is("14 by 35", s.guilty(35, 0), -2);
        due.is("14 who", s.guilty(34, 0), 1);
        due.is("14 what", s.guilty(5, 1), 8);
        due.is("14 it holds", s.guilty(9999, 0), -2);
        due.is("14 it holds, what 1", s.guilty(9999, 1), -2);
        due.is("14 no such what", s.guilty(5, 2), NONE);
        due.is("14 no such what below", s.guilty(5, -1), NONE);
        due.is("14 no such what, it holds", s.guilty(9999, 2), NONE);
        due.is("14 no such e", s.guilty(-1, 0), NONE);
        due.is("14 e beyond", s.guilty(10000, 0), NONE);
        due.is("14 nothing is changed", s.look(1, 7), 0);
        s.take(1, 8);
        due.is("14 taken: it holds", s.guilty(5, 0), -2);
        s = Due.told("beat 100 times 10;law s 1 0 0 0 0;player a s 0 0 0;wrong a 9 100;");
        due.is("14 none does it", s.guilty(0, 0), NONE);
        due.is("14 no beats", new StickStrings().guilty(0, 0), NONE);
        due.is("14 run of the document", Due.told(DUO).guilty(20, 1), 1);
        // Wrong at the last BEAT itself: no taking helps.
        s = Due.told("beat 100 times 10;law o 1 2 0 0 0;player a o 0 0 0;player b o 0 0 0;wrong a 9 - 100;wrong b 9 - 90;");
        due.is("14 two of them: verdict", s.verdict(10), 2);
        due.is("14 two of them: none does it", s.guilty(10, 0), NONE);
    }

    private static void promise15take() {
        StickStrings s = Due.told(DUO);
        due.is("15 take", s.take(1, 15), true);
        due.is("15 taken", s.look(1, 7), 15);
        due.is("15 not more, but these", s.take(1, 2), true);
        due.is("15 taken now", s.look(1, 7), 2);
        due.is("15 the other has all", s.look(0, 7), 0);
        due.is("15 counted", s.count(6), 2);
        due.is("15 bits below", s.take(1, -1), false);
        due.is("15 bits beyond", s.take(1, 16), false);
        due.is("15 no such player", s.take(2, 1), false);
        due.is("15 player below 0", s.take(-1, 1), false);
        due.is("15 none of these is counted", s.count(6), 2);
        due.is("15 the same again is true", s.take(1, 2), true);
        due.is("15 and counted", s.count(6), 3);
    }

    private static void promise16seat() {
        StickStrings s = Due.told(DUO);
        due.is("16 seat", s.seat(1, 30, 0), true);
        due.is("16 way", s.way(0, 1), 46);
        due.is("16 entry goes by it", s.entry(1, 1), 498);
        due.is("16 x beyond", s.seat(1, 31, 0), false);
        due.is("16 y beyond", s.seat(1, 0, 31), false);
        due.is("16 x below", s.seat(1, -1, 0), false);
        due.is("16 y below", s.seat(1, 0, -1), false);
        due.is("16 no such player", s.seat(2, 0, 0), false);
        due.is("16 player below 0", s.seat(-1, 0, 0), false);
        due.is("16 still there", s.look(1, 1), 30);
        due.is("16 once counted", s.count(6), 1);
    }

    private static void promise17undo() {
        StickStrings s = Due.told(DUO);
        s.take(0, 3);
        s.seat(0, 1, 2);
        s.take(0, 4);
        s.seat(1, 9, 9);
        due.is("17 undo seat of b", s.undo(), 3);
        due.is("17 b", s.look(1, 1), 15);
        due.is("17 undo take of a", s.undo(), 2);
        due.is("17 a taken", s.look(0, 7), 3);
        due.is("17 a sits", s.look(0, 2), 2);
        due.is("17 undo seat of a", s.undo(), 1);
        due.is("17 a sat", s.look(0, 2), 4);
        due.is("17 undo take of a", s.undo(), 0);
        due.is("17 nothing taken", s.look(0, 7), 0);
        due.is("17 none", s.undo(), NONE);
        for (int i = 0; i < 25; i++) {
            s.seat(0, i, i);
        }
        due.is("17 of the last 20", s.count(6), 20);
        for (int left = 19; left >= 0; left--) {
            due.is("17 left", s.undo(), left);
            due.is("17 back to", s.look(0, 1), left + 4);
        }
        due.is("17 no more", s.undo(), NONE);
        due.is("17 stays", s.look(0, 1), 4);
        s.take(0, 16);
        due.is("17 a false one is none", s.undo(), NONE);
    }

    private static void promise18sound() {
        StickStrings s = Due.told(DUO);
        due.is("18 sound", s.sound(0, 1, 15, 0), 530 + 30 + 12);
        due.is("18 at the far end", s.sound(1, 1, 40, 40), 490 + 50 + 108);
        due.is("18 x beyond", s.sound(0, 0, 41, 0), NO);
        due.is("18 y beyond", s.sound(0, 0, 0, 41), NO);
        due.is("18 x below", s.sound(0, 0, -1, 0), NO);
        due.is("18 y below", s.sound(0, 0, 0, -1), NO);
        due.is("18 no such player", s.sound(2, 0, 0, 0), NO);
        due.is("18 no such beat", s.sound(0, 4, 0, 0), NO);
        s.seat(0, 15, 0);
        due.is("18 from the place of now", s.sound(0, 1, 15, 0), 560);
    }

    private static void promise19together() {
        StickStrings s = Due.told(DUO);
        due.is("19 one beat", s.together(15, 0, 1, 1), 10);
        due.is("19 all", s.together(15, 0, 0, 3), 20 + 10 + 85 + 37);
        due.is("19 b below a", s.together(15, 0, 1, 0), NONE);
        due.is("19 a below 0", s.together(15, 0, -1, 0), NONE);
        due.is("19 b no beat", s.together(15, 0, 0, 4), NONE);
        due.is("19 x beyond", s.together(41, 0, 0, 0), NONE);
        due.is("19 y beyond", s.together(0, 41, 0, 0), NONE);
        due.is("19 x below", s.together(-1, 0, 0, 0), NONE);
        due.is("19 y below", s.together(0, -1, 0, 0), NONE);
        due.is("19 without players", Due.told("beat 100;").together(0, 0, 0, 0), 0);
    }

    private static void promise20where() {
        // Alike but for their places: best on the line between them, of it in the least y.
        StickStrings s = Due.told("beat 100 times 2;law s 1 0 0 0 0;player a s 10 9 0;player b s 20 9 0;");
        due.is("20 x", s.where(0, 1, 0), 15);
        due.is("20 y", s.where(0, 1, 1), 0);
        due.is("20 how much", s.where(0, 1, 2), 0);
        // One over the other: on the line between them y is 14 for all x, so the least x.
        s = Due.told("beat 100 times 2;law s 1 0 0 0 0;player a s 9 10 0;player b s 9 18 0;");
        due.is("20 x", s.where(0, 1, 0), s.together(0, 13, 0, 1) == 0 ? NONE : 0);
        due.is("20 y", s.where(0, 1, 1), 14);
        s = Due.told("beat 100 times 2;law s 1 0 0 0 0;player a s 0 0 300;player b s 1 0 0;");
        due.is("20 it can't be together: x", s.where(1, 1, 0), 0);
        due.is("20 it can't be together: y", s.where(1, 1, 1), 0);
        due.is("20 it can't be together", s.where(1, 1, 2), 297);
        due.is("20 no such what", s.where(0, 1, 3), NONE);
        due.is("20 what below", s.where(0, 1, -1), NONE);
        due.is("20 b no beat", s.where(0, 2, 0), NONE);
        due.is("20 a below 0", s.where(-1, 0, 0), NONE);
        due.is("20 b below a", s.where(1, 0, 0), NONE);
        due.is("20 without players", Due.told("beat 100;").where(0, 0, 2), 0);
    }

    private static void promise21shift() {
        StickStrings s = Due.told(LAW + "player a l 0 0 10;player b l 3 4 0;player c l 0 0 200;");
        due.is("21 a", s.shift(0, 0, 0), 190);
        due.is("21 b", s.shift(1, 0, 0), 185);
        due.is("21 c", s.shift(2, 0, 0), 0);
        due.is("21 no such player", s.shift(3, 0, 0), NONE);
        due.is("21 x beyond", s.shift(0, 41, 0), NONE);
        due.is("21 y below", s.shift(0, 0, -1), NONE);
        due.is("21 last seat", s.shift(0, 40, 40), 190);
        s.seat(1, 0, 0);
        due.is("21 with the place of now", s.shift(1, 0, 0), 200);
    }

    private static void promise22moved() {
        StickStrings s = Due.told(DUO);
        due.is("22 himself", s.moved(0, 1, -7, 0, 1), -7);
        due.is("22 ahead of it", s.moved(0, 1, -7, 0, 0), 0);
        due.is("22 by the stick again", s.moved(0, 1, -7, 0, 2), 0);
        due.is("22 who hears him", s.moved(0, 1, 100, 1, 2), 50);
        due.is("22 most", s.moved(0, 1, 2000, 0, 1), 2000);
        due.is("22 least", s.moved(0, 1, -2000, 0, 1), -2000);
        due.is("22 beyond", s.moved(0, 1, 2001, 0, 1), NO);
        due.is("22 below", s.moved(0, 1, -2001, 0, 1), NO);
        due.is("22 v 0", s.moved(0, 1, 0, 0, 1), NO);
        due.is("22 no such wrong one", s.moved(2, 1, 5, 0, 1), NO);
        due.is("22 no such beat", s.moved(0, 4, 5, 0, 1), NO);
        due.is("22 beat below 0", s.moved(0, -1, 5, 0, 1), NO);
        due.is("22 no such player", s.moved(0, 1, 5, 2, 1), NO);
        due.is("22 no such m", s.moved(0, 1, 5, 0, 4), NO);
        due.is("22 nothing is changed", s.count(3), 1);
        due.is("22 entry", s.entry(0, 1), 530);
    }

    private static void promise23far() {
        StickStrings s = Due.told(DUO);
        due.is("23 himself", s.far(0, 0, -100, 0), 100);
        due.is("23 the other", s.far(0, 0, -100, 2), 75);
        due.is("23 ahead of it", s.far(0, 2, -100, 1), 0);
        due.is("23 v 0", s.far(0, 0, 0, 0), NONE);
        due.is("23 v beyond", s.far(0, 0, 2001, 0), NONE);
        due.is("23 no such wrong one", s.far(2, 0, 5, 0), NONE);
        due.is("23 no such beat", s.far(0, 4, 5, 0), NONE);
        due.is("23 no such m", s.far(0, 0, 5, 4), NONE);
        due.is("23 m below 0", s.far(0, 0, 5, -1), NONE);
    }

    private static void promise24ends() {
        StickStrings s = Due.told("beat 100 times 30;law s 1 0 0 0 0;law h 1 1 0 0 0;player a s 0 0 0;player b h 0 0 0;");
        due.is("24 by the stick at once", s.ends(0, 3, 500), 4);
        due.is("24 at the last beat", s.ends(0, 29, 500), NONE);
        due.is("24 one is none", s.ends(0, 29, -1), 29);
        due.is("24 at its beat", s.ends(0, 3, 1), 3);
        int end = s.ends(1, 0, 60);
        due.is("24 it ends", end > 0, true);
        for (int m = end; m < 30; m++) {
            due.is("24 no farther than 1 at " + m, s.far(1, 0, 60, m) <= 1, true);
        }
        due.is("24 farther ahead of it", s.far(1, 0, 60, end - 1) > 1, true);
        due.is("24 v 0", s.ends(0, 3, 0), -2);
        due.is("24 no such player", s.ends(2, 3, 5), -2);
        due.is("24 no such beat", s.ends(0, 30, 5), -2);
        due.is("24 v beyond", s.ends(0, 3, -2001), -2);
    }

    private static void promise25goes() {
        StickStrings s = Due.told("beat 100 times 12;law s 1 0 0 0 0;law h 0 0 0 1 0;player a s 0 0 0;player b h 0 0 0 hears a;"
                + "player c h 0 0 0 hears b;player d s 0 0 0;");
        due.is("25 himself", s.goes(0, 2, 50, 0, 49), 1);
        due.is("25 not by more than e", s.goes(0, 2, 50, 0, 50), 0);
        due.is("25 who hears him", s.goes(0, 2, 50, 1, 49), 3);
        due.is("25 who hears that one", s.goes(0, 2, -50, 2, 49), 7);
        due.is("25 to the last beat", s.goes(0, 2, 50, 40, 0), 7);
        due.is("25 from the last beat", s.goes(0, 11, 50, 40, 0), 1);
        due.is("25 k beyond", s.goes(0, 2, 50, 41, 0), NONE);
        due.is("25 k below", s.goes(0, 2, 50, -1, 0), NONE);
        due.is("25 e beyond", s.goes(0, 2, 50, 0, 10000), NONE);
        due.is("25 e below", s.goes(0, 2, 50, 0, -1), NONE);
        due.is("25 v 0", s.goes(0, 2, 0, 0, 0), NONE);
        due.is("25 no such player", s.goes(4, 2, 1, 0, 0), NONE);
        due.is("25 no such beat", s.goes(0, 12, 1, 0, 0), NONE);
    }

    private static void promise26by() {
        StickStrings s = Due.told("law e 0 0 1 0 0;law h 0 0 0 1 0;player a e 0 0 0 sees b hears d;player b h 0 0 0 hears c sees d;"
                + "player c e 0 0 0;player d h 0 0 0 hears a;");
        due.is("26 straight and by others", s.by(0), 6);
        due.is("26 straight", s.by(1), 4);
        due.is("26 none", s.by(2), 0);
        due.is("26 all", s.by(3), 7);
        s.take(1, 8);
        due.is("26 not what is taken", s.by(0), 2);
        due.is("26 nor behind it", s.by(3), 3);
        due.is("26 no such player", s.by(4), NONE);
        due.is("26 below 0", s.by(-1), NONE);
        due.is("26 in a ring himself, too", Due.told(RING).by(0), 7);
        // The last link first: a chain that no single round along the numbers finds.
        s = Due.told("law e 0 0 1 0 0;player a e 0 0 0;player b e 0 0 0 sees a;player c e 0 0 0 sees b;"
                + "player d e 0 0 0 sees c;player e e 0 0 0 sees d;");
        due.is("26 a chain", s.by(4), 15);
    }

    private static void promise27film() {
        StickStrings s = Due.told(DUO);
        due.is("27 first", s.film(0, 0, -1000000), 0);
        due.is("27 second", s.film(1, 3, 1000000), 1);
        due.is("27 time beyond", s.film(0, 0, 1000001), NONE);
        due.is("27 time below", s.film(0, 0, -1000001), NONE);
        due.is("27 no such player", s.film(2, 0, 0), NONE);
        due.is("27 no such beat", s.film(0, 4, 0), NONE);
        due.is("27 beat below 0", s.film(0, -1, 0), NONE);
        for (int i = 2; i < 40; i++) {
            due.is("27 film " + i, s.film(0, 0, 20), i);
        }
        due.is("27 there are 40", s.film(0, 0, 20), NONE);
        due.is("27 no strike either", s.strike(0), NONE);
        due.is("27 counted", s.count(4), 40);
    }

    private static void promise28strike() {
        StickStrings s = Due.told(DUO);
        due.is("28 no such note", s.strike(0), NONE);
        s.film(0, 1, 0);
        due.is("28 it fits none", s.fits(0, 0), 0);
        due.is("28 strike", s.strike(0), 1);
        due.is("28 struck: all fit", s.fits(0, 0), 3);
        due.is("28 strike the strike", s.strike(1), 2);
        due.is("28 it counts again", s.fits(0, 0), 0);
        due.is("28 strike that", s.strike(2), 3);
        due.is("28 struck again", s.fits(0, 0), 3);
        due.is("28 strike twice", s.strike(0), 4);
        due.is("28 strike one of both", s.strike(4), 5);
        due.is("28 the other one strikes", s.fits(0, 0), 3);
        due.is("28 below 0", s.strike(-1), NONE);
        due.is("28 to come", s.strike(6), NONE);
        due.is("28 counted", s.count(4), 6);
    }

    private static void promise29known() {
        StickStrings s = Due.told(DUO);
        s.film(0, 1, 530);
        s.film(0, 2, 0);
        s.strike(1);
        due.is("29 all", s.fits(0, 0), 1);
        due.is("29 by all", s.count(5), 3);
        due.is("29 two", s.known(2), true);
        due.is("29 without the strike", s.fits(0, 0), 0);
        due.is("29 by two", s.count(5), 2);
        due.is("29 one", s.known(1), true);
        due.is("29 the first alone", s.fits(0, 0), 1);
        due.is("29 none", s.known(0), true);
        due.is("29 none: all laws", s.fits(0, 0), 3);
        due.is("29 too many", s.known(4), false);
        due.is("29 below", s.known(-2), false);
        due.is("29 as it was", s.count(5), 0);
        due.is("29 three", s.known(3), true);
        s.film(0, 0, 999);
        due.is("29 not those to come", s.count(5), 3);
        due.is("29 not those to come: fits", s.fits(0, 0), 1);
        due.is("29 all again", s.known(-1), true);
        due.is("29 by four", s.count(5), 4);
        due.is("29 fits none", s.fits(0, 0), 0);
        s.film(0, 0, 999);
        due.is("29 those to come, too", s.count(5), 5);
    }

    private static void promise30fits() {
        StickStrings s = Due.told("beat 100 times 3;law a 1 0 0 0 10;law b 1 0 0 0 20;law c 0 1 0 0 10;player p a 0 0 0;"
                + "player q a 0 0 0;wrong p 0 5;");
        due.is("30 without notes", s.fits(0, 0), 7);
        s.film(0, 1, 110);
        due.is("30 one law", s.fits(0, 0), 1);
        due.is("30 with d", s.fits(0, 5), 5);
        due.is("30 by 10 off", s.fits(0, 10), 7);
        due.is("30 by 9 off", s.fits(0, 9), 5);
        due.is("30 of the other all", s.fits(1, 0), 7);
        s.film(0, 2, 221);
        due.is("30 each one", s.fits(0, 11), 7);
        due.is("30 not the first", s.fits(0, 10), 6);
        due.is("30 the third alone", s.fits(0, 9), 4);
        due.is("30 his law stays", s.look(0, 0), 0);
        s.take(0, 1);
        due.is("30 with what is taken", s.fits(0, 6), 5);
        due.is("30 no such player", s.fits(2, 0), NONE);
        due.is("30 d beyond", s.fits(0, 10000), NONE);
        due.is("30 d below", s.fits(0, -1), NONE);
        due.is("30 most d", s.fits(0, 9999), 7);
    }

    private static void promise31next() {
        // Like HABITS: by the stick alone or by his own alone, all are as one at BEAT 0.
        StickStrings s = Due.told("beat 100 times 4;law a 1 0 0 0 10;law b 0 1 0 0 10;law c 0 0 1 0 10;player p a 0 0 0 sees q;"
                + "player q a 0 0 0;wrong p 1 50;wrong q 0 30;");
        due.is("31 all fit", s.fits(0, 9999), 7);
        due.is("31 what to take", s.next(0, 9999, 0), 2);
        due.is("31 its group", s.next(0, 9999, 1), 1);
        s.film(0, 2, 210);
        due.is("31 fewer than two", s.next(0, 0, 0), NONE);
        due.is("31 fewer than two, group", s.next(0, 0, 1), NONE);
        s.take(0, 15);
        due.is("31 nothing left: the first", s.next(0, 9999, 0), 1);
        due.is("31 all in one", s.next(0, 9999, 1), 3);
        due.is("31 no such what", s.next(0, 9999, 2), NONE);
        due.is("31 what below", s.next(0, 9999, -1), NONE);
        due.is("31 no such player", s.next(2, 9999, 0), NONE);
        due.is("31 d beyond", s.next(0, 10000, 0), NONE);
        due.is("31 d below", s.next(0, -1, 0), NONE);
        due.is("31 taken stays", s.look(0, 7), 15);
        // Without the stick a and b are alike, without their own too, without eyes c and d.
        s = Due.told("beat 100 times 4;law a 1 0 0 0 10;law b 1 1 0 0 10;law c 0 1 1 0 10;law d 0 0 1 0 10;"
                + "player p a 0 0 0 sees q;player q a 0 0 0;wrong p 1 50;wrong q 0 30;");
        due.is("31 the last of them", s.next(0, 9999, 0), 8);
        due.is("31 all apart", s.next(0, 9999, 1), 1);
        s.take(0, 4);
        due.is("31 eyes taken: his own, too", s.next(0, 9999, 0), 2);
        due.is("31 eyes taken: two alike", s.next(0, 9999, 1), 2);
        due.is("31 one law", Due.told(LAW + "beat 100;player p l 0 0 0;").next(0, 0, 0), NONE);
        due.is("31 no beats: all alike", Due.told(LAW + "law k 1 1 1 1 9;player p l 0 0 0;").next(0, 0, 1), 2);
    }

    private static void promise32orderOfFew() {
        // a speaks 60 late: he should be 20 nearer to the seat than b.
        StickStrings s = Due.told("beat 100 times 2;law s 1 0 0 0 0;player a s 0 20 60;player b s 0 0 0;player c s 0 10 30;");
        due.is("32 as it is", s.together(0, 0, 0, 1), 240);
        due.is("32 how much", s.order(0, 0, 0, 1, 0), 0);
        due.is("32 a has b's", s.order(0, 0, 0, 1, 1), 1);
        due.is("32 b has a's", s.order(0, 0, 0, 1, 2), 0);
        due.is("32 c has his own", s.order(0, 0, 0, 1, 3), 2);
        due.is("32 no more players", s.order(0, 0, 0, 1, 4), NONE);
        due.is("32 what below", s.order(0, 0, 0, 1, -1), NONE);
        due.is("32 x beyond", s.order(41, 0, 0, 1, 0), NONE);
        due.is("32 y below", s.order(0, -1, 0, 1, 0), NONE);
        due.is("32 b no beat", s.order(0, 0, 0, 2, 0), NONE);
        due.is("32 b below a", s.order(0, 0, 1, 0, 0), NONE);
        due.is("32 a below 0", s.order(0, 0, -1, 0, 0), NONE);
        due.is("32 nothing is changed", s.together(0, 0, 0, 1), 240);
        due.is("32 nothing to undo", s.undo(), NONE);
        due.is("32 no players", Due.told("beat 100;").order(0, 0, 0, 0, 0), NONE);
        s.seat(0, 0, 0);
        s.seat(1, 0, 20);
        due.is("32 with the places of now", s.order(0, 0, 0, 1, 1), 0);
        s = Due.told("beat 100;law s 1 0 0 0 0;player a s 5 5 0;player b s 5 5 0;player c s 5 5 9;");
        for (int what = 1; what <= 3; what++) {
            due.is("32 of several the first", s.order(0, 0, 0, 0, what), what - 1);
        }
        // Who changes PLACES hears otherwise: b in the seat, a 24 away, both from 124 on, and c at 127.
        s = Due.told("beat 100 times 2;law s 1 0 0 0 0;law h 0 0 0 1 0;player a s 0 0 0;player b h 0 1 0 hears a;player c s 0 9 0;");
        due.is("32 as it is", s.together(0, 9, 1, 1), 27);
        due.is("32 how much", s.order(0, 9, 1, 1, 0), 3);
    }

    private static void promise32orderOfMany() {
        StringBuilder text = new StringBuilder("beat 100;law s 1 0 0 0 0;");
        int[] ys = {0, 20, 10, 30, 5, 15};
        int[] speaks = {0, 60, 30, 90, 45, 15};
        for (int i = 0; i < 6; i++) {
            text.append("player ").append((char) ('a' + i)).append(" s 0 ").append(ys[i]).append(' ').append(speaks[i]).append(';');
        }
        StickStrings s = Due.told(text.toString());
        int[] place = {0, 1, 2, 3, 4, 5};
        long least = width(place, ys, speaks);
        due.is("32 as it is", s.together(0, 0, 0, 0), least);
        for (int round = 0; round < 20; round++) {
            int[] best = place;
            for (int i = 0; i < 6; i++) {
                for (int j = i + 1; j < 6; j++) {
                    int[] changed = place.clone();
                    changed[i] = place[j];
                    changed[j] = place[i];
                    if (width(changed, ys, speaks) < least) {
                        least = width(changed, ys, speaks);
                        best = changed;
                    }
                }
            }
            place = best;
        }
        due.is("32 of six", s.order(0, 0, 0, 0, 0), least);
        due.is("32 of six it got less", least < s.together(0, 0, 0, 0), true);
        for (int what = 1; what <= 6; what++) {
            due.is("32 of six " + what, s.order(0, 0, 0, 0, what), place[what - 1]);
        }
        due.is("32 no seventh", s.order(0, 0, 0, 0, 7), NONE);
    }

    private static long width(int[] place, int[] ys, int[] speaks) {
        long most = Long.MIN_VALUE;
        long least = Long.MAX_VALUE;
        for (int i = 0; i < place.length; i++) {
            most = Math.max(most, speaks[i] + 3 * ys[place[i]]);
            least = Math.min(least, speaks[i] + 3 * ys[place[i]]);
        }
        return most - least;
    }

    private static void promise33pause() {
        StickStrings s = Due.told(LAW + "player a l 0 0 0 dares 6;player b l 0 0 0;player c l 0 0 0 dares 9;");
        int[][] want = {{2, 5}, {0, 1}, {3, 5}};
        for (int player = 0; player < 3; player++) {
            due.is("33 above " + player, s.pause(player, 0), want[player][0]);
            due.is("33 below " + player, s.pause(player, 1), want[player][1]);
        }
        due.is("33 no such what", s.pause(0, 2), NONE);
        due.is("33 what below", s.pause(0, -1), NONE);
        due.is("33 no such player", s.pause(3, 0), NONE);
        due.is("33 player below 0", s.pause(-1, 0), NONE);
        s = Due.told(LAW + "player a l 0 0 0;player b l 0 0 0 dares 0;");
        due.is("33 0 by", s.pause(0, 0), 0);
        due.is("33 by 0", s.pause(0, 1), 0);
        s = Due.told(LAW + "player a l 0 0 0 dares 99;");
        due.is("33 he alone", s.pause(0, 0), 1);
        due.is("33 by 1", s.pause(0, 1), 1);
    }

    private static void promise34two() {
        // Each goes by the other's ear alone: each beat is later by SPEAK and WAY, so the PACE grows by it.
        String text = "beat 100 times 6;law h 9 0 0 1 0;player a h 0 0 20 hears b hears c;player b h 3 4 20 hears a;"
                + "player c h 9 9 300 hears a;";
        StickStrings s = Due.told(text);
        due.is("34 at 2", s.two(0, 1, 2), 35);
        due.is("34 at 3", s.two(0, 1, 3), 70);
        due.is("34 at 5", s.two(1, 0, 5), 140);
        due.is("34 c hears a, b hears c not", s.two(1, 2, 5), 0);
        s.take(0, 8);
        due.is("34 with what is taken", s.two(0, 1, 5), 0);
        due.is("34 both the same", s.two(0, 0, 2), NO);
        due.is("34 n 1", s.two(0, 1, 1), NO);
        due.is("34 n below", s.two(0, 1, -1), NO);
        due.is("34 n no beat", s.two(0, 1, 6), NO);
        due.is("34 no such first", s.two(3, 1, 2), NO);
        due.is("34 no such second", s.two(0, 3, 2), NO);
        due.is("34 second below 0", s.two(0, -1, 2), NO);
        s = Due.told(text + "wrong a 1 50;wrong c 1 900;");
        due.is("34 wrong ones of theirs stay", s.two(0, 1, 2), 85);
        due.is("34 nothing is taken", s.look(0, 7), 0);
    }

    private static void promise35clear() {
        StickStrings s = Due.told("law a 1 1 1 1 - 30;law b 1 1 1 1 10;law c 1 1 1 1 100;law d 1 1 1 1 500;player a c 0 0 0;"
                + "player b b 0 0 0;player c a 0 0 0;");
        due.is("35 k", s.clear(0), 10);
        due.is("35 sum", s.clear(1), 130);
        due.is("35 no such what", s.clear(2), NO);
        due.is("35 what below", s.clear(-1), NO);
        s = Due.told("law a 1 1 1 1 - 30;law b 1 1 1 1 10;player a b 0 0 0;player b a 0 0 0;");
        due.is("35 the least such", s.clear(0), -30);
        due.is("35 its sum", s.clear(1), 40);
        due.is("35 no players", Due.told(LAW).clear(0), NO);
        due.is("35 no players, sum", Due.told(LAW).clear(1), NO);
    }

    private static void promise36draws() {
        // Numbers by seed 0, by 65536: 0, 21468, 9988, 22117, 3498, 16927: modulo 3: 0 0, 1 1, 0 1.
        StickStrings s = Due.told("beat 100 times 2;law s 1 0 0 0 0;player a s 0 0 0;");
        due.is("36 first draw", s.draws(0, 1, 1, 0), 1);
        due.is("36 two draws", s.draws(0, 2, 1, 0), 2);
        due.is("36 three draws", s.draws(0, 3, 1, 0), 2);
        due.is("36 wide enough", s.draws(0, 3, 1, 1), 3);
        due.is("36 no chance", s.draws(77, 50, 0, 0), 50);
        due.is("36 greatest seed", s.draws(Integer.MAX_VALUE, 50, 200, 400), 50);
        due.is("36 seed below", s.draws(-1, 1, 1, 0), NONE);
        due.is("36 many 0", s.draws(0, 0, 1, 0), NONE);
        due.is("36 many beyond", s.draws(0, 51, 1, 0), NONE);
        due.is("36 j below", s.draws(0, 1, -1, 0), NONE);
        due.is("36 j beyond", s.draws(0, 1, 201, 0), NONE);
        due.is("36 e below", s.draws(0, 1, 1, -1), NONE);
        due.is("36 e beyond", s.draws(0, 1, 1, 10000), NONE);
        due.is("36 no beats", Due.told(LAW + "player p l 0 0 0;").draws(0, 1, 1, 0), NONE);
        due.is("36 no players", Due.told("beat 100;").draws(0, 7, 1, 0), 7);
        due.is("36 nothing is changed", s.entry(0, 1), 100);
        // By his own last one: at BEAT 1 he is late by both numbers, -1 and -1, so LAG falls by 1.
        s = Due.told("beat 100 times 2;law o 0 1 0 0 0;player a o 0 0 0;");
        due.is("36 who goes by them", s.draws(0, 1, 1, 0), 0);
        due.is("36 by one", s.draws(0, 1, 1, 1), 1);
    }

    private static void promise37count() {
        StickStrings s = Due.told("stick 3 4;" + DUO.substring(11));
        s.film(0, 0, 0);
        s.film(0, 0, 0);
        s.known(1);
        s.take(0, 0);
        int[] want = {2, 2, 4, 1, 2, 1, 1, 3, 4};
        for (int what = 0; what < want.length; what++) {
            due.is("37 count " + what, s.count(what), want[what]);
        }
        due.is("37 another what", s.count(9), NONE);
        due.is("37 what below", s.count(-1), NONE);
    }
}
