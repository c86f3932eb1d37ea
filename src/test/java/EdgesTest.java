import java.util.ArrayList;
import java.util.List;
import java.util.function.IntToLongFunction;

/**
 * The boundary cases of the document, sentence by sentence: too small, too large, empty, full, wrapped around, refused.
 * Each is named by its promise's number; ordinary answers are asked in PromisesTest.
 */
public final class EdgesTest {
    private static final int NO = Integer.MIN_VALUE;
    private static final int NONE = StickStrings.NONE;
    private static final String LAW = "law l 1 1 1 1 0;";
    private static final String ONE = LAW + "player p l 0 0 0;";
    /** By the stick alone, 12 BEATS, two PLAYERS, two LAWS. */
    private static final String PAIR = "beat 100 times 12;law s 1 0 0 0 0;law t 1 0 0 0 9;player a s 0 0 0;player b t 3 4 10;";
    private static final String[] WORDS = {"stick", "beat", "times", "pause", "law", "ahead", "player", "sees", "hears",
        "dares", "wrong"};
    private static final Due due = new Due();

    public static void main(String[] args) {
        edges01new();
        edges02feed();
        edges03text();
        edges03textAgain();
        edges04bytes();
        edges04words();
        edges04moreMustCome();
        edges04noSuchToken();
        edges04numbers();
        edges04beats();
        edges04full();
        edges04toldAlready();
        edges04notTold();
        edges04firstAlongTheText();
        edges04ofTheLatestText();
        edges05named();
        edges06look();
        edges07law();
        edges08begin();
        edges09way();
        edges10entry();
        edges10entryOfZeroWeights();
        edges10entryAtTheBound();
        edges11spread();
        edges12lag();
        edges13verdict();
        edges14guilty();
        edges15take();
        edges16seat();
        edges17undo();
        edges17undoOfSeveral();
        edges18sound();
        edges19together();
        edges20where();
        edges21shift();
        edges22moved();
        edges23far();
        edges24ends();
        edges25goes();
        edges26by();
        edges27film();
        edges28strike();
        edges29known();
        edges30fits();
        edges31next();
        edges32order();
        edges32orderOfFiveAndSix();
        edges32orderTwentyTimes();
        edges33pause();
        edges34two();
        edges35clear();
        edges36draws();
        edges36drawsAtTheBound();
        edges37count();
        edgesOfManyCalls();
        due.end();
    }

    /** Asks the call with each value just outside and far outside least .. most: each is refused. */
    private static void outside(String call, IntToLongFunction asked, int least, int most, long refusal) {
        int[] values = {least - 1, most + 1, Integer.MIN_VALUE, Integer.MAX_VALUE, least - 256, most + 256};
        for (int value : values) {
            // Some bounds touch the end of all numbers: there is none beyond.
            if (value < least || value > most) {
                due.is(call + " with " + value, asked.applyAsLong(value), refusal);
            }
        }
    }

    /** The least and the most are not refused. */
    private static void inside(String call, IntToLongFunction asked, int least, int most, long refusal) {
        due.is(call + " with the least, " + least, asked.applyAsLong(least) != refusal, true);
        due.is(call + " with the most, " + most, asked.applyAsLong(most) != refusal, true);
    }

    private static void bounds(String call, IntToLongFunction asked, int least, int most, long refusal) {
        inside(call, asked, least, most, refusal);
        outside(call, asked, least, most, refusal);
    }

    private static long is(boolean answer) {
        return answer ? 1 : 0;
    }

    // ---- the text

    private static void edges01new() {
        StickStrings s = new StickStrings();
        due.is("1 no laws", s.law(0, 0), NO);
        due.is("1 no law is named", s.named(0, 0), NONE);
        due.is("1 no player is named", s.named(1, 0), NONE);
        due.is("1 no player to look at", Due.lookThrows(s, 0, 0), 1);
        due.is("1 no begin", s.begin(0), NONE);
        due.is("1 no way", s.way(0, 0), NONE);
        due.is("1 no entry", s.entry(0, 0), NO);
        due.is("1 no spread", s.spread(0), NONE);
        due.is("1 no lag", s.lag(0), NO);
        due.is("1 no verdict", s.verdict(0), NONE);
        due.is("1 none guilty", s.guilty(0, 0), NONE);
        due.is("1 none to take from", s.take(0, 0), false);
        due.is("1 none to seat", s.seat(0, 0, 0), false);
        due.is("1 nothing to undo", s.undo(), NONE);
        due.is("1 no sound", s.sound(0, 0, 0, 0), NO);
        due.is("1 not together", s.together(0, 0, 0, 0), NONE);
        due.is("1 nowhere", s.where(0, 0, 2), NONE);
        due.is("1 no shift", s.shift(0, 0, 0), NONE);
        due.is("1 none moved", s.moved(0, 0, 1, 0, 0), NO);
        due.is("1 not far", s.far(0, 0, 1, 0), NONE);
        due.is("1 no end", s.ends(0, 0, 1), -2);
        due.is("1 goes nowhere", s.goes(0, 0, 1, 0, 0), NONE);
        due.is("1 by none", s.by(0), NONE);
        due.is("1 no film", s.film(0, 0, 0), NONE);
        due.is("1 no note to strike", s.strike(0), NONE);
        due.is("1 known by none", s.known(0), true);
        due.is("1 known by no more", s.known(1), false);
        due.is("1 none fits", s.fits(0, 0), NONE);
        due.is("1 nothing next", s.next(0, 0, 0), NONE);
        due.is("1 no order", s.order(0, 0, 0, 0, 0), NONE);
        due.is("1 no odds", s.pause(0, 0), NONE);
        due.is("1 no two", s.two(0, 1, 2), NO);
        due.is("1 no doubt", s.clear(0), NO);
        due.is("1 no draws", s.draws(0, 1, 0, 0), NONE);
        due.is("1 the tape is empty", s.feed(0, 0, 0, 0, 0), 20);
    }

    private static void edges02feed() {
        StickStrings s = new StickStrings();
        String line = "beat 100 times 1   ;";
        for (int i = 1; i <= 39; i++) {
            Due.feed(s, line);
        }
        int blanks = 0x20202020;
        due.is("2 up to 800", s.feed(blanks, blanks, blanks, blanks, blanks), 800);
        due.is("2 full", s.feed(0, 0, 0, 0, 0), NONE);
        due.is("2 full still", s.feed(0, 0, 0, 0, 0), NONE);
        due.is("2 what came first stays", s.text(800), 39);
        due.is("2 room again", s.feed(blanks, blanks, blanks, blanks, blanks), 20);
        due.is("2 behind what is there", s.feed(blanks, blanks, blanks, blanks, blanks), 40);
        // Each of the twenty bytes at its own place: the digits of "stick 12 30;beat 345" in five numbers.
        s = new StickStrings();
        due.is("2 twenty bytes", s.feed(0x73746963, 0x6b203132, 0x2033303b, 0x62656174, 0x20333435), 20);
        due.is("2 the rest", s.feed(0x3b202020, blanks, blanks, blanks, blanks), 40);
        due.is("2 two lines", s.text(21), 2);
        due.is("2 x", s.count(7), 12);
        due.is("2 y", s.count(8), 30);
        due.is("2 beat", s.begin(1), 345);
        // The highest bit of a number is a byte's, no sign.
        s = new StickStrings();
        s.feed(0x200a2080, 0, 0, 0, 0);
        due.is("2 byte 128", s.text(4), NONE);
        due.is("2 its place", s.fault(1), 3);
    }

    private static void edges03text() {
        StickStrings s = new StickStrings();
        Due.feed(s, "beat 100;beat 100;  ");
        outside("3 text", s::text, 0, 20, -2);
        due.is("3 as many as there are", s.text(20), 2);
        outside("3 text of the empty tape", s::text, 0, 0, -2);
        due.is("3 nothing of the empty tape", s.text(0), 0);
        due.is("3 it is the text now", s.count(2), 0);
        Due.feed(s, "beat 100;beat 100;  ");
        due.is("3 nothing of a tape", s.text(0), 0);
        due.is("3 the tape is empty then", s.text(1), -2);
        Due.feed(s, "beat 100;beat 100;  ");
        due.is("3 cut inside a line", s.text(17), NONE);
        due.is("3 the tape is empty with a fault, too", s.text(1), -2);
        due.is("3 feed begins anew", s.feed(0, 0, 0, 0, 0), 20);
    }

    /** A text leaves nothing of the one ahead of it, a fault all of it. */
    private static void edges03textAgain() {
        String rich = "stick 3 4;beat 100 times 3;pause 50;law k 9 8 7 6 - 5 ahead;law l 1 1 1 1 7;"
                + "player a k 1 2 3 sees b hears b dares 9;player b l 4 5 6;wrong a 0 7;wrong b 1 8;";
        StickStrings s = Due.told(rich);
        s.take(0, 15);
        s.seat(1, 30, 30);
        s.film(0, 0, 9);
        s.strike(0);
        s.known(1);
        due.is("3 a fault at the very end", Due.tell(s, rich + "pause"), NONE);
        int[] counts = {2, 2, 3, 2, 2, 1, 2, 3, 4};
        for (int what = 0; what < counts.length; what++) {
            due.is("3 all stays: count " + what, s.count(what), counts[what]);
        }
        due.is("3 all stays: taken", s.look(0, 7), 15);
        due.is("3 all stays: place", s.look(1, 1), 30);
        due.is("3 all stays: begin", s.begin(3), 350);
        due.is("3 all stays: undo", s.undo(), 1);
        due.is("3 all stays: back", s.look(1, 1), 4);
        due.is("3 the same again", Due.tell(s, rich), 9);
        due.is("3 nothing taken", s.look(0, 7), 0);
        due.is("3 no notes", s.count(4), 0);
        due.is("3 known by all", s.count(5), 0);
        due.is("3 nothing to undo", s.undo(), NONE);
        due.is("3 a poorer one", Due.tell(s, "law z 0 1 0 0 0;player q z 0 0 0;player r z 0 0 0;beat 200 times 2;"), 4);
        due.is("3 no stick: x", s.count(7), 15);
        due.is("3 no stick: y", s.count(8), 0);
        due.is("3 old laws have no names", s.named(0, Due.letters("k")), NONE);
        due.is("3 old players have no names", s.named(1, Due.letters("a")), NONE);
        due.is("3 dares is 0", s.look(0, 4), 0);
        due.is("3 sees none", s.look(0, 5), 0);
        due.is("3 hears none", s.look(0, 6), 0);
        due.is("3 not ahead", s.law(0, 5), 0);
        due.is("3 no wrong ones", s.entry(0, 0), 0);
        due.is("3 no pause", s.begin(2), 400);
        due.is("3 no line at all", Due.tell(s, " \n "), 0);
        for (int what = 0; what < 7; what++) {
            due.is("3 no line at all: count " + what, s.count(what), 0);
        }
    }

    private static void faultOf(String text, int fault, int place) {
        StickStrings s = new StickStrings();
        due.is("4 " + text, Due.tell(s, text), NONE);
        due.is("4 fault of " + text, s.fault(0), fault);
        due.is("4 place in " + text, s.fault(1), place);
    }

    private static void good(String text, int lines) {
        StickStrings s = new StickStrings();
        due.is("4 " + text, Due.tell(s, text), lines);
        due.is("4 no fault of " + text, s.fault(0), 0);
        due.is("4 no place in " + text, s.fault(1), NONE);
    }

    private static void edges04bytes() {
        for (int b = 0; b < 256; b++) {
            String sign = String.valueOf((char) b);
            if (b == 10 || b == 32) {
                good(sign, 0);
                good("beat" + sign + "100" + sign + ";" + sign, 1);
            } else {
                faultOf(sign, 1, 0);
                faultOf("beat 100;" + sign, 1, 9);
                faultOf("beat " + sign + " 100;", isDigit(b) ? 2 : 1, 5);
            }
        }
    }

    private static boolean isDigit(int b) {
        return b >= '0' && b <= '9';
    }

    private static void edges04words() {
        for (String word : WORDS) {
            faultOf("law " + word + " 1 1 1 1 0;", 1, 4);
            faultOf(LAW + "player " + word + " l 0 0 0;", 1, 23);
            faultOf(LAW + "player p " + word + " 0 0 0;", 1, 25);
            faultOf(ONE.substring(0, ONE.length() - 1) + " sees " + word + ";", 1, 38);
            faultOf(ONE.substring(0, ONE.length() - 1) + " hears " + word + ";", 1, 39);
            faultOf(ONE + "wrong " + word + " 1 1;", 1, 39);
            // With a letter more or less it is another word.
            String more = word.length() < 6 ? word + "x" : word.substring(1);
            good("law " + more + " 1 1 1 1 0;player " + more + " " + more + " 0 0 0;wrong " + more + " 0 0;", 3);
            faultOf(more + " 1;", 1, 0);
        }
        good("law abcdef 1 1 1 1 0;player uvwxyz abcdef 0 0 0 sees q;player q abcdef 0 0 0 hears uvwxyz;wrong uvwxyz 1 1;", 4);
        faultOf("law abcdefg 1 1 1 1 0;", 1, 4);
        faultOf(LAW + "player abcdefg l 0 0 0;", 1, 23);
        faultOf(LAW + "player p lllllll 0 0 0;", 1, 25);
        faultOf(LAW + "player p l 0 0 0 sees abcdefg;", 1, 38);
        faultOf(LAW + "player p l 0 0 0 hears abcdefg;", 1, 39);
        faultOf(ONE + "wrong ppppppp 1 1;", 1, 39);
        faultOf("beatbeat 100;", 1, 0);
        faultOf("players p l 0 0 0;", 1, 0);
        // The first six letters alone don't make a name.
        faultOf("law abcdef 1 1 1 1 0;law abcdefa 1 1 1 1 0;", 1, 25);
    }

    private static final String ALL_LINES = "stick 1 2 ; beat 100 times 3 ; pause 4 ; law l 1 2 3 4 - 5 ahead ; law m 1 2 3 4 5 ; "
            + "player p l 1 2 3 sees q hears q dares 9 ; player q m 1 2 3 ; wrong p 0 - 6 ; wrong q 0 7 ;";

    /** Where each TOKEN of ALL_LINES begins. */
    private static List<Integer> places() {
        List<Integer> places = new ArrayList<>();
        for (int at = 0; at < ALL_LINES.length(); at++) {
            if (ALL_LINES.charAt(at) != ' ' && (at == 0 || ALL_LINES.charAt(at - 1) == ' ')) {
                places.add(at);
            }
        }
        return places;
    }

    private static void edges04moreMustCome() {
        good(ALL_LINES, 9);
        for (int place : places()) {
            // Cut ahead of this TOKEN: more must come, unless a LINE has just ended.
            boolean ended = place == 0 || ALL_LINES.startsWith("; ", place - 2);
            String cut = ALL_LINES.substring(0, place);
            if (!ended) {
                faultOf(cut, 1, place);
                faultOf(cut.trim(), 1, place - 1);
                faultOf(cut + "\n\n", 1, place + 2);
            } else if (!cut.contains("sees q") || cut.contains("player q")) {
                due.is("4 whole lines up to " + place, Due.tell(new StickStrings(), cut) >= 0, true);
            } else {
                faultOf(cut, 6, ALL_LINES.indexOf("sees q") + 5);
            }
        }
    }

    private static void edges04noSuchToken() {
        for (int place : places()) {
            String rest = ALL_LINES.substring(place);
            faultOf(ALL_LINES.substring(0, place) + "? " + rest, 1, place);
            faultOf(ALL_LINES.substring(0, place) + "= " + rest, 1, place);
            faultOf(ALL_LINES.substring(0, place) + "abcdefg " + rest, 1, place);
            faultOf(ALL_LINES.substring(0, place) + "times " + rest, 1, rest.startsWith("times") ? place + 6 : place);
        }
        faultOf(ALL_LINES + ";", 1, ALL_LINES.length());
        faultOf("beat -100;", 1, 5);
        faultOf("beat 100 times - 1;", 1, 15);
        faultOf("stick - 1 1;", 1, 6);
        faultOf("beat 100;pause - 1;", 1, 15);
        faultOf(LAW + "player p l - 1 0 0;", 1, 27);
        faultOf(LAW + "player p l 0 0 0 dares - 1;", 1, 39);
        faultOf(ONE + "wrong p - 1 0;", 1, 41);
        faultOf("beat 100 times 2 times 2;", 1, 17);
        faultOf("law l 1 1 1 1 0 - 1;", 1, 16);
        faultOf("law l 1 1 1 1 ahead;", 1, 14);
        faultOf("beat 100 ahead;", 1, 9);
        faultOf("beat 1 00;", 2, 5);
        faultOf("beat 100 0;", 1, 9);
    }

    /** A number's least and most at its place in a LINE; one more, one less, and wrapped around is too much. */
    private static void number(String ahead, int least, int most, String behind, int lines) {
        int place = ahead.length();
        good(ahead + least + behind, lines);
        good(ahead + most + behind, lines);
        good(ahead + "000000000000000000000" + most + behind, lines);
        faultOf(ahead + (most + 1) + behind, 2, place);
        faultOf(ahead + (4294967296L + least) + behind, 2, place);
        faultOf(ahead + "18446744073709551616" + behind, 2, place);
        faultOf(ahead + "340282366920938463463374607431768211456" + behind, 2, place);
        if (least > 0) {
            faultOf(ahead + (least - 1) + behind, 2, place);
            faultOf(ahead + "0" + behind, 2, place);
        }
    }

    /** A number that can't be below 0 has no sign ahead of it, be it as small as can be. */
    private static void unsigned(String ahead, int least, int most, String behind, int lines) {
        number(ahead, least, most, behind, lines);
        faultOf(ahead + "- " + most + behind, 1, ahead.length());
        faultOf(ahead + "-1" + behind, 1, ahead.length());
        faultOf(ahead + "-0" + behind, 1, ahead.length());
    }

    private static void edges04numbers() {
        unsigned("stick ", 0, 30, " 0;", 1);
        unsigned("stick 0 ", 0, 30, ";", 1);
        unsigned("beat ", 100, 4000, ";", 1);
        unsigned("beat 100 times ", 1, 40, ";", 1);
        unsigned("beat 100;pause ", 0, 9999, ";", 2);
        unsigned("law l ", 0, 9, " 0 0 0 0;", 1);
        unsigned("law l 0 ", 0, 9, " 0 0 0;", 1);
        unsigned("law l 0 0 ", 0, 9, " 0 0;", 1);
        unsigned("law l 0 0 0 ", 0, 9, " 0;", 1);
        number("law l 0 0 0 0 ", 0, 500, ";", 1);
        unsigned("law l 0 0 0 0 - ", 0, 500, " ahead;", 1);
        unsigned(LAW + "player p l ", 0, 30, " 0 0;", 2);
        unsigned(LAW + "player p l 0 ", 0, 30, " 0;", 2);
        unsigned(LAW + "player p l 0 0 ", 0, 300, ";", 2);
        unsigned(LAW + "player p l 0 0 0 dares ", 0, 99, ";", 2);
        unsigned(ONE + "wrong p ", 0, 39, " 0;", 3);
        number(ONE + "wrong p 0 ", 0, 2000, ";", 3);
        unsigned(ONE + "wrong p 0 - ", 0, 2000, ";", 3);
        StickStrings s = Due.told("law l 0 0 0 0 - 500;player p l 0 0 0;beat 4000;pause 9999;beat 100;wrong p 1 - 2000;");
        due.is("4 habit below 0", s.law(0, 4), -500);
        due.is("4 wrong below 0", s.entry(0, 1), -500 + 13999 - 2000);
        due.is("4 minus nought", Due.told("law l 0 0 0 0 - 0;").law(0, 4), 0);
    }

    private static void edges04beats() {
        String forty = "beat 100;".repeat(40);
        good(forty, 40);
        faultOf(forty + "beat 100;", 2, 360);
        faultOf(forty + "beat 1", 2, 360);
        good(forty + "pause 9;pause 9;", 42);
        String twenty = "beat 100 times 20;";
        good(twenty + "beat 100 times 20;", 2);
        faultOf(twenty + "beat 100 times 21;", 2, 33);
        faultOf(twenty + "beat 100 times 40;", 2, 33);
        faultOf(twenty + twenty + "beat 100 times 1;", 2, 36);
        good("beat 100 times 39;beat 100 times 1;", 2);
        good("beat 100 times 39;beat 100;", 2);
        faultOf("beat 100 times 39;beat 100;beat 100;", 2, 27);
        faultOf("beat 100 times 40;beat", 2, 18);
    }

    private static void edges04full() {
        StringBuilder laws = new StringBuilder();
        for (int i = 0; i < 6; i++) {
            laws.append("law ").append((char) ('a' + i)).append(" 1 1 1 1 0;");
        }
        good(laws.toString(), 6);
        faultOf(laws + "law", 2, laws.length());
        faultOf(laws + "law ahead", 2, laws.length());
        StringBuilder players = new StringBuilder(LAW);
        for (int i = 0; i < 8; i++) {
            players.append("player ").append((char) ('a' + i)).append(" l 0 0 0;");
        }
        good(players.toString(), 9);
        faultOf(players + "player", 2, players.length());
        faultOf(players + "player j nolaw 99", 2, players.length());
        String wrongs = ONE + "wrong p 39 0;".repeat(6);
        good(wrongs, 8);
        faultOf(wrongs + "wrong", 2, wrongs.length());
        faultOf(wrongs + "wrong nobody 99", 2, wrongs.length());
        // Four of sees and four of hears are not five of either, and each PLAYER has four of his own.
        String four = " sees a sees b sees c sees d hears a hears b hears c hears d";
        String others = ";player a l 0 0 0;player b l 0 0 0;player c l 0 0 0;player d l 0 0 0;";
        good(LAW + "player p l 0 0 0" + four + ";player q l 0 0 0" + four + others, 7);
        faultOf(LAW + "player p l 0 0 0" + four + " sees", 2, 33 + four.length());
        faultOf(LAW + "player p l 0 0 0" + four + " hears", 2, 33 + four.length());
        faultOf(LAW + "player p l 0 0 0" + four + " sees a", 2, 33 + four.length());
        faultOf(LAW + "player p l 0 0 0" + four + " hears p", 2, 33 + four.length());
        faultOf(LAW + "player p l 0 0 0;player q l 0 0 0" + four + " dares 1 hears e;", 2, 50 + four.length() + 8);
    }

    private static void edges04toldAlready() {
        faultOf("stick 15 0;beat 100;stick 15 0;", 3, 20);
        faultOf("stick 15 0;stick", 3, 11);
        faultOf("law abcdef 1 1 1 1 0;law abcdef 1 1 1 1 0;", 3, 25);
        good("law abcdef 1 1 1 1 0;law abcde 1 1 1 1 0;law bcdef 1 1 1 1 0;", 3);
        faultOf(ONE + "player q l 0 0 0;player p", 3, 57);
        good("law p 1 1 1 1 0;player p p 0 0 0;", 2);
        faultOf(LAW + "player p l 0 0 0 dares 0 dares 0;", 3, 41);
        faultOf(LAW + "player p l 0 0 0 dares 0 dares", 3, 41);
        good(LAW + "player p l 0 0 0 dares 1;player q l 0 0 0 dares 1;", 3);
        faultOf(LAW + "player q l 0 0 0;player p l 0 0 0 hears q sees q hears q", 3, 71);
        faultOf(LAW + "player p l 0 0 0 sees p sees p;", 3, 45);
        good(LAW + "player p l 0 0 0 sees q;player q l 0 0 0 sees p;player r l 0 0 0 sees p sees q hears q;", 4);
        // What a text with a fault has told is not told to the next one.
        StickStrings s = new StickStrings();
        Due.tell(s, "stick 1 1;beat 100 times 40;" + LAW + "player p l 0 0 0 sees q;");
        due.is("4 told by a faulty one only", s.fault(0), 6);
        due.is("4 told anew", Due.tell(s, "stick 2 2;beat 100 times 40;" + ONE), 4);
    }

    private static void edges04notTold() {
        faultOf("player p l 0 0 0;" + LAW, 4, 9);
        faultOf(LAW + "player p p 0 0 0;", 4, 25);
        faultOf(LAW + "player p ll 0 0 0;", 4, 25);
        faultOf(ONE + "wrong l 0 0;", 4, 39);
        faultOf(LAW + "wrong p 0 0;player p l 0 0 0;", 4, 22);
        faultOf("pause 0;beat 100;", 5, 0);
        faultOf("  pause", 5, 2);
        faultOf(ONE + "pause 0;", 5, 33);
        good("beat 100;" + LAW + "pause 1;", 3);
        faultOf(LAW + "player p l 0 0 0 sees p;", 6, 38);
        faultOf(LAW + "player p l 0 0 0 hears p;", 6, 39);
        faultOf(LAW + "player p l 0 0 0 sees l;", 6, 38);
        faultOf(LAW + "player p l 0 0 0 sees q hears q;player r l 0 0 0;", 6, 38);
        faultOf(LAW + "player p l 0 0 0 sees q hears r;player q l 0 0 0 sees r;", 6, 46);
        faultOf(LAW + "player p l 0 0 0 hears q sees r;player q l 0 0 0 sees q;", 6, 46);
        StickStrings s = Due.told(ONE.substring(0, ONE.length() - 1) + " sees q hears q;player q l 0 0 0;");
        due.is("4 told behind", s.look(0, 5) + s.look(0, 6), 4);
        // Who was a PLAYER of the text ahead is none of this one.
        due.is("4 of this text", Due.tell(s, LAW + "player p l 0 0 0 sees q;"), NONE);
        due.is("4 of this text: fault", s.fault(0), 6);
    }

    /** Of two LINES with FAULTS the first one's is told, but 6 only behind all others. */
    private static void edges04firstAlongTheText() {
        String base = "law l 1 1 1 1 0;player p l 0 0 0;stick 1 1;";
        String[] lines = {"beet 100;", "beat 99;", "stick 1 1;", "wrong q 0 0;", "pause 1;", "player q l 0 0 0 sees p sees r;"};
        int[] faults = {1, 2, 3, 4, 5, 6};
        int[] places = {0, 5, 0, 6, 0, 29};
        for (int i = 0; i < lines.length; i++) {
            faultOf(base + lines[i], faults[i], base.length() + places[i]);
            for (int j = 0; j < lines.length; j++) {
                if (i != j && !(i == 5 && j == 3)) {
                    boolean first = faults[i] != 6;
                    faultOf(base + lines[i] + lines[j], first ? faults[i] : faults[j],
                            base.length() + (first ? places[i] : lines[i].length() + places[j]));
                }
            }
        }
    }

    private static void edges04ofTheLatestText() {
        StickStrings s = new StickStrings();
        due.is("4 ahead of any text", s.fault(0), 0);
        due.is("4 ahead of any text: no place", s.fault(1), NONE);
        Due.tell(s, "beat 99;");
        due.is("4 -2 is not the latest", s.text(1), -2);
        due.is("4 fault of the one ahead", s.fault(0), 2);
        due.is("4 place of the one ahead", s.fault(1), 5);
        due.is("4 -2 by n below 0", s.text(-1), -2);
        due.is("4 fault of the one ahead", s.fault(0), 2);
        Due.tell(s, "beat 100;");
        due.is("4 no fault", s.fault(0), 0);
        due.is("4 no place", s.fault(1), NONE);
        outside("4 fault", s::fault, 0, 1, NONE);
        Due.tell(s, "pause 1;");
        outside("4 fault", s::fault, 0, 1, NONE);
    }

    private static void edges05named() {
        StickStrings s = Due.told("law abcdef 1 1 1 1 0;law a 1 1 1 1 0;player zzzzzz a 0 0 0;player z a 0 0 0;");
        due.is("5 six letters", s.named(0, (((((1 << 5 | 2) << 5 | 3) << 5 | 4) << 5) | 5) << 5 | 6), 0);
        due.is("5 one letter, the highest of six", s.named(0, 1 << 25), 1);
        due.is("5 26 is z", s.named(1, 26 << 25), 1);
        due.is("5 six of z", s.named(1, Due.letters("zzzzzz")), 0);
        due.is("5 a letter at the end", s.named(0, 1), NONE);
        due.is("5 another kind", s.named(1, 1 << 25), NONE);
        due.is("5 0", s.named(0, 0), NONE);
        due.is("5 a bit above", s.named(0, 1 << 25 | 1 << 31), NONE);
        due.is("5 all bits", s.named(1, -1), NONE);
        outside("5 what", what -> s.named(what, 1 << 25), 0, 1, NONE);
    }

    private static void edges06look() {
        StickStrings s = Due.told(PAIR);
        outside("6 player", player -> Due.lookThrows(s, player, 0), 0, 1, 1);
        outside("6 what", what -> Due.lookThrows(s, 0, what), 0, 7, 2);
        outside("6 player, with no such what", player -> Due.lookThrows(s, player, 8), 0, 1, 1);
        for (int what = 0; what <= 7; what++) {
            due.is("6 what " + what, Due.lookThrows(s, 1, what), 0);
        }
    }

    private static void edges07law() {
        StickStrings s = Due.told(PAIR);
        bounds("7 law", law -> s.law(law, 0), 0, 1, NO);
        bounds("7 what", what -> s.law(0, what), 0, 5, NO);
    }

    private static void edges08begin() {
        StickStrings s = Due.told("beat 4000 times 39;pause 9999;pause 9999;beat 100;pause 1;");
        bounds("8 beat", s::begin, 0, 40, NONE);
        due.is("8 of 0", s.begin(0), 0);
        due.is("8 of 38", s.begin(38), 38 * 4000);
        due.is("8 of 39, behind two pauses", s.begin(39), 39 * 4000 + 19998);
        due.is("8 where it ends", s.begin(40), 39 * 4000 + 19998 + 101);
        due.is("8 no beats", Due.told(ONE).begin(0), NONE);
        due.is("8 no beats, behind the last", Due.told(ONE).begin(1), NONE);
    }

    private static void edges09way() {
        StickStrings s = Due.told(PAIR);
        bounds("9 player", player -> s.way(player, 1), 0, 1, NONE);
        bounds("9 other", other -> s.way(0, other), 0, 1, NONE);
        for (int x = 0; x <= 30; x++) {
            for (int y = 0; y <= 30; y++) {
                s.seat(1, x, y);
                int way = s.way(0, 1);
                int square = 9 * (x * x + y * y);
                due.is("9 its square isn't above at " + x + " " + y, way * way <= square, true);
                due.is("9 the greatest at " + x + " " + y, (way + 1) * (way + 1) > square, true);
            }
        }
    }

    // ---- entries

    private static void edges10entry() {
        StickStrings s = Due.told(PAIR);
        bounds("10 player", player -> s.entry(player, 0), 0, 1, NO);
        bounds("10 beat", beat -> s.entry(0, beat), 0, 11, NO);
        due.is("10 no beats", Due.told(ONE).entry(0, 0), NO);
        // At BEAT 0 all say what STICK says, whatever weighs; one BEAT has no BEAT 1 to go by.
        due.is("10 one beat", Due.told("beat 100;law o 0 9 9 9 - 7 ahead;player p o 0 0 30;").entry(0, 0), -37);
        // -7 by 2 is -4, 7 by 2 is 3.
        StickStrings t = Due.told("beat 100 times 2;law o 1 1 0 0 0;player p o 0 0 0;wrong p 0 - 207;");
        due.is("10 cut downwards below 0", t.entry(0, 1), -4);
        t = Due.told("beat 100 times 2;law o 1 1 0 0 0;player p o 0 0 0;wrong p 0 - 193;");
        due.is("10 cut downwards above 0", t.entry(0, 1), 3);
        // WRONG is added behind the quotient, and all of one BEAT are.
        t = Due.told("beat 100 times 2;law o 1 1 0 0 0;player p o 0 0 0;wrong p 1 1;wrong p 1 1;wrong p 1 - 5;");
        due.is("10 three wrong ones", t.entry(0, 1), 97);
        // One at BEAT 39 of a TEXT with less is at none.
        t = Due.told("beat 100 times 39;law o 1 0 0 0 0;player p o 0 0 0;wrong p 39 7;");
        due.is("10 wrong beyond the last beat", t.entry(0, 38), 3800);
        t = Due.told("beat 100 times 40;law o 1 0 0 0 0;player p o 0 0 0;wrong p 39 7;");
        due.is("10 wrong at beat 39", t.entry(0, 39), 3907);
    }

    private static void edges10entryOfZeroWeights() {
        // A pause behind BEAT 0: PACE at BEAT 1 is BEGIN of 1, from then on his own.
        StickStrings s = Due.told("beat 100;pause 11;beat 500 times 3;law o 0 0 0 0 5;player p o 0 0 0;");
        int[] want = {5, 116, 227, 338};
        for (int beat = 0; beat < want.length; beat++) {
            due.is("10 weights of 0 at " + beat, s.entry(0, beat), want[beat]);
        }
        // The STICK's WEIGHT is all he has: without it he goes on as he began.
        s = Due.told("beat 100;pause 11;beat 500 times 3;law o 4 0 0 0 5;player p o 0 0 0;");
        due.is("10 by the stick", s.entry(0, 3), 1116);
        s.take(0, 1);
        due.is("10 the stick taken", s.entry(0, 3), 338);
        // SEEN and HEARD weigh, but there is nobody: what OWN says.
        s = Due.told("beat 100;pause 11;beat 500 times 3;law o 0 0 9 9 5;player p o 0 0 0;");
        due.is("10 nobody seen or heard", s.entry(0, 3), 338);
        // .. and with a STICK they don't count in the sum.
        s = Due.told("beat 100 times 3;law o 1 0 9 9 5;player p o 0 0 0;");
        due.is("10 nobody seen or heard, but a stick", s.entry(0, 2), 205);
        // PACE is his own, whoever is seen: the other one's is 300.
        s = Due.told("beat 100 times 3;law s 1 0 0 0 0;law e 0 0 1 0 0;player a s 0 0 0;player b e 0 0 0 sees a;wrong a 1 200;");
        due.is("10 by his own pace", s.entry(1, 2), 400);
        // With ahead OWN and SEEN ones say no SPEAK less.
        s = Due.told("beat 100 times 3;law s 1 0 0 0 0;law e 0 0 1 0 0 ahead;law o 0 1 0 0 0 ahead;player a s 0 0 0;"
                + "player b e 0 0 40 sees a;player c o 0 0 40;");
        due.is("10 ahead, seen", s.entry(1, 1), 100);
        due.is("10 ahead, own", s.entry(2, 1), 60);
    }

    /** Three who see each other in a ring: what is between them grows for ever. */
    private static final String GROWS = "beat 4000 times 40;law f 0 0 1 0 0;player a f 0 0 0 sees b;player b f 0 0 0 sees c;"
            + "player c f 0 0 0 sees a;";
    private static final int BOUND = 1000000000;

    private static void edges10entryAtTheBound() {
        StickStrings s = Due.told(GROWS + "wrong a 1 2000;");
        StickStrings without = Due.told(GROWS);
        long sum = 0;
        for (int beat = 0; beat < 40; beat++) {
            long most = -BOUND;
            long least = BOUND;
            long behind = 0;
            for (int player = 0; player < 3; player++) {
                int entry = s.entry(player, beat);
                due.is("10 not beyond the bound at " + beat, entry >= -BOUND && entry <= BOUND, true);
                due.is("22 moved to the bound at " + beat, without.moved(0, 1, 2000, player, beat),
                        entry - without.entry(player, beat));
                most = Math.max(most, entry);
                least = Math.min(least, entry);
                behind += entry - s.begin(beat);
            }
            due.is("11 spread at " + beat, s.spread(beat), most - least);
            due.is("12 lag at " + beat, s.lag(beat), Math.floorDiv(behind, 3L));
            due.is("19 together at " + beat, s.together(0, 0, beat, beat), most - least);
            sum += most - least;
        }
        due.is("10 the bound above is met", Math.max(most(s, 0), Math.max(most(s, 1), most(s, 2))), BOUND);
        due.is("10 the bound below is met", Math.min(least(s, 0), Math.min(least(s, 1), least(s, 2))), -BOUND);
        due.is("13 verdict of both bounds", s.verdict(9999), boundVerdict(s));
        due.is("19 the sum is beyond an int", sum > Integer.MAX_VALUE, true);
        due.is("19 the sum", s.together(0, 0, 0, 39), sum);
        due.is("20 the sum", s.where(0, 39, 2), sum);
        due.is("32 the sum", s.order(0, 0, 0, 39, 0), sum);
    }

    private static int boundVerdict(StickStrings s) {
        if ((long) s.spread(39) - s.spread(31) > 9999) {
            return 3;
        }
        long lag = (long) s.lag(39) - s.lag(31);
        return lag > 9999 ? 1 : lag < -9999 ? 2 : 0;
    }

    private static int most(StickStrings s, int player) {
        int most = NO;
        for (int beat = 0; beat < s.count(2); beat++) {
            most = Math.max(most, s.entry(player, beat));
        }
        return most;
    }

    private static int least(StickStrings s, int player) {
        int least = Integer.MAX_VALUE;
        for (int beat = 0; beat < s.count(2); beat++) {
            least = Math.min(least, s.entry(player, beat));
        }
        return least;
    }

    private static void edges11spread() {
        StickStrings s = Due.told(PAIR);
        bounds("11 beat", s::spread, 0, 11, NONE);
        due.is("11 of two", s.spread(0), 9);
        due.is("11 of one", Due.told(ONE + "beat 100;wrong p 0 99;").spread(0), 0);
        due.is("11 without players", Due.told("beat 100;").spread(0), 0);
        due.is("11 without players, no such beat", Due.told("beat 100;").spread(1), NONE);
    }

    private static void edges12lag() {
        StickStrings s = Due.told(PAIR);
        bounds("12 beat", s::lag, 0, 11, NO);
        due.is("12 9 by 2", s.lag(0), 4);
        due.is("12 -9 by 2", Due.told("beat 100;law s 1 0 0 0 0;law t 1 0 0 0 - 9;player a s 0 0 0;player b t 0 0 0;").lag(0), -5);
        due.is("12 -1 by 1", Due.told(ONE + "beat 100;wrong p 0 - 1;").lag(0), -1);
        due.is("12 without players", Due.told("beat 100 times 2;").lag(1), 0);
        due.is("12 without players, no such beat", Due.told("beat 100;").lag(1), NO);
    }

    private static void edges13verdict() {
        String stick = "law s 1 0 0 0 0;player p s 0 0 0;";
        // The last BEAT and the one 8 ahead: of 9 BEATS that is 0, of 10 it is 1, of 40 it is 31.
        due.is("13 of 9 beats", Due.told("beat 100 times 9;" + stick + "wrong p 0 - 5;").verdict(4), 1);
        due.is("13 of 9 beats, beat 1 is none", Due.told("beat 100 times 9;" + stick + "wrong p 1 - 5;").verdict(4), 0);
        due.is("13 of 10 beats", Due.told("beat 100 times 10;" + stick + "wrong p 1 - 5;").verdict(4), 1);
        due.is("13 of 10 beats, beat 0 is none", Due.told("beat 100 times 10;" + stick + "wrong p 0 - 5;").verdict(4), 0);
        due.is("13 of 10 beats, beat 2 is none", Due.told("beat 100 times 10;" + stick + "wrong p 2 - 5;").verdict(4), 0);
        due.is("13 of 40 beats", Due.told("beat 100 times 40;" + stick + "wrong p 31 5;").verdict(4), 2);
        due.is("13 of 8 beats", Due.told("beat 100 times 8;" + stick + "wrong p 0 5;").verdict(4), 2);
        due.is("13 of 2 beats", Due.told("beat 100 times 2;" + stick + "wrong p 1 5;").verdict(4), 1);
        due.is("13 of one beat", Due.told("beat 100;" + stick + "wrong p 0 5;").verdict(0), 0);
        due.is("13 by as much as e", Due.told("beat 100 times 2;" + stick + "wrong p 1 5;").verdict(5), 0);
        due.is("13 fell by as much as e", Due.told("beat 100 times 2;" + stick + "wrong p 1 - 5;").verdict(5), 0);
        due.is("13 fell by more", Due.told("beat 100 times 2;" + stick + "wrong p 1 - 5;").verdict(4), 2);
        StickStrings s = Due.told(PAIR);
        bounds("13 e", s::verdict, 0, 9999, NONE);
        due.is("13 no beats", Due.told(ONE).verdict(0), NONE);
        due.is("13 no players", Due.told("beat 100 times 12;").verdict(0), 0);
        // SPREAD that falls is no APART, and LAG is asked then.
        s = Due.told(PAIR + "wrong b 3 100;");
        due.is("13 less apart: rushes", s.verdict(49), 2);
        due.is("13 less apart: holds", s.verdict(50), 0);
    }

    private static void edges14guilty() {
        StickStrings s = Due.told(PAIR + "wrong a 11 100;");
        outside("14 e", e -> s.guilty(e, 0), 0, 9999, NONE);
        outside("14 what", what -> s.guilty(0, what), 0, 1, NONE);
        outside("14 what, though it holds", what -> s.guilty(9999, what), 0, 1, NONE);
        due.is("14 none does it", s.guilty(0, 0), NONE);
        due.is("14 none does it, what 1", s.guilty(0, 1), NONE);
        due.is("14 it holds by the most e", s.guilty(9999, 1), -2);
        due.is("14 no beats", Due.told(ONE).guilty(0, 0), NONE);
        due.is("14 no players: it holds", Due.told("beat 100;").guilty(0, 0), -2);
        // STICK 250 and OWN 200 by the pause: both are at 225, 25 ahead, and either one alone would come apart.
        StickStrings t = Due.told("beat 100 times 2;pause 50;beat 100;law s 1 1 0 0 0;player a s 0 0 0;player b s 0 0 0;");
        due.is("14 it rushes", t.verdict(24), 2);
        due.is("14 both would have to", t.guilty(24, 0), NONE);
        t.take(0, 2);
        due.is("14 apart", t.verdict(24), 3);
        due.is("14 the other one as well", t.guilty(24, 0), 1);
        due.is("14 what is taken from him", t.guilty(24, 1), 2);
        due.is("14 nothing is taken by it", t.look(1, 7), 0);
        due.is("14 nor to be undone", t.count(6), 1);
        // a is at 225, b at 275: either one's OWN taken does it, so the first.
        t = Due.told("beat 100 times 2;pause 50;beat 100;law s 1 1 0 0 0;player a s 0 0 0;player b s 0 0 0;wrong b 1 50;");
        due.is("14 apart by 50", t.verdict(49), 3);
        due.is("14 the first of players", t.guilty(40, 0), 0);
        due.is("14 the first that does it", t.guilty(40, 1), 2);
        due.is("14 not apart by 50", t.guilty(50, 0), -2);
        // Without the stick b is with a, but both are 50 ahead then: it doesn't come apart, but rushes.
        t = Due.told("beat 100 times 2;pause 50;beat 100;law s 1 0 0 0 0;law o 0 1 0 0 0;player a o 0 0 0;player b s 0 0 0;");
        due.is("14 together, but not with the stick", t.guilty(49, 0), NONE);
        due.is("14 both by 50", t.guilty(50, 0), -2);
        t = Due.told("beat 100 times 2;pause 50;beat 100;law s 1 0 0 0 0;player a s 0 0 0;wrong a 1 50;wrong a 2 49;");
        due.is("14 one who drags", t.verdict(48), 1);
        due.is("14 by none", t.guilty(48, 1), NONE);
    }

    private static void edges15take() {
        StickStrings s = Due.told(PAIR);
        bounds("15 player", player -> is(s.take(player, 1)), 0, 1, 0);
        bounds("15 bits", bits -> is(s.take(0, bits)), 0, 15, 0);
        due.is("15 the last true one counts", s.look(0, 7), 15);
        due.is("15 four were true", s.count(6), 4);
        due.is("15 take nothing", s.take(0, 0), true);
        due.is("15 nothing is taken", s.look(0, 7), 0);
        for (int bit = 0; bit < 4; bit++) {
            StickStrings t = Due.told("beat 100 times 2;law l 1 1 1 1 0;law s 1 0 0 0 0;player p l 0 0 0 sees q hears r;"
                    + "player q s 0 0 0;player r s 0 0 0;wrong p 0 8;wrong q 0 80;wrong r 0 800;");
            // STICK says 100, OWN 108, SEEN 180, HEARD 900.
            int[] says = {100, 108, 180, 900};
            t.take(0, 15 - (1 << bit));
            due.is("15 all taken but " + (1 << bit), t.entry(0, 1), says[bit]);
            t.take(0, 1 << bit);
            due.is("15 taken " + (1 << bit), t.entry(0, 1), (1288 - says[bit]) / 3);
        }
    }

    private static void edges16seat() {
        StickStrings s = Due.told(PAIR);
        bounds("16 player", player -> is(s.seat(player, 1, 1)), 0, 1, 0);
        bounds("16 x", x -> is(s.seat(0, x, 1)), 0, 30, 0);
        bounds("16 y", y -> is(s.seat(0, 1, y)), 0, 30, 0);
        due.is("16 x of the last true one", s.look(0, 1), 1);
        due.is("16 y of the last true one", s.look(0, 2), 30);
        due.is("16 six were true", s.count(6), 6);
        due.is("16 where another one is", s.seat(0, 1, 1), true);
        due.is("16 so it is", s.way(0, 1), 0);
    }

    private static void edges17undo() {
        StickStrings s = Due.told(PAIR);
        due.is("17 nothing to undo", s.undo(), NONE);
        for (int i = 1; i <= 20; i++) {
            s.seat(1, i, 0);
            due.is("17 up to 20", s.count(6), i);
        }
        s.take(1, 3);
        due.is("17 no more than 20", s.count(6), 20);
        due.is("17 the latest first", s.undo(), 19);
        due.is("17 taken no more", s.look(1, 7), 0);
        due.is("17 the place stays", s.look(1, 1), 20);
        for (int left = 18; left >= 0; left--) {
            due.is("17 left", s.undo(), left);
        }
        due.is("17 the first one can't be undone", s.undo(), NONE);
        due.is("17 it stays", s.look(1, 1), 1);
        // Round and round: some more, some undone, more than 20 in all.
        for (int i = 0; i < 30; i++) {
            s.take(0, i % 16);
        }
        for (int i = 0; i < 7; i++) {
            s.undo();
        }
        due.is("17 13 left", s.count(6), 13);
        due.is("17 the 23rd", s.look(0, 7), 22 % 16);
        s.seat(0, 5, 6);
        s.take(0, 9);
        due.is("17 15 to undo", s.count(6), 15);
        due.is("17 taken undone", s.undo(), 14);
        due.is("17 as it was", s.look(0, 7), 22 % 16);
        due.is("17 seat undone", s.undo(), 13);
        due.is("17 x as it was", s.look(0, 1), 0);
        due.is("17 y as it was", s.look(0, 2), 0);
        for (int left = 12; left >= 0; left--) {
            due.is("17 left", s.undo(), left);
            due.is("17 back by one", s.look(0, 7), (left + 9) % 16);
        }
        due.is("17 none", s.undo(), NONE);
        due.is("17 false ones are none", s.take(0, 16) || s.seat(0, 31, 0), false);
        due.is("17 none still", s.undo(), NONE);
        due.is("17 entries go back, too", Due.told(PAIR).entry(1, 3), s.entry(1, 3));
    }

    /** The places and takings of three, as one row (of more, it would be above 512 calls). */
    private static List<Integer> lookedAt(StickStrings s) {
        List<Integer> all = new ArrayList<>();
        for (int player = 0; player < 3; player++) {
            all.add(s.look(player, 1));
            all.add(s.look(player, 2));
            all.add(s.look(player, 7));
        }
        return all;
    }

    /** One change, of another PLAYER and to other numbers each time. */
    private static void changeOnce(StickStrings s, int i) {
        if (i % 3 == 2) {
            s.take((i + i / 4) % 3, i % 15 + 1);
        } else {
            s.seat((i + i / 4) % 3, (i + 1) % 31, (7 * i + 3) % 31);
        }
    }

    /** Some changes, some of them undone, some more: then all that can be undone goes back one by one. */
    private static void undoneOneByOne(int changes, int back, int more) {
        StickStrings s = Due.told("law l 1 0 0 0 0;player a l 0 1 0;player b l 2 3 0;player c l 4 5 0;");
        List<List<Integer>> ahead = new ArrayList<>();
        for (int i = 0; i < changes + more; i++) {
            for (int k = 0; i == changes && k < back; k++) {
                s.undo();
                ahead.remove(ahead.size() - 1);
            }
            ahead.add(lookedAt(s));
            changeOnce(s, i);
            if (ahead.size() > 20) {
                ahead.remove(0);
            }
        }
        String call = "17 " + changes + " changes, " + back + " undone, " + more + " more";
        due.is(call, s.count(6), ahead.size());
        for (int left = ahead.size() - 1; left >= 0; left--) {
            due.is(call + ": left", s.undo(), left);
            due.is(call + ": all as ahead of it, " + left, lookedAt(s).equals(ahead.get(left)), true);
        }
        due.is(call + ": none", s.undo(), NONE);
    }

    private static void edges17undoOfSeveral() {
        undoneOneByOne(7, 3, 2);
        undoneOneByOne(19, 0, 1);
        undoneOneByOne(20, 0, 1);
        undoneOneByOne(20, 1, 1);
        undoneOneByOne(13, 0, 12);
        undoneOneByOne(11, 11, 9);
        undoneOneByOne(9, 4, 7);
    }

    // ---- the hall

    private static void edges18sound() {
        StickStrings s = Due.told(PAIR);
        bounds("18 player", player -> s.sound(player, 0, 0, 0), 0, 1, NO);
        bounds("18 beat", beat -> s.sound(0, beat, 0, 0), 0, 11, NO);
        bounds("18 x", x -> s.sound(0, 0, x, 0), 0, 40, NO);
        bounds("18 y", y -> s.sound(0, 0, 0, y), 0, 40, NO);
        due.is("18 the farthest seat", s.sound(0, 0, 40, 40), 169);
        due.is("18 the nearest", s.sound(1, 11, 3, 4), 1109 + 10);
        due.is("18 no beats", Due.told(ONE).sound(0, 0, 0, 0), NO);
    }

    private static void edges19together() {
        StickStrings s = Due.told(PAIR);
        bounds("19 x", x -> s.together(x, 0, 0, 0), 0, 40, NONE);
        bounds("19 y", y -> s.together(0, y, 0, 0), 0, 40, NONE);
        bounds("19 a", a -> s.together(0, 0, a, 11), 0, 11, NONE);
        bounds("19 b", b -> s.together(0, 0, 0, b), 0, 11, NONE);
        bounds("19 b not below a", b -> s.together(0, 0, 5, b), 5, 11, NONE);
        due.is("19 a is b", s.together(0, 0, 5, 5), 9 + 10 + 15);
        due.is("19 all", s.together(0, 0, 0, 11), 12 * 34);
        due.is("19 no beats", Due.told(ONE).together(0, 0, 0, 0), NONE);
        due.is("19 of one", Due.told(ONE + "beat 100;wrong p 0 9;").together(40, 40, 0, 0), 0);
        due.is("19 without players", Due.told("beat 100;").together(0, 0, 0, 0), 0);
        due.is("19 without players, no such beat", Due.told("beat 100;").together(0, 0, 0, 1), NONE);
    }

    private static void edges20where() {
        StickStrings s = Due.told(PAIR);
        bounds("20 a", a -> s.where(a, 11, 2), 0, 11, NONE);
        bounds("20 b", b -> s.where(0, b, 2), 0, 11, NONE);
        bounds("20 b not below a", b -> s.where(5, b, 2), 5, 11, NONE);
        bounds("20 what", what -> s.where(0, 0, what), 0, 2, NONE);
        due.is("20 no beats", Due.told(ONE).where(0, 0, 0), NONE);
        // All seats are alike: the first of them.
        StickStrings one = Due.told(ONE + "beat 100;");
        for (int what = 0; what <= 2; what++) {
            due.is("20 all seats alike " + what, one.where(0, 0, what), 0);
        }
        // Best behind b, whom a should follow as late as he can: beyond the stage, where the hall goes on.
        StickStrings far = Due.told("beat 100 times 2;law s 1 0 0 0 0;player a s 0 0 0;player b s 30 30 300;");
        due.is("20 beyond the stage", far.where(0, 1, 0) > 30 && far.where(0, 1, 1) > 30, true);
        least(far, "20 behind b");
        StickStrings last = Due.told("beat 100 times 2;law s 1 0 0 0 0;player a s 30 30 300;player b s 0 0 0;player c s 0 30 250;"
                + "player d s 30 0 250;");
        least(last, "20 of four");
        least(s, "20 of two");
        least(Due.told("beat 100 times 2;law s 1 0 0 0 0;player a s 7 30 9;player b s 29 3 40;player c s 11 11 0;wrong b 1 77;"),
                "20 of three");
    }

    /** Every seat, asked one by one. */
    private static void least(StickStrings s, String call) {
        long least = Long.MAX_VALUE;
        int bestX = 0;
        int bestY = 0;
        for (int y = 0; y <= 40; y++) {
            for (int x = 0; x <= 40; x++) {
                long here = s.together(x, y, 0, 1);
                if (here < least) {
                    least = here;
                    bestX = x;
                    bestY = y;
                }
            }
        }
        due.is(call + ": x", s.where(0, 1, 0), bestX);
        due.is(call + ": y", s.where(0, 1, 1), bestY);
        due.is(call + ": how much", s.where(0, 1, 2), least);
    }

    private static void edges21shift() {
        StickStrings s = Due.told(PAIR);
        bounds("21 player", player -> s.shift(player, 0, 0), 0, 1, NONE);
        bounds("21 x", x -> s.shift(0, x, 0), 0, 40, NONE);
        bounds("21 y", y -> s.shift(0, 0, y), 0, 40, NONE);
        due.is("21 he himself is the latest", s.shift(1, 0, 0), 0);
        due.is("21 the other one", s.shift(0, 0, 0), 25);
        due.is("21 he alone", Due.told(ONE).shift(0, 40, 40), 0);
        due.is("21 nobody is late at all", Due.told(ONE).shift(0, 0, 0), 0);
        due.is("21 without beats", Due.told(LAW + "player a l 0 0 5;player b l 0 0 9;").shift(0, 0, 0), 4);
    }

    // ---- one wrong entry

    private static void edges22moved() {
        StickStrings s = Due.told(PAIR);
        bounds("22 wrong", wrong -> s.moved(wrong, 0, 1, 0, 0), 0, 1, NO);
        bounds("22 beat", beat -> s.moved(0, beat, 1, 0, 0), 0, 11, NO);
        bounds("22 v", v -> s.moved(0, 0, v, 0, 0), -2000, 2000, NO);
        bounds("22 player", player -> s.moved(0, 0, 1, player, 0), 0, 1, NO);
        bounds("22 m", m -> s.moved(0, 0, 1, 0, m), 0, 11, NO);
        due.is("22 v not 0", s.moved(0, 0, 0, 0, 0), NO);
        due.is("22 v 1", s.moved(0, 0, 1, 0, 0), 1);
        due.is("22 v -1", s.moved(0, 0, -1, 0, 0), -1);
        due.is("22 no beats", Due.told(ONE).moved(0, 0, 1, 0, 0), NO);
        // One more, though the TEXT has six of them already; those count in both.
        StickStrings t = Due.told(PAIR + "wrong a 2 2000;".repeat(6));
        due.is("22 a seventh", t.moved(0, 2, 2000, 0, 2), 2000);
        due.is("22 not kept", t.count(3), 6);
        // Later than the bound is the bound: there one more moves him no more.
        StickStrings u = Due.told(GROWS + "wrong a 1 2000;");
        int met = 0;
        for (int player = 0; player < 3; player++) {
            for (int beat = 0; beat < 40; beat++) {
                if (u.entry(player, beat) == BOUND) {
                    met++;
                    due.is("22 at the bound, later", u.moved(player, beat, 2000, player, beat), 0);
                }
                if (u.entry(player, beat) == -BOUND) {
                    met++;
                    due.is("22 at the bound, earlier", u.moved(player, beat, -2000, player, beat), 0);
                }
            }
        }
        due.is("22 the bound is met", met > 1, true);
    }

    private static void edges23far() {
        StickStrings s = Due.told(PAIR);
        bounds("23 wrong", wrong -> s.far(wrong, 0, 1, 0), 0, 1, NONE);
        bounds("23 beat", beat -> s.far(0, beat, 1, 0), 0, 11, NONE);
        bounds("23 v", v -> s.far(0, 0, v, 0), -2000, 2000, NONE);
        bounds("23 m", m -> s.far(0, 0, 1, m), 0, 11, NONE);
        due.is("23 v not 0", s.far(0, 0, 0, 0), NONE);
        due.is("23 without sign", s.far(1, 11, -2000, 11), 2000);
        due.is("23 ahead of it", s.far(1, 11, -2000, 10), 0);
        due.is("23 no beats", Due.told(ONE).far(0, 0, 1, 0), NONE);
    }

    private static void edges24ends() {
        StickStrings s = Due.told(PAIR);
        bounds("24 wrong", wrong -> s.ends(wrong, 0, 1), 0, 1, -2);
        bounds("24 beat", beat -> s.ends(0, beat, 1), 0, 11, -2);
        bounds("24 v", v -> s.ends(0, 0, v), -2000, 2000, -2);
        due.is("24 v not 0", s.ends(0, 0, 0), -2);
        due.is("24 1 ends at once", s.ends(0, 4, 1), 4);
        due.is("24 -1 likewise", s.ends(0, 4, -1), 4);
        due.is("24 2 doesn't", s.ends(0, 4, 2), 5);
        due.is("24 -2 doesn't", s.ends(0, 4, -2), 5);
        due.is("24 not at the last", s.ends(0, 11, 2), NONE);
        due.is("24 not at the last, below", s.ends(0, 11, -2), NONE);
        due.is("24 at the last but one", s.ends(0, 10, 2), 11);
        due.is("24 no beats", Due.told(ONE).ends(0, 0, 1), -2);
        // By his own last one it never ends; by one who hears him it is quiet once and comes again.
        due.is("24 it goes on", Due.told("beat 100 times 9;law o 0 1 0 0 0;player p o 0 0 0;").ends(0, 0, 2), NONE);
        StickStrings t = Due.told("beat 100 times 8;law s 1 0 0 0 0;law h 0 0 0 1 0;player a s 0 0 0;player b h 0 0 0 hears a;");
        int end = t.ends(0, 2, 500);
        boolean quiet = false;
        boolean again = false;
        for (int m = 2; m < 8; m++) {
            quiet |= t.far(0, 2, 500, m) <= 1;
            again |= quiet && t.far(0, 2, 500, m) > 1;
        }
        due.is("24 quiet and loud again", again, true);
        due.is("24 from the last quiet on", end == NONE || t.far(0, 2, 500, end - 1) > 1, true);
        due.is("24 to the last", (end == NONE) == (t.far(0, 2, 500, 7) > 1), true);
    }

    private static void edges25goes() {
        StickStrings s = Due.told(PAIR);
        bounds("25 wrong", wrong -> s.goes(wrong, 0, 1, 0, 0), 0, 1, NONE);
        bounds("25 beat", beat -> s.goes(0, beat, 1, 0, 0), 0, 11, NONE);
        bounds("25 v", v -> s.goes(0, 0, v, 0, 0), -2000, 2000, NONE);
        bounds("25 k", k -> s.goes(0, 0, 1, k, 0), 0, 40, NONE);
        bounds("25 e", e -> s.goes(0, 0, 1, 0, e), 0, 9999, NONE);
        due.is("25 v not 0", s.goes(0, 0, 0, 0, 0), NONE);
        due.is("25 by more than e", s.goes(1, 3, 10, 0, 9), 2);
        due.is("25 not by as much", s.goes(1, 3, 10, 0, 10), 0);
        due.is("25 without sign", s.goes(1, 3, -10, 0, 9), 2);
        due.is("25 k beyond the last beat", s.goes(1, 11, 10, 40, 0), 2);
        due.is("25 no beats", Due.told(ONE).goes(0, 0, 1, 0, 0), NONE);
        // A chain: one link a BEAT.
        StickStrings t = Due.told("beat 100 times 6;law s 1 0 0 0 0;law e 0 0 1 0 0;player a s 0 0 0;player b e 0 0 0 sees a;"
                + "player c e 0 0 0 sees b;player d e 0 0 0 sees c;");
        int[] want = {1, 3, 7, 15, 15};
        for (int k = 0; k < want.length; k++) {
            due.is("25 at beats up to " + k + " behind", t.goes(0, 1, 100, k, 99), want[k]);
        }
    }

    private static void edges26by() {
        StickStrings s = Due.told(PAIR);
        bounds("26 player", s::by, 0, 1, NONE);
        due.is("26 none", s.by(0), 0);
        due.is("26 without beats", Due.told(LAW + "player a l 0 0 0 sees b;player b l 0 0 0;").by(0), 2);
        // Eight in a chain, told from its end and from its head.
        StringBuilder down = new StringBuilder("law e 0 0 1 0 0;");
        StringBuilder up = new StringBuilder("law e 0 0 0 9 0;");
        for (int i = 0; i < 8; i++) {
            char name = (char) ('a' + i);
            down.append("player ").append(name).append(" e 0 0 0").append(i > 0 ? " sees " + (char) (name - 1) : "").append(';');
            up.append("player ").append(name).append(" e 0 0 0").append(i < 7 ? " hears " + (char) (name + 1) : "").append(';');
        }
        StickStrings chain = Due.told(down.toString());
        for (int i = 0; i < 8; i++) {
            due.is("26 all below " + i, chain.by(i), (1 << i) - 1);
        }
        chain.take(4, 4);
        due.is("26 eyes taken: himself no link", chain.by(4), 0);
        due.is("26 eyes taken: no farther", chain.by(7), 0x70);
        chain.take(4, 11);
        due.is("26 others taken: as ever", chain.by(7), 0x7f);
        chain = Due.told(up.toString());
        for (int i = 0; i < 8; i++) {
            due.is("26 all above " + i, chain.by(i), 0xff & ~((2 << i) - 1));
        }
        // A WEIGHT of 0 is no link, whoever is seen or heard.
        StickStrings none = Due.told("law e 1 1 0 1 0;law h 1 1 1 0 0;player a e 0 0 0 sees b;player b h 0 0 0 hears a;");
        due.is("26 sees, no weight", none.by(0), 0);
        due.is("26 hears, no weight", none.by(1), 0);
    }

    // ---- films

    private static void edges27film() {
        StickStrings s = Due.told(PAIR);
        bounds("27 player", player -> s.film(player, 0, 0), 0, 1, NONE);
        bounds("27 beat", beat -> s.film(0, beat, 0), 0, 11, NONE);
        bounds("27 time", time -> s.film(0, 0, time), -1000000, 1000000, NONE);
        due.is("27 six of these were notes", s.count(4), 6);
        for (int i = 6; i < 39; i++) {
            due.is("27 its number", s.film(0, 0, 0), i);
        }
        due.is("27 a strike as the 40th", s.strike(0), 39);
        due.is("27 full", s.film(0, 0, 0), NONE);
        due.is("27 full for strikes", s.strike(0), NONE);
        due.is("27 40", s.count(4), 40);
        due.is("27 the last one counts", s.known(40), true);
        due.is("27 no 41", s.known(41), false);
        Due.tell(s, PAIR);
        due.is("27 a new text has room", s.film(0, 0, 0), 0);
        due.is("27 no beats", Due.told(ONE).film(0, 0, 0), NONE);
    }

    private static void edges28strike() {
        StickStrings s = Due.told(PAIR);
        outside("28 without notes", s::strike, 0, -1, NONE);
        due.is("28 without notes, 0", s.strike(0), NONE);
        s.film(0, 0, 5);
        outside("28 note", s::strike, 0, 0, NONE);
        // 39 STRIKES, each of the one ahead: struck, if their number is odd.
        for (int i = 1; i < 40; i++) {
            due.is("28 it fits with " + (i - 1), s.fits(0, 0), i % 2 == 1 ? 0 : 3);
            due.is("28 strike of the last one", s.strike(i - 1), i);
        }
        due.is("28 full", s.strike(39), NONE);
        for (int n = 1; n <= 40; n++) {
            s.known(n);
            due.is("28 known by " + n, s.fits(0, 0), n % 2 == 1 ? 0 : 3);
        }
        // One note with two strikes: one of them struck is not enough.
        StickStrings t = Due.told(PAIR);
        t.film(0, 0, 5);
        t.strike(0);
        t.strike(0);
        t.strike(1);
        due.is("28 one of two struck", t.fits(0, 0), 3);
        t.strike(2);
        due.is("28 both struck", t.fits(0, 0), 0);
    }

    private static void edges29known() {
        StickStrings s = Due.told(PAIR);
        due.is("29 of none: 0", s.known(0), true);
        due.is("29 of none: all", s.known(-1), true);
        outside("29 of none", n -> is(s.known(n)), -1, 0, 0);
        s.film(0, 0, 5);
        s.film(1, 0, 5);
        bounds("29 n", n -> is(s.known(n)), -1, 2, 0);
        due.is("29 by 2 of 2", s.count(5), 2);
        s.film(0, 1, 5);
        due.is("29 not by the one to come", s.count(5), 2);
        due.is("29 a false one changes nothing", s.known(4), false);
        due.is("29 so it stays", s.count(5), 2);
        s.known(-1);
        s.film(0, 1, 5);
        due.is("29 by all, and those to come", s.count(5), 4);
        // A NOTE STRUCK behind the first n is KNOWN as if it weren't.
        StickStrings t = Due.told(PAIR);
        t.film(0, 0, 5);
        t.strike(0);
        t.known(1);
        due.is("29 the strike is not known", t.fits(0, 0), 0);
        t.known(2);
        due.is("29 the strike is known", t.fits(0, 0), 3);
        t.known(0);
        due.is("29 nothing is known", t.fits(0, 0), 3);
    }

    private static void edges30fits() {
        StickStrings s = Due.told(PAIR);
        bounds("30 player", player -> s.fits(player, 0), 0, 1, NONE);
        bounds("30 d", d -> s.fits(0, d), 0, 9999, NONE);
        due.is("30 all laws without notes", s.fits(0, 0), 3);
        s.film(0, 3, 300);
        due.is("30 his own", s.fits(0, 0), 1);
        due.is("30 8 off", s.fits(0, 8), 1);
        due.is("30 9 off at most", s.fits(0, 9), 3);
        due.is("30 of the other one nothing is known", s.fits(1, 0), 3);
        s.film(0, 3, 309);
        due.is("30 both times of one beat", s.fits(0, 8), 0);
        due.is("30 9 off each", s.fits(0, 9), 3);
        s.film(0, 11, 1000000);
        due.is("30 none", s.fits(0, 9999), 0);
        due.is("30 without beats all", Due.told(ONE).fits(0, 0), 1);
        // Six LAWS: the last bit.
        StringBuilder six = new StringBuilder("beat 100;");
        for (int i = 0; i < 6; i++) {
            six.append("law ").append((char) ('a' + i)).append(" 1 0 0 0 ").append(10 * i).append(';');
        }
        StickStrings t = Due.told(six + "player p a 0 0 0;");
        due.is("30 all six", t.fits(0, 0), 63);
        t.film(0, 0, 50);
        due.is("30 the sixth", t.fits(0, 0), 32);
        due.is("30 the last two", t.fits(0, 10), 48);
    }

    private static void edges31next() {
        StickStrings s = Due.told(PAIR);
        bounds("31 player", player -> s.next(player, 0, 0), 0, 1, NONE);
        bounds("31 d", d -> s.next(0, d, 0), 0, 9999, NONE);
        bounds("31 what", what -> s.next(0, 0, what), 0, 1, NONE);
        due.is("31 of several the first", s.next(0, 0, 0), 1);
        due.is("31 two apart", s.next(0, 0, 1), 1);
        s.film(0, 3, 300);
        due.is("31 one law fits", s.next(0, 8, 0), NONE);
        due.is("31 two laws fit", s.next(0, 9, 0), 1);
        s.film(0, 4, 9999);
        due.is("31 none fits", s.next(0, 9, 0), NONE);
        due.is("31 none fits, what 1", s.next(0, 9, 1), NONE);
        due.is("31 one law", Due.told(ONE + "beat 100;").next(0, 9999, 0), NONE);
        // All six LAWS alike, whatever is taken: one group of all, and the first of the TAKINGS.
        StringBuilder six = new StringBuilder("beat 100 times 2;");
        for (int i = 0; i < 6; i++) {
            six.append("law ").append((char) ('a' + i)).append(" 1 1 1 1 5;");
        }
        StickStrings alike = Due.told(six + "player p a 0 0 0;");
        due.is("31 six alike: the first", alike.next(0, 0, 0), 1);
        due.is("31 six alike: their group", alike.next(0, 0, 1), 6);
        // Three alike by the stick and one not: without the stick all four are alike.
        StickStrings t = Due.told("beat 100;pause 10;beat 100 times 3;law a 1 0 0 0 0;law b 2 0 0 0 0;law c 3 0 0 0 0;law d 0 1 0 0 0;"
                + "player p a 0 0 0;");
        due.is("31 not the stick", t.next(0, 0, 0), 2);
        due.is("31 three alike", t.next(0, 0, 1), 3);
        t.take(0, 1);
        due.is("31 with what is taken: the first", t.next(0, 0, 0), 1);
        due.is("31 with what is taken: all alike", t.next(0, 0, 1), 4);
        // Once a FILM says that LAW a doesn't fit, it is in no group, though without the stick b and c are like it.
        StickStrings u = Due.told("beat 100 times 3;law a 0 1 0 0 0;law b 1 1 0 0 0;law c 1 1 0 0 0;player p a 0 0 0;wrong p 1 10;");
        due.is("31 three fit: not the stick", u.next(0, 0, 0), 2);
        due.is("31 three fit: two alike", u.next(0, 0, 1), 2);
        u.film(0, 2, 210);
        due.is("31 two fit", u.fits(0, 0), 6);
        due.is("31 two fit: the first", u.next(0, 0, 0), 1);
        due.is("31 two fit: both alike", u.next(0, 0, 1), 2);
    }

    // ---- seats changed

    private static void edges32order() {
        StickStrings s = Due.told(PAIR);
        bounds("32 x", x -> s.order(x, 0, 0, 0, 0), 0, 40, NONE);
        bounds("32 y", y -> s.order(0, y, 0, 0, 0), 0, 40, NONE);
        bounds("32 a", a -> s.order(0, 0, a, 11, 0), 0, 11, NONE);
        bounds("32 b", b -> s.order(0, 0, 0, b, 0), 0, 11, NONE);
        bounds("32 b not below a", b -> s.order(0, 0, 5, b, 0), 5, 11, NONE);
        bounds("32 what", what -> s.order(0, 0, 0, 0, what), 0, 2, NONE);
        due.is("32 no players", Due.told("beat 100;").order(0, 0, 0, 0, 0), NONE);
        due.is("32 no players, what 1", Due.told("beat 100;").order(0, 0, 0, 0, 1), NONE);
        due.is("32 no beats", Due.told(ONE).order(0, 0, 0, 0, 0), NONE);
        StickStrings one = Due.told(ONE + "beat 100;");
        due.is("32 he alone", one.order(40, 40, 0, 0, 0), 0);
        due.is("32 his own place", one.order(40, 40, 0, 0, 1), 0);
        due.is("32 no second", one.order(40, 40, 0, 0, 2), NONE);
    }

    private static StickStrings inARow(int[] ys, int[] speaks) {
        StringBuilder text = new StringBuilder("beat 100;law s 1 0 0 0 0;");
        for (int i = 0; i < ys.length; i++) {
            text.append("player ").append((char) ('a' + i)).append(" s 0 ").append(ys[i]).append(' ').append(speaks[i]).append(';');
        }
        return Due.told(text.toString());
    }

    private static void ordered(String call, StickStrings s, int together, int[] places) {
        due.is(call + ": how much", s.order(0, 0, 0, 0, 0), together);
        for (int i = 0; i < places.length; i++) {
            due.is(call + ": place of " + i, s.order(0, 0, 0, 0, i + 1), places[i]);
        }
        due.is(call + ": no more", s.order(0, 0, 0, 0, places.length + 1), NONE);
    }

    /** In each of these the changes of two stop at a worse end than all ways, and other ones first end otherwise. */
    private static void edges32orderOfFiveAndSix() {
        ordered("32 five, of all ways", inARow(new int[] {10, 15, 3, 11, 9}, new int[] {81, 42, 63, 78, 27}),
                33, new int[] {2, 0, 3, 4, 1});
        ordered("32 five, of all ways", inARow(new int[] {20, 9, 1, 6, 13}, new int[] {27, 51, 21, 84, 6}),
                33, new int[] {1, 3, 4, 2, 0});
        ordered("32 six, change by change", inARow(new int[] {26, 11, 22, 10, 3, 2}, new int[] {90, 6, 57, 75, 45, 51}),
                30, new int[] {4, 0, 1, 5, 2, 3});
        ordered("32 six, change by change", inARow(new int[] {25, 30, 23, 25, 27, 24}, new int[] {9, 12, 27, 63, 51, 9}),
                48, new int[] {0, 5, 3, 2, 4, 1});
        ordered("32 five, the very last way", inARow(new int[] {0, 1, 2, 3, 4}, new int[] {0, 3, 6, 9, 12}),
                0, new int[] {4, 3, 2, 1, 0});
        // None makes it less: all stay, though other ways are as good.
        ordered("32 five alike", inARow(new int[] {7, 7, 7, 7, 7}, new int[] {0, 0, 0, 0, 0}), 0, new int[] {0, 1, 2, 3, 4});
        ordered("32 six alike", inARow(new int[] {7, 7, 7, 7, 7, 7}, new int[] {0, 9, 0, 0, 0, 0}), 9, new int[] {0, 1, 2, 3, 4, 5});
        ordered("32 eight", inARow(new int[] {0, 1, 2, 3, 4, 5, 6, 7}, new int[] {21, 18, 15, 12, 9, 6, 3, 0}),
                0, new int[] {0, 1, 2, 3, 4, 5, 6, 7});
        ordered("32 eight, the other way round", inARow(new int[] {7, 6, 5, 4, 3, 2, 1, 0}, new int[] {21, 18, 15, 12, 9, 6, 3, 0}),
                0, new int[] {7, 6, 5, 4, 3, 2, 1, 0});
    }

    /** Sets the PLAYERS on each other's PLACES (a new object, for it is used for 512 calls at most). */
    private static StickStrings seated(String text, int[] whose) {
        StickStrings told = Due.told(text);
        StickStrings s = Due.told(text);
        for (int i = 0; i < whose.length; i++) {
            s.seat(i, told.look(whose[i], 1), told.look(whose[i], 2));
        }
        return s;
    }

    private static long togetherIfChanged(StickStrings s, int i, int j, int[] ask) {
        int x = s.look(i, 1);
        int y = s.look(i, 2);
        s.seat(i, s.look(j, 1), s.look(j, 2));
        s.seat(j, x, y);
        long together = s.together(ask[0], ask[1], ask[2], ask[3]);
        s.undo();
        s.undo();
        return together;
    }

    /** The change of two that makes it least, made in whose: false, and none is made, if none makes it less. */
    private static boolean changed(String text, int[] whose, int[] ask) {
        StickStrings s = seated(text, whose);
        long least = s.together(ask[0], ask[1], ask[2], ask[3]);
        int one = 0;
        int other = 0;
        for (int i = 0; i < whose.length; i++) {
            for (int j = i + 1; j < whose.length; j++) {
                long here = togetherIfChanged(s, i, j, ask);
                if (here < least) {
                    least = here;
                    one = i;
                    other = j;
                }
            }
        }
        int kept = whose[one];
        whose[one] = whose[other];
        whose[other] = kept;
        return one != other;
    }

    /** Changes two by seat(), again and again; order() must be where the twentieth change comes to, if there are more. */
    private static void orderedBySeats(String text, int[] ask, int wanted) {
        int[] whose = {0, 1, 2, 3, 4, 5, 6, 7};
        int[] due20 = whose.clone();
        int changes = 0;
        while (changed(text, whose, ask)) {
            changes++;
            if (changes <= 20) {
                due20 = whose.clone();
            }
        }
        due.is("32 changes that this text wants", changes, wanted);
        StickStrings s = Due.told(text);
        long together = seated(text, due20).together(ask[0], ask[1], ask[2], ask[3]);
        due.is("32 " + wanted + " changes: how much", s.order(ask[0], ask[1], ask[2], ask[3], 0), together);
        for (int i = 0; i < 8; i++) {
            due.is("32 " + wanted + " changes: place of " + i, s.order(ask[0], ask[1], ask[2], ask[3], i + 1), due20[i]);
        }
    }

    /** Texts that were searched for: each change of two makes it less, but at the 20th it ends. */
    private static void edges32orderTwentyTimes() {
        orderedBySeats("beat 1130;beat 1660 times 5;law a 1 9 5 3 456;law b 0 3 5 2 470;law c 5 0 2 4 446;law d 5 2 5 7 -298;"
                + "law e 7 3 6 5 348;player a c 23 13 72 sees b sees e sees g hears d hears e hears f hears g;"
                + "player b e 13 21 290 sees a sees e sees f hears c hears d hears g hears h;"
                + "player c a 18 25 116 sees b hears d hears e hears f hears h;"
                + "player d a 9 0 289 sees a sees f hears e hears f hears g;"
                + "player e d 23 17 212 sees d hears d hears f hears g hears h;"
                + "player f c 15 0 102 sees g sees h hears c hears e hears g hears h;"
                + "player g c 7 16 78 sees c sees d sees f sees h hears c hears e hears f hears h;"
                + "player h b 0 22 168 sees b hears c hears d hears f hears g;", new int[] {1, 28, 2, 2}, 20);
        orderedBySeats("beat 100 times 7;law a 5 8 7 7 0ahead;player a a 1 21 3 sees d sees e sees g hears d hears e hears f;"
                + "player b a 0 27 87 sees c sees d sees f hears e hears f hears h;"
                + "player c a 6 30 17 sees a sees d sees f sees g hears e;player d a 7 25 242 sees b hears a hears e hears f;"
                + "player e a 20 22 141 sees b sees c sees f hears d hears h;"
                + "player f a 14 5 60 sees b sees h hears c hears e hears g;"
                + "player g a 11 3 1 sees a sees b sees e hears a hears e hears f;"
                + "player h a 18 5 101 sees a sees c sees d sees f hears e hears g;wrong g 2 747;wrong g 5 -100;",
                new int[] {7, 24, 2, 6}, 21);
        orderedBySeats("beat 100 times 6;law a 0 4 2 8 137;law b 5 7 0 8 -500;law c 2 8 6 3 27;law e 4 9 7 1 -488;"
                + "player a b 16 13 65 hears f hears h;player b a 24 28 220 sees c sees e sees f sees g hears a hears e hears g;"
                + "player c c 11 0 106 sees h hears d hears e hears g;"
                + "player d a 18 22 195 sees c sees f sees g hears c hears g hears h;"
                + "player e a 19 6 95 sees a sees f sees g sees h hears c;player f e 28 9 40 sees b hears b hears c hears e hears h;"
                + "player g b 13 29 255 hears a hears c hears e hears f;player h b 21 28 153 hears b hears c hears d;"
                + "wrong f 2 -1169;", new int[] {15, 7, 3, 3}, 23);
    }

    // ---- pauses, pairs, doubt and chance

    private static void edges33pause() {
        StickStrings s = Due.told(PAIR);
        bounds("33 player", player -> s.pause(player, 0), 0, 1, NONE);
        bounds("33 what", what -> s.pause(0, what), 0, 1, NONE);
        due.is("33 0 of", s.pause(0, 0), 0);
        due.is("33 of 0", s.pause(0, 1), 0);
        StringBuilder eight = new StringBuilder(LAW);
        for (int i = 0; i < 8; i++) {
            eight.append("player ").append((char) ('a' + i)).append(" l 0 0 0 dares 99;");
        }
        StickStrings t = Due.told(eight.toString());
        due.is("33 99 of 792: 1", t.pause(7, 0), 1);
        due.is("33 99 of 792: 8", t.pause(7, 1), 8);
        t = Due.told(LAW + "player a l 0 0 0 dares 97;player b l 0 0 0 dares 1;player c l 0 0 0 dares 0;");
        due.is("33 97 of 98", t.pause(0, 0), 97);
        due.is("33 of 98", t.pause(0, 1), 98);
        due.is("33 0 of 98: 0", t.pause(2, 0), 0);
        due.is("33 0 of 98: 1", t.pause(2, 1), 1);
    }

    private static void edges34two() {
        StickStrings s = Due.told(PAIR);
        bounds("34 first", first -> s.two(first, first == 0 ? 1 : 0, 2), 0, 1, NO);
        bounds("34 second", second -> s.two(second == 0 ? 1 : 0, second, 2), 0, 1, NO);
        bounds("34 n", n -> s.two(0, 1, n), 2, 11, NO);
        due.is("34 n 1", s.two(0, 1, 1), NO);
        due.is("34 n 0", s.two(0, 1, 0), NO);
        due.is("34 both the first", s.two(0, 0, 2), NO);
        due.is("34 both the second", s.two(1, 1, 2), NO);
        due.is("34 of two beats", Due.told("beat 100 times 2;" + LAW + "player a l 0 0 0;player b l 0 0 0;").two(0, 1, 2), NO);
        due.is("34 of three beats", Due.told("beat 100 times 3;" + LAW + "player a l 0 0 0;player b l 0 0 0;").two(0, 1, 2), 0);
        // No STICK but at BEAT 0: HABIT and ahead say there when they begin, and nothing behind it.
        StickStrings t = Due.told("beat 100;pause 40;beat 100 times 3;law o 9 1 0 0 30 ahead;player a o 0 0 20;player b o 0 0 0;");
        due.is("34 no stick: as he began", t.two(0, 1, 3), 0);
        // A third one whom both hear, and one of them sees, says nothing; their own WRONG ones stay, his go.
        t = Due.told("beat 100 times 4;law o 0 0 1 1 0;player a o 0 0 0 hears c sees b;player b o 0 0 0 sees c hears c;"
                + "player c o 9 9 99 hears a;wrong c 0 2000;wrong b 0 6;wrong a 1 1;");
        // a: 0, 0 + 6 + 100 + 1 = 107; b by nobody: 6, 106, so a at 2: 106 + 107 = 213 and his PACE 106.
        due.is("34 at 2", t.two(0, 1, 2), 7);
        due.is("34 at 3", t.two(0, 1, 3), 6);
        due.is("34 the other one", t.two(1, 0, 3), 0);
        t.take(0, 4);
        due.is("34 what is taken stays so", t.two(0, 1, 3), 1);
    }

    private static void edges35clear() {
        StickStrings s = Due.told(PAIR);
        bounds("35 what", s::clear, 0, 1, NO);
        due.is("35 of two the least such", s.clear(0), 0);
        due.is("35 its sum", s.clear(1), 9);
        String laws = "law a 0 0 0 0 - 500;law b 0 0 0 0 500;law c 0 0 0 0 - 499;";
        StickStrings t = Due.told(laws + "player p b 0 0 0;player q a 0 0 0;player r b 0 0 0;player s a 0 0 0;");
        due.is("35 from end to end: the least", t.clear(0), -500);
        due.is("35 from end to end: the sum", t.clear(1), 2000);
        t = Due.told(laws + "player p b 0 0 0;");
        due.is("35 he alone", t.clear(0), 500);
        due.is("35 he alone: no doubt", t.clear(1), 0);
        t = Due.told(laws + "player p b 0 0 0;player q b 0 0 0;player r a 0 0 0;player s c 0 0 0;");
        due.is("35 the lower one of the middle", t.clear(0), -499);
        due.is("35 its sum", t.clear(1), 1 + 999 + 999);
        due.is("35 no players", Due.told(laws).clear(0), NO);
        due.is("35 no players, no such what", Due.told(laws).clear(2), NO);
    }

    private static void edges36draws() {
        StickStrings s = Due.told(PAIR);
        bounds("36 seed", seed -> s.draws(seed, 1, 1, 9999), 0, Integer.MAX_VALUE, NONE);
        bounds("36 many", many -> s.draws(0, many, 1, 9999), 1, 50, NONE);
        bounds("36 j", j -> s.draws(0, 1, j, 9999), 0, 200, NONE);
        bounds("36 e", e -> s.draws(0, 1, 1, e), 0, 9999, NONE);
        due.is("36 many 0", s.draws(0, 0, 1, 9999), NONE);
        due.is("36 j 0: as it is", s.draws(5, 50, 0, 0), 50);
        due.is("36 all of 50", s.draws(5, 50, 200, 9999), 50);
        due.is("36 no beats", Due.told(ONE).draws(0, 1, 0, 0), NONE);
        due.is("36 without players", Due.told("beat 100 times 2;").draws(0, 50, 200, 0), 50);
        // One PLAYER by the stick, BEATS 0 and 1: LAG grows by the difference of two numbers of the row.
        StickStrings t = Due.told("beat 100 times 2;law s 1 0 0 0 0;player p s 0 0 0;");
        for (int seed : new int[] {0, 1, 12345, 65535, 65536, 1 << 30, Integer.MAX_VALUE - 1, Integer.MAX_VALUE}) {
            for (int j : new int[] {1, 2, 100, 199, 200}) {
                int holds = 0;
                long last = seed;
                for (int draw = 0; draw < 50; draw++) {
                    long first = last = next(last);
                    last = next(last);
                    long grown = (last >> 16) % (2 * j + 1) - (first >> 16) % (2 * j + 1);
                    holds += Math.abs(grown) <= j ? 1 : 0;
                }
                due.is("36 seed " + seed + " j " + j, t.draws(seed, 50, j, j), holds);
            }
        }
    }

    /**
     * Four in a ring, from BEAT 31 on all at the bounds, two above and two below, and e, whose WRONG ones make LAG at the
     * last BEAT what it was 8 ahead. Chance comes ahead of the bound: SPREAD can't grow, and LAG moves by what the two
     * innermost of the four and e have of it at both BEATS, by 5.
     */
    private static void edges36drawsAtTheBound() {
        StickStrings s = Due.told("beat 100 times 40;law s 1 0 0 0 0;law f 0 0 1 0 0;player a f 0 0 0 sees b;"
                + "player b f 0 0 0 sees c;player c f 0 0 0 sees d;player d f 0 0 0 sees a;player e s 0 0 0;wrong a 1 1800;"
                + "wrong b 1 1800;wrong c 1 - 2000;wrong d 1 - 2000;wrong e 31 - 1200;wrong e 39 2000;");
        for (int player = 0; player < 4; player++) {
            due.is("36 at the bound at 31", Math.abs(s.entry(player, 31)), BOUND);
            due.is("36 at the bound at 39", Math.abs(s.entry(player, 39)), BOUND);
        }
        due.is("36 it holds", s.verdict(0), 0);
        due.is("36 ahead of the bound", s.draws(1, 50, 3, 4), 50);
        due.is("36 ahead of the bound", s.draws(99, 50, 3, 4), 50);
    }

    /** The last number times 1103515245 and 12345, wrapped at 31 bits. */
    private static long next(long last) {
        return (last * 1103515245L + 12345L) % (1L << 31);
    }

    private static void edges37count() {
        StickStrings s = Due.told(PAIR);
        bounds("37 what", s::count, 0, 8, NONE);
        due.is("37 the stick's x without one", s.count(7), 15);
        due.is("37 the stick's y without one", s.count(8), 0);
        due.is("37 most beats", Due.told("beat 100 times 40;").count(2), 40);
        due.is("37 stick at the end", Due.told("stick 30 30;").count(7) + Due.told("stick 30 30;").count(8), 60);
        due.is("37 stick at the start", Due.told("stick 0 0;").count(7), 0);
    }

    /** 512 calls on one object, and some more, which may answer what they like but not throw. */
    private static void edgesOfManyCalls() {
        StickStrings s = Due.told(PAIR);
        for (int i = 0; i < 600; i++) {
            s.seat(i % 2, i % 31, i % 30);
            s.take(i % 2, i % 16);
            s.film(i % 2, i % 12, i);
            s.strike(i);
            s.feed(i, i, i, i, i);
        }
        due.is("17 20 to undo after many", s.count(6), 20);
        due.is("27 40 notes after many", s.count(4), 40);
        due.is("2 the tape is full after many", s.feed(0, 0, 0, 0, 0), NONE);
    }
}
