/**
 * Promises 1 to 5 and Terms 1 at each bound that the document names. A comment quotes the sentence that is tested. In a
 * wrong text ^ stands ahead of the byte at which it is wrong.
 */
public final class TextEdgeTest {
    private static final Check CHECK = new Check();
    private static final int NONE = NameWall.NONE;

    public static void main(String[] args) {
        newObject();
        feeding();
        ending();
        sorts();
        clausesOfCities();
        itemsOnce();
        digits();
        itemBounds();
        tiesBounds();
        wholeCities();
        earlyEnds();
        blanks();
        laws();
        lawDigits();
        lawSigns();
        nesting();
        numberBounds();
        worths();
        conditions();
        takenCities();
        takenLaws();
        CHECK.end();
    }

    private static void right(String promise, String text, int sort) {
        CHECK.due(promise + " '" + text + "'", Check.faultOf(text, sort), NONE);
    }

    private static void wrong(String promise, String marked, int sort) {
        int at = marked.indexOf('^');
        String text = marked.substring(0, at) + marked.substring(at + 1);
        CHECK.due(promise + " '" + marked + "'", Check.faultOf(text, sort), at);
    }

    /** "A new object: No CITY." */
    private static void newObject() {
        NameWall wall = new NameWall();
        CHECK.due("P1 no NAMES", wall.count(0), 0);
        CHECK.due("P1 no TIES", wall.count(1), 0);
        CHECK.due("P1 no LAWS", wall.count(2), 0);
        CHECK.due("P1 the TAPE is empty", wall.count(3), 0);
        CHECK.due("P1 no LAW holds", wall.count(4), NONE);
        CHECK.due("P1 the DAY", wall.count(5), 0);
        CHECK.due("P1 no FOG", wall.count(6), 0);
        CHECK.due("P1 nobody STANDS", wall.count(7), 0);
        CHECK.due("P1 FOGS are 0 at first", wall.count(10), 0);
        CHECK.due("P1 COLDS are 0 at first", wall.count(11), 0);
        CHECK.due("P1 no DENTS", wall.count(12), 0);
        CHECK.due("P1 an empty LOG", wall.count(13), 0);
        CHECK.due("P1 no ACTS", wall.count(14), 0);
        CHECK.due("P1 no SQUARE", wall.square(0), NONE);
        Check.put(wall, "n;n");
        CHECK.due("P1 one object's CITY", wall.text(0), 2);
        CHECK.due("P1 is no other's", new NameWall().square(0), NONE);
    }

    /** "Twenty bytes more (of each number the highest first; bytes of 0 are left out) .. NONE: more than 240." */
    private static void feeding() {
        NameWall wall = new NameWall();
        CHECK.due("P2 no byte onto the empty TAPE", wall.feed(0, 0, 0, 0, 0), 0);
        CHECK.due("P2 the lowest byte alone", wall.feed(0, 0, 0, 0, 1), 1);
        CHECK.due("P2 the highest byte alone", wall.feed(1 << 31, 0, 0, 0, 0), 2);
        NameWall order = new NameWall();
        order.feed('y' << 24 | ':', 0, 'd' << 8, '+' << 16, '1' << 24 | '2' << 16 | '3' << 8 | '4');
        CHECK.due("P2 bytes of 0 are left out anywhere", order.count(3), 8);
        CHECK.due("P2 of each number the highest first", order.fault(1), NONE);
        NameWall full = new NameWall();
        for (int twenties = 1; twenties <= 12; twenties++) {
            CHECK.due("P2 twenty more", full.feed(-1, -1, -1, -1, -1), 20 * twenties);
        }
        CHECK.due("P2 240 and none more", full.feed(0, 0, 0, 0, 0), 240);
        CHECK.due("P2 241", full.feed(0, 0, 0, 0, 1), NONE);
        CHECK.due("P2 260", full.feed(-1, -1, -1, -1, -1), NONE);
        full.end(239);
        CHECK.due("P2 239 and two more", full.feed(1, 0, 0, 0, 1), NONE);
        CHECK.due("P2 239 and one more, 0 left out", full.feed(0, 0, 1 << 16, 0, 0), 240);
        full.end(225);
        CHECK.due("P2 225 and 16 more", full.feed(-1, -1, -1, -1, 0), NONE);
        CHECK.due("P2 225 and 15 more", full.feed(-1, -1, -1, 0xffffff, 0), 240);
        full.end(221);
        CHECK.due("P2 221 and 20 more", full.feed(-1, -1, -1, -1, -1), NONE);
        CHECK.due("P2 refused: none of them came", full.count(3), 221);
        full.end(220);
        CHECK.due("P2 220 and 20 more", full.feed(-1, -1, -1, -1, -1), 240);
        full.end(0);
        CHECK.due("P2 empty again", full.feed(-1, 0, 0, 0, 0), 4);
        NameWall half = new NameWall();
        Check.put(half, "n;n;tb1" + " ".repeat(220));
        CHECK.due("P2 227 and 14 more", half.feed('n' << 24, -1, -1, -1, 1), NONE);
        CHECK.due("P2 refused: the TAPE is as it was", half.fault(0), NONE);
    }

    /** "The TAPE has its first n bytes alone. False: n." */
    private static void ending() {
        NameWall empty = new NameWall();
        CHECK.due("P3 0 of the empty TAPE", empty.end(0), true);
        CHECK.due("P3 1 of the empty TAPE", empty.end(1), false);
        CHECK.due("P3 -1 of the empty TAPE", empty.end(-1), false);
        CHECK.due("P3 240 of the empty TAPE", empty.end(240), false);
        NameWall wall = new NameWall();
        Check.put(wall, "n;nv1");
        CHECK.due("P3 one more than there are", wall.end(6), false);
        CHECK.due("P3 one below 0", wall.end(-1), false);
        CHECK.due("P3 as many as there are", wall.end(5), true);
        CHECK.due("P3 they are all there", wall.count(3), 5);
        CHECK.due("P3 one less", wall.end(4), true);
        CHECK.due("P3 the last one is gone", wall.fault(0), 4);
        CHECK.due("P3 it does not come again", wall.end(5), false);
        Check.put(wall, "7");
        CHECK.due("P3 more come behind the first ones", wall.fault(0), NONE);
        CHECK.due("P3 none", wall.end(0), true);
        CHECK.due("P3 the TAPE is empty", wall.count(3), 0);
        CHECK.due("P3 the empty TAPE's FAULT", wall.fault(0), 0);
        NameWall full = new NameWall();
        Check.put(full, "y".repeat(240));
        CHECK.due("P3 241 of 240", full.end(241), false);
        CHECK.due("P3 240 of 240", full.end(240), true);
        CHECK.due("P3 239 of 240", full.end(239), true);
        CHECK.due("P3 240 of 239", full.end(240), false);
    }

    /** "as a CITY (0), a LAW (1). NONE: none. -2: no such sort." "NONE: a FAULT, no such sort .." */
    private static void sorts() {
        NameWall wall = new NameWall();
        CHECK.due("P4 sort -1", wall.fault(-1), -2);
        CHECK.due("P4 sort 0 of nothing", wall.fault(0), 0);
        CHECK.due("P4 sort 1 of nothing", wall.fault(1), 0);
        CHECK.due("P4 sort 2", wall.fault(2), -2);
        CHECK.due("P5 nothing is no CITY", wall.text(0), NONE);
        CHECK.due("P5 nothing is no LAW", wall.text(1), NONE);
        Check.put(wall, "n;n");
        CHECK.due("P4 a right text of no sort", wall.fault(2), -2);
        CHECK.due("P4 a CITY", wall.fault(0), NONE);
        CHECK.due("P4 is no LAW", wall.fault(1), 0);
        CHECK.due("P5 sort -1", wall.text(-1), NONE);
        CHECK.due("P5 sort 2", wall.text(2), NONE);
        CHECK.due("P5 the TAPE stays", wall.count(3), 3);
        wall.end(0);
        Check.put(wall, "y:1");
        CHECK.due("P4 a LAW", wall.fault(1), NONE);
        CHECK.due("P4 is no CITY", wall.fault(0), 0);
        CHECK.due("P5 sort -1", wall.text(-1), NONE);
        CHECK.due("P5 sort 2", wall.text(2), NONE);
        CHECK.due("P5 no LAW came", wall.count(2), 0);
    }

    /** "s (one at most), n (2 .. 8), t (none to 10), in any order"; "a second s, a ninth n, an 11th t at it". */
    private static void clausesOfCities() {
        right("P4 no s", "n;n", 0);
        right("P4 one s first", "s;n;n", 0);
        right("P4 one s between", "n;s;n", 0);
        right("P4 one s last", "n;n;s", 0);
        wrong("P4 a second s", "s;^s;n;n", 0);
        wrong("P4 a second s, last", "s;n;n;^s", 0);
        wrong("P4 a second s behind items", "sr1;n;n; ^sc9", 0);
        wrong("P4 no NAME", "s^", 0);
        wrong("P4 one NAME", "n;s^", 0);
        right("P4 two NAMES", "n;n", 0);
        right("P4 eight NAMES", "n;n;n;n;n;n;n;n", 0);
        wrong("P4 a ninth n", "n;n;n;n;n;n;n;n;^n", 0);
        wrong("P4 a ninth n behind more", "n;n;t;n;n;n;n;n;n;s; ^nx", 0);
        right("P4 no t", "n;n;s", 0);
        right("P4 ten t", "t;t;t;t;t;t;t;t;t;t;n;n", 0);
        wrong("P4 an 11th t", "t;t;t;t;t;t;t;t;t;t;^t;n;n", 0);
        wrong("P4 an 11th t, last", "n;n;t;t;t;t;t;t;t;t;t;t; ^ta9", 0);
        right("P4 any order", "tb3;n;t;ta2;n;s;ta3;n;n;ta3b2", 0);
        right("P4 the most of all", "s;n;n;n;n;n;n;n;n;t;t;t;t;t;t;t;t;t;t", 0);
        wrong("P4 no such CLAUSE", "n;n;^m", 0);
        wrong("P4 an empty CLAUSE first", "^;n;n", 0);
        wrong("P4 an empty CLAUSE between", "n;^;n", 0);
        wrong("P4 an empty CLAUSE last", "n;n;^", 0);
        wrong("P4 no ; between", "n^n", 0);
        wrong("P4 : for ;", "n^:n", 0);
    }

    /** "ITEMS, none or more: a letter, each once at most in a CLAUSE"; "a letter that was there at it". */
    private static void itemsOnce() {
        String[] letters = {"s rchd", "n vkgpwi", "t ab"};
        for (String of : letters) {
            char clause = of.charAt(0);
            for (char letter : of.substring(2).toCharArray()) {
                wrong("P4 twice", "n;n;" + clause + letter + "1^" + letter + "1", 0);
                wrong("P4 twice, blanks between", "n;n;" + clause + letter + " 1 ^" + letter, 0);
                for (char other : "rchdvkgpwiabnst".toCharArray()) {
                    if (of.substring(2).indexOf(other) < 0) {
                        wrong("P4 a letter of another CLAUSE", "n;n;" + clause + "^" + other + "1", 0);
                    }
                }
            }
        }
        wrong("P4 twice, others between", "n;n;nv1k1g1p1w1i1^v1", 0);
        wrong("P4 twice, others between", "n;n;sr1c99h1d1^r1", 0);
        right("P4 all letters in any order", "ni1w1p1g1k1v1;nv1i1;sd1h1c9r1;tb1a0;tb1", 0);
        right("P4 each letter again in the next CLAUSE", "nv1k1g1p1w1i1;nv1k1g1p1w1i1;ta0b1;ta0b1", 0);
        right("P4 no ITEMS", "n;n;s;t", 0);
    }

    /** "a number (one or two digits)"; "a third digit itself, whatever stands ahead of it". */
    private static void digits() {
        for (String item : new String[] {"sr", "sc", "sh", "sd", "nv", "nk", "ng", "np", "nw", "ni", "ta", "tb"}) {
            wrong("P4 no digit", "n;n;" + item + "^;n", 0);
            wrong("P4 no digit", "n;n;" + item + "^x", 0);
            wrong("P4 no digit but a sign", "n;n;" + item + "^-1", 0);
            wrong("P4 a third digit", "n;n;" + item + "00^0", 0);
            wrong("P4 a third digit", "n;n;" + item + "01^1", 0);
            wrong("P4 a third digit behind what is out of bounds", "n;n;" + item + "99^9", 0);
            wrong("P4 a third digit behind what is out of bounds", "n;n;" + item + "00^1;n", 0);
            wrong("P4 a third digit, a fourth", "n;n;" + item + "10^00", 0);
        }
        wrong("P4 below the digits", "n;n;nv^/", 0);
        wrong("P4 above the digits", "n;n;nv^:", 0);
        right("P4 one digit", "nv9;n", 0);
        right("P4 two digits", "nv09;n", 0);
    }

    /** The bounds of each ITEM, and what it is without; "a number out of bounds is wrong at its last digit". */
    private static void itemBounds() {
        // Clause, letter, least, greatest, without; the square()'s or name()'s what.
        bounds('s', 'r', 0, 9, 2, 0);
        bounds('s', 'c', 1, 99, 40, 1);
        bounds('s', 'h', 1, 6, 4, 2);
        bounds('s', 'd', 1, 4, 2, 3);
        bounds('n', 'v', 0, 9, 3, 0);
        bounds('n', 'k', 0, 3, 0, 1);
        bounds('n', 'g', 0, 4, 0, 2);
        bounds('n', 'p', 0, 99, 5, 3);
        bounds('n', 'w', 0, 9, 1, 4);
        bounds('n', 'i', 1, 99, 20, 5);
    }

    private static void bounds(char clause, char letter, int low, int high, int without, int what) {
        String item = "" + clause + letter;
        String rest = item.equals("sc") ? ";ni1;ni1" : item.equals("ni") ? ";n;sc99" : ";n;n";
        CHECK.due("P5 " + item + " without", told("" + clause + ";n;n", clause, what), without);
        CHECK.due("P5 " + item + " least", told(item + low + rest, clause, what), low);
        CHECK.due("P5 " + item + " greatest", told(item + high + rest, clause, what), high);
        CHECK.due("P5 " + item + " least of two digits", told(item + "0" + low + rest, clause, what), low);
        if (low > 0) {
            wrong("P4 " + item + " too small", item + "^0" + rest, 0);
            wrong("P4 " + item + " too small", item + "0^0" + rest, 0);
        }
        if (high < 9) {
            wrong("P4 " + item + " too large", item + "^" + (high + 1) + rest, 0);
            wrong("P4 " + item + " too large", item + "0^" + (high + 1) + rest, 0);
            wrong("P4 " + item + " too large", item + "^9", 0);
        }
        if (high <= 9) {
            wrong("P4 " + item + " ten", item + "1^0" + rest, 0);
            wrong("P4 " + item + " ten and more", item + "1^1", 0);
            wrong("P4 " + item + " ninety nine", item + "9^9" + rest, 0);
        } else {
            right("P4 " + item + " ten", item + 10 + (item.equals("sc") ? ";ni1;ni1" : rest), 0);
            wrong("P4 " + item + " a hundred", item + "10^0" + rest, 0);
        }
    }

    private static int told(String text, char clause, int what) {
        NameWall wall = Check.city(text);
        return clause == 's' ? wall.square(what) : wall.name(0, what);
    }

    /** "a, b the NAMES that it TIES (0 .. 7; a 0, b 1)". */
    private static void tiesBounds() {
        String eight = ";n;n;n;n;n;n;n;n";
        CHECK.due("P5 a 0, b 1 without", Check.city("t" + eight).tied(0, 1), 1);
        CHECK.due("P5 a 0 without", Check.city("tb7" + eight).tied(0, 7), 1);
        CHECK.due("P5 b 1 without", Check.city("ta7" + eight).tied(1, 7), 1);
        CHECK.due("P5 the least a", Check.city("ta0b2" + eight).friends(0), 4);
        CHECK.due("P5 the least b", Check.city("ta2b0" + eight).friends(0), 4);
        CHECK.due("P5 the greatest", Check.city("ta07b06" + eight).friends(7), 64);
        wrong("P4 a 8", "ta^8" + eight, 0);
        wrong("P4 a 08", "ta0^8" + eight, 0);
        wrong("P4 a 10", "ta1^0" + eight, 0);
        wrong("P4 b 8", "tb^8" + eight, 0);
        wrong("P4 b 9", "ta7b^9" + eight, 0);
        wrong("P4 b 17", "tb1^7" + eight, 0);
    }

    /** The length, "with fewer than two NAMES, a DEPTH above CUT, a TIE of a NAME not told or of one with itself". */
    private static void wholeCities() {
        right("P4 DEPTH as CUT", "sc7;ni7;ni1", 0);
        wrong("P4 DEPTH one above CUT", "sc7;ni8;ni1^", 0);
        wrong("P4 DEPTH one above CUT, the last NAME", "sc7;ni1;ni8^", 0);
        wrong("P4 CUT behind the NAMES", "ni8;ni1;sc7^", 0);
        right("P4 DEPTH 20 without, as CUT", "sc20;n;n", 0);
        wrong("P4 DEPTH 20 without, above CUT", "sc19;n;ni1^", 0);
        right("P4 CUT 40 without, as DEPTH", "ni40;n", 0);
        wrong("P4 CUT 40 without, below DEPTH", "ni41;n^", 0);
        right("P4 the greatest of both", "sc99;ni99;ni99", 0);
        right("P4 the least of both", "sc1;ni1;ni1", 0);
        right("P4 a TIE of the last NAME: a", "n;n;n;ta2", 0);
        wrong("P4 a TIE of the first NAME that is not told: a", "n;n;n;ta3^", 0);
        right("P4 a TIE of the last NAME: b", "n;n;n;tb2", 0);
        wrong("P4 a TIE of the first NAME that is not told: b", "n;n;n;tb3^", 0);
        wrong("P4 a TIE of NAME 7 of seven", "n;n;n;n;n;n;n;ta7^", 0);
        right("P4 a TIE of a NAME told behind it", "tb2;n;n;n", 0);
        wrong("P4 one with itself: b without", "n;n;ta1^", 0);
        wrong("P4 one with itself: a without", "n;n;tb0^", 0);
        wrong("P4 one with itself", "n;n;n;ta2b2^", 0);
        wrong("P4 one with itself, the last of ten", "n;n;t;t;t;t;t;t;t;t;t;ta0b0^", 0);
        wrong("P4 told at the length, blanks and all", "n;n;ta1 ; s  ^", 0);
        wrong("P4 fewer than two NAMES, blanks and all", " n ; t  ^", 0);
        wrong("P4 a wrong sign comes ahead of a wrong whole", "ni99;^x", 0);
    }

    /** "the length, if it ends too early". */
    private static void earlyEnds() {
        for (String text : new String[] {"^", "n^", "n;^", "n;n;^", "n;nv^", "n;n;ta^", "  ^", "n; ^"}) {
            wrong("P4 ends too early", text, 0);
        }
        for (String text : new String[] {"^", " ^", "y^", "y:^", "y: ^", "y:1+^", "y:[^", "y:[1^", "y:1=^", "y:1=1^",
            "y:1=1?^", "y:!^", "y:(^", "y:(1=1^", "y:(1=1)^", "y:1=1&^", "y:1=1|^", "y:1;^", "y:1;y^"}) {
            wrong("P4 ends too early", text, 1);
        }
    }

    /** "Blanks (32) may stand between all signs of both, not within numbers." */
    private static void blanks() {
        right("P4 blanks between all", " s r 9 c 99 ; n ; n ", 0);
        right("P4 blanks between all", "  n  v  9  ;  n  ;  t  a  0  b  1  ", 0);
        wrong("P4 a blank within a number", "n;nv0 ^1", 0);
        wrong("P4 a blank within a number", "n;np1 ^1", 0);
        wrong("P4 31 is no blank", "n;^\u001fn", 0);
        wrong("P4 33 is no blank", "n;n^!", 0);
        wrong("P4 9 is no blank", "n^\t;n", 0);
        wrong("P4 10 is no blank", "n;n^\n", 0);
        wrong("P4 160 is no blank", "n;n^\u00a0", 0);
        right("P4 blanks between all", " y : ! ( d = 1 & k < [ 2 ] | r > 3 ) ? 4 * p / 5 ; y : s ", 1);
        wrong("P4 a blank within a number", "y:1 ^0", 1);
        wrong("P4 a blank within a number", "y:d=999 ^9?1", 1);
        wrong("P4 9 is no blank", "y:^\td", 1);
        NameWall wall = new NameWall();
        Check.put(wall, " ".repeat(120) + "n;n" + " ".repeat(117));
        CHECK.due("P4 as many as there is room for", wall.fault(0), NONE);
        wall.end(0);
        Check.put(wall, " ".repeat(240));
        CHECK.due("P4 blanks alone", wall.fault(0), 240);
        CHECK.due("P4 blanks alone", wall.fault(1), 240);
    }

    /** "CLAUSES with ; between, one at least: y, : , perhaps CONDITION ?, then SUM." */
    private static void laws() {
        right("P4 one CLAUSE", "y:d", 1);
        right("P4 two CLAUSES", "y:d;y:k", 1);
        right("P4 sixty CLAUSES", "y:d;".repeat(59) + "y:d", 1);
        wrong("P4 no CLAUSE", "^;y:d", 1);
        wrong("P4 an empty CLAUSE", "y:d;^;y:d", 1);
        wrong("P4 no y", "^:d", 1);
        wrong("P4 no :", "y^d", 1);
        wrong("P4 no SUM", "y:^;y:d", 1);
        wrong("P4 no SUM behind ?", "y:d=1?^;y:1", 1);
        wrong("P4 no second CONDITION", "y:d=1?k^=1?2", 1);
        wrong("P4 a CONDITION without ?", "y:d=1^;y:2", 1);
        wrong("P4 ? without a CONDITION", "y:d^?1", 1);
        // "A CLAUSE that goes on with ! or ( behind its : has a CONDITION."
        wrong("P4 ( opens no SUM", "y:(d^)*2", 1);
        wrong("P4 ( opens no SUM", "y:(1^)", 1);
        wrong("P4 ! stands ahead of a UNIT", "y:!d+1^;y:1", 1);
        wrong("P4 ( has a CONDITION, then ?", "y:(d=1)^", 1);
        wrong("P4 ( has a CONDITION, no SUM", "y:(d=1)^+1", 1);
        wrong("P4 ! has a CONDITION, then ?", "y:!d=1^", 1);
        wrong("P4 behind ? there is none", "y:d=1?^(1)", 1);
        wrong("P4 behind ? there is none", "y:d=1?^!1", 1);
    }

    /** "a number (1 to 4 digits)"; "a third digit (a fifth one in a LAW) itself". */
    private static void lawDigits() {
        right("P4 one digit", "y:0", 1);
        right("P4 two digits", "y:10", 1);
        right("P4 three digits", "y:100", 1);
        right("P4 four digits", "y:9999", 1);
        right("P4 four digits of 0", "y:0000", 1);
        wrong("P4 a fifth digit", "y:9999^9", 1);
        wrong("P4 a fifth digit", "y:0000^1", 1);
        wrong("P4 a fifth digit, a sixth", "y:1000^00", 1);
        wrong("P4 a fifth digit within", "y:d+[1234^5]", 1);
        wrong("P4 a fifth digit in a CONDITION", "y:d=1234^5?1", 1);
        wrong("P4 a fifth digit in a CONDITION", "y:1234^5=d?1", 1);
        wrong("P4 a number behind a number", "y:1234 ^5", 1);
        CHECK.due("P7 four digits are read", Check.city("n;n", "y:9999-9990").name(0, 9), 9);
        CHECK.due("P7 zeros ahead are read", Check.city("n;n", "y:0012").name(0, 9), 12);
    }

    /** "one of = < >", "TRUTHS with | between", "UNITS with & between", "+ or -", "* or /", "(d k r y s p)". */
    private static void lawSigns() {
        for (char letter = 1; letter < 256; letter++) {
            if ("dkrysp".indexOf(letter) >= 0) {
                right("P4 a letter", "y:" + letter, 1);
                right("P4 a letter", "y:1=" + letter + "?" + letter, 1);
            } else if ("0123456789[(! ".indexOf(letter) < 0) {
                wrong("P4 no letter of a LAW", "y:^" + letter, 1);
            }
            if ("+-*/=<>; ".indexOf(letter) < 0) {
                wrong("P4 no sign between", "y:d^" + letter + "d", 1);
            }
            if ("+-*/?&| ".indexOf(letter) < 0) {
                wrong("P4 no sign behind a comparison", "y:d=k^" + letter + "d", 1);
            }
        }
        wrong("P4 two signs", "y:d+^-k", 1);
        wrong("P4 two signs", "y:d=^=k?1", 1);
        wrong("P4 <= is two signs", "y:d<^=k?1", 1);
        wrong("P4 && is two signs", "y:d=k&^&d=k?1", 1);
        wrong("P4 || is two signs", "y:d=k|^|d=k?1", 1);
        wrong("P4 three SUMS", "y:d=k^=r?1", 1);
        wrong("P4 a UNIT in [ ]", "y:[d^=k]?1", 1);
        wrong("P4 nothing in [ ]", "y:[^]", 1);
        wrong("P4 nothing in ( )", "y:(^)?1", 1);
        wrong("P4 [ closed by )", "y:[d^)", 1);
        wrong("P4 ( closed by ]", "y:(d=1^]?1", 1);
        wrong("P4 nothing to close", "y:d^]", 1);
        wrong("P4 nothing to close", "y:d=1^)?1", 1);
    }

    /** "At most six of ( [ ! within one another"; "a seventh of ( [ ! at it". */
    private static void nesting() {
        right("P4 six [", "y:[[[[[[d]]]]]]", 1);
        wrong("P4 a seventh [", "y:[[[[[[^[d]]]]]]]", 1);
        right("P4 six (", "y:((((((d=1))))))?1", 1);
        wrong("P4 a seventh (", "y:((((((^(d=1)))))))?1", 1);
        right("P4 six !", "y:!!!!!!d=1?1", 1);
        wrong("P4 a seventh !", "y:!!!!!!^!d=1?1", 1);
        String[] openings = {"(", "!"};
        for (int mix = 0; mix < 64; mix++) {
            StringBuilder open = new StringBuilder();
            StringBuilder close = new StringBuilder();
            for (int deep = 0; deep < 6; deep++) {
                String sign = openings[mix >> deep & 1];
                open.append(sign);
                close.append(sign.equals("(") ? ")" : "");
            }
            right("P4 six mixed", "y:" + open + "d=1" + close + "?1", 1);
            wrong("P4 a seventh (", "y:" + open + "^(d=1)" + close + "?1", 1);
            wrong("P4 a seventh !", "y:" + open + "^!d=1" + close + "?1", 1);
            wrong("P4 a seventh [", "y:" + open + "^[d]=1" + close + "?1", 1);
            wrong("P4 a seventh [ behind =", "y:" + open + "d=^[1]" + close + "?1", 1);
            String five = open.substring(1);
            String fewer = open.charAt(0) == '(' ? close.substring(1) : close.toString();
            right("P4 [ as the sixth", "y:" + five + "[d]=[1]" + fewer + "?1", 1);
            wrong("P4 [ as the seventh", "y:" + five + "[d]=[^[1]]" + fewer + "?1", 1);
        }
        right("P4 side by side", "y:[[[[[[d]]]]]]+[[[[[[d]]]]]]*[d]", 1);
        right("P4 side by side", "y:!!!!!!d=1|!!!!!!d=1&((((((d=1))))))?1", 1);
        right("P4 side by side", "y:[[[[[[d]]]]]]=[[[[[[d]]]]]]?[[[[[[d]]]]]];y:[[[[[[d]]]]]]", 1);
        wrong("P4 a seventh behind six that are closed", "y:[[[[[[d]]]]]]+[[[[[[^[d", 1);
        wrong("P4 a seventh behind ?", "y:d=1?[[[[[[^[d", 1);
        right("P4 closed ones do not count", "y:(((((!d=1)&!d=1)|(d=1))&[d]=1)|([d]=1))?1", 1);
    }

    private static void loss(String law, int loss) {
        // d 20, k 2, r 7, y 0, s 0, p 6
        CHECK.due("P7 LOSS by " + law, Check.city("sr7;nk2p6;n", law).name(0, 9), loss);
    }

    /** "Behind each sign numbers are within -1,000,000 .. 1,000,000; / cuts towards 0, by 0 gives 0." */
    private static void numberBounds() {
        loss("y:9999*100+99-9999*100", 99);
        loss("y:9999*100+100-9999*100-50", 50);
        loss("y:9999*100+101-9999*100-50", 50);
        loss("y:9999*100+99-9999*100-50", 49);
        loss("y:1000*1000-9999*100-50", 50);
        loss("y:1001*1000-9999*100-50", 50);
        loss("y:999*1001-9999*100-50", 49);
        loss("y:9999*9999-9999*100-50", 50);
        loss("y:0-9999*100-100+9999*100+150", 50);
        loss("y:0-9999*100-101+9999*100+150", 50);
        loss("y:0-9999*100-99+9999*100+150", 51);
        loss("y:[0-1000]*1000+9999*100+150", 50);
        loss("y:[0-1001]*1000+9999*100+150", 50);
        loss("y:[0-999]*1001+9999*100+150", 51);
        loss("y:[0-9999]*9999+9999*100+150", 50);
        loss("y:9999*9999+9999*9999-9999*100-50", 50);
        loss("y:0-9999*9999-9999*9999+9999*100+150", 50);
        loss("y:1000*1000/1-9999*100-50", 50);
        // A product beyond 32 bits is held as well.
        loss("y:1000*1000*9999/9999-9999*100-50", 0);
        loss("y:1000*1000*9999-9999*100-50", 50);
        loss("y:1000*1000*[0-9999]+9999*100+150", 50);
        loss("y:1000*1000=1001*1000?5;y:6", 5);
        loss("y:1000*1000>999*1001?5;y:6", 5);
        loss("y:7/2", 3);
        loss("y:[0-7]/2+9", 6);
        loss("y:7/[0-2]+9", 6);
        loss("y:[0-7]/[0-2]", 3);
        loss("y:1/2+9", 9);
        loss("y:[0-1]/2+9", 9);
        loss("y:7/0+9", 9);
        loss("y:[0-7]/0+9", 9);
        loss("y:0/0+9", 9);
        loss("y:7/[k-2]+9", 9);
        loss("y:5/1", 5);
        loss("y:5/[0-1]+9", 4);
    }

    /** "the SUM of the first CLAUSE whose CONDITION holds (or has none), 0 without"; "held within 0 .. 99". */
    private static void worths() {
        loss("y:d=20?1", 1);
        loss("y:d=21?1", 0);
        loss("y:d=19?1", 0);
        loss("y:d<20?1;y:d<21?2", 2);
        loss("y:d>20?1;y:d>19?2", 2);
        loss("y:1;y:2;y:3", 1);
        loss("y:d=0?1;y:2;y:3", 2);
        loss("y:d=0?1;y:d=0?2;y:d=20?3;y:4", 3);
        loss("y:d=0?1;y:d=0?2", 0);
        loss("y:0", 0);
        loss("y:0-1", 0);
        loss("y:1", 1);
        loss("y:98", 98);
        loss("y:99", 99);
        loss("y:100", 99);
        loss("y:9999*9999", 99);
        loss("y:0-9999*9999", 0);
    }

    private static void holds(String condition, boolean is) {
        loss("y:" + condition + "?7;y:8", is ? 7 : 8);
    }

    /** "CONDITION: TRUTHS with | between; TRUTH: UNITS with & between; UNIT: ! UNIT, ( CONDITION ), or SUM .. SUM." */
    private static void conditions() {
        for (int bits = 0; bits < 8; bits++) {
            boolean one = (bits & 1) > 0;
            boolean two = (bits & 2) > 0;
            boolean three = (bits & 4) > 0;
            String a = one ? "r=7" : "r=6";
            String b = two ? "k<3" : "k<2";
            String c = three ? "d>19" : "d>20";
            holds(a, one);
            holds("!" + a, !one);
            holds("!!" + a, one);
            holds("!!!!!!" + a, one);
            holds("!!!!!" + a, !one);
            holds("(" + a + ")", one);
            holds("!(" + a + ")", !one);
            holds(a + "&" + b, one && two);
            holds(a + "|" + b, one || two);
            holds("!" + a + "&" + b, !one && two);
            holds("!" + a + "|" + b, !one || two);
            holds(a + "&!" + b, one && !two);
            holds("!(" + a + "&" + b + ")", !(one && two));
            holds("!(" + a + "|" + b + ")", !(one || two));
            holds(a + "|" + b + "&" + c, one || two && three);
            holds(a + "&" + b + "|" + c, one && two || three);
            holds("(" + a + "|" + b + ")&" + c, (one || two) && three);
            holds(a + "&(" + b + "|" + c + ")", one && (two || three));
            holds(a + "|" + b + "|" + c, one || two || three);
            holds(a + "&" + b + "&" + c, one && two && three);
        }
        holds("7=r", true);
        holds("r+1=2*k*2", true);
        holds("d-r-k<11", false);
        holds("d-r-k>10", true);
        holds("d-[r-k]=15", true);
        holds("[d-r]*k=26", true);
        holds("d/k/r=1", true);
        holds("d/k*r=70", true);
        holds("k+r*k-d/3=10", true);
    }

    /** "(DAY 0; all that was of another one, DENTS, too, is gone but LAWS, which holds, FOGS, COLDS)". */
    private static void takenCities() {
        NameWall wall = new NameWall();
        Check.put(wall, "n;n;n;n;n;n;n;n");
        CHECK.due("P5 eight NAMES", wall.text(0), 8);
        CHECK.due("P5 the TAPE is empty", wall.count(3), 0);
        CHECK.due("P5 an empty TAPE is no CITY", wall.text(0), NONE);
        CHECK.due("P5 the CITY stays then", wall.count(0), 8);
        Check.lawful(wall, "y:3");
        wall.fogs(98);
        wall.colds(97);
        wall.dent(1, 1, true);
        wall.evening(3);
        wall.image();
        wall.shout(7, 0, 3);
        wall.hoarse(1);
        wall.fog(true);
        Check.put(wall, "n;n");
        CHECK.due("P5 two NAMES", wall.text(0), 2);
        int[] counts = {2, 0, 1, 0, 0, 0, 0, 3, 0, 0, 98, 97, 0, 0, 0};
        for (int what = 0; what < counts.length; what++) {
            CHECK.due("P5 behind another CITY: count " + what, wall.count(what), counts[what]);
        }
        CHECK.due("P5 the LOG is gone", wall.log(0, 2), NONE);
        CHECK.due("P5 the ACTS are gone", wall.undo(), NONE);
        CHECK.due("P5 the IMAGE is gone", wall.back(), NONE);
        CHECK.due("P5 the DENTS are gone", wall.fits(-1), 125);
        CHECK.due("P5 the LAW holds", wall.name(0, 9), 3);
        CHECK.due("P5 HOARSE ones are gone", wall.name(1, 8), 0);
        CHECK.due("P5 DEPTHS are as told", wall.name(0, 5), 20);
        CHECK.noSuch("P5 the third NAME is gone", wall, 2, 0);
        CHECK.due("P5 a first IMAGE of it", wall.image(), 0);
        wall.end(0);
        Check.put(wall, "sr9c1h1d1;ni1g1;ni1g1;ni1w0;t;tb2;ta1b2");
        CHECK.due("P5 three, TIED and LIKE", wall.text(0), 3);
        Check.put(wall, "n;nw0;nw0");
        CHECK.due("P5 three, neither TIED nor LIKE", wall.text(0), 3);
        int[] square = {2, 40, 4, 2};
        for (int what = 0; what < 4; what++) {
            CHECK.due("P5 the SQUARE of the other one is gone", wall.square(what), square[what]);
            CHECK.due("P5 TIES of the other one are gone", wall.friends(what), what < 3 ? 0 : NONE);
        }
        CHECK.due("P5 TIES of the other one are gone", wall.count(1), 0);
        wall.shout(2, 1, 3);
        CHECK.due("P5 LIKE ones of the other one are gone", wall.helped(), 2);
        wall.image();
        Check.put(wall, "n;n");
        CHECK.due("P5 the same text again", wall.text(0), 2);
        CHECK.due("P5 is another CITY", wall.back(), NONE);
    }

    /** "a LAW: its number. NONE: there are four LAWS." */
    private static void takenLaws() {
        NameWall wall = new NameWall();
        for (int law = 0; law < 4; law++) {
            CHECK.due("P5 the LAW ahead", wall.count(2), law);
            Check.put(wall, "y:5" + law);
            CHECK.due("P5 its number", wall.text(1), law);
            CHECK.due("P5 the TAPE is empty", wall.count(3), 0);
        }
        Check.put(wall, "y:54");
        CHECK.due("P5 a fifth LAW", wall.text(1), NONE);
        CHECK.due("P5 the TAPE stays", wall.count(3), 4);
        CHECK.due("P5 there are four", wall.count(2), 4);
        wall.end(0);
        Check.put(wall, "n;n");
        CHECK.due("P5 a CITY besides four LAWS", wall.text(0), 2);
        Check.put(wall, "y:54");
        CHECK.due("P5 a fifth LAW behind another CITY", wall.text(1), NONE);
        CHECK.due("P8 LAW 3", wall.law(3), true);
        CHECK.due("P7 is the fourth", wall.name(0, 9), 53);
        CHECK.due("P8 LAW 0", wall.law(0), true);
        CHECK.due("P7 is the first", wall.name(0, 9), 50);
        String longest = "y:12" + "+0".repeat(118);
        CHECK.due("P5 240 bytes", longest.length(), 240);
        CHECK.due("P5 a LAW of 240 bytes", Check.city("n;n", longest).name(0, 9), 12);
        String most = "y:" + "d+".repeat(118) + "d";
        CHECK.due("P5 a LAW of 239 bytes", Check.city("ni2;ni2", most).name(0, 9), 99);
    }
}
