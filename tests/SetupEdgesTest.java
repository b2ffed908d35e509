/** The edges of the setup text, and of promises 1 to 6. */
public final class SetupEdgesTest extends Edges {
    private static final int SYNTAX = TripleTrains.SYNTAX;
    private static final int OUT_OF_RANGE = TripleTrains.OUT_OF_RANGE;
    private static final int COVERED = TripleTrains.COVERED;

    private static String blanks(int many) { return " ".repeat(many); }

    private static TripleTrains withInput(String text) {
        TripleTrains x = new TripleTrains();
        Check.input(x, text);
        return x;
    }

    private static int append(TripleTrains x, char sign) {
        int word = sign << 24 | sign << 16 | sign << 8 | sign;
        return x.appendInput(word, word, word, word, word);
    }

    // ---- the text

    @Says(at = 0, line = "There are V points, 3 to 15, numbered from 0.")
    private static void threeToFifteenPoints() {
        for (int v = 3; v <= 15; v++) {
            TripleTrains x = load("points " + v + ";");
            due("points", v, x.count(0));
            Check.due("point 0", 0, x.degree(0));
            Check.due("the last point", 0, x.degree(v - 1));
            Check.dueThrow("one more", INDEX, () -> x.degree(x.count(0)));
        }
        for (int v : new int[] {0, 1, 2, 16, 17, 20, 99}) loads("points " + v + ";", -1, OUT_OF_RANGE, 7);
    }

    @Says(at = 0, line = "The input buffer holds at most 600 bytes.")
    private static void sixHundredBytes() {
        loads("points 3" + blanks(591) + ";", 0, 0, -1);
        loads(blanks(591) + "points 3;", 0, 0, -1);
        loads("points 3" + blanks(592), -1, SYNTAX, 600);
        loads("points 3;" + blanks(590) + "x", -1, SYNTAX, 599);
        due("one more does not fit", -1, append(withInput(blanks(581)), ' '));
    }

    @Says(at = 0, line = "The text is a sequence of statements, each followed by a semicolon.")
    private static void semicolons() {
        loads("points 7;", 0, 0, -1);
        loads("points 7", -1, SYNTAX, 8);
        loads("points 7 triple 0 1 2;", -1, SYNTAX, 9);
        loads("points 7;triple 0 1 2", -1, SYNTAX, 21);
        loads("points 7;triple 0 1 2 triple 3 4 5;", -1, SYNTAX, 22);
        loads("points 7;;", -1, SYNTAX, 9);
        loads(";points 7;", -1, SYNTAX, 0);
        loads("points 7;triple 0 1 2;;", -1, SYNTAX, 22);
    }

    @Says(at = 0, line = "it must stand first")
    private static void pointsFirst() {
        loads("triple 0 1 2;points 7;", -1, SYNTAX, 0);
        loads("develop 0 1 3;", -1, SYNTAX, 0);
        loads("7;", -1, SYNTAX, 0);
    }

    @Says(at = 0, line = "points N V")
    private static void pointsStatement() {
        loads("points 13;", 0, 0, -1);
        loads("points;", -1, SYNTAX, 6);
        loads("points 7 7;", -1, SYNTAX, 9);
        loads("points points 7;", -1, SYNTAX, 7);
        loads("point 7;", -1, SYNTAX, 0);
        loads("pointss 7;", -1, SYNTAX, 0);
    }

    @Says(at = 0, line = "triple N N N a triple")
    private static void tripleStatement() {
        loads("points 7;triple 6 4 5;", 1, 0, -1);
        loads("points 7;triple;", -1, SYNTAX, 15);
        loads("points 7;triple 0;", -1, SYNTAX, 17);
        loads("points 7;triple 0 1;", -1, SYNTAX, 19);
        loads("points 7;triple 0 1 2 3;", -1, SYNTAX, 22);
        loads("points 7;tripl 0 1 2;", -1, SYNTAX, 9);
        loads("points 7;triples 0 1 2;", -1, SYNTAX, 9);
    }

    @Says(at = 0, line = "develop N N N a triple and all that turns lead to from it")
    private static void developStatement() {
        loads("points 7;develop 3 0 1;", 7, 0, -1);
        loads("points 9;develop 8 5 2;", 3, 0, -1);
        loads("points 3;develop 2 0 1;", 1, 0, -1);
        loads("points 15;develop 14 4 9;develop 14 0 3;", 20, 0, -1);
        loads("points 7;develop 0 1;", -1, SYNTAX, 20);
        loads("points 7;develop 0 1 3 4;", -1, SYNTAX, 23);
        loads("points 7;developed 0 1 3;", -1, SYNTAX, 9);
        due("the turn across the end", 1, load("points 7;develop 0 1 3;").find(6, 0, 2) >= 0 ? 1 : 0);
    }

    @Says(at = 0, line = "The range of a point is 0 to V - 1.")
    private static void rangeOfPoints() {
        for (int v : new int[] {3, 4, 9, 10, 15}) {
            String begin = "points " + v + ";triple ";
            loads(begin + "0 1 " + (v - 1) + ";", 1, 0, -1);
            loads(begin + (v - 1) + " 1 0;", 1, 0, -1);
            loads(begin + "0 1 " + v + ";", -1, OUT_OF_RANGE, begin.length() + 4);
            loads(begin + "0 " + v + " 1;", -1, OUT_OF_RANGE, begin.length() + 2);
            loads(begin + v + " 0 1;", -1, OUT_OF_RANGE, begin.length());
            loads(begin.replace("triple", "develop") + v + " 0 1;", -1, OUT_OF_RANGE, begin.length() + 1);
            loads(begin + "99 0 1;", -1, OUT_OF_RANGE, begin.length());
        }
    }

    @Says(at = 0, line = "words (maximal runs of the letters a to z)")
    private static void words() {
        loads("pointsa 7;", -1, SYNTAX, 0);
        loads("pointsz 7;", -1, SYNTAX, 0);
        loads("points` 7;", -1, SYNTAX, 6);
        loads("points{ 7;", -1, SYNTAX, 6);
        loads("pointsA 7;", -1, SYNTAX, 6);
        loads("pointsZ 7;", -1, SYNTAX, 6);
        loads("Points 7;", -1, SYNTAX, 0);
        loads("points 7;tripledevelop 0 1 3;", -1, SYNTAX, 9);
        loads("points7;triple0 1 3;", 1, 0, -1);
        for (String word : new String[] {"points", "triple", "develop"}) {
            String begin = word.equals("points") ? "" : "points 7;";
            for (int i = 0; i < word.length(); i++) {
                loads(begin + word.substring(0, i) + "x" + word.substring(i + 1) + " 0 1 3;", -1, SYNTAX, begin.length());
                loads(begin + word.substring(0, i) + word.substring(i + 1) + " 0 1 3;", -1, SYNTAX, begin.length());
            }
        }
    }

    @Says(at = 0, line = "numbers (maximal runs of digits, 1 or 2 of them)")
    private static void numbers() {
        loads("points 09;triple 00 01 8;", 1, 0, -1);
        loads("points 10;triple 9 0 1;", 1, 0, -1);
        loads("points 3;triple 012;", -1, SYNTAX, 16);
        loads("points 3;triple 01 2;", -1, SYNTAX, 20);
        loads("points 009;", -1, SYNTAX, 7);
        loads("points 7/;", -1, SYNTAX, 8);
        loads("points 7:;", -1, SYNTAX, 8);
        loads("points 7;triple 0 1 2triple 3 4 5;", -1, SYNTAX, 21);
    }

    @Says(at = 0, line = "Spaces (32) and line feeds (10) may stand between tokens.")
    private static void blanksBetween() {
        loads(" \n points \n\n 7 \n ; \n triple\n0\n1\n2\n;\n \n", 1, 0, -1);
        loads("points7;triple 0 1 2;develop3 5 6;", -1, COVERED, 33);
        loads("points 9;triple0 1 2;triple3 4 5;triple6 7 8;", 3, 0, -1);
        loads("poi nts 7;", -1, SYNTAX, 0);
        loads("points 1 5;", -1, OUT_OF_RANGE, 7);
        loads("points 15;triple 0 2 1 4;", -1, SYNTAX, 23);
        loads("points 15;triple 0 2 1\n4;", -1, SYNTAX, 23);
        for (char other : new char[] {0, 9, 11, 12, 13, 31, 33, 127, 128, 138, 160, 255}) {
            loads("points" + other + "7;", -1, SYNTAX, 6);
            loads(other + "points 7;", -1, SYNTAX, 0);
            loads("points 7;" + other, -1, SYNTAX, 9);
        }
    }

    @Says(at = 0, line = "the first error met is reported, with an offset in bytes from 0")
    private static void firstError() {
        loads("?oints 2;", -1, SYNTAX, 0);
        loads("points 2;triple ? 1 2;", -1, OUT_OF_RANGE, 7);
        loads("points 7;triple 0 0 ?;", -1, OUT_OF_RANGE, 18);
        loads("points 7;triple 0 1 2;triple 0 1 3;triple 9 ?", -1, COVERED, 34);
        loads("points 7;triple ? 0 0;triple 0 1 9;", -1, SYNTAX, 16);
    }

    @Says(at = 0, line = "if several errors apply to one token, the one with the smallest code")
    private static void smallestCode() {
        loads("points 100;", -1, SYNTAX, 7);
        loads("points 7;triple 0 1 111;", -1, SYNTAX, 20);
        loads("points 7;triple 0 0 000;", -1, OUT_OF_RANGE, 18);
        loads("points 7;triple 1 2 002;", -1, SYNTAX, 20);
        loads("points 7;triple 0 1 2;triple 0 1;", -1, SYNTAX, 32);
        loads("points 7;triple 0 1 2;triple 0 1 2 9;", -1, SYNTAX, 35);
    }

    @Says(at = 0, line = "SYNTAX: a token that cannot stand at its place")
    private static void tokenOutOfPlace() {
        loads("points points;", -1, SYNTAX, 7);
        loads("points triple 0 1 2;", -1, SYNTAX, 7);
        loads("points 7;triple develop 0 1 2;", -1, SYNTAX, 16);
        loads("points 7;triple 0 1 x;", -1, SYNTAX, 20);
        loads("points 7;7;", -1, SYNTAX, 9);
        loads("points 7;99 1 2;", -1, SYNTAX, 9);
        loads("points 7;fill 0 1 2;", -1, SYNTAX, 9);
    }

    @Says(at = 0, line = "also another statement than points at the beginning")
    private static void anotherBeginning() {
        loads("triple 0 1 2;", -1, SYNTAX, 0);
        loads("\ndevelop 0 1 2;", -1, SYNTAX, 1);
    }

    @Says(at = 0, line = "or points behind it")
    private static void pointsBehind() {
        loads("points 7;points 7;", -1, SYNTAX, 9);
        loads("points 7;triple 0 1 2;points 9;", -1, SYNTAX, 22);
    }

    @Says(at = 0, line = "a number that is too long")
    private static void longNumbers() {
        loads("points 003;", -1, SYNTAX, 7);
        loads("points 15;triple 000 1 2;", -1, SYNTAX, 17);
        loads("points 15;triple 0 001 2;", -1, SYNTAX, 19);
        loads("points 15;triple 0 1 002;", -1, SYNTAX, 21);
        loads("points 15;triple 0 1 4294967298;", -1, SYNTAX, 21);
        loads("points 15;triple 0 1 02;", 1, 0, -1);
    }

    @Says(at = 0, line = "a byte that belongs to no token")
    private static void strangeBytes() {
        for (char strange : new char[] {0, 9, 13, 31, '!', '-', '.', ',', ':', '<', 'A', '_', '~', 127, 128, 255}) {
            loads(strange + "points 7;", -1, SYNTAX, 0);
            loads("points 7;triple 0 1 " + strange + "2;", -1, SYNTAX, 20);
            loads("points 7;triple 0 1 2;" + strange, -1, SYNTAX, 22);
        }
    }

    @Says(at = 0, line = "or the end of the text where more is required")
    private static void endTooSoon() {
        loads("", -1, SYNTAX, 0);
        String text = "points 7;triple 0 1 2;develop 0 1 3;";
        for (int length = 1; length < text.length(); length++) {
            char last = text.charAt(length - 1);
            boolean cutWord = last >= 'a' && last <= 'z' && text.charAt(length) >= 'a';
            int begin = length;
            while (cutWord && begin > 0 && text.charAt(begin - 1) >= 'a') begin--;
            if (last != ';') loads(text.substring(0, length), -1, SYNTAX, begin);
        }
    }

    @Says(at = 0, line = "The offset is that of the first byte of the token, or the length of the text.")
    private static void offsets() {
        loads("   \n", -1, SYNTAX, 4);
        loads("points", -1, SYNTAX, 6);
        loads("points  \n", -1, SYNTAX, 9);
        loads("points 7 ;  triples 0 1 2;", -1, SYNTAX, 12);
        loads("points 7; triple 0 1  1234;", -1, SYNTAX, 22);
        loads("points 7; triple 0 1  17;", -1, OUT_OF_RANGE, 22);
    }

    @Says(at = 0, line = "OUT_OF_RANGE: a number out of its range")
    private static void outOfRange() {
        for (String n : new String[] {"0", "00", "1", "2", "02", "16", "99"}) loads("points " + n + ";", -1, OUT_OF_RANGE, 7);
        for (String n : new String[] {"3", "03", "15"}) loads("points " + n + ";", 0, 0, -1);
        loads("points 2", -1, OUT_OF_RANGE, 7);
        loads("points 14;triple 13 14 0;", -1, OUT_OF_RANGE, 20);
        loads("points 14;develop 12 13 14;", -1, OUT_OF_RANGE, 24);
    }

    @Says(at = 0, line = "or the point of a statement that stands in it already")
    private static void pointTwice() {
        loads("points 7;triple 0 0 1;", -1, OUT_OF_RANGE, 18);
        loads("points 7;triple 0 1 0;", -1, OUT_OF_RANGE, 20);
        loads("points 7;triple 0 1 1;", -1, OUT_OF_RANGE, 20);
        loads("points 7;triple 6 06 1;", -1, OUT_OF_RANGE, 18);
        loads("points 7;develop 6 0 6;", -1, OUT_OF_RANGE, 21);
        loads("points 7;triple 0 1 2;triple 0 3 4;", 2, 0, -1);
    }

    @Says(at = 0, line = "COVERED: the semicolon of a statement with which a pair would be covered twice.")
    private static void coveredTwice() {
        loads("points 7;triple 0 1 2;triple 0 1 3;", -1, COVERED, 34);
        loads("points 7;triple 0 1 2;triple 3 0 2 ;", -1, COVERED, 35);
        loads("points 7;triple 0 1 2;triple 1 3 2\n;", -1, COVERED, 35);
        loads("points 7;triple 0 1 2;triple 2 0 1;", -1, COVERED, 34);
        loads("points 7;develop 0 1 2;", -1, COVERED, 22);
        loads("points 6;develop 0 1 3;", -1, COVERED, 22);
        loads("points 7;develop 0 1 3;develop 1 2 4;", -1, COVERED, 36);
        loads("points 7;develop 0 1 3;triple 1 2 4;", -1, COVERED, 35);
        loads("points 7;triple 4 5 6;develop 0 1 3;", -1, COVERED, 35);
        loads("points 15;develop 0 5 10;develop 5 10 0;", -1, COVERED, 39);
        loads("points 7;triple 0 1 2;triple 0 3 4;triple 0 5 6;", 3, 0, -1);
    }

    @Says(at = 0, line = "An error changes nothing but the input buffer and the reported error.")
    private static void errorChangesNothing() {
        String want = Portrait.withoutText(Made.open());
        for (String bad : new String[] {"", "points 9;x", "points 2;", "points 9;triple 0 1 1;",
            "points 9;triple 0 1 2;triple 0 1 3;", "points 9;develop 0 1 2;", "points 9;develop 0 3 6;triple"}) {
            TripleTrains x = Made.open();
            x.truncateInput(0);
            Check.input(x, bad);
            due("load of " + bad, -1, x.loadSystem());
            Check.due("behind " + bad, want, Portrait.withoutText(x));
        }
    }

    @Says(at = 0, line = "A successful load replaces everything: nothing is counted, nothing can be undone, and no state is saved.")
    private static void loadReplacesAll() {
        TripleTrains x = Made.open();
        due("load", 1, x.loadSystem());
        Check.due("all of it", Portrait.of(load("points 9;triple 0 1 2;")), Portrait.of(x));
    }

    // ---- promises 1 to 6

    @Says(at = 1, line = "Creates a system as if the text \"points 3;\" was loaded")
    private static void newSystem() {
        Check.due("a new object", Portrait.of(load("points 3;")), Portrait.of(new TripleTrains()));
        due("points", 3, new TripleTrains().count(0));
        due("triples", 0, new TripleTrains().count(1));
    }

    @Says(at = 1, line = "with an empty input buffer.")
    private static void newBuffer() {
        is("nothing to cut", false, new TripleTrains().truncateInput(1));
        is("cut to nothing", true, new TripleTrains().truncateInput(0));
        due("the first length", 20, new TripleTrains().appendInput(0, 0, 0, 0, 0));
    }

    @Says(at = 2, line = "Appends 20 bytes to the input buffer: the four bytes of each parameter, the most significant byte first.")
    private static void placesOfBytes() {
        for (int sign : new int[] {'?', 127, 128, 255}) {
            for (int at = 0; at < 20; at++) {
                int[] w = {0x20202020, 0x20202020, 0x20202020, 0x20202020, 0x20202020};
                int shift = 24 - at % 4 * 8;
                w[at / 4] = w[at / 4] & ~(255 << shift) | sign << shift;
                TripleTrains x = new TripleTrains();
                due("length", 20, x.appendInput(w[0], w[1], w[2], w[3], w[4]));
                due("load", -1, x.loadSystem());
                due("byte " + sign + " at " + at, at, x.errorOffset());
            }
        }
        TripleTrains y = new TripleTrains();
        y.appendInput(0x706f696e, 0x74732037, 0x3b747269, 0x706c6520, 0x30203120);
        due("behind the others", 40, y.appendInput(0x363b2020, 0x20202020, 0x20202020, 0x20202020, 0x20202020));
        due("points 7;triple 0 1 6;", 1, y.loadSystem());
        due("its points", 0, y.find(0, 1, 6));
    }

    @Says(at = 2, line = "Returns the new length of the input buffer")
    private static void newLength() {
        TripleTrains x = new TripleTrains();
        for (int many = 1; many <= 30; many++) due("append " + many, 20 * many, append(x, ' '));
        x.truncateInput(7);
        due("behind a cut", 27, append(x, ' '));
    }

    @Says(at = 2, line = "-1, with no change, if it would exceed 600.")
    private static void fullBuffer() {
        for (int length : new int[] {581, 582, 599, 600}) {
            TripleTrains x = withInput("points 7" + blanks(length - 9) + ";");
            due("append to " + length, -1, append(x, 'x'));
            is("no longer", false, x.truncateInput(length + 1));
            is("as long", true, x.truncateInput(length));
            due("the same bytes", 0, x.loadSystem());
        }
        TripleTrains y = withInput("points 7" + blanks(571) + ";");
        due("append to 580", 600, append(y, ' '));
        due("all of it", 0, y.loadSystem());
    }

    @Says(at = 3, line = "Returns true")
    private static void cutInput() {
        TripleTrains x = withInput("points 5;points 6;");
        is("to its length", true, x.truncateInput(18));
        is("to half", true, x.truncateInput(9));
        due("the first bytes stay", 0, x.loadSystem());
        due("points", 5, x.count(0));
        TripleTrains y = withInput(blanks(600));
        is("full to its length", true, y.truncateInput(600));
        is("by one", true, y.truncateInput(599));
        is("to one", true, y.truncateInput(1));
        is("to nothing", true, y.truncateInput(0));
        is("nothing to nothing", true, y.truncateInput(0));
        due("empty now", 20, append(y, ' '));
    }

    @Says(at = 3, line = "false, with no change, if length is negative")
    private static void negativeLength() {
        for (int length : new int[] {-1, -20, Integer.MIN_VALUE}) {
            is("to " + length, false, Made.full().truncateInput(length));
            changesNothing(Made::full, "a cut to " + length, x -> x.truncateInput(length));
            changesNothing(Made::three, "a cut to " + length, x -> x.truncateInput(length));
        }
    }

    @Says(at = 3, line = "or greater than the current length.")
    private static void greaterLength() {
        for (int length : new int[] {23, 600, 601, Integer.MAX_VALUE}) {
            is("22 to " + length, false, Made.full().truncateInput(length));
            changesNothing(Made::full, "a cut to " + length, x -> x.truncateInput(length));
        }
        is("22 to 22", true, Made.full().truncateInput(22));
        is("0 to 1", false, new TripleTrains().truncateInput(1));
        is("600 to 601", false, withInput(blanks(600)).truncateInput(601));
    }

    @Says(at = 4, line = "Loads a setup from the input buffer and empties the buffer, whether the load succeeds or not.")
    private static void bufferBehindLoad() {
        for (String text : new String[] {"points 7;", "points 7", "points 2;", "points 6;develop 0 1 2;", blanks(600), ""}) {
            TripleTrains x = withInput(text);
            x.loadSystem();
            is("empty behind '" + text.trim() + "'", false, x.truncateInput(1));
            due("the length then", 20, append(x, ' '));
        }
    }

    @Says(at = 4, line = "Returns the number of triples")
    private static void triplesLoaded() {
        due("none", 0, withInput("points 15;").loadSystem());
        due("one", 1, withInput("points 3;triple 2 1 0;").loadSystem());
        due("all", 35, withInput(Made.FIFTEEN).loadSystem());
    }

    @Says(at = 4, line = "-1 if there is an error.")
    private static void noneLoaded() {
        due("nothing", -1, new TripleTrains().loadSystem());
        due("SYNTAX", -1, withInput("points 7;triple 0 1 2").loadSystem());
        due("OUT_OF_RANGE", -1, withInput("points 7;triple 0 1 7;").loadSystem());
        due("COVERED", -1, withInput("points 7;develop 0 1 2;").loadSystem());
    }

    @Says(at = 5, line = "Returns the error of the latest call of loadSystem.")
    private static void latestError() {
        TripleTrains x = new TripleTrains();
        String[] texts = {"points", "points 2;", "points 6;develop 0 1 2;", "points 6;", "points 16;", "?"};
        int[] codes = {1, 2, 3, 0, 2, 1};
        for (int i = 0; i < texts.length; i++) {
            Check.input(x, texts[i]);
            x.loadSystem();
            due("behind " + texts[i], codes[i], x.errorCode());
        }
        append(x, ' ');
        x.fill();
        x.undo();
        due("behind other calls", 1, x.errorCode());
        due("its offset, too", 0, x.errorOffset());
    }

    @Says(at = 5, line = "Returns an error code")
    private static void errorCodes() {
        String[] texts = {"points 3;", "points 3", "points 2;", "points 4;develop 0 1 2;"};
        int[] codes = {TripleTrains.NO_ERROR, SYNTAX, OUT_OF_RANGE, COVERED};
        for (int i = 0; i < 4; i++) {
            TripleTrains x = withInput(texts[i]);
            x.loadSystem();
            due("of " + texts[i], codes[i], x.errorCode());
        }
    }

    @Says(at = 5, line = "NO_ERROR if that call succeeded")
    private static void noError() {
        TripleTrains x = Made.full();
        due("an error", 1, x.errorCode());
        x.loadSystem();
        due("none", 0, x.errorCode());
    }

    @Says(at = 5, line = "or there was no call.")
    private static void noLoad() {
        TripleTrains x = withInput("?");
        due("new", 0, x.errorCode());
        x.fill();
        due("without a load", 0, x.errorCode());
    }

    @Says(at = 6, line = "Returns the offset")
    private static void offsetOfError() {
        loads("", -1, SYNTAX, 0);
        loads(blanks(600), -1, SYNTAX, 600);
        loads(blanks(599) + "?", -1, SYNTAX, 599);
        loads("points 2;", -1, OUT_OF_RANGE, 7);
        loads("points 6;develop 0 1 2;", -1, COVERED, 22);
    }

    @Says(at = 6, line = "-1 if errorCode() is NO_ERROR.")
    private static void noOffset() {
        due("no load", -1, new TripleTrains().errorOffset());
        TripleTrains x = Made.full();
        due("an error", 9, x.errorOffset());
        x.loadSystem();
        due("none", -1, x.errorOffset());
    }

    public static void main(String[] args) { run(SetupEdgesTest.class); }
}
