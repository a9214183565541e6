import java.lang.reflect.InvocationTargetException;
import java.lang.reflect.Method;
import java.lang.reflect.Modifier;
import java.util.Set;
import java.util.TreeMap;
import java.util.TreeSet;

/**
 * For each sentence of the document that names a boundary case, a test of its own. A method's name
 * tells the promise (promise00 is what the document says of all); its first line tells, as they
 * stand in the document, the words that it is for. No object is used for more than 512 calls.
 */
public final class MailWordsBoundaries {
    private static final int NONE = -1;
    private static final int LEAST = Integer.MIN_VALUE;
    private static final int MOST = Integer.MAX_VALUE;
    private static final int FULL = 1500;
    private static final int PROMISE_AND_NUMBER = "promise00".length();
    private static final String[] BREAKS =
        "p div br tr li ul ol table blockquote h1 h2 h3 h4 h5 h6 pre hr".split(" ");
    private static final String[] HIDDEN = {"script", "style", "title"};
    private static final String[] BLANKS = {"\t", "\n", "\r", " "};
    /** What stands beside 0 .. 9, A .. Z and a .. z. */
    private static final String[] BESIDE = {"/", ":", "@", "[", "`", "{"};

    private static int wrong = 0;
    private static int asked = 0;
    private static String sentence = "";
    private static String test = "";

    // ---- what the tests are made of

    private static void sentence(String words) {
        sentence = "\"" + words + "\"";
    }

    /** Words that more than one test is for, and what of them this one looks at. */
    private static void sentence(String words, String part) {
        sentence = "\"" + words + "\" (" + part + ")";
    }

    private static void due(String call, Object got, Object want) {
        asked++;
        if (!got.equals(want)) {
            wrong++;
            System.out.println(test + ", " + sentence + ": " + call + " answered " + got + ", due is " + want);
        }
    }

    private static MailWords of(String text) {
        MailWords x = new MailWords();
        add(x, text);
        return x;
    }

    private static void add(MailWords x, String text) {
        for (int from = 0; from < text.length(); from += 8) {
            int many = Math.min(8, text.length() - from);
            int[] n = new int[4];
            for (int k = 0; k < many; k++) {
                n[k / 2] |= text.charAt(from + k) << (k % 2 == 0 ? 16 : 0);
            }
            x.put(many, n[0], n[1], n[2], n[3]);
        }
    }

    /** The first 200 characters, so that the calls of an object stay below 512. */
    private static String text(MailWords x) {
        StringBuilder s = new StringBuilder();
        for (int k = 0; k < 200; k++) {
            int c = x.at(k);
            if (c == NONE) {
                break;
            }
            s.append((char) c);
        }
        return s.toString();
    }

    private static void page(String page, String want) {
        MailWords x = of(page);
        due("page() of " + page, x.page(), want.length());
        due("the text that page() gave of " + page, text(x), want);
    }

    private static void same(String page) {
        page(page, page);
    }

    /** All lines, each as depth, s for SIGNED, l for LED. */
    private static void lines(String text, String want) {
        MailWords x = of(text);
        int count = x.lines();
        StringBuilder s = new StringBuilder();
        for (int k = 0; k < count; k++) {
            s.append(k == 0 ? "" : " ").append(x.line(k, 0));
            s.append(x.line(k, 1) == 1 ? "s" : "").append(x.line(k, 2) == 1 ? "l" : "");
        }
        due("lines() of " + text, s.toString(), want);
    }

    private static String word(MailWords x, int token, boolean stem) {
        StringBuilder s = new StringBuilder();
        int length = x.token(token, stem ? 2 : 1);
        for (int k = 0; k < length; k++) {
            s.append((char) x.letter(token, stem, k));
        }
        return s.toString();
    }

    /** All tokens, each as place:word, with a * behind an ADDRESS. */
    private static String tokens(MailWords x, int count) {
        StringBuilder s = new StringBuilder();
        for (int t = 0; t < count; t++) {
            s.append(t == 0 ? "" : " ").append(x.token(t, 0)).append(':').append(word(x, t, false));
            s.append(x.token(t, 3) == 1 ? "*" : "");
        }
        return s.toString();
    }

    private static void cut(String text, boolean plain, String want) {
        MailWords x = of(text);
        due("cut(" + plain + ") of " + text, tokens(x, x.cut(plain)), want);
    }

    private static void cut(String text, String want) {
        cut(text, false, want);
    }

    /** Words with their stems, each pair as word:stem. */
    private static void stems(String pairs) {
        for (String pair : pairs.split(" ")) {
            String word = pair.substring(0, pair.indexOf(':'));
            MailWords x = of(word);
            x.cut(false);
            due("the stem of " + word, word(x, 0, true), pair.substring(pair.indexOf(':') + 1));
        }
    }

    private static String repeat(String s, int times) {
        return s.repeat(times);
    }

    // ---- What it is, The public face, Terms: The constants

    private static void promise00AtMost512Calls() {
        sentence("An object is used for at most 512 calls after it has been made");
        MailWords x = new MailWords();
        int calls = 0;
        for (; calls < 188; calls++) {
            due("put, call " + (calls + 1), x.put(8, 0x00630061, 0x00740073, 0x00200061, 0x006e0020),
                Math.min(FULL, 8 * calls + 8));
        }
        for (; calls < 511; calls += 4) {
            due("page(), call " + (calls + 1), x.page(), FULL);
            due("cut(false), call " + (calls + 2), x.cut(false), 300);
            due("lines(), call " + (calls + 3), x.lines(), 1);
            due("often(298), call " + (calls + 4), x.often(298), 150);
        }
        due("the last of 512 calls", calls, 512);
    }

    private static void promise00NoneIsMinusOne() {
        sentence("`NONE = -1`: None.");
        due("NONE", MailWords.NONE, -1);
    }

    private static void promise00NoCallThrows() {
        sentence("No call may ever throw or fail to end, for any arguments in any state", "LANGUAGE.md, 7");
        int[] numbers = {LEAST, -2, -1, 0, 1, 4, 5, 8, 9, 29, 30, 299, 300, 899, 900, 1499, 1500, 1501, MOST};
        String[] texts = {"", "a", "<", "</", "<!", "<!--", "&", "&#", "&#x", "<p a='", ">", "-- ", ":", "\n",
            repeat("\n", FULL), repeat("a.", 750), repeat("<p>", 500), repeat("&", FULL), repeat("s", FULL)};
        for (String text : texts) {
            for (int order = 0; order < 3; order++) {
                MailWords x = of(text);
                if (order == 1) {
                    x.page();
                }
                x.lines();
                x.cut(order == 2);
                for (int k : numbers) {
                    due("at(" + k + ") is a character or NONE", x.at(k) >= NONE && x.at(k) <= 65535, true);
                    for (int what : new int[] {LEAST, -1, 5, MOST}) {
                        due("line(" + k + ", " + what + ")", x.line(k, what), NONE);
                        due("token(" + k + ", " + what + ")", x.token(k, what), NONE);
                        due("letter(" + k + ", true, least)", x.letter(k, true, LEAST), NONE);
                    }
                    due("often(" + k + ") is no less than 0", x.often(k) >= 0, true);
                }
            }
        }
    }

    // ---- Promise 1

    private static void promise01TextIsEmpty() {
        sentence("TEXT is empty, nothing is cut.", "TEXT");
        due("at(0)", new MailWords().at(0), NONE);
        due("put(0)", new MailWords().put(0, 65, 65, 65, 65), 0);
        due("page()", new MailWords().page(), 0);
        due("lines()", new MailWords().lines(), 0);
        due("cut(false)", new MailWords().cut(false), 0);
        due("cut(true)", new MailWords().cut(true), 0);
    }

    private static void promise01NothingIsCut() {
        sentence("TEXT is empty, nothing is cut.", "what is cut");
        MailWords x = of("a.b");
        for (int what = 0; what < 5; what++) {
            due("token(0, " + what + ")", x.token(0, what), NONE);
        }
        due("letter(0, false, 0)", x.letter(0, false, 0), NONE);
        due("letter(0, true, 0)", x.letter(0, true, 0), NONE);
        due("different()", x.different(), 0);
        due("often(0)", x.often(0), 0);
    }

    // ---- Promise 2, and TEXT of the Terms

    private static void promise02From0To8Characters() {
        sentence("So many (0 .. 8) characters come to the TEXT");
        String all = "abcdefgh";
        for (int many = 0; many <= 8; many++) {
            MailWords x = new MailWords();
            due("put(" + many + ")",
                x.put(many, 'a' << 16 | 'b', 'c' << 16 | 'd', 'e' << 16 | 'f', 'g' << 16 | 'h'), many);
            due("the text of put(" + many + ")", text(x), all.substring(0, many));
        }
    }

    private static void promise02TheHigherHalfFirst() {
        sentence("two of each number, the higher half first");
        MailWords x = new MailWords();
        due("put(8) of numbers with a sign", x.put(8, LEAST, MOST, -1, 0xFFFE8001), 8);
        int[] want = {0x8000, 0, 0x7FFF, 0xFFFF, 0xFFFF, 0xFFFF, 0xFFFE, 0x8001};
        for (int k = 0; k < 8; k++) {
            due("at(" + k + ")", x.at(k), want[k]);
        }
    }

    private static void promise02HowManyItHas() {
        sentence("how many it has");
        MailWords x = of("abc");
        due("put(0) behind three", x.put(0, 1, 1, 1, 1), 3);
        due("put(8) behind three", x.put(8, 1, 1, 1, 1), 11);
    }

    private static void promise02NoneForAnotherMany() {
        sentence("NONE, and nothing comes, for another many.", "NONE");
        for (int many : new int[] {-1, 9, -8, 16, LEAST, MOST}) {
            due("put(" + many + ")", new MailWords().put(many, 0x00410041, 0x00410041, 0x00410041, 0x00410041), NONE);
            due("put(" + many + ") on a full text", of(repeat("a", FULL)).put(many, 0, 0, 0, 0), NONE);
        }
    }

    private static void promise02NothingComesForAnotherMany() {
        sentence("NONE, and nothing comes, for another many.", "nothing comes");
        for (int many : new int[] {-1, 9, LEAST, MOST}) {
            MailWords x = of("ab");
            x.put(many, 0x00410041, 0x00410041, 0x00410041, 0x00410041);
            due("the text behind put(" + many + ")", text(x), "ab");
            due("put(0) behind put(" + many + ")", x.put(0, 0, 0, 0, 0), 2);
        }
    }

    private static void promise02CharactersFrom0To65535() {
        sentence("a row of characters 0 .. 65535");
        MailWords x = new MailWords();
        due("put of 0 and 65535", x.put(2, 0x0000FFFF, 0, 0, 0), 2);
        due("0", x.at(0), 0);
        due("65535", x.at(1), 65535);
    }

    private static void promise02AtMost1500() {
        sentence("at most 1500");
        MailWords x = of(repeat("a", 1492));
        due("put(7) to 1499", x.put(7, 0x00610061, 0x00610061, 0x00610061, 0x00610061), 1499);
        due("at(1499) ahead of the last", x.at(1499), NONE);
        due("put(1) to 1500", x.put(1, 0x00620061, 0, 0, 0), 1500);
        due("at(1499)", x.at(1499), (int) 'b');
        due("put(0) at 1500", x.put(0, 0, 0, 0, 0), 1500);
    }

    private static void promise02WhatWouldBeMoreIsNothing() {
        sentence("what would be more is nothing");
        MailWords x = of(repeat("a", 1497));
        due("put(8) at 1497", x.put(8, 'p' << 16 | 'q', 'r' << 16 | 's', 't' << 16 | 'u', 'v' << 16 | 'w'), 1500);
        due("the first that came", x.at(1497), (int) 'p');
        due("the last that came", x.at(1499), (int) 'r');
        due("the first that did not", x.at(1500), NONE);
        due("put(1) at 1500", x.put(1, 'z' << 16, 0, 0, 0), 1500);
        due("put(8) at 1500", x.put(8, 0, 0, 0, 0), 1500);
        due("the last stays", x.at(1499), (int) 'r');
        due("the first stays", x.at(0), (int) 'a');
    }

    // ---- Promise 3

    private static void promise03TextIsEmpty() {
        sentence("`void clear()`: TEXT is empty.");
        MailWords x = new MailWords();
        x.clear();
        due("put(0) behind clear() of nothing", x.put(0, 0, 0, 0, 0), 0);
        add(x, repeat("a.b\n", 375));
        x.clear();
        due("at(0) behind clear() of a full text", x.at(0), NONE);
        due("at(1499)", x.at(1499), NONE);
        due("page()", x.page(), 0);
        due("lines()", x.lines(), 0);
        due("cut(false)", x.cut(false), 0);
        due("put(1) behind clear()", x.put(1, 'z' << 16, 0, 0, 0), 1);
        due("the text", text(x), "z");
    }

    private static void promise03FullAgain() {
        sentence("`void clear()`: TEXT is empty.", "it takes 1500 again");
        MailWords x = of(repeat("a", FULL));
        x.clear();
        add(x, repeat("b", 1499));
        due("put(8) at 1499", x.put(8, 'c' << 16, 0, 0, 0), 1500);
        due("the last", x.at(1499), (int) 'c');
    }

    // ---- Promise 4: PAGE, a TAG

    private static void promise04TagBeginsWithALetter() {
        sentence("TAG: < and a LETTER A .. z (great, small)");
        for (String c : "A Z a z".split(" ")) {
            page("x<" + c + ">y", "xy");
        }
        for (String c : BESIDE) {
            same("x<" + c + ">y");
        }
        for (String c : new String[] {"0", "9", "\u00c0", "\u00e9", "\u0436", ">", "-", "="}) {
            same("x<" + c + ">y");
        }
    }

    private static void promise04TagBeginsWithASlashAndALetter() {
        sentence("or a / and one");
        for (String c : "A Z a z".split(" ")) {
            page("x</" + c + ">y", "xy");
        }
        for (String c : BESIDE) {
            same("x</" + c + ">y");
        }
        for (String c : new String[] {"0", "9", "\u00e9", " a", "/a", ">"}) {
            same("x</" + c + ">y");
        }
        same("x</");
    }

    private static void promise04TagUpToTheNextEnd() {
        sentence("up to the next >");
        page("x<a b>c>y", "xc>y");
        page("x<a>>y", "x>y");
        page("x<a<p>y", "xy");
        page("x</a b>c>y", "xc>y");
    }

    private static void promise04TagEndOutsideOfQuotes() {
        sentence("outside of \" .. \" and ' .. ' behind a =");
        page("x<a b=\">\">y", "xy");
        page("x<a b='>'>y", "xy");
        page("x</a b='>'>y", "xy");
        page("x<a b=\"'>\">y", "xy");
        page("x<a b='\">'>y", "xy");
        page("x<a b='' c='>'>y", "xy");
        page("x<a b=''>y>z", "xy>z");
        page("x<a b=''=\">\">y", "xy");
    }

    private static void promise04TagQuotesOnlyBehindAnEqualSign() {
        sentence("outside of \" .. \" and ' .. ' behind a =", "a quote elsewhere is none");
        page("x<a b\">\">y", "x\">y");
        page("x<a '>'>y", "x'>y");
        page("x<a'>'>y", "x'>y");
        page("x<a =b\">\">y", "x\">y");
        page("x<a b=\"\"\">\">y", "x\">y");
        page("x<a b='' '>'>y", "x'>y");
    }

    private static void promise04TagBlanksBetween() {
        sentence("BLANKS between allowed");
        for (String blank : BLANKS) {
            page("x<a b=" + blank + "\">\">y", "xy");
        }
        page("x<a b= \t\r\n '>'>y", "xy");
        page("x<a b = '>'>y", "xy");
        for (String other : new String[] {"\u000b", "\u000c", "\u00a0", "\b", "\u000e", "!"}) {
            page("x<a b=" + other + "\">\">y", "x\">y");
        }
    }

    private static void promise04TagUpToTheEnd() {
        sentence("up to the next > (outside of \" .. \" and ' .. ' behind a =, BLANKS between allowed), or the end");
        page("x<a", "x");
        page("x</a", "x");
        page("x<p", "x\n");
        page("x<td", "x");
        page("x<a b='c' d", "x");
        page("x<a b='>y", "x");
        page("x<a b=\">'y", "x");
        page("x<a b=", "x");
        page("x<a b= ", "x");
    }

    private static void promise04TagsName() {
        sentence("its name: LETTERS A .. z and DIGITS behind < or /");
        for (String c : "A Z a z 0 9".split(" ")) {
            page("x<p" + c + ">y", "xy");
            page("x</p" + c + ">y", "xy");
        }
        for (String c : BESIDE) {
            page("x<p" + c + ">y", "x\ny");
            page("x</p" + c + ">y", "x\ny");
        }
        for (String c : new String[] {"\u00e9", " x", "\tx", "<", "-", "="}) {
            page("x<p" + c + ">y", "x\ny");
        }
    }

    private static void promise04TagsNameIsSmall() {
        sentence("its name: LETTERS A .. z and DIGITS behind < or /, small");
        page("x<P>y", "x\ny");
        page("x</BLOCKquote>y", "x\ny");
        page("x<H6>y", "x\ny");
        page("x<TD>y", "x y");
        page("x<StyLE>y</STYle>z", "xz");
        for (String name : BREAKS) {
            page("x<" + name.toUpperCase() + ">y", "x\ny");
        }
        for (String name : HIDDEN) {
            page("x<" + name.toUpperCase() + ">y</" + name + ">z", "xz");
            page("x<" + name + ">y</" + name.toUpperCase() + ">z", "xz");
        }
    }

    // ---- Promise 4: PAGE, what else begins with <

    private static void promise04CommentUpToItsEnd() {
        sentence("<!-- up to -->");
        page("x<!---->y", "xy");
        page("x<!-- > -> -- > <p> -->y", "xy");
        page("x<!-- --->y", "xy");
        page("x<!-->y-->z", "xz");
        page("x<!--->y-->z", "xz");
        page("x<!-- <!-- -->y-->z", "xy-->z");
    }

    private static void promise04CommentUpToTheEnd() {
        sentence("<!-- up to -->, or the end");
        page("x<!--", "x");
        page("x<!--y>", "x");
        page("x<!--y->", "x");
        page("x<!--y--", "x");
    }

    private static void promise04OrderUpToItsEnd() {
        sentence("<! or <? up to >");
        page("x<!>y", "xy");
        page("x<?>y", "xy");
        page("x<!a>y>z", "xy>z");
        page("x<?a>y>z", "xy>z");
        page("x<!a b='>'>y", "x'>y");
        page("x<?a b='>'>y", "x'>y");
        page("x<!->y-->z", "xy-->z");
        page("x<?-->y", "xy");
    }

    private static void promise04OrderUpToTheEnd() {
        sentence("<! or <? up to >, or the end, are nothing");
        page("x<!", "x");
        page("x<?", "x");
        page("x<!y", "x");
        page("x<?y", "x");
        page("x<!-", "x");
    }

    private static void promise04AnotherLessIsItself() {
        sentence("Another < is itself.");
        same("<");
        same("x<");
        same("1 < 2");
        same("x< p>y");
        page("<<a>x", "<x");
        page("<<<p>x", "<<\nx");
    }

    // ---- Promise 4: PAGE, script, style and title

    private static void promise04HiddenUpToTheTagThatEndsIt() {
        sentence("Of script, style, title all up to the TAG that ends it");
        for (String name : HIDDEN) {
            page("x<" + name + ">y<p>&amp;<!-- '</" + name + ">z", "xz");
            page("x<" + name + "></" + name + ">z", "xz");
            page("x<" + name + ">a<" + name + ">b</" + name + ">c</" + name + ">z", "xcz");
            page("x<" + name + ">a</" + name + " b='>'>z", "xz");
            page("x</" + name + ">z", "xz");
            page("x<" + name + "s>z", "xz");
            page("x<" + name + "1>z", "xz");
            page("x<" + name.substring(1) + ">z", "xz");
        }
    }

    private static void promise04HiddenEndsWithItsName() {
        sentence("(</ and the name");
        page("x<script>a</style>b</title>c</scrip>d</SCRIPT>z", "xz");
        page("x<title>a<title/>b< /title>c</ title>d/title>e</Title>z", "xz");
    }

    private static void promise04HiddenEndHasNoLetterBehind() {
        sentence("and no LETTER or DIGIT behind");
        for (String name : HIDDEN) {
            for (String c : "A Z a z 0 9 \u00c0 \u02af \u0370 \u058f".split(" ")) {
                page("x<" + name + ">a</" + name + c + ">b</" + name + ">z", "xz");
            }
            for (String c : BESIDE) {
                page("x<" + name + ">a</" + name + c + ">z</" + name + ">", "xz");
            }
            for (String c : new String[] {" ", "-", "\u00d7", "\u00f7", "<"}) {
                page("x<" + name + ">a</" + name + c + ">z</" + name + ">", "xz");
            }
        }
    }

    private static void promise04HiddenUpToTheEnd() {
        sentence("and no LETTER or DIGIT behind; or the end) is nothing");
        for (String name : HIDDEN) {
            page("x<" + name + ">y", "x");
            page("x<" + name, "x");
            page("x<" + name + ">", "x");
            page("x<" + name + ">y</" + name, "x");
            page("x<" + name + ">y</" + name.substring(0, 4), "x");
            page("x<" + name + ">y</" + name + "s", "x");
        }
    }

    // ---- Promise 4: PAGE, the names of TAGS

    private static void promise04Breaks() {
        sentence("p, div, br, tr, li, ul, ol, table, blockquote, h1 .. h6, pre, hr, begun or ended: a BREAK");
        for (String name : BREAKS) {
            page("x<" + name + ">y", "x\ny");
            page("x</" + name + ">y", "x\ny");
            page("x<" + name + "/>y", "x\ny");
            page("x<" + name + "z>y", "xy");
            page("x<z" + name + ">y", "xy");
        }
    }

    private static void promise04HeadingsFrom1To6() {
        sentence("h1 .. h6");
        page("x<h1>y<h6>z", "x\ny\nz");
        page("x<h0>y<h7>z", "xyz");
        page("x<h>y<h11>z<h16>w<i1>v<g6>u", "xyzwvu");
    }

    private static void promise04Cells() {
        sentence("td, th: a space");
        for (String name : new String[] {"td", "th"}) {
            page("x<" + name + ">y", "x y");
            page("x</" + name + ">y", "x y");
            page("x<" + name + "x>y", "xy");
            page("x</" + name + "><" + name + ">y", "x y");
            page("<" + name + ">x", "x");
            page("x<br><" + name + ">y", "x\ny");
            page("x<" + name + "><br>y", "x\ny");
            page("x<" + name + ">", "x");
        }
    }

    private static void promise04OthersNothing() {
        sentence("others nothing");
        for (String name : "a b i span head body html t te ti tds d di divs brr tables pr".split(" ")) {
            page("x<" + name + ">y</" + name + ">z", "xyz");
        }
    }

    // ---- Promise 4: PAGE, ENTITIES

    private static void promise04EntitiesByName() {
        sentence("& and amp, lt, gt, quot, apos, nbsp, eacute, ouml, auml, uuml, szlig, euro, copy");
        String[] names = "amp lt gt quot apos nbsp eacute ouml auml uuml szlig euro copy".split(" ");
        int[] values = {38, 60, 62, 34, 39, 32, 233, 246, 228, 252, 223, 8364, 169};
        for (int k = 0; k < names.length; k++) {
            page("x&" + names[k] + ";y", "x" + (char) values[k] + "y");
            page("x&" + names[k] + "-y", "x" + (char) values[k] + "-y");
            page("x&" + names[k] + "<b>y", "x" + (char) values[k] + "y");
            same("x&" + names[k].substring(1) + ";y");
            same("x&" + names[k].substring(0, names[k].length() - 1) + ";y");
            same("x&" + names[k].substring(0, 1).toUpperCase() + names[k].substring(1) + ";y");
            same("x&" + names[k] + "s;y");
        }
    }

    private static void promise04EntityPerhapsWithItsEnd() {
        sentence("and perhaps ;");
        page("&lt;", "<");
        page("&lt", "<");
        page("&lt;;", "<;");
        page("&lt ;", "< ;");
        page("&#65;;", "A;");
        page("&#x41;;", "A;");
    }

    private static void promise04EntityNoLetterFollowsWithoutIt() {
        sentence("if no LETTER or DIGIT follows without it");
        for (String c : "A Z a z 0 9 \u00c0 \u00d6 \u00d8 \u02af \u0370 \u058f".split(" ")) {
            same("x&amp" + c);
            page("x&amp;" + c, "x&" + c);
        }
        for (String c : BESIDE) {
            page("x&gt" + c, "x>" + c);
        }
        for (String c : new String[] {"\u00bf", "\u00d7", "\u00f7", "\u02b0", "\u036f", "\u0590", "&", "#"}) {
            page("x&gt" + c, "x>" + c);
        }
    }

    private static void promise04EntityOf1To7Digits() {
        sentence("&# and 1 to 7 DIGITS");
        same("x&#;y");
        same("x&#");
        page("x&#9y", "x\ty");
        page("x&#0000065;y", "xAy");
        page("x&#0000065", "xA");
        page("x&#0065535;", "x\uffff");
        same("x&#00000065;y");
        same("x&#12345678");
        for (String c : BESIDE) {
            page("x&#65" + c, "xA" + c);
            same("x&#" + c);
        }
        page("x&#65a", "xAa");
    }

    private static void promise04EntityOf1To6HexadecimalOnes() {
        sentence("&#x and 1 to 6 hexadecimal ones");
        same("x&#x;y");
        same("x&#x");
        page("x&#x9y", "x\ty");
        page("x&#x000041;y", "xAy");
        page("x&#x000041", "xA");
        same("x&#x0000041;y");
        same("x&#x1234567");
        page("x&#xaF;&#xAf;", "x\u00af\u00af");
        page("x&#xF0;&#x0f;", "x\u00f0\u000f");
        for (String c : BESIDE) {
            page("x&#x41" + c, "xA" + c);
            same("x&#x" + c);
        }
        for (String c : "G g Z z x".split(" ")) {
            page("x&#x41" + c, "xA" + c);
            same("x&#x" + c);
        }
    }

    private static void promise04EntityAsManyAsStandThere() {
        sentence("(as many as stand there)");
        page("&#6566", "\u19a6");
        page("&#x4142", "\u4142");
        page("&#65 66", "A 66");
        page("&#65x41", "Ax41");
        page("&#655&#x41", "\u028fA");
    }

    private static void promise04EntityThatIsNoCharacter() {
        sentence("65533 if it is 0, above 65535 or 55296 .. 57343");
        int[] values = {0, 1, 65534, 65535, 65536, 999999, 55295, 55296, 57343, 57344, 65533};
        int[] want = {65533, 1, 65534, 65535, 65533, 65533, 55295, 65533, 65533, 57344, 65533};
        for (int k = 0; k < values.length; k++) {
            page("x&#" + values[k] + ";y", "x" + (char) want[k] + "y");
            page("x&#x" + Integer.toHexString(values[k]) + ";y", "x" + (char) want[k] + "y");
        }
        page("&#9999999;&#xffffff;&#0000000&#x000000", "\ufffd\ufffd\ufffd\ufffd");
    }

    private static void promise04OtherAmpersands() {
        sentence("Other & are themselves");
        same("&");
        same("x&");
        same("&;");
        same("& amp;");
        same("&x;");
        same("&#");
        same("&# 65;");
        page("&<b>amp;", "&amp;");
        page("&&amp;", "&&");
        page("&#&#65;", "&#A");
    }

    private static void promise04EntityStandsAsItIs() {
        sentence("what an ENTITY is stands as it is");
        page("x&lt;p&gt;y", "x<p>y");
        page("x&lt;!--y", "x<!--y");
        page("x&amp;lt;y", "x&lt;y");
        page("x&#38;amp;y", "x&amp;y");
        page("&nbsp;&#32;x", "  x");
        page("x &nbsp;&nbsp;y", "x   y");
        page("x&#10;&#10;y", "x\n\ny");
        page("&#10;x", "\nx");
        page("x&#13;&#9;y", "x\r\ty");
        page("<pre>x&#13;y", "x\ry");
    }

    // ---- Promise 4: PAGE, BLANKS and BREAKS

    private static void promise04BlankIsASpace() {
        sentence("A BLANK (9, 10, 13, 32) is a space");
        for (String blank : BLANKS) {
            page("x" + blank + "y", "x y");
        }
        for (int c : new int[] {0, 8, 11, 12, 14, 31, 33, 133, 160, 8195, 8232, 65279}) {
            same("x" + (char) c + (char) c + "y");
        }
    }

    private static void promise04NoBlankBehindASpace() {
        sentence("but none behind a space");
        for (String blank : BLANKS) {
            page("x " + blank + "y", "x y");
            page("x" + blank + blank + blank + "y", "x y");
            page("x&nbsp;" + blank + "y", "x y");
            page("x<td>" + blank + "y", "x y");
        }
        page("x <b> </b> y", "x y");
        page("x&#9; y", "x\t y");
        page("x&#13; y", "x\r y");
    }

    private static void promise04NoBlankBehindALineEnd() {
        sentence("but none behind a space, a 10");
        for (String blank : BLANKS) {
            page("x<br>" + blank + "y", "x\ny");
            page("x&#10;" + blank + blank + "y", "x\ny");
        }
    }

    private static void promise04NoBlankAtTheBeginning() {
        sentence("but none behind a space, a 10, or at the beginning");
        for (String blank : BLANKS) {
            page(blank + "x", "x");
            page(blank + blank + "<b>" + blank + "</b>x", "x");
            page("<p>" + blank + "x", "x");
            page(blank, "");
        }
    }

    private static void promise04BlankWithinPre() {
        sentence("within pre it is itself");
        page("<pre>\t \n\n  x  \ty\n z", "\t \n\n  x  \ty\n z");
        page("<pre>x <b> </b> y", "x   y");
        page("x<pre>\n\ny", "x\n\n\ny");
    }

    private static void promise04ReturnWithinPre() {
        sentence("(a 13 is nothing)");
        page("<pre>\rx\r\ny\r", "x\ny");
        page("<pre>x\r\r", "x");
        page("x\ry", "x y");
    }

    private static void promise04NoBreakBehindALineEnd() {
        sentence("A BREAK is a 10, none behind a 10");
        page("x<p><p></p>y", "x\ny");
        page("x&#10;<p>y", "x\ny");
        page("<pre>x\n<br>y", "x\ny");
        page("<pre>x\n</pre>y", "x\ny");
        page("x<p>&#10;y", "x\n\ny");
        page("x<p>&nbsp;<p>y", "x\ny");
    }

    private static void promise04NoBreakAtTheBeginning() {
        sentence("none behind a 10 or at the beginning");
        for (String name : BREAKS) {
            page("<" + name + ">", "");
            page("</" + name + ">x", "x");
            page(" <" + name + "><b><" + name + ">x", "x");
        }
        page("&nbsp;<p>x", "x");
    }

    private static void promise04NoSpacesAheadOfABreak() {
        sentence("all spaces ahead of it are nothing");
        page("x <p>y", "x\ny");
        page("x \t\n<p>y", "x\ny");
        page("x<td><p>y", "x\ny");
        page("x&#9;<p>y", "x\t\ny");
        page("x&#9; <p>y", "x\t\ny");
        page("x\u00a0<p>y", "x\u00a0\ny");
    }

    private static void promise04NoSpacesOfEntitiesAheadOfABreak() {
        sentence("(also those of ENTITIES");
        page("x&nbsp;<p>y", "x\ny");
        page("x &nbsp;&#32;&#x20; <p>y", "x\ny");
        page("&nbsp;&nbsp;<p>x", "x");
        page("x<p>&#32;<p>y", "x\ny");
    }

    private static void promise04SpacesAheadOfABreakWithinPre() {
        sentence("but not within pre)");
        page("<pre>x  <br>y", "x  \ny");
        page("<pre>x&nbsp;<p>y", "x \ny");
        page("<pre>  <p>y", "  \ny");
        page("<pre>x</pre>y  <br>z", "x\ny\nz");
    }

    private static void promise04NoSpacesAtTheEnd() {
        sentence("so too at the end of all");
        page("x ", "x");
        page("x \t\r\n", "x");
        page("x&nbsp; &#32;", "x");
        page("x <b></b> ", "x");
        page("&nbsp;", "");
        page("x<p>&nbsp;", "x\n");
        page("x&#9; ", "x\t");
        page("x&#10;", "x\n");
        page("x\u00a0", "x\u00a0");
        page("<pre>x  ", "x  ");
        page("<pre>x&nbsp;", "x ");
        page("<pre>x</pre>y  ", "x\ny");
    }

    private static void promise04BreaksOfPreAreOutside() {
        sentence("pre's own BREAKs are outside of it");
        page("x  <pre>y", "x\ny");
        page("x&nbsp;<pre>y", "x\ny");
        page("<pre>x  </pre>y", "x\ny");
        page("<pre>x&nbsp;</pre>", "x\n");
        page("<pre>  </pre>y", "y");
        page("<pre>x\n  </pre>y", "x\ny");
        page("<pre> x", " x");
    }

    private static void promise04PreEndsWithTheNextEnd() {
        sentence("it ends with the next </pre>");
        page("<pre><pre>x  y</pre>z  w", "x  y\nz w");
        page("<pre>x  y</prex>  z", "x  y  z");
        page("<pre>x  y</PRE >z  w", "x  y\nz w");
        page("</pre>x  y", "x y");
        page("<pre>a  b</pre>c  d<pre>e  f", "a  b\nc d\ne  f");
        page("<pre>a  b</pre></pre>c  d", "a  b\nc d");
        MailWords x = of("<pre>a  b");
        x.page();
        add(x, "  c");
        due("page() of what was within pre, and more", x.page(), 5);
        due("its text", text(x), "a b c");
    }

    private static void promise04HowManyCharacters() {
        sentence("TEXT is read as a PAGE: how many characters.");
        due("page() of nothing", new MailWords().page(), 0);
        due("page() of 1500 that stay", of(repeat("a", FULL)).page(), 1500);
        due("page() of 1500 & that stay", of(repeat("&", FULL)).page(), 1500);
        due("page() of 1500 < that stay", of(repeat("<", FULL)).page(), 1500);
        due("page() of 1500 spaces", of(repeat(" ", FULL)).page(), 0);
        due("page() of 500 TAGS", of(repeat("<b>", 500)).page(), 0);
        due("page() of 500 ENTITIES", of(repeat("&lt", 500)).page(), 500);
        MailWords x = of(repeat("a", 1499) + "<p>");
        due("page() of a TAG of which only < came", x.page(), 1500);
        due("its last", x.at(1499), (int) '<');
        MailWords y = of(repeat("a", 1498) + "<p>");
        due("page() of a TAG whose > did not come", y.page(), 1499);
        due("its last", y.at(1498), 10);
        due("behind it", y.at(1499), NONE);
        due("put(8) behind that page()", y.put(8, 0, 0, 0, 0), 1500);
    }

    // ---- Promise 5

    private static void promise05NoneForNoCharacter() {
        sentence("Character k of TEXT; NONE.");
        MailWords x = of("ab");
        due("at(0)", x.at(0), (int) 'a');
        due("at(1)", x.at(1), (int) 'b');
        for (int k : new int[] {2, 3, 1499, 1500, -1, LEAST, MOST}) {
            due("at(" + k + ")", x.at(k), NONE);
            due("at(" + k + ") of nothing", new MailWords().at(k), NONE);
        }
        MailWords full = of(repeat("a", 1499) + "b");
        due("at(1499) of a full text", full.at(1499), (int) 'b');
        due("at(1500) of a full text", full.at(1500), NONE);
        MailWords page = of("a<b>b");
        page.page();
        due("at(1) behind page()", page.at(1), (int) 'b');
        due("at(2) behind page()", page.at(2), NONE);
    }

    // ---- Promise 6, and LINES of the Terms

    private static void promise06LinesEndWithALineEnd() {
        sentence("LINES of TEXT end with a 10.");
        lines("", "");
        lines("a", "0");
        lines("\n", "0");
        lines("a\n", "0");
        lines("a\nb", "0 0");
        lines("\n\n", "0 0");
        lines("\n\nb", "0 0 0");
        lines("a\rb\u000bc\u000cd\u0085e\u2028f", "0");
    }

    private static void promise06HowMany() {
        sentence("LINES are looked at: how many.");
        due("lines() of nothing", new MailWords().lines(), 0);
        due("lines() of 1500 line ends", of(repeat("\n", FULL)).lines(), 1500);
        due("lines() of 1499 line ends and more", of(repeat("\n", 1499) + "a").lines(), 1500);
        due("lines() of one long line", of(repeat("a", FULL)).lines(), 1);
        MailWords x = of("a\nb");
        x.lines();
        x.clear();
        due("lines() behind clear()", x.lines(), 0);
        due("line(0, 0) then", x.line(0, 0), NONE);
    }

    // ---- Promise 7, and QUOTED, DEPTH, SIGNED, LED of the Terms

    private static void promise07QuotedBehindSpaces() {
        sentence("QUOTED: a line that begins (behind spaces) with >");
        lines(">", "1");
        lines("> a", "1");
        lines(" >", "1");
        lines(repeat(" ", 99) + "> a", "1");
        lines("\t>", "0");
        lines("\r>", "0");
        lines("\u00a0>", "0");
        lines("a>", "0");
        lines("", "");
        lines(" ", "0");
        lines(" \n>", "0 1");
    }

    private static void promise07Depth() {
        sentence("its DEPTH: how many > there are, with spaces between");
        lines(">>", "2");
        lines("> >  >a", "3");
        lines(">> a > b >", "2");
        lines(">a>", "1");
        lines(">\t>", "1");
        lines("> > \n >> ", "2 2");
        MailWords x = of(repeat(">", FULL));
        x.lines();
        due("the DEPTH of 1500 >", x.line(0, 0), 1500);
        due("SIGNED of 1500 >", x.line(0, 1), 0);
        MailWords y = of(repeat("> ", 750));
        y.lines();
        due("the DEPTH of 750 > and spaces", y.line(0, 0), 750);
    }

    private static void promise07SignedFromItsLine() {
        sentence("SIGNED: from a line that is -- or \"-- \"");
        lines("a\n--\nb", "0 0s 0s");
        lines("a\n-- \nb", "0 0s 0s");
        lines("--", "0s");
        lines("-- ", "0s");
        for (String not : new String[] {"-", "---", "--  ", " --", "- -", "--a", "-- a", "--\t", "--\r", "-- -", ""}) {
            lines("a\n" + not + "\nb", "0 0 0");
        }
    }

    private static void promise07SignedAtDepth0() {
        sentence("(at DEPTH 0)");
        lines("> --\na", "1 0");
        lines(">-- \na", "1 0");
        lines("> -- \n-- \na", "1 0s 0s");
    }

    private static void promise07SignedToTheEnd() {
        sentence("to the end");
        lines("--\na\n\n--\n-- \nb\n", "0s 0s 0s 0s 0s 0s");
        MailWords x = of("--" + repeat("\n", 1498));
        due("lines()", x.lines(), 1498);
        due("the last is SIGNED", x.line(1497, 1), 1);
    }

    private static void promise07SignedToTheNextQuoted() {
        sentence("or the next line of DEPTH above 0");
        lines("--\na\n>b\nc", "0s 0s 1 0");
        lines("--\n  >> b\nc", "0s 2 0");
        lines("--\n>b\n--\nc\n>d", "0s 1 0s 0s 1");
        lines("--\na > b\nc", "0s 0s 0s");
        MailWords x = of("a\n--\nb");
        x.lines();
        x.cut(true);
        x.lines();
        due("the first line, looked at anew behind one that is SIGNED", x.line(0, 1), 0);
        due("cut(true), anew behind a line that is SIGNED", x.cut(true), 1);
    }

    private static void promise07LedEndsWithAColon() {
        sentence("LED: a line that ends with :");
        lines("@:\n>", "0l 1");
        lines("@\n>", "0 1");
        lines("@: \n>", "0 1");
        lines("@:\r\n>", "0 1");
        lines("@:a\n>", "0 1");
        lines(":@\n>", "0 1");
        lines("@;\n>", "0 1");
        lines("a@b::\n>", "0l 1");
        lines("\n>", "0 1");
    }

    private static void promise07LedHasASignOrAWord() {
        sentence("and has an @ or the word wrote or schrieb");
        lines("@ a:\n>", "0l 1");
        lines("wrote:\n>", "0l 1");
        lines("schrieb:\n>", "0l 1");
        lines("wrote a:\n>", "0l 1");
        lines("a-wrote-b:\n>", "0l 1");
        lines(":\n>", "0 1");
        lines("a:\n>", "0 1");
        lines("wrot:\n>", "0 1");
        lines("rote:\n>", "0 1");
        lines("chrieb:\n>", "0 1");
        lines("schrie b:\n>", "0 1");
        lines("@\na:\n>", "0 0 1");
        lines("a:\n>@", "0 1");
        lines("wrote\na:\n> wrote", "0 0 1");
    }

    private static void promise07LedHasTheWholeWord() {
        sentence("the word wrote or schrieb");
        for (String word : new String[] {"wrote", "schrieb"}) {
            for (String c : "A Z a z 0 9 \u00c0 \u02af \u0370 \u058f".split(" ")) {
                lines(c + word + ":\n>", "0 1");
                lines(word + c + ":\n>", "0 1");
                lines(word + c + " " + word + ":\n>", "0l 1");
            }
            for (String c : BESIDE) {
                lines(c + word + c + ":\n>", "0l 1");
            }
        }
    }

    private static void promise07LedIfTheNextLineIsQuoted() {
        sentence("if the next line is QUOTED");
        lines("@:", "0");
        lines("@:\n", "0");
        lines("@:\na\n>", "0 0 1");
        lines("@:\n\n>", "0 0 1");
        lines("@:\n  > a", "0l 1");
        lines("@:\n\t> a", "0 0");
        lines("@:\n@:\n>", "0 0l 1");
        lines("> @:\n> a", "1l 1");
        lines("--\n@:\n> a", "0s 0sl 1");
    }

    private static void promise07ByTheLatestLines() {
        sentence("Of a line (by the latest lines())");
        MailWords x = of("> a\n@:\n> b");
        for (int what = 0; what < 5; what++) {
            due("line(0, " + what + ") ahead of lines()", x.line(0, what), NONE);
        }
        x.lines();
        add(x, "cd\ne");
        x.cut(true);
        x.page();
        due("the length behind put, cut and page", x.line(2, 4), 3);
        due("LED", x.line(1, 2), 1);
        due("no fourth", x.line(3, 3), NONE);
        x.clear();
        due("the length behind clear()", x.line(2, 4), 3);
        x.lines();
        due("none behind clear() and lines()", x.line(0, 0), NONE);
    }

    private static void promise07OneOrZero() {
        sentence("its DEPTH (what = 0), 1 if it is SIGNED (1), LED (2), else 0");
        MailWords x = of("a\n@:\n> b\n--\n@:\n> c");
        due("lines()", x.lines(), 6);
        int[][] want = {{0, 0, 0}, {0, 0, 1}, {1, 0, 0}, {0, 1, 0}, {0, 1, 1}, {1, 0, 0}};
        for (int k = 0; k < want.length; k++) {
            for (int what = 0; what < 3; what++) {
                due("line(" + k + ", " + what + ")", x.line(k, what), want[k][what]);
            }
        }
    }

    private static void promise07WhereItBeginsAndItsLength() {
        sentence("where it begins (3), its length (4)");
        MailWords x = of("\nab\n\n> c\n");
        due("lines()", x.lines(), 4);
        int[][] want = {{0, 0}, {1, 2}, {4, 0}, {5, 3}};
        for (int k = 0; k < want.length; k++) {
            due("line(" + k + ", 3)", x.line(k, 3), want[k][0]);
            due("line(" + k + ", 4)", x.line(k, 4), want[k][1]);
        }
        MailWords one = of(repeat("a", FULL));
        one.lines();
        due("the length of 1500", one.line(0, 4), 1500);
        MailWords many = of(repeat("\n", FULL));
        many.lines();
        due("where the last begins", many.line(1499, 3), 1499);
        due("the last one's length", many.line(1499, 4), 0);
        MailWords last = of(repeat("a", 1499) + "\n");
        due("lines() of 1499 and an end", last.lines(), 1);
        due("its length", last.line(0, 4), 1499);
    }

    private static void promise07NoneForNoSuchLine() {
        sentence("NONE if there is none such, or for another what.", "none such");
        MailWords x = of("a\nb");
        x.lines();
        for (int line : new int[] {-1, 2, 3, 1500, 1501, LEAST, MOST}) {
            for (int what = 0; what < 5; what++) {
                due("line(" + line + ", " + what + ")", x.line(line, what), NONE);
            }
        }
        MailWords many = of(repeat("\n", FULL));
        many.lines();
        due("line(1499, 0)", many.line(1499, 0), 0);
        due("line(1500, 0)", many.line(1500, 0), NONE);
        due("line(1500, 3)", many.line(1500, 3), NONE);
    }

    private static void promise07NoneForAnotherWhat() {
        sentence("NONE if there is none such, or for another what.", "another what");
        MailWords x = of("a\nb");
        x.lines();
        for (int what : new int[] {-1, 5, 6, LEAST, MOST}) {
            due("line(0, " + what + ")", x.line(0, what), NONE);
            due("line(1, " + what + ")", x.line(1, what), NONE);
            due("line(2, " + what + ")", x.line(2, what), NONE);
        }
    }

    // ---- Promise 8, and LETTERS, DIGITS, TOKENS of the Terms

    private static boolean among(int c, int... ranges) {
        for (int k = 0; k < ranges.length; k += 2) {
            if (c >= ranges[k] && c <= ranges[k + 1]) {
                return true;
            }
        }
        return false;
    }

    private static boolean isLetter(int c) {
        return among(c, 'A', 'Z', 'a', 'z', 192, 214, 216, 246, 248, 687, 880, 893, 895, 902, 904, 1153, 1162, 1423);
    }

    private static boolean isDigit(int c) {
        return among(c, '0', '9');
    }

    private static int small(int c) {
        if (among(c, 'A', 'Z', 192, 214, 216, 222, 913, 929, 931, 939, 1040, 1071)) {
            return c + 32;
        }
        if (among(c, 1024, 1039)) {
            return c + 80;
        }
        if (among(c, 256, 311, 330, 375, 1120, 1153, 1162, 1215)) {
            return c % 2 == 0 ? c + 1 : c;
        }
        if (among(c, 313, 328, 377, 382)) {
            return c % 2 == 1 ? c + 1 : c;
        }
        return c == 376 ? 255 : c == 902 ? 940 : among(c, 904, 906) ? c + 37 : c == 908 ? 972
            : among(c, 910, 911) ? c + 63 : c;
    }

    /** All characters, 60 in each object's text, each behind a space. */
    private static void eachCharacter(boolean looksAtLetters) {
        for (int from = 0; from <= 65535; from += 60) {
            StringBuilder text = new StringBuilder();
            StringBuilder begins = new StringBuilder();
            StringBuilder smalls = new StringBuilder();
            for (int c = from; c < from + 60 && c <= 65535; c++) {
                if (isLetter(c) || isDigit(c)) {
                    begins.append(' ').append(text.length() + 1);
                    smalls.append(' ').append(small(c));
                }
                text.append(' ').append((char) c);
            }
            MailWords x = of(text.toString());
            int count = x.cut(false);
            StringBuilder got = new StringBuilder();
            for (int t = 0; t < count; t++) {
                got.append(' ').append(looksAtLetters ? x.letter(t, false, 0) : x.token(t, 4));
            }
            due("characters from " + from + " on", got.toString(), (looksAtLetters ? smalls : begins).toString());
        }
    }

    private static void promise08Letters() {
        sentence("LETTERS: A .. Z, a .. z, 192 .. 687 but 215 and 247, 880 .. 1423 but 894, 903 and 1154 .. 1161.");
        for (int c : new int[] {'A', 'Z', 'a', 'z', 192, 214, 216, 246, 248, 687, 880, 893, 895, 902, 904, 1153, 1162, 1423}) {
            due("cut of " + c, of("" + (char) c).cut(false), 1);
        }
        for (int c : new int[] {'@', '[', '`', '{', 191, 215, 247, 688, 879, 894, 903, 1154, 1161, 1424}) {
            due("cut of " + c, of("" + (char) c).cut(false), 0);
        }
        eachCharacter(false);
    }

    private static void promise08Digits() {
        sentence("DIGITS: 0 .. 9.");
        cut("0", "0:0");
        cut("9", "0:9");
        cut("/", "");
        cut(":", "");
        cut("\u0660 \u00b2", "");
    }

    private static void promise08RowsWithOneSignBetween() {
        sentence("which may have one ' or . or _ or - or @ between two such");
        for (String sign : "' . _ - @".split(" ")) {
            cut("1" + sign + sign + "2", "0:1 1:2");
            cut("1 " + sign + " 2", "0:1 1:2");
            due("rows of 1" + sign + "2: where the second begins", secondBegin("1" + sign + "2"), 2);
        }
        cut("a.b", "0:a 0:a.b* 1:b");
        cut("a..b", "0:a 1:b");
        cut("a.-b", "0:a 1:b");
        cut(".a", "0:a");
        cut("a.", "0:a");
        cut("@a@", "0:a");
        cut("a.\nb", "0:a 1:b");
        cut("a@b.", "0:a 0:a@b* 1:b");
        for (String other : new String[] {"+", ",", "/", "&", "(", "?", "^", "`", "\u2019", "\u00b7"}) {
            cut("a" + other + "b@c", "0:a 1:b 1:b@c* 2:c");
        }
    }

    private static int secondBegin(String text) {
        MailWords x = of(text);
        int count = x.cut(false);
        return x.token(count - 1, 4);
    }

    private static void promise08AtMost30Characters() {
        sentence("at most 30 characters each");
        for (int length : new int[] {1, 29, 30, 31, 60, FULL}) {
            MailWords x = of(repeat("7", length));
            due("cut of a row of " + length, x.cut(false), 1);
            due("its length", x.token(0, 1), Math.min(30, length));
            due("its STEM's", x.token(0, 2), Math.min(30, length));
        }
        for (int length : new int[] {29, 30, 31}) {
            MailWords x = of("a@" + repeat("7", length - 2));
            due("cut of an ADDRESS of " + length, x.cut(false), 3);
            due("its length", x.token(1, 1), Math.min(30, length));
            due("its STEM's", x.token(1, 2), Math.min(30, length));
        }
    }

    private static void promise08OthersBehindAreLeftOut() {
        sentence("(others behind are left out)");
        cut(repeat("a", 30) + "b c", "0:" + repeat("a", 30) + " 1:c");
        cut(repeat("a", 31) + "-b c", "0:" + repeat("a", 30) + " 1:b 2:c");
        cut(repeat("a", 31) + "@b", "0:" + repeat("a", 30) + " 0:" + repeat("a", 30) + "* 1:b");
        cut(repeat("a", 29) + "@b", "0:" + repeat("a", 29) + " 0:" + repeat("a", 29) + "@* 1:b");
        stems(repeat("b", 27) + "atsing:" + repeat("b", 27) + "at");
        stems(repeat("b", 27) + "ingsed:" + repeat("b", 27) + "ing");
        MailWords x = of(repeat("a", 31) + "s b");
        x.cut(false);
        due("letter 29", x.letter(0, false, 29), (int) 'a');
        due("letter 30", x.letter(0, false, 30), NONE);
        due("where the next begins", x.token(1, 4), 33);
    }

    private static void promise08OneTokenForEachPiece() {
        sentence("Each row is one TOKEN for each piece between those signs");
        cut("a", "0:a");
        cut("a'b_c-d", "0:a 1:b 2:c 3:d");
        cut("ab-cd", "0:ab 1:cd");
    }

    private static void promise08Address() {
        sentence("if it has an @, or a . between LETTERS, the whole is an ADDRESS besides, at the place of its first piece");
        cut("1@2", "0:1 0:1@2* 1:2");
        cut("a@b", "0:a 0:a@b* 1:b");
        cut("a.b", "0:a 0:a.b* 1:b");
        cut("1.2", "0:1 1:2");
        cut("a.2", "0:a 1:2");
        cut("1.b", "0:1 1:b");
        cut("a1.b", "0:a1 1:b");
        cut("a.1b", "0:a 1:1b");
        cut("1a.b1", "0:1a 0:1a.b1* 1:b1");
        cut("\u00e9.\u0436", "0:\u00e9 0:\u00e9.\u0436* 1:\u0436");
        cut("1.2.a.b", "0:1 0:1.2.a.b* 1:2 2:a 3:b");
        cut("1-2@3", "0:1 0:1-2@3* 1:2 2:3");
        cut("a'b_c-d", "0:a 1:b 2:c 3:d");
        cut("x a.b@c y", "0:x 1:a 1:a.b@c* 2:b 3:c 4:y");
        cut("a. b @ c", "0:a 1:b 2:c");
    }

    private static void promise08RowsThatBeginBelow300() {
        sentence("a row that would begin when there are 300 or more is nothing");
        due("cut of 299 rows", of(repeat("a ", 299)).cut(false), 299);
        due("cut of 300 rows", of(repeat("a ", 300)).cut(false), 300);
        due("cut of 301 rows", of(repeat("a ", 301)).cut(false), 300);
        due("cut of 150 rows of two, and one", of(repeat("a-b ", 150) + "c").cut(false), 300);
        MailWords x = of(repeat("a ", 299) + "b-c-d e");
        due("a row of three that begins when there are 299", x.cut(false), 302);
        due("the last place", x.token(301, 0), 301);
        due("the last letter", x.letter(301, false, 0), (int) 'd');
        MailWords y = of(repeat("a ", 298) + "b-c d-e");
        due("a row that begins when there are 300", y.cut(false), 300);
    }

    private static void promise08AndAllBehind() {
        sentence("is nothing, and all behind");
        MailWords x = of(repeat("a ", 299) + "b-c d.e f@g\nh");
        due("cut(false)", x.cut(false), 301);
        due("behind the last", x.token(301, 0), NONE);
        due("different()", x.different(), 3);
        MailWords y = of(repeat("a ", 299) + "\n> q\nb-c\n\nd.e");
        due("cut(true)", y.cut(true), 301);
        due("the last place", y.token(300, 0), 300);
    }

    private static void promise08PlacesCountPieces() {
        sentence("Places count pieces, from 0 on");
        MailWords x = of(repeat("a@b ", 149) + "c d e@f g");
        due("cut: ADDRESSES do not count to 300", x.cut(false), 149 * 3 + 2);
        due("the first place", x.token(0, 0), 0);
        due("the first ADDRESS's place", x.token(1, 0), 0);
        due("the second piece's place", x.token(2, 0), 1);
        due("the last place", x.token(448, 0), 299);
        MailWords most = of(repeat("a.b ", 149) + repeat("c.", 452));
        due("as many TOKENS as there may be", most.cut(false), 900);
        due("the last place of all", most.token(899, 0), 749);
        due("behind it", most.token(900, 0), NONE);
    }

    private static void promise08PlainLinesOnly() {
        sentence("plain: only of lines that are not QUOTED, SIGNED or LED");
        cut("a\n> b\nc", true, "0:a 1:c");
        cut("> b", true, "");
        cut("a\n--\nb", true, "0:a");
        cut("a\n-- \nb\n> c\nd", true, "0:a 1:d");
        cut("a wrote:\n> b\nc", true, "0:c");
        cut("a wrote:\nb\n> c", true, "0:a 1:wrote 2:b");
        cut("a.\nb", true, "0:a 1:b");
        cut("", true, "");
        cut("\n\n", true, "");
        cut("a wrote:\n> b\n--\nc", false, "0:a 1:wrote 2:b 3:c");
        MailWords x = of("a\n> b");
        x.lines();
        x.clear();
        add(x, "> c\nd");
        due("the lines of the text as it is now", tokens(x, x.cut(true)), "0:d");
    }

    private static void promise08HowManyAddressesToo() {
        sentence("how many, ADDRESSES too");
        due("cut of nothing", new MailWords().cut(false), 0);
        due("cut of signs alone", of("... --- @").cut(false), 0);
        due("cut of a@b", of("a@b").cut(false), 3);
        MailWords x = of("a b c");
        x.cut(false);
        x.clear();
        due("cut anew", x.cut(false), 0);
        due("token(0, 0) then", x.token(0, 0), NONE);
    }

    // ---- Promise 9

    private static void promise09InOrder() {
        sentence("in order of where they begin (an ADDRESS behind its first piece)");
        MailWords x = of(" a-b.c d");
        due("cut", x.cut(false), 5);
        due("the TOKENS", tokens(x, 5), "0:a 0:a-b.c* 1:b 2:c 3:d");
        int[] begins = {1, 1, 3, 5, 7};
        for (int t = 0; t < 5; t++) {
            due("token(" + t + ", 4)", x.token(t, 4), begins[t]);
        }
        MailWords plain = of("> a\nb");
        plain.cut(true);
        due("where a TOKEN of a plain cut begins", plain.token(0, 4), 4);
        MailWords last = of(repeat(" ", 1499) + "a");
        last.cut(false);
        due("where the last begins", last.token(0, 4), 1499);
    }

    private static void promise09OneIfItIsAnAddress() {
        sentence("1 if it is an ADDRESS (3)");
        MailWords x = of("a@b");
        x.cut(false);
        due("token(0, 3)", x.token(0, 3), 0);
        due("token(1, 3)", x.token(1, 3), 1);
        due("token(2, 3)", x.token(2, 3), 0);
    }

    private static void promise09NoneForNoSuchToken() {
        sentence("NONE if there is none such, or for another what.", "none such");
        MailWords x = of("a b");
        x.cut(false);
        for (int token : new int[] {-1, 2, 3, 899, 900, 901, LEAST, MOST}) {
            for (int what = 0; what < 5; what++) {
                due("token(" + token + ", " + what + ")", x.token(token, what), NONE);
            }
        }
        due("token(0, 0) of an empty cut", emptyCut().token(0, 0), NONE);
    }

    private static MailWords emptyCut() {
        MailWords x = of("a");
        x.cut(false);
        x.clear();
        x.cut(false);
        return x;
    }

    private static void promise09NoneForAnotherWhat() {
        sentence("NONE if there is none such, or for another what.", "another what");
        MailWords x = of("a b");
        x.cut(false);
        for (int what : new int[] {-1, 5, 6, LEAST, MOST}) {
            due("token(0, " + what + ")", x.token(0, what), NONE);
            due("token(1, " + what + ")", x.token(1, what), NONE);
            due("token(2, " + what + ")", x.token(2, what), NONE);
        }
    }

    private static void promise09OfTheLatestCut() {
        sentence("Of a TOKEN", "of the latest cut, whatever TEXT is then");
        MailWords x = of("<p>cats");
        x.cut(false);
        x.page();
        x.clear();
        add(x, "zzzzzzzz");
        due("the TOKENS", tokens(x, 2), "0:p 1:cats");
        due("the STEM", word(x, 1, true), "cat");
        due("no third", x.token(2, 0), NONE);
    }

    // ---- Promise 10: SMALL

    private static void promise10MadeSmall() {
        sentence("Made SMALL: A .. Z, 192 .. 222 but 215, 913 .. 939 (not 930), 1040 .. 1071: 32 more");
        int[][] pairs = {{'A', 'a'}, {'Z', 'z'}, {192, 224}, {214, 246}, {216, 248}, {222, 254}, {223, 223}, {912, 912},
            {913, 945}, {929, 961}, {930, 930}, {931, 963}, {939, 971}, {940, 940}, {1040, 1072}, {1071, 1103}, {1072, 1072}};
        small(pairs);
    }

    private static void promise10MadeSmall80More() {
        sentence("1024 .. 1039: 80 more");
        small(new int[][] {{1023, 1023}, {1024, 1104}, {1039, 1119}});
    }

    private static void promise10MadeSmallIfEven() {
        sentence("256 .. 311, 330 .. 375, 1120 .. 1153, 1162 .. 1215: one more if it is even");
        small(new int[][] {{255, 255}, {256, 257}, {257, 257}, {304, 305}, {310, 311}, {311, 311}, {312, 312}, {329, 329},
            {330, 331}, {331, 331}, {374, 375}, {375, 375}, {1118, 1118}, {1119, 1119}, {1120, 1121}, {1121, 1121},
            {1152, 1153}, {1153, 1153}, {1162, 1163}, {1163, 1163}, {1214, 1215}, {1215, 1215}, {1216, 1216}});
    }

    private static void promise10MadeSmallIfOdd() {
        sentence("313 .. 328, 377 .. 382: one more if it is odd");
        small(new int[][] {{312, 312}, {313, 314}, {314, 314}, {327, 328}, {328, 328}, {329, 329}, {377, 378}, {378, 378},
            {381, 382}, {382, 382}, {383, 383}});
    }

    private static void promise10MadeSmallOneByOne() {
        sentence("376: 255; 902: 940; 904 .. 906: 37 more; 908: 972; 910, 911: 63 more");
        small(new int[][] {{376, 255}, {901, 901}, {902, 940}, {904, 941}, {905, 942}, {906, 943}, {907, 907}, {908, 972},
            {909, 909}, {910, 973}, {911, 974}, {912, 912}});
    }

    private static void small(int[][] pairs) {
        for (int[] pair : pairs) {
            MailWords x = of("" + (char) pair[0]);
            x.cut(false);
            due(pair[0] + " made SMALL", x.letter(0, false, 0), pair[1]);
            due(pair[0] + " made SMALL, of its STEM", x.letter(0, true, 0), pair[1]);
        }
    }

    private static void promise10OthersAsTheyAre() {
        sentence("others as they are");
        eachCharacter(true);
    }

    // ---- Promise 10: which TOKENS have a STEM

    private static void promise10StemOf3LettersOrMore() {
        sentence("of LETTERS a .. z alone, 3 or more, has a STEM");
        stems("s:s as:as gas:ga cats:cat CATS:cat");
        stems("cats1:cats1 1cats:1cats caf\u00e9s:caf\u00e9s \u0436as:\u0436as as1:as1 111:111");
    }

    private static void promise10OthersAreTheirOwnStem() {
        sentence("A TOKEN, no ADDRESS, of LETTERS a .. z alone, 3 or more, has a STEM, others are their own.");
        MailWords x = of("Cats@dogs cats_dogs");
        x.cut(false);
        String[] want = {"cat", "cats@dogs", "dog", "cat", "dog"};
        for (int t = 0; t < want.length; t++) {
            due("the STEM of TOKEN " + t, word(x, t, true), want[t]);
        }
        MailWords y = of(repeat("a", 27) + "ing.s");
        y.cut(false);
        due("an ADDRESS that is cut off to LETTERS", word(y, 1, true), repeat("a", 27) + "ing");
    }

    // ---- Promise 10: the steps of STEM

    private static void promise10YIsAVowelBehindWhatIsNone() {
        sentence("y is a vowel behind what is none; else it is none");
        stems("yed:yed ying:ying bying:by bayed:bai yyy:yyi byying:by ayying:ayi syzygy:syzygi");
    }

    private static void promise10Step1a() {
        sentence("1a sses: ss; ies: i; ss: ss; s: nothing");
        stems("sses:ss caresses:caress ies:i ponies:poni ass:ass sss:sss caress:caress cats:cat yes:ye uss:uss");
    }

    private static void promise10Step1bEed() {
        sentence("1b eed: ee if M > 0");
        stems("eed:eed feed:feed agreed:agre inbreed:inbre");
    }

    private static void promise10Step1bEdOrIng() {
        sentence("otherwise ed or ing, if a vowel is ahead: nothing");
        stems("red:red bled:bled aed:a ing:ing sing:sing aing:a plastered:plaster motoring:motor");
    }

    private static void promise10Step1bGetsAnE() {
        sentence("and then at, bl, iz get an e");
        stems("activated:activ adjustabled:adjust organized:organ triplicated:triplic");
        stems("activating:activ adjustabling:adjust organizing:organ");
    }

    private static void promise10Step1bTwoAlike() {
        sentence("two alike at the end, the last of which is no vowel, but l, s, z, become one");
        stems("hopping:hop tanned:tan egged:eg adding:ad trekked:trek falling:fall hissing:hiss fizzed:fizz");
        stems("seeing:see shooed:shoo byying:by");
    }

    private static void promise10Step1bM1AndCvc() {
        sentence("M 1 and CVC: an e.");
        stems("filing:file hoping:hope failing:fail motoring:motor boxing:box snowing:snow playing:plai aping:ap");
        stems("gripping:grip priced:price wanting:want");
    }

    private static void promise10Step1c() {
        sentence("1c y: i, if a vowel is ahead");
        stems("sky:sky happy:happi dry:dry any:ani toy:toi yyy:yyi bby:bby");
    }

    private static void promise10Step2() {
        sentence("2, if M > 0");
        // Words whose stem is another one if an ending is left out, or its M is one more or less; in
        // most, M is 0 or 1 ahead of each ending.
        stems("relational:relat brational:bration conditional:condit tional:tional valenci:valenc benci:benci");
        stems("hesitanci:hesit banci:banci digitizer:digit bizer:bizer conformabli:conform babli:babli radicalli:radic");
        stems("balli:balli differentli:differ bentli:bentli vileli:vile beli:beli analogousli:analog bousli:bousli");
        stems("vietnamization:vietnam bization:bizat predication:predic bation:bation operator:oper bator:bator");
        stems("feudalism:feudal balism:balism decisiveness:decis biveness:bive hopefulness:hope bfulness:bful");
        stems("callousness:callous bousness:bous formaliti:formal baliti:baliti sensitiviti:sensit biviti:biviti");
        stems("sensibiliti:sensibl biliti:biliti educational:educ abational:abat ational:ation emotional:emot");
        stems("btional:btional agency:agenc aenci:aenci alanci:alanc fancy:fanci atomizer:atom sizer:sizer alabli:alabl");
        stems("ably:abli orally:oral ally:alli alentli:alent gently:gentli aleli:al eli:eli alousli:alous aousli:aousli");
        stems("itemization:item alization:aliz aization:aizat adoration:ador ation:ation orator:orat aator:aator");
        stems("ahopalism:ahop alism:alism eyativeness:ey awfulness:aw amorality:amor aliti:aliti aboxiviti:abox");
        stems("aiviti:aiviti albiliti:albl ability:abil");
    }

    private static void promise10Step3() {
        sentence("3, if M > 0");
        // Words whose stem is another one if an ending is left out, or its M is one more or less; in
        // most, M is 0 or 1 ahead of each ending.
        stems("triplicate:triplic bicate:bicat electriciti:electr biciti:biciti electrical:electr bical:bical");
        stems("formative:form bative:bativ hopeful:hope byful:byful goodness:good byness:byness formalize:formal");
        stems("balize:baliz eradicate:erad aicate:aicat aboxiciti:abox aiciti:aiciti atypical:atyp aical:aical");
        stems("alative:al ative:ativ awful:aw aful:aful alness:al aness:aness aboxalize:abox alize:aliz");
    }

    private static void promise10Step4() {
        sentence("4, if M > 1");
        // Words whose stem is another one if an ending is left out, or its M is one more or less; in
        // most, M is 1 or 2 ahead of each ending.
        stems("revival:reviv rival:rival allowance:allow balance:balanc inference:infer pretence:pretenc");
        stems("airliner:airlin liner:liner gyroscopic:gyroscop topic:topic adjustable:adjust capable:capabl");
        stems("defensible:defens visible:visibl irritant:irrit pleasant:pleasant replacement:replac agreement:agreement");
        stems("adjustment:adjust garment:garment argument:argument dependent:depend parent:parent adoption:adopt");
        stems("motion:motion homologou:homolog bayou:bayou communism:commun purism:purism activate:activ climate:climat");
        stems("angulariti:angular caviti:caviti analogousli:analog nervousli:nervous effective:effect native:nativ");
        stems("bowdlerize:bowdler baptize:baptiz amoral:amor abeyance:abey alance:alanc eminence:emin alence:alenc");
        stems("abuser:abus aver:aver acetic:acet epic:epic adorable:ador arable:arabl eligible:elig edible:edibl");
        stems("adamant:adam alant:alant opereement:oper abasement:abas element:element aliment:aliment abutment:abut");
        stems("alment:alment eminent:emin agent:agent edition:edit asion:asion atalou:atal alou:alou animism:anim");
        stems("agism:agism acetate:acet abate:abat ability:abil amity:amiti arelousli:arel alousli:alous abusive:abus");
        stems("alive:aliv agonize:agon abize:abiz");
    }

    private static void promise10Step4Ion() {
        sentence("ion (behind s or t)");
        stems("adoption:adopt extension:extens champion:champion oblivion:oblivion option:option ion:ion tion:tion");
    }

    private static void promise10Step5a() {
        sentence("5a e: nothing if M > 1, or M 1 and not CVC ahead");
        stems("probate:probat cease:ceas rate:rate the:the tree:tree axe:ax ape:ap boxe:box snowe:snow bowdlere:bowdler");
    }

    private static void promise10Step5b() {
        sentence("5b ll: l if M > 1 (of what is ahead of the last l)");
        stems("controll:control roll:roll all:all install:instal enroll:enrol skill:skill");
    }

    private static void promise10Cvc() {
        sentence("CVC: what is ahead ends with none, vowel, none that is not w, x, y");
        stems("hoping:hope howing:how hoxing:hox hoying:hoi aping:ap hooping:hoop hopping:hop hoaing:hoa hobted:hobt");
    }

    private static void promise10TheLongestEndingCounts() {
        sentence("In each step the longest ending that it has counts, if it fits or not.");
        stems("feed:feed ational:ation rational:ration element:element cement:cement agreement:agreement ss:ss");
    }

    // ---- Promise 10: letter

    private static void promise10LetterOfATokenOrItsStem() {
        sentence("Character k of a TOKEN (made SMALL), or of its STEM; NONE.");
        MailWords x = of("HOPING a@B");
        x.cut(false);
        due("the TOKEN", word(x, 0, false), "hoping");
        due("its STEM", word(x, 0, true), "hope");
        for (int k : new int[] {6, 7, 30, 1500, -1, LEAST, MOST}) {
            due("letter(0, false, " + k + ")", x.letter(0, false, k), NONE);
        }
        for (int k : new int[] {4, 5, 6, 30, 1500, -1, LEAST, MOST}) {
            due("letter(0, true, " + k + ")", x.letter(0, true, k), NONE);
        }
        due("the last letter of the ADDRESS", x.letter(2, false, 2), (int) 'b');
        due("behind it", x.letter(2, false, 3), NONE);
        due("behind its STEM", x.letter(2, true, 3), NONE);
        due("ahead of a TOKEN that does not begin at 0", x.letter(3, false, -1), NONE);
        due("ahead of its STEM", x.letter(3, true, -1), NONE);
        for (int token : new int[] {-1, 4, 900, LEAST, MOST}) {
            due("letter(" + token + ", false, 0)", x.letter(token, false, 0), NONE);
            due("letter(" + token + ", true, 0)", x.letter(token, true, 0), NONE);
        }
        MailWords last = of(repeat(" ", 1499) + "a");
        last.cut(false);
        due("the last character of a full TEXT", last.letter(0, false, 0), (int) 'a');
        due("behind it", last.letter(0, false, 1), NONE);
    }

    // ---- Promise 11

    private static void promise11DifferentStems() {
        sentence("How many different STEMS the TOKENS have");
        due("different() of a new object", new MailWords().different(), 0);
        due("different() of an empty cut", emptyCut().different(), 0);
        different("a", 1);
        different("a a A", 1);
        different("cat cats Cats", 1);
        different("cats cats1 cat1", 3);
        different("as a s", 3);
        different(repeat("a", 30) + "b " + repeat("a", 30) + "c " + repeat("a", 29), 2);
        String many = unlike(310);
        different(many, 300);
        String half = many.substring(0, many.indexOf("u5 "));
        different(half + half, 150);
    }

    /** So many rows of which no two are alike. */
    private static String unlike(int rows) {
        StringBuilder s = new StringBuilder();
        for (int k = 0; k < rows; k++) {
            s.append((char) ('a' + k % 26)).append(k / 26).append(' ');
        }
        return s.toString();
    }

    private static void different(String text, int want) {
        MailWords x = of(text);
        x.cut(false);
        due("different() of " + text, x.different(), want);
    }

    private static void promise11NoAddresses() {
        sentence("that are no ADDRESSES");
        different("a@b", 2);
        different("a@a a@a", 1);
        different("a@b a.b a@b.a", 2);
    }

    private static void promise11OfTheLatestCut() {
        sentence("How many different STEMS the TOKENS have", "those of the latest cut");
        MailWords x = of("a b\n> c");
        x.cut(false);
        due("different()", x.different(), 3);
        x.clear();
        due("different() behind clear()", x.different(), 3);
        add(x, "a\n> b");
        x.cut(true);
        due("different() of a plain cut", x.different(), 1);
        MailWords y = of(unlike(300));
        for (int times = 1; times <= 3; times++) {
            y.cut(false);
            due("different() of cut " + times, y.different(), 300);
        }
    }

    // ---- Promise 12

    private static void promise12HowMany() {
        sentence("How many TOKENS, no ADDRESSES, have the STEM of TOKEN k");
        often("a", 1);
        often("cat Cats cat's dog", 3, 3, 3, 1, 1);
        often("as a s", 1, 1, 1);
        MailWords x = of(repeat("a ", 301));
        x.cut(false);
        due("often(0) of 300", x.often(0), 300);
        due("often(299) of 300", x.often(299), 300);
    }

    private static void often(String text, int... want) {
        MailWords x = of(text);
        x.cut(false);
        for (int t = 0; t < want.length; t++) {
            due("often(" + t + ") of " + text, x.often(t), want[t]);
        }
    }

    private static void promise12NoAddresses() {
        sentence("How many TOKENS, no ADDRESSES");
        often("a@b a@b", 2, 0, 2, 2, 0, 2);
        String piece = repeat("7", 30);
        often(piece + "@x " + piece + "@y", 2, 2, 1, 2, 2, 1);
    }

    private static void promise12NoSuchToken() {
        sentence("0 for none such");
        MailWords x = of("a a");
        x.cut(false);
        for (int token : new int[] {-1, 2, 3, 899, 900, LEAST, MOST}) {
            due("often(" + token + ")", x.often(token), 0);
        }
        due("often(0) of a new object", new MailWords().often(0), 0);
        due("often(0) of an empty cut", emptyCut().often(0), 0);
    }

    // ---- runs every method whose name begins with promise

    private static void run(Method method, Set<String> sentences) throws IllegalAccessException {
        int before = asked;
        sentence = "";
        test = method.getName();
        try {
            method.invoke(null);
        } catch (InvocationTargetException e) {
            wrong++;
            System.out.println(test + ", " + sentence + ": a call threw " + e.getCause());
        }
        if (asked == before || sentence.isEmpty() || !sentences.add(test.substring(0, PROMISE_AND_NUMBER) + sentence)) {
            wrong++;
            System.out.println(test + " asks nothing, or is for no sentence of its own");
        }
    }

    public static void main(String[] args) throws Exception {
        TreeMap<String, Method> tests = new TreeMap<>();
        for (Method method : MailWordsBoundaries.class.getDeclaredMethods()) {
            if (method.getName().startsWith("promise") && Modifier.isStatic(method.getModifiers())) {
                tests.put(method.getName(), method);
            }
        }
        Set<String> sentences = new TreeSet<>();
        for (Method method : tests.values()) {
            run(method, sentences);
        }
        System.out.println(sentences.size() + " sentences, " + asked + " answers asked for, " + wrong + " not as due");
        if (wrong != 0 || sentences.isEmpty()) {
            System.exit(1);
        }
    }
}
